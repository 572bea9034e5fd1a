/-! the class reads its tape as a law -/
theorem x_cpD {σ : pm_S} (hB : an_GB pm_B σ) : Sp 22 4 [.ref 31, .ref 69] σ (fun r τ => r = none ∧ an_GB pm_B τ ∧ FQ [(31, 0), (31, 1), (32, 9999)] σ τ ∧ CPR [(69, 31, 2), (70, 32, 400)] σ τ) := by
  have F0 : FQ [(31, 0), (31, 1)] σ (put (put σ 31 0 (σ.1 69 0)) 31 1 ((put σ 31 0 (σ.1 69 0)).1 69 1)) := FQ.tr (fq_put1 rfl) (fq_put1 rfl)
  have C0 : CPR [(69, 31, 2)] σ (put (put σ 31 0 (σ.1 69 0)) 31 1 ((put σ 31 0 (σ.1 69 0)).1 69 1)) := fun t ht j hj => by
    rw [List.mem_singleton.mp ht] at hj ⊢
    match j, hj with
    | 0, _ => rfl
    | 1, _ => rfl
    | j + 2, hj => exact absurd hj (by show ¬ (j + 2 < 2); omega)
  have row : ∀ {σ : pm_S}, Sp 157 2 [.ref 70, .ref 32] σ (fun r τ => r = none ∧ FQ [(32, 9999)] σ τ ∧ CPR [(70, 32, 400)] σ τ) := by
    intro σ
    refine S_PaidWhereMade_copyRow [] 400 rfl (fun R cl Z hR hcl hZ => ?_)
    conv => whnf
    exact ⟨fun _ => hZ _ (cpy σ 70 32 400) ⟨rfl, cpy_F, cpy_C⟩, fun z => absurd (by decide) z⟩
  refine S_Law_copyFrom [] 400 rfl (fun R cl Z hR hcl hZ => ?_)
  conv => whnf
  refine hcl _ _ _ _ ((row).use (by decide) (fun r1 τ1 q1 => ?_))
  obtain ⟨rfl, f1, c1⟩ := q1
  have F1 : FQ [(31, 0), (31, 1), (32, 9999)] σ τ1 := FQ.tr (FQ.up (G := [(31, 0), (31, 1)]) rfl F0) (FQ.up (G := [(32, 9999)]) rfl f1)
  have C1 : CPR [(69, 31, 2), (70, 32, 400)] σ τ1 := CPR.app (CPR.post (G := [(32, 9999)]) rfl f1 C0) (CPR.pre (G := [(31, 0), (31, 1)]) rfl F0 c1)
  conv => whnf
  exact hZ _ _ ⟨rfl, GB_cp rfl hB F1 C1, F1, C1⟩
abbrev FSp : List (Nat × Nat) := [(67, 7), (72, 9999), (73, 9999)]
/-- j tokens ahead of p -/
abbrev sp_I (tp : Nat → Int) (n : Nat) (τ : pm_S) (j p : Nat) : Prop := j ≤ p ∧ p ≤ n ∧ sI τ 67 7 = (j : Int) ∧ ts_P tp n j = ts_e tp n ts_W p ∧ ∀ i, i < j → sI τ 72 i = ts_T tp n i ∧ sI τ 73 i = (ts_P tp n i : Int) ∧ ts_P tp n i < n
section SPL
variable {tp : Nat → Int} {n : Nat}
theorem sp_I.fq {τ τ2 : pm_S} {j p : Nat} (h : sp_I tp n τ j p) (F : FQ [] τ τ2) : sp_I tp n τ2 j p :=
  ⟨h.1, h.2.1, (congrArg Int32.toInt (F 67 7 rfl)).trans h.2.2.1, h.2.2.2.1, fun i hi => ⟨(congrArg Int32.toInt (F 72 i rfl)).trans (h.2.2.2.2 i hi).1, (congrArg Int32.toInt (F 73 i rfl)).trans (h.2.2.2.2 i hi).2.1, (h.2.2.2.2 i hi).2.2⟩⟩
theorem sp_bl {τ : pm_S} {j p : Nat} (h : sp_I tp n τ j p) (hp : p < n) (hw : ts_W (ts_b tp n p) = true) : sp_I tp n τ j (p + 1) := by
  obtain ⟨a, b, c, d, e⟩ := h
  rw [ts_e_y rfl hw] at d
  exact ⟨by omega, by omega, c, d, e⟩
theorem sp_nx {τ τ2 : pm_S} {j p p2 : Nat} (h : sp_I tp n τ j p) (hp : p < n) (hw : ¬ ts_W (ts_b tp n p) = true) (e2 : p2 = ts_n tp n p) (m : sI τ2 67 7 = (j : Int) + 1) (w : sI τ2 72 j = ts_t tp n p ∧ sI τ2 73 j = (p : Int)) (o : ∀ i, i ≠ j → sI τ2 72 i = sI τ 72 i ∧ sI τ2 73 i = sI τ 73 i) : sp_I tp n τ2 (j + 1) p2 := by
  obtain ⟨a, b, c, d, e⟩ := h
  rw [ts_e_n rfl hw] at d
  have q := ts_n_le (tp := tp) b
  have q2 := q.2 hp
  rw [e2]
  refine ⟨by omega, q.1, by omega, ?_, fun i hi => ?_⟩
  · show ts_e tp n ts_W (ts_n tp n (ts_P tp n j)) = _
    rw [d]
  · by_cases x : i = j
    · rw [x]
      refine ⟨?_, ?_, by omega⟩
      · rw [w.1]
        show _ = ts_t tp n (ts_P tp n j)
        rw [d]
      · rw [w.2, d]
    · rw [(o i x).1, (o i x).2]
      exact e i (by omega)
set_option maxRecDepth 20000 in
theorem x_sll {Q : Option Value → pm_S → Prop} : ∀ (k p m j : Nat) (τ : pm_S) (v3 v4 : Value), n - p < k → m ≤ p → v3.category = 1 → v4.category = 1 → an_GB pm_B τ → pt_B tp n τ → sp_I tp n τ j p → (∀ (τ' : pm_S) (L : Nat), an_GB pm_B τ' → FQ FSp τ τ' → pc_B (ts_T tp n) (ts_P tp n) L τ' → ts_P tp n L = n → (∀ i, i < L → ts_P tp n i < n) → Q none τ') → Ok 38 13 7 [.ref 67, .int (Int32.ofInt (p : Int)), .int (Int32.ofInt (m : Int)), v3, v4] [] τ Q := by
  intro k
  induction k with
  | zero => intro p m j τ v3 v4 hk; exact absurd hk (Nat.not_lt_zero _)
  | succ k ih =>
    intro p m j τ v3 v4 hk hm k3 k4 hB hb hI hQ
    have hn := hb.1
    have hjp := hI.1
    have hpn := hI.2.1
    have fin : ∀ (τ1 : pm_S) (u3 u4 : Value), u3.category = 1 → u4.category = 1 → an_GB pm_B τ1 → FQ [] τ τ1 → p = n → Ok 38 13 64 [.ref 67, .int (Int32.ofInt (p : Int)), .int (Int32.ofInt (m : Int)), u3, u4] [] τ1 Q := by
      intro τ1 u3 u4 c3 c4 hB1 F1 e
      have I1 := hI.fq F1
      refine pz_t64 n _ _ _ _ rfl rfl c3 c4 hB1 ⟨by omega, trivial⟩ ⟨(congrArg Int32.toInt (F1 67 2 rfl)).trans hb.2.1, trivial⟩ ?_
      intro τ2 y2 w1 w2 w3 w4 d1 d2 d3 d4 hB2 F2 _ _ _ _
      have I2 := I1.fq F2
      have eP : ts_P tp n j = n := by
        have q := ts_e_le (tp := tp) (f := ts_W) hpn
        rw [I2.2.2.2.1]
        omega
      refine Ok.cv rfl rfl rfl rfl rfl rfl rfl ?_
      refine (x_atk (-26) n j (by decide) hn (by omega) hB2 I2.2.2.1).use (by decide) (fun r τ3 q => ?_)
      obtain ⟨rfl, hB3, F3, m3, a3, o3⟩ := q
      refine pz_t69 w1 w2 w3 w4 d1 d2 d3 d4 hB3 ?_
      intro τ4 y4 hB4 F4 _ _ _ _
      have G4 : FQ FSp τ τ4 := FQ.tr (FQ.up (G := []) rfl (FQ.tr F1 F2)) (FQ.tr F3 (FQ.up (G := []) rfl F4))
      refine hQ τ4 j hB4 G4 ⟨by omega, (congrArg Int32.toInt (F4 67 7 rfl)).trans m3, fun i hi => ?_⟩ eP (fun i hi => (I2.2.2.2.2 i hi).2.2)
      have f72 : sI τ4 72 i = sI τ3 72 i := congrArg Int32.toInt (F4 72 i rfl)
      have f73 : sI τ4 73 i = sI τ3 73 i := congrArg Int32.toInt (F4 73 i rfl)
      rw [f72, f73]
      by_cases x : i = j
      · rw [x, a3.1, a3.2, (ts_T_end j).mpr eP, eP]
        exact ⟨rfl, rfl⟩
      · rw [(o3 i x).1, (o3 i x).2]
        have q := I2.2.2.2.2 i (by omega)
        exact ⟨q.1, q.2.1⟩
    refine pz_t7 p m n v3 v4 k3 k4 hB ⟨by omega, by omega, by omega, trivial⟩ ⟨hb.2.1, trivial⟩ ?_ ?_
    · intro τ1 y1 u3 u4 c3 c4 hB1 F1 g _ _ _
      have g2 := g.2.1
      exact fin τ1 u3 u4 c3 c4 hB1 F1 (by omega)
    · intro τ1 y1 u3 u4 c3 c4 hB1 F1 g _ _ _
      refine Ok.ic rfl rfl (by omega) (by omega) (by omega) (by omega) (fun z => ?_) (fun z => ?_)
      · have z : (n : Int) ≤ (p : Int) := z
        exact fin τ1 u3 u4 c3 c4 hB1 F1 (by omega)
      · have z : (p : Int) < (n : Int) := z
        have pn : p < n := by omega
        refine pz_t14 p m u3 u4 c3 c4 hB1 ⟨by omega, by omega, trivial⟩ ?_
        intro τ2 y2 w3 w4 d3 d4 hB2 F2 _ _ _ _
        have G2 := FQ.tr F1 F2
        have hb2 : pt_B tp n τ2 := hb.fq (G := []) rfl G2
        refine Ok.cv rfl rfl rfl rfl rfl rfl rfl ?_
        refine (x_byt p hB2 hb2 (by omega)).use (by decide) (fun r τ3 q => ?_)
        obtain ⟨rfl, hB3, F3⟩ := q
        have G3 := FQ.tr G2 F3
        have eb : ts_b tp n p = tp p := if_pos pn
        have tr := hb.2.2.2 p pn
        have tt := ts_t_r (tp := tp) hpn
        rw [eb]
        -- a blank
        have blank : ∀ τ4 : pm_S, an_GB pm_B τ4 → FQ [] τ3 τ4 → (tp p = 32 ∨ tp p = 10) → Ok 38 13 7 [.ref 67, .int (Int32.ofInt ((p : Int) + 1)), .int (Int32.ofInt ((m : Int) + 1)), .int (Int32.ofInt (tp p)), .int (Int32.ofInt ((p : Int) + 1))] [] τ4 Q := by
          intro τ4 hB4 F4 c
          have G4 := FQ.tr G3 F4
          exact ih (p + 1) (m + 1) j τ4 _ _ (by omega) (by omega) rfl rfl hB4 (hb.fq (G := []) rfl G4) (sp_bl (hI.fq G4) pn (by rw [eb, ts_W_i]; exact c)) (fun τ' L hB' F' h1 h2 h3 => hQ τ' L hB' (FQ.tr (FQ.up (G := []) rfl G4) F') h1 h2 h3)
        -- a token is noted
        have noted : ∀ (τ4 τ5 τ6 : pm_S) (p2 : Nat) (u : Value), u.category = 1 → FQ [] τ τ4 → (sI τ5 67 7 = (j : Int) + 1 ∧ (sI τ5 72 j = ts_t tp n p ∧ sI τ5 73 j = (p : Int)) ∧ ∀ i, i ≠ j → sI τ5 72 i = sI τ4 72 i ∧ sI τ5 73 i = sI τ4 73 i) → FQ FSp τ4 τ5 → FQ [] τ5 τ6 → an_GB pm_B τ6 → ¬ (tp p = 32 ∨ tp p = 10) → p2 = ts_n tp n p → Ok 38 13 7 [.ref 67, .int (Int32.ofInt (p2 : Int)), .int (Int32.ofInt ((m : Int) + 1)), .int (Int32.ofInt (tp p)), u] [] τ6 Q := by
          intro τ4 τ5 τ6 p2 u hu G4 a5 F5 F6 hB6 c e2
          have q := ts_n_le (tp := tp) hpn
          have q2 := q.2 pn
          have G6 : FQ FSp τ τ6 := FQ.tr (FQ.up (G := []) rfl G4) (FQ.tr F5 (FQ.up (G := []) rfl F6))
          exact ih p2 (m + 1) (j + 1) τ6 _ _ (by omega) (by omega) rfl hu hB6 (hb.fq (G := FSp) rfl G6) ((sp_nx (hI.fq G4) pn (by rw [eb, ts_W_i]; exact c) e2 a5.1 a5.2.1 a5.2.2).fq F6) (fun τ' L hB' F' h1 h2 h3 => hQ τ' L hB' (FQ.tr G6 F') h1 h2 h3)
        have letters : ∀ τ4 : pm_S, an_GB pm_B τ4 → FQ [] τ3 τ4 → ((97 ≤ tp p ∧ tp p ≤ 122) ∨ (65 ≤ tp p ∧ tp p ≤ 90)) → Ok 38 13 27 [.ref 67, .int (Int32.ofInt (p : Int)), .int (Int32.ofInt (m : Int)), .int (Int32.ofInt (tp p)), .int (Int32.ofInt ((p : Int) + 1))] [.int (Int32.ofInt (p : Int)), .ref 67] τ4 Q := by
          intro τ4 hB4 F4 c
          have G4 := FQ.tr G3 F4
          have cl : ts_L (tp p) = true := by rw [ts_L_i]; exact c
          have le := ts_e_le (tp := tp) (f := ts_L) hpn
          have en : ts_e tp n ts_L p = ts_n tp n p := by
            unfold ts_n
            rw [if_pos pn, if_pos cl]
          have et : ts_t tp n p = wTok (ts_w tp p (ts_e tp n ts_L p)) := by
            unfold ts_t
            rw [if_pos pn, if_pos cl]
          have hl : ∀ i, p ≤ i → i < ts_e tp n ts_L p → tp i ≠ 32 := fun i h1 h2 => by
            have h := ts_e_in (tp := tp) (n := n) h1 h2
            have ei : ts_b tp n i = tp i := if_pos (by omega)
            rw [ei, ts_L_i] at h
            omega
          refine Ok.cv rfl rfl rfl rfl rfl rfl rfl ?_
          refine (x_bl p hB4 (hb.fq (G := []) rfl G4) hpn).use (by decide) (fun r τ5 q => ?_)
          obtain ⟨rfl, hB5, F5⟩ := q
          refine pz_t28 p m (tp p) (ts_e tp n ts_L p : Nat) _ rfl hB5 ⟨by omega, by omega, tr, by omega, trivial⟩ ?_
          intro τ6 y6 hB6 F6 _ _ _ _
          have G6 := FQ.tr G4 (FQ.tr F5 F6)
          refine Ok.cv rfl rfl rfl rfl rfl rfl rfl ?_
          refine (x_wtk p (ts_e tp n ts_L p) le.1 le.2 hl hB6 (hb.fq (G := []) rfl G6)).use (by decide) (fun r τ7 q => ?_)
          obtain ⟨rfl, hB7, F7⟩ := q
          rw [← et]
          refine pz_t34 p m (tp p) (ts_e tp n ts_L p : Nat) (ts_t tp n p) hB7 ⟨by omega, by omega, tr, by omega, ⟨tt.1, tt.2.1⟩, trivial⟩ ?_
          intro τ8 y8 hB8 F8 _ _ _ _
          have G8 := FQ.tr G6 (FQ.tr F7 F8)
          refine Ok.cv rfl rfl rfl rfl rfl rfl rfl ?_
          refine (x_atk (ts_t tp n p) p j ⟨tt.1, tt.2.1⟩ (by omega) (by omega) hB8 (hI.fq G8).2.2.1).use (by decide) (fun r τ9 q => ?_)
          obtain ⟨rfl, hB9, F9, a9⟩ := q
          refine pz_t36 p m (tp p) (ts_e tp n ts_L p : Nat) hB9 ⟨by omega, by omega, tr, by omega, trivial⟩ ?_
          intro τ10 y10 hB10 F10 _ _ _ _
          exact noted τ8 τ9 τ10 (ts_e tp n ts_L p) _ rfl G8 a9 F9 F10 hB10 (by omega) en
        have digits : ∀ τ4 : pm_S, an_GB pm_B τ4 → FQ [] τ3 τ4 → (48 ≤ tp p ∧ tp p ≤ 57) → Ok 38 13 42 [.ref 67, .int (Int32.ofInt (p : Int)), .int (Int32.ofInt (m : Int)), .int (Int32.ofInt (tp p)), .int (Int32.ofInt ((p : Int) + 1))] [.int (Int32.ofInt (p : Int)), .ref 67] τ4 Q := by
          intro τ4 hB4 F4 c
          have G4 := FQ.tr G3 F4
          have cn : ¬ ts_L (tp p) = true := by rw [ts_L_i]; omega
          have cd : ts_D (tp p) = true := by rw [ts_D_i]; exact c
          have le := ts_e_le (tp := tp) (f := ts_D) hpn
          have en : ts_e tp n ts_D p = ts_n tp n p := by
            unfold ts_n
            rw [if_pos pn, if_neg cn, if_pos cd]
          have et : ts_t tp n p = (if ts_e tp n ts_D p - p ≤ 4 then ts_v tp p (ts_e tp n ts_D p - p) else -27) := by
            unfold ts_t
            rw [if_pos pn, if_neg cn, if_pos cd]
          have hl : ∀ i, p ≤ i → i < ts_e tp n ts_D p → 48 ≤ tp i ∧ tp i ≤ 57 := fun i h1 h2 => by
            have h := ts_e_in (tp := tp) (n := n) h1 h2
            have ei : ts_b tp n i = tp i := if_pos (by omega)
            rw [ei, ts_D_i] at h
            exact h
          refine Ok.cv rfl rfl rfl rfl rfl rfl rfl ?_
          refine (x_bd p hB4 (hb.fq (G := []) rfl G4) hpn).use (by decide) (fun r τ5 q => ?_)
          obtain ⟨rfl, hB5, F5⟩ := q
          refine pz_t43 p m (tp p) (ts_e tp n ts_D p : Nat) _ rfl hB5 ⟨by omega, by omega, tr, by omega, trivial⟩ ?_
          intro τ6 y6 hB6 F6 _ _ _ _
          have G6 := FQ.tr G4 (FQ.tr F5 F6)
          refine Ok.cv rfl rfl rfl rfl rfl rfl rfl ?_
          refine (x_ntk p (ts_e tp n ts_D p) le.1 le.2 hl hB6 (hb.fq (G := []) rfl G6)).use (by decide) (fun r τ7 q => ?_)
          obtain ⟨rfl, hB7, F7⟩ := q
          rw [← et]
          refine pz_t49 p m (tp p) (ts_e tp n ts_D p : Nat) (ts_t tp n p) hB7 ⟨by omega, by omega, tr, by omega, ⟨tt.1, tt.2.1⟩, trivial⟩ ?_
          intro τ8 y8 hB8 F8 _ _ _ _
          have G8 := FQ.tr G6 (FQ.tr F7 F8)
          refine Ok.cv rfl rfl rfl rfl rfl rfl rfl ?_
          refine (x_atk (ts_t tp n p) p j ⟨tt.1, tt.2.1⟩ (by omega) (by omega) hB8 (hI.fq G8).2.2.1).use (by decide) (fun r τ9 q => ?_)
          obtain ⟨rfl, hB9, F9, a9⟩ := q
          refine pz_t51 p m (tp p) (ts_e tp n ts_D p : Nat) hB9 ⟨by omega, by omega, tr, by omega, trivial⟩ ?_
          intro τ10 y10 hB10 F10 _ _ _ _
          exact noted τ8 τ9 τ10 (ts_e tp n ts_D p) _ rfl G8 a9 F9 F10 hB10 (by omega) en
        have signs : ∀ τ4 : pm_S, an_GB pm_B τ4 → FQ [] τ3 τ4 → ¬ ((97 ≤ tp p ∧ tp p ≤ 122) ∨ (65 ≤ tp p ∧ tp p ≤ 90)) → ¬ (48 ≤ tp p ∧ tp p ≤ 57) → ¬ (tp p = 32 ∨ tp p = 10) → Ok 38 13 57 [.ref 67, .int (Int32.ofInt (p : Int)), .int (Int32.ofInt (m : Int)), .int (Int32.ofInt (tp p)), .int (Int32.ofInt ((p : Int) + 1))] [.int (Int32.ofInt (tp p)), .ref 67] τ4 Q := by
          intro τ4 hB4 F4 c1 c2 c3
          have G4 := FQ.tr G3 F4
          have cn : ¬ ts_L (tp p) = true := by rw [ts_L_i]; exact c1
          have cd : ¬ ts_D (tp p) = true := by rw [ts_D_i]; exact c2
          have en : p + 1 = ts_n tp n p := by
            unfold ts_n
            rw [if_pos pn, if_neg cn, if_neg cd]
          have et : ts_t tp n p = ts_s (tp p) := by
            unfold ts_t
            rw [if_pos pn, if_neg cn, if_neg cd]
          refine Ok.cs rfl rfl rfl rfl rfl rfl ?_
          refine (x_stk (tp p) tr hB4).use (by decide) (fun r τ7 q => ?_)
          obtain ⟨rfl, hB7, F7⟩ := q
          rw [← et]
          refine pz_t58 p m (tp p) ((p : Int) + 1) (ts_t tp n p) hB7 ⟨by omega, by omega, tr, by omega, ⟨tt.1, tt.2.1⟩, trivial⟩ ?_
          intro τ8 y8 hB8 F8 _ _ _ _
          have G8 := FQ.tr G4 (FQ.tr F7 F8)
          refine Ok.cv rfl rfl rfl rfl rfl rfl rfl ?_
          refine (x_atk (ts_t tp n p) p j ⟨tt.1, tt.2.1⟩ (by omega) (by omega) hB8 (hI.fq G8).2.2.1).use (by decide) (fun r τ9 q => ?_)
          obtain ⟨rfl, hB9, F9, a9⟩ := q
          refine pz_t60 p m (tp p) ((p : Int) + 1) hB9 ⟨by omega, by omega, tr, by omega, trivial⟩ ?_
          intro τ10 y10 hB10 F10 _ _ _ _
          exact noted τ8 τ9 τ10 (p + 1) _ rfl G8 a9 F9 F10 hB10 c3 en
        refine pz_t17 p m (tp p) w3 w4 d3 d4 hB3 ⟨by omega, by omega, tr, trivial⟩ ?_ ?_ ?_ ?_ ?_ ?_ ?_ ?_ ?_
        · intro τ4 y4 hB4 F4 h _ _ _
          have h3 := h.2.2.1
          exact blank τ4 hB4 F4 (by omega)
        · intro τ4 y4 hB4 F4 h rl _ _
          have h3 := h.2.2.1
          have r1 := rl.1
          have r2 := rl.2.1
          exact signs τ4 hB4 F4 (by omega) (by omega) (by omega)
        · intro τ4 y4 hB4 F4 h _ _ _
          have h3 := h.2.2.1
          exact blank τ4 hB4 F4 (by omega)
        · intro τ4 y4 hB4 F4 h rl _ _
          have h3 := h.2.2.1
          exact signs τ4 hB4 F4 (by omega) (by omega) (by omega)
        · intro τ4 y4 hB4 F4 h _ _ _
          have h3 := h.2.2.1
          exact digits τ4 hB4 F4 (by omega)
        · intro τ4 y4 hB4 F4 h rl _ _
          have h3 := h.2.2.1
          exact signs τ4 hB4 F4 (by omega) (by omega) (by omega)
        · intro τ4 y4 hB4 F4 h _ _ _
          have h3 := h.2.2.1
          exact letters τ4 hB4 F4 (by omega)
        · intro τ4 y4 hB4 F4 h _ _ _
          have h3 := h.2.2.1
          exact letters τ4 hB4 F4 (by omega)
        · intro τ4 y4 hB4 F4 h rl _ _
          have h3 := h.2.2.1
          exact signs τ4 hB4 F4 (by omega) (by omega) (by omega)
theorem x_spl {σ : pm_S} (hB : an_GB pm_B σ) (hb : pt_B tp n σ) : Sp 38 13 [.ref 67] σ (fun r τ => r = none ∧ an_GB pm_B τ ∧ FQ FSp σ τ ∧ ∃ L, pc_B (ts_T tp n) (ts_P tp n) L τ ∧ ts_P tp n L = n ∧ ∀ i, i < L → ts_P tp n i < n) := by
  have hn := hb.1
  refine Sp.at rfl rfl ?_
  refine pz_t0 _ _ _ _ rfl rfl rfl rfl hB ?_
  intro τ y v3 v4 k3 k4 hB1 F1 _ _ _ c1
  refine x_sll (n + 1) 0 0 0 τ v3 v4 (by omega) (Nat.le_refl _) k3 k4 hB1 (hb.fq (G := [(67, 7)]) rfl F1) ⟨Nat.le_refl _, Nat.zero_le _, c1.1, rfl, fun i hi => absurd hi (Nat.not_lt_zero _)⟩ (fun τ' L hB' F' h1 h2 h3 => ⟨rfl, hB', FQ.tr (FQ.up (G := [(67, 7)]) rfl F1) F', L, h1, h2, h3⟩)
/-- the tokens end -/
theorem tk_end {L : Nat} (h : ts_P tp n L = n) (h2 : ∀ i, i < L → ts_P tp n i < n) : ∀ j, ts_T tp n j = -26 ↔ L ≤ j := fun j => by
  rw [ts_T_end]
  refine ⟨fun e => ?_, fun e => ?_⟩
  · rcases Nat.lt_or_ge j L with x | x
    · have := h2 j x
      omega
    · exact x
  · have m : ∀ d, ts_P tp n (L + d) = n := fun d => by
      induction d with
      | zero => exact h
      | succ d ih => exact ts_P_end ih
    have := m (j - L)
    rw [show L + (j - L) = j by omega] at this
    exact this
end SPL
section PSX
variable {T : Nat → Int} {L : Nat}
theorem psX_e {g m i : Nat} (e : T i = -26) : ps_X T (g + 1) m i = (0, m, []) := by
  show (if T i = -1 ∨ T i = -2 then _ else if T i = -26 then _ else _) = _
  rw [if_neg (by omega), if_pos e]
theorem psX_b {g m i : Nat} (e : ¬ T i = -26) (z : ¬ (ps_1 T m i).1 = 0) : (ps_X T (g + 1) m i).1 = (ps_1 T m i).1 ∧ (ps_X T (g + 1) m i).2.1 = (ps_1 T m i).2.1 := by
  unfold ps_1 at z ⊢
  unfold ps_X
  by_cases c : T i = -1 ∨ T i = -2
  · rw [if_pos c] at z ⊢
    rw [if_pos c]
    by_cases d : 16 ≤ m
    · rw [if_pos d, if_pos d]
      exact ⟨rfl, rfl⟩
    · rw [if_neg d] at z ⊢
      rw [if_neg d, if_neg z]
      exact ⟨rfl, rfl⟩
  · rw [if_neg c, if_neg c, if_neg e]
    exact ⟨rfl, rfl⟩
theorem psX_o {g m i : Nat} (z : (ps_1 T m i).1 = 0) : ps_X T (g + 1) m i = ((ps_X T g (m + 1) (ps_1 T m i).2.1).1, (ps_X T g (m + 1) (ps_1 T m i).2.1).2.1, (ps_1 T m i).2.2 :: (ps_X T g (m + 1) (ps_1 T m i).2.1).2.2) := by
  by_cases c : T i = -1 ∨ T i = -2
  · by_cases d : 16 ≤ m
    · exfalso
      unfold ps_1 at z
      rw [if_pos c, if_pos d] at z
      cases z
    · have e1 : ps_1 T m i = ps_L T i := by
        unfold ps_1
        rw [if_pos c, if_neg d]
      rw [e1] at z ⊢
      show (if T i = -1 ∨ T i = -2 then (if 16 ≤ m then _ else if (ps_L T i).1 = 0 then _ else _) else _) = _
      rw [if_pos c, if_neg d, if_pos z]
  · exfalso
    unfold ps_1 at z
    rw [if_neg c] at z
    cases z
end PSX
section RDI
variable {T : Nat → Int} {P : Nat → Nat} {L : Nat}
/-- what the reading of a law comes to: x with what was told before -/
abbrev pc_X (P : Nat → Nat) (τ : pm_S) (c : List Int) (x : Nat × Nat × List (List Int)) : Prop := (x.1 = 0 ∧ (sI τ 67 0 = 0 ∧ sI τ 67 1 = -1) ∧ x.2.1 ≤ 16 ∧ sI τ 69 0 = (x.2.1 : Int) ∧ sI τ 69 1 = ((c ++ x.2.2.flatten).length : Int) ∧ (c ++ x.2.2.flatten).length ≤ 400 ∧ ∀ j, j < (c ++ x.2.2.flatten).length → sI τ 70 j = (c ++ x.2.2.flatten).getD j 0) ∨ (x.1 ≠ 0 ∧ x.1 ≤ 3 ∧ pc_F P τ x.1 x.2.1)
theorem pc_X.fq {τ τ2 : pm_S} {c : List Int} {x : Nat × Nat × List (List Int)} (h : pc_X P τ c x) (F : FQ [] τ τ2) : pc_X P τ2 c x := by
  rcases h with ⟨a, b, c1, d, e, f, g⟩ | ⟨a, b, c1⟩
  · exact Or.inl ⟨a, ⟨(congrArg Int32.toInt (F 67 0 rfl)).trans b.1, (congrArg Int32.toInt (F 67 1 rfl)).trans b.2⟩, c1, (congrArg Int32.toInt (F 69 0 rfl)).trans d, (congrArg Int32.toInt (F 69 1 rfl)).trans e, f, fun j hj => (congrArg Int32.toInt (F 70 j rfl)).trans (g j hj)⟩
  · exact Or.inr ⟨a, b, c1.fq (G := []) rfl F⟩
set_option maxRecDepth 20000 in
theorem x_rdl {Q : Option Value → pm_S → Prop} (hT : ∀ j, T j = -26 ↔ L ≤ j) (hr : ∀ j, (-27) ≤ T j ∧ T j ≤ 9999) : ∀ (g m i : Nat) (c : List Int) (τ : pm_S), g + m = 17 → m ≤ 16 → i ≤ L → c.length ≤ i → an_GB pm_B τ → pc_B T P L τ → pc_D T τ i c → sI τ 69 0 = (m : Int) → (∀ (τ' : pm_S) (v2 : Value), v2.category = 1 → an_GB pm_B τ' → FQ FTl τ τ' → pc_X P τ' c (ps_X T g m i) → Ok 27 130 39 [.ref 67, .ref 31, v2] [] τ' Q) → Ok 27 130 25 [.ref 67, .ref 31, .int (Int32.ofInt (m : Int))] [] τ Q := by
  intro g
  induction g with
  | zero => intro m i c τ h h2; exfalso; omega
  | succ g ih =>
    intro m i c τ hg hm hi hc hB hb hD em hQ
    have hL := hb.1
    have hri := hr i
    refine pz_r25 m 0 (T i) hB ⟨by omega, by decide, by omega, trivial⟩ ⟨hD.1, hD.2.2.1, trivial⟩ ?_ ?_ ?_ ?_
    · intro τ1 y1 hB1 F1 f _ _ _
      have f1 := f.1
      exfalso
      omega
    · intro τ1 y1 hB1 F1 f _ _ _
      have f2 := f.2.1
      exfalso
      omega
    · intro τ1 y1 hB1 F1 f _ _ _
      have f3 := f.2.2.1
      refine hQ τ1 _ rfl hB1 (FQ.up (G := []) rfl F1) ?_
      rw [psX_e (by omega)]
      have D1 := hD.fq (G := []) rfl F1
      refine Or.inl ⟨rfl, ⟨D1.1, D1.2.2.2.1.2⟩, hm, (congrArg Int32.toInt (F1 69 0 rfl)).trans em, ?_⟩
      show sI τ1 69 1 = ((c ++ []).length : Int) ∧ (c ++ []).length ≤ 400 ∧ ∀ j, j < (c ++ []).length → sI τ1 70 j = (c ++ []).getD j 0
      rw [List.append_nil]
      exact ⟨D1.2.2.2.1.1, by omega, D1.2.2.2.2⟩
    · intro τ1 y1 hB1 F1 f rl _ _
      have ne : ¬ T i = -26 := rl.1
      have iL : i < L := pl_lt hT ne
      have ok := ps1_ok (m := m) hT hL iL
      refine Ok.cv rfl rfl rfl rfl rfl rfl rfl ?_
      refine (x_pln (m := m) (i := i) (c := c) hT hr iL hc hm hB1 (hb.fq (G := []) rfl F1) (hD.fq (G := []) rfl F1) ((congrArg Int32.toInt (F1 69 0 rfl)).trans em)).use (by decide) (fun r τ2 q => ?_)
      obtain ⟨rfl, hB2, F2, q⟩ := q
      have G2 : FQ FTl τ τ2 := FQ.tr (FQ.up (G := []) rfl F1) F2
      refine pz_r37 m hB2 ⟨by omega, trivial⟩ ?_
      intro τ3 y3 hB3 F3 _ _ _ _
      have G3 : FQ FTl τ τ3 := FQ.tr G2 (FQ.up (G := []) rfl F3)
      rcases q with ⟨z, D2, m2⟩ | ⟨z, D2⟩
      · have ok2 := ok.2.2 z
        have l1 : (c ++ (ps_1 T m i).2.2).length = c.length + (ps_1 T m i).2.2.length := List.length_append
        refine ih (m + 1) (ps_1 T m i).2.1 (c ++ (ps_1 T m i).2.2) τ3 (by omega) (by omega) ok.2.1 (by omega) hB3 (hb.fq (G := FTl) rfl G3) (D2.fq (G := []) rfl F3) ?_ (fun τ' v2 k2 hB' F' hX => hQ τ' v2 k2 hB' (FQ.tr G3 F') ?_)
        · have e := (congrArg Int32.toInt (F3 69 0 rfl)).trans m2
          rw [show ((m + 1 : Nat) : Int) = (m : Int) + 1 by omega]
          exact e
        · rw [psX_o z]
          rcases hX with ⟨x1, x2, x3, x4, x5⟩ | hX
          · rw [List.append_assoc] at x5
            exact Or.inl ⟨x1, x2, x3, x4, x5⟩
          · exact Or.inr hX
      · have D3 := D2.fq (G := []) rfl F3
        have tb : (-2147483648) ≤ sI τ3 67 9 ∧ sI τ3 67 9 ≤ 2147483647 := ai_rng _
        have X : ∀ τ' : pm_S, FQ [] τ3 τ' → pc_X P τ' c (ps_X T (g + 1) m i) := fun τ' F' => by
          have e := psX_b (g := g) (m := m) ne z
          refine Or.inr ⟨by rw [e.1]; exact z, by rw [e.1]; exact ok.1, ?_⟩
          rw [e.1, e.2]
          exact D3.fq (G := []) rfl F'
        refine pz_r25 ((m : Int) + 1) (ps_1 T m i).1 (sI τ3 67 9) hB3 ⟨by omega, by omega, tb, trivial⟩ ⟨D3.1, rfl, trivial⟩ ?_ ?_ ?_ ?_
        · intro τ4 y4 hB4 F4 _ _ _ _
          exact hQ τ4 _ rfl hB4 (FQ.tr G3 (FQ.up (G := []) rfl F4)) (X τ4 F4)
        · intro τ4 y4 hB4 F4 _ _ _ _
          exact hQ τ4 _ rfl hB4 (FQ.tr G3 (FQ.up (G := []) rfl F4)) (X τ4 F4)
        · intro τ4 y4 hB4 F4 f4 _ _ _
          have f5 := f4.2.1
          exfalso
          omega
        · intro τ4 y4 hB4 F4 f4 _ _ _
          have f5 := f4.2.1
          exfalso
          omega
end RDI
/-- the law that the tape holds -/
abbrev tX (tp : Nat → Int) (n : Nat) : Nat × Nat × List (List Int) := ps_X (ts_T tp n) 17 0 0
abbrev FTr : List (Nat × Nat) := [(31, 0), (31, 1), (32, 9999), (67, 0), (67, 1), (67, 2), (67, 7), (67, 8), (67, 9), (69, 0), (69, 1), (70, 9999), (72, 9999), (73, 9999)]
abbrev FTn : List (Nat × Nat) := [(67, 0), (67, 1), (67, 2), (67, 7), (67, 8), (67, 9), (69, 0), (69, 1), (70, 9999), (72, 9999), (73, 9999)]
set_option maxRecDepth 20000 in
theorem x_rdi {tp : Nat → Int} {n : Nat} {σ : pm_S} (hB : an_GB pm_B σ) (hb : pt_B tp n σ) : Sp 27 130 [.ref 67, .ref 31] σ (fun r τ => an_GB pm_B τ ∧ sI τ 67 2 = 0 ∧ (((tX tp n).1 = 0 ∧ r = some (.int (Int32.ofInt ((tX tp n).2.1 : Int))) ∧ (tX tp n).2.1 ≤ 16 ∧ FQ FTr σ τ ∧ sI τ 67 0 = 0 ∧ sI τ 67 1 = -1 ∧ sI τ 31 0 = ((tX tp n).2.1 : Int) ∧ sI τ 31 1 = ((tX tp n).2.2.flatten.length : Int) ∧ (tX tp n).2.2.flatten.length ≤ 400 ∧ ∀ j, j < (tX tp n).2.2.flatten.length → sI τ 32 j = (tX tp n).2.2.flatten.getD j 0) ∨ ((tX tp n).1 ≠ 0 ∧ (tX tp n).1 ≤ 3 ∧ r = some (.int (Int32.ofInt (-1))) ∧ FQ FTn σ τ ∧ pc_F (ts_P tp n) τ (tX tp n).1 (tX tp n).2.1))) := by
  have hn := hb.1
  refine Sp.at rfl rfl ?_
  refine pz_r0 _ rfl hB ?_
  intro τ1 y1 v2 k2 hB1 F1 _ _ _ _
  refine Ok.cv rfl rfl rfl rfl rfl rfl rfl ?_
  refine (x_spl hB1 (hb.fq (G := []) rfl F1)).use (by decide) (fun r τ2 q => ?_)
  obtain ⟨rfl, hB2, F2, L, b2, e2, l2⟩ := q
  have G2 : FQ FTn σ τ2 := FQ.tr (FQ.up (G := []) rfl F1) (FQ.up (G := FSp) rfl F2)
  have hT := tk_end e2 l2
  have hr := fun j => ts_T_r (tp := tp) (n := n) j
  refine pz_r2 v2 k2 hB2 ?_
  intro τ3 y3 hB3 F3 _ _ _ c3
  have G3 : FQ FTn σ τ3 := FQ.tr G2 (FQ.up (G := [(67, 0), (67, 1), (67, 2), (67, 8), (67, 9), (69, 0), (69, 1)]) rfl F3)
  have b3 : pc_B (ts_T tp n) (ts_P tp n) L τ3 := b2.fq (G := [(67, 0), (67, 1), (67, 2), (67, 8), (67, 9), (69, 0), (69, 1)]) rfl F3
  have D3 : pc_D (ts_T tp n) τ3 0 [] := by
    refine ⟨c3.1, c3.2.2.2.1, ?_, ⟨c3.2.2.2.2.2.2.1, c3.2.1⟩, fun j hj => absurd hj (Nat.not_lt_zero _)⟩
    have q := (b3.2.2 0 (Nat.zero_le _)).1
    show (τ3.1 67 9).toInt = _
    rw [c3.2.2.2.2.1, ← c3.2.2.2.2.2.2.2.1]
    exact q
  refine x_rdl hT hr 17 0 0 [] τ3 rfl (by decide) (Nat.zero_le _) (Nat.le_refl _) hB3 b3 D3 c3.2.2.2.2.2.1 (fun τ4 v4 k4 hB4 F4 hX => ?_)
  have G4 : FQ FTn σ τ4 := FQ.tr G3 (FQ.up (G := FTl) rfl F4)
  have len : sI τ4 67 2 = 0 := (congrArg Int32.toInt (F4 67 2 rfl)).trans c3.2.2.1
  rcases hX with ⟨x1, x2, x3, x4, x5, x6, x7⟩ | ⟨x1, x2, x3⟩
  · have x3 : (tX tp n).2.1 ≤ 16 := x3
    refine pz_r39 0 v4 k4 hB4 ⟨by decide, trivial⟩ ⟨x2.1, trivial⟩ ?_ ?_
    · intro τ5 y5 v5 k5 hB5 F5 _ _ _ _
      refine Ok.cv rfl rfl rfl rfl rfl rfl rfl ?_
      refine (x_cpD hB5).use (by decide) (fun r τ6 q => ?_)
      obtain ⟨rfl, hB6, F6, C6⟩ := q
      have a0 : sI τ6 31 0 = ((tX tp n).2.1 : Int) := by
        have c := C6 (69, 31, 2) (List.mem_cons_self) 0 (by decide)
        show (τ6.1 31 0).toInt = _
        rw [show τ6.1 31 0 = τ5.1 69 0 from c, F5 69 0 rfl]
        exact x4
      have a1 : sI τ6 31 1 = ((tX tp n).2.2.flatten.length : Int) := by
        have c := C6 (69, 31, 2) (List.mem_cons_self) 1 (by decide)
        show (τ6.1 31 1).toInt = _
        rw [show τ6.1 31 1 = τ5.1 69 1 from c, F5 69 1 rfl]
        exact x5
      have a2 : ∀ j, j < (tX tp n).2.2.flatten.length → sI τ6 32 j = (tX tp n).2.2.flatten.getD j 0 := fun j hj => by
        have x6 : (tX tp n).2.2.flatten.length ≤ 400 := x6
        have c := C6 (70, 32, 400) (List.mem_cons_of_mem _ List.mem_cons_self) j (by show j < 400; omega)
        show (τ6.1 32 j).toInt = _
        rw [show τ6.1 32 j = τ5.1 70 j from c, F5 70 j rfl]
        exact x7 j hj
      refine pz_r48 (tX tp n).2.1 v5 k5 hB6 ⟨by omega, trivial⟩ ⟨a0, trivial⟩ ?_
      intro τ7 y7 hB7 F7 _ _ _ _
      refine ⟨hB7, (congrArg Int32.toInt ((F7 67 2 rfl).trans ((F6 67 2 rfl).trans (F5 67 2 rfl)))).trans len, Or.inl ⟨x1, rfl, x3, FQ.tr (FQ.up (G := FTn) rfl G4) (FQ.tr (FQ.up (G := []) rfl F5) (FQ.tr (FQ.up (G := [(31, 0), (31, 1), (32, 9999)]) rfl F6) (FQ.up (G := []) rfl F7))), (congrArg Int32.toInt ((F7 67 0 rfl).trans ((F6 67 0 rfl).trans (F5 67 0 rfl)))).trans x2.1, (congrArg Int32.toInt ((F7 67 1 rfl).trans ((F6 67 1 rfl).trans (F5 67 1 rfl)))).trans x2.2, (congrArg Int32.toInt (F7 31 0 rfl)).trans a0, (congrArg Int32.toInt (F7 31 1 rfl)).trans a1, x6, fun j hj => (congrArg Int32.toInt (F7 32 j rfl)).trans (a2 j hj)⟩⟩
    · intro τ5 y5 hB5 F5 f _ _ _
      have f1 := f.1
      exfalso
      omega
  · have x1 : (tX tp n).1 ≠ 0 := x1
    have x2 : (tX tp n).1 ≤ 3 := x2
    refine pz_r39 (tX tp n).1 v4 k4 hB4 ⟨by omega, trivial⟩ ⟨x3.1, trivial⟩ ?_ ?_
    · intro τ5 y5 v5 k5 hB5 F5 f _ _ _
      have f1 := f.1
      exfalso
      omega
    · intro τ5 y5 hB5 F5 _ _ _ _
      exact ⟨hB5, (congrArg Int32.toInt (F5 67 2 rfl)).trans len, Or.inr ⟨x1, x2, rfl, FQ.tr G4 (FQ.up (G := []) rfl F5), x3.fq (G := []) rfl F5⟩⟩
