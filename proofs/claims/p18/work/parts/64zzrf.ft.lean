/-! first in the model: all of it -/
section FTX
variable {m : Nat} {l : List Nat} {G : Nat → Nat → Int} {σ0 : pm_S} {p what : Int}
theorem fx_36 (hX : fX σ0 m l G) (hp : 0 ≤ p ∧ p ≤ 9) (hw : what = 0 ∨ (10 ≤ what ∧ what ≤ 9 + (m : Int))) : ∀ (N T : Nat) (σ : pm_S) (w z : Value), w.category = 1 → z.category = 1 → T + N = 2 ^ m → 1 ≤ T → an_GB pm_B σ → FQ FFi σ0 σ → (∀ t : Nat, t < T → kC σ t = cF m G t) → Ok 223 22 36 [.ref 93, .int (Int32.ofInt p), .int (Int32.ofInt what), .int (Int32.ofInt (T : Int)), w, z] [] σ (fun r τ => r = some (.int (Int32.ofInt (fsV m l G what))) ∧ an_GB pm_B τ ∧ FQ FFi σ0 τ) := by
  have m8 := hX.1.1
  have h256 := p256 m8
  have wr : (-2147483648) ≤ what ∧ what ≤ 2147483647 := by omega
  intro N
  induction N with
  | zero =>
    intro T σ w z hw1 hz hN hT1 hB hF hI
    have X := hX.fq hF
    refine fj_36 p what T m w z hw1 hz hB ⟨hp, wr, by omega, by omega, trivial⟩ ⟨X.2.1, trivial⟩ ?_
    intro τ y w1 z1 hw2 hz1 hB1 F1 f1 _ d1 _
    have e3 : y 4 = ((2 ^ m : Nat) : Int) := shlI (i := (m : Int)) ⟨by omega, by omega⟩ d1.1
    have G1 : FQ FFi σ0 τ := hF.tr (FQ.up (G := []) rfl F1)
    have X1 := hX.fq G1
    refine Ok.ic rfl rfl (by omega) (by omega) (by omega) (by omega) (fun h => ?_) (fun h => ?_)
    · refine fj_81 p what m _ w1 z1 rfl hw2 hz1 hB1 ⟨hp, wr, by omega, trivial⟩ ⟨X1.2.1, trivial⟩ ?_
      intro τ2 y2 w2 z2 hw3 hz2 hB2 F2 f2 _ d2 _
      have e2 : y2 3 = ((2 ^ m : Nat) : Int) := shlI (i := (m : Int)) ⟨by omega, by omega⟩ d2.1
      have el : y2 3 + (-1) = ((2 ^ m - 1 : Nat) : Int) := by omega
      rw [el]
      have E2 : τ2.1 = σ.1 := FQ.e1 (F1.tr F2)
      have K2 : ∀ t : Nat, t < 2 ^ m → kC τ2 t = cF m G t := fun t ht => by
        rw [show kC τ2 t = kC σ t by show (τ2.1 128 _).toInt = _; rw [E2]]
        exact hI t (by omega)
      have G2 : FQ FFi σ0 τ2 := G1.tr (FQ.up (G := []) rfl F2)
      have cr := cF_b m8 hX.1.2 (pcn 10 (2 ^ m - 1)) (2 ^ m - 1) rfl (by omega)
      have p10 := pcn_10 (2 ^ m - 1) (by omega)
      refine fj_88 p what ((2 ^ m - 1 : Nat) : Int) (cF m G (2 ^ m - 1)) w2 z2 hw3 hz2 hB2 ⟨hp, wr, by omega, by omega, trivial⟩ ⟨K2 _ (by omega), trivial⟩ ?_ ?_
      · intro τ3 y3 hB3 F3 f3 rl _ _
        have r0 := rl.1
        have G3 : FQ FFi σ0 τ3 := G2.tr (FQ.up (G := []) rfl F3)
        have X3 := hX.fq G3
        have K3 : ∀ t : Nat, t < 2 ^ m → kC τ3 t = cF m G t := fun t ht => by
          rw [show kC τ3 t = kC τ2 t by show (τ3.1 128 _).toInt = _; rw [FQ.e1 F3]]
          exact K2 t ht
        have hKm : (what - 10).toNat < m := by omega
        refine Ok.mono (fx_99 (σ0 := τ3) (K := (what - 10).toNat) X3 K3 hp hKm (by omega) ((what - 10).toNat + 1) 0 0 τ3 (by omega) (by omega) (fun z => by omega) hB3 (FQ.rf _ _)) (fun r τ4 q => ?_)
        obtain ⟨rfl, hB4, F4⟩ := q
        refine ⟨?_, hB4, G3.tr (FQ.up (G := []) rfl F4)⟩
        unfold fsV
        rw [if_neg r0, if_pos (by omega)]
      · intro τ3 y3 hB3 F3 f3 _ _ _
        refine ⟨?_, hB3, G2.tr (FQ.up (G := []) rfl F3)⟩
        unfold fsV
        rw [if_pos (by omega)]
    · exfalso
      have h : (T : Int) < y 4 := h
      omega
  | succ N ih =>
    intro T σ w z hw1 hz hN hT1 hB hF hI
    have X := hX.fq hF
    refine fj_36 p what T m w z hw1 hz hB ⟨hp, wr, by omega, by omega, trivial⟩ ⟨X.2.1, trivial⟩ ?_
    intro τ y w1 z1 hw2 hz1 hB1 F1 f1 _ d1 _
    have e3 : y 4 = ((2 ^ m : Nat) : Int) := shlI (i := (m : Int)) ⟨by omega, by omega⟩ d1.1
    have ixT : ((T : Int)).toNat = T := by omega
    refine Ok.ic rfl rfl (by omega) (by omega) (by omega) (by omega) (fun h => ?_) (fun h => ?_)
    · exfalso
      have h : y 4 ≤ (T : Int) := h
      omega
    · refine fj_42 p what T w1 z1 hw2 hz1 hB1 ⟨hp, wr, by omega, trivial⟩ ?_
      intro τ2 y2 w2 z2 hw3 hz2 hB2 F2 _ _ _ _
      have E2 : τ2.1 = σ.1 := FQ.e1 (F1.tr F2)
      refine Ok.ast (n := 256) rfl rfl rfl (by decide) (by omega) (by omega) ?_
      rw [ixT]
      have hB3 : an_GB pm_B (put τ2 128 T (Int32.ofInt 1000000000)) := put_GB hB2 (ai_rng _)
      have G3 : FQ FFi σ0 (put τ2 128 T (Int32.ofInt 1000000000)) := (hF.tr (FQ.up (G := []) rfl (F1.tr F2))).tr (FQ.put rfl)
      have K3 : kC (put τ2 128 T (Int32.ofInt 1000000000)) T = 1000000000 := by
        show ((put τ2 128 T _).1 128 ((T : Int)).toNat).toInt = _
        rw [ixT, put_eq]
        decide
      have I3 : ∀ t : Nat, t < T → kC (put τ2 128 T (Int32.ofInt 1000000000)) t = cF m G t := fun t ht => by
        rw [show kC (put τ2 128 T (Int32.ofInt 1000000000)) t = kC σ t by
          show ((put τ2 128 T _).1 128 ((t : Int)).toNat).toInt = _
          rw [put_nj (show ((t : Int)).toNat ≠ T by omega), E2]]
        exact hI t ht
      generalize put τ2 128 T (Int32.ofInt 1000000000) = σ3 at hB3 G3 K3 I3 ⊢
      refine fj_47 p what T w2 z2 hw3 hz2 hB3 ⟨hp, wr, by omega, trivial⟩ ?_
      intro τ4 y4 z4 hz4 hB4 F4 _ _ _ _
      have E4 := FQ.e1 F4
      have K4 : ∀ t, kC τ4 t = kC σ3 t := fun t => by show (τ4.1 128 _).toInt = _; rw [E4]
      refine fx_49 hX hp wr (T := T) ⟨hT1, by omega⟩ ?_ m 0 τ4 z4 hz4 (by omega) hB4 (G3.tr (FQ.up (G := []) rfl F4)) (fun t ht => (K4 t).trans (I3 t ht)) ((K4 T).trans K3)
      intro σ5 w5 z5 hw5 hz5 hB5 F5 I5
      refine fj_79 p what T w5 z5 hw5 hz5 hB5 ⟨hp, wr, by omega, trivial⟩ ?_
      intro τ6 y6 w6 z6 hw6 hz6 hB6 F6 _ _ _ _
      refine ih (T + 1) τ6 w6 z6 hw6 hz6 (by omega) (by omega) hB6 (F5.tr (FQ.up (G := []) rfl F6)) (fun t ht => ?_)
      rw [show kC τ6 t = kC σ5 t by show (τ6.1 128 _).toInt = _; rw [FQ.e1 F6]]
      exact I5 t ht
theorem fx_31 {σ : pm_S} (hX : fX σ m l G) (hp : 0 ≤ p ∧ p ≤ 9) (hw : what = 0 ∨ (10 ≤ what ∧ what ≤ 9 + (m : Int))) (hB : an_GB pm_B σ) (v3 v4 v5 : Value) (hv3 : v3.category = 1) (hv4 : v4.category = 1) (hv5 : v5.category = 1) : Ok 223 22 31 [.ref 93, .int (Int32.ofInt p), .int (Int32.ofInt what), v3, v4, v5] [.ref 128] σ (fun r τ => r = some (.int (Int32.ofInt (fsV m l G what))) ∧ an_GB pm_B τ ∧ FQ FFi σ τ) := by
  have m8 := hX.1.1
  have wr : (-2147483648) ≤ what ∧ what ≤ 2147483647 := by omega
  refine fj_31 p what v3 v4 v5 hv3 hv4 hv5 hB ⟨hp, wr, trivial⟩ ?_
  intro τ1 y1 w3 w4 w5 hw3 hw4 hw5 hB1 F1 _ _ _ _
  refine Ok.ast (n := 256) rfl rfl rfl (by decide) (by omega) (by omega) ?_
  have hB2 : an_GB pm_B (put τ1 128 (0 : Int).toNat (Int32.ofInt 0)) := put_GB hB1 (ai_rng _)
  have G2 : FQ FFi σ (put τ1 128 (0 : Int).toNat (Int32.ofInt 0)) := (FQ.up (G := []) rfl F1).tr (FQ.put rfl)
  have K2 : kC (put τ1 128 (0 : Int).toNat (Int32.ofInt 0)) 0 = 0 := by
    show ((put τ1 128 (0 : Int).toNat (Int32.ofInt 0)).1 128 (0 : Int).toNat).toInt = 0
    rw [put_eq]
    rfl
  generalize put τ1 128 (0 : Int).toNat (Int32.ofInt 0) = τ2 at hB2 G2 K2 ⊢
  refine fj_34 p what w3 w4 w5 hw3 hw4 hw5 hB2 ⟨hp, wr, trivial⟩ ?_
  intro τ3 y3 z4 z5 hz4 hz5 hB3 F3 _ _ _ _
  have h1 := Nat.two_pow_pos m
  refine fx_36 hX hp hw (2 ^ m - 1) 1 τ3 z4 z5 hz4 hz5 (by omega) (by omega) hB3 (G2.tr (FQ.up (G := []) rfl F3)) (fun t ht => ?_)
  have e : t = 0 := by omega
  rw [e]
  exact (show kC τ3 ((0 : Nat) : Int) = kC τ2 0 by show (τ3.1 128 _).toInt = _; rw [FQ.e1 F3]; rfl).trans K2
abbrev FMf : List (Nat × Nat) := [(93, 0), (93, 55), (125, 9999), (128, 9999)]
theorem x_fsm {σ : pm_S} (p what : Int) (hp : (-2147483648) ≤ p ∧ p ≤ 2147483647) (hw : (-2147483648) ≤ what ∧ what ≤ 2147483647) {D N : Nat} (hD : D ≤ 30) (hN : N ≤ 10) (eD : sI σ 93 11 = (D : Int)) (eN : sI σ 93 5 = (N : Int)) {P : Nat → Bool} (hP : P = (fun d => decide (σ.1 107 d = 0) && decide (sI σ 101 d = p))) {l : List Nat} (hl : l = opL P D) {G : Nat → Nat → Int} (hG : ∀ k i, i < l.length → gN (σ.1 103 (l.getD i 0)).toInt (rt σ) k = G k i) (hb : l.length ≤ 8 → fB l.length G) (hB : an_GB pm_B σ) : Sp 223 22 [.ref 93, .int (Int32.ofInt p), .int (Int32.ofInt what)] σ (fun r τ => an_GB pm_B τ ∧ FQ FMf σ τ ∧ ((¬ (0 ≤ p ∧ p < (N : Int)) ∧ r = some (.int (Int32.ofInt (-1)))) ∨ ((0 ≤ p ∧ p < (N : Int)) ∧ r = some (.int (Int32.ofInt (if l.length ≤ 8 then fsV l.length l G what else -1)))))) := by
  refine Sp.at rfl rfl ?_
  refine fj_0 p what _ _ _ rfl rfl rfl hB ⟨hp, hw, trivial⟩ ?_
  intro τ1 y1 v3 v4 v5 hv3 hv4 hv5 hB1 F1 _ _ _ _
  have G1 : FQ FMf σ τ1 := FQ.up (G := [(93, 0)]) rfl F1
  refine Ok.cv rfl rfl rfl rfl rfl rfl rfl ?_
  refine (x_h164 p (N : Int) hB1 hp ((congrArg Int32.toInt (F1 93 5 rfl)).trans eN)).use (by decide) (fun r τ2 q => ?_)
  obtain ⟨hB2, F2, ⟨q, rfl, -⟩ | ⟨q, rfl, -⟩⟩ := q
  · refine fj_6n p what v3 v4 v5 hv3 hv4 hv5 hB2 ⟨hp, hw, trivial⟩ ?_
    intro τ3 y3 hB3 F3 _ _ _ _
    exact ⟨hB3, G1.tr (FQ.up (G := []) rfl (FQ.tr F2 F3)), Or.inl ⟨q, rfl⟩⟩
  · refine fj_6 p what v3 v4 v5 hv3 hv4 hv5 hB2 ⟨by omega, hw, trivial⟩ ?_
    intro τ3 y3 w3 w4 w5 hw3 hw4 hw5 hB3 F3 _ _ _ _
    have G3 : FQ [(93, 0)] σ τ3 := F1.tr (FQ.up (G := []) rfl (FQ.tr F2 F3))
    refine Ok.cv rfl rfl rfl rfl rfl rfl rfl ?_
    refine (x_tkO p (by omega) hD ((congrArg Int32.toInt (G3 93 11 rfl)).trans eD) (P := P) (by rw [hP]; show _ = (fun d => decide (τ3.1 107 d = 0) && decide ((τ3.1 101 d).toInt = p)); rw [row_fq G3 (P := 107) rfl, row_fq G3 (P := 101) rfl]) hB3).use (by decide) (fun r τ4 q4 => ?_)
    obtain ⟨rfl, hB4, F4, e4, g4⟩ := q4
    rw [← hl] at e4 g4
    have G4 : FQ FMf σ τ4 := (FQ.up (G := [(93, 0)]) rfl G3).tr (FQ.up (G := FGm2) rfl F4)
    have ll := opL_le P D
    rw [← hl] at ll
    have X : ∀ τ : pm_S, FQ [] τ4 τ → l.length ≤ 8 → fX τ l.length l G := fun τ F h8 => by
      have GG : FQ FMf σ τ := G4.tr (FQ.up (G := []) rfl F)
      refine ⟨hb h8, (congrArg Int32.toInt (F 93 55 rfl)).trans e4, fun i hi => ⟨(congrArg Int32.toInt (F 125 i rfl)).trans (g4 i hi), ?_⟩, fun k i hi => ?_⟩
      · have h := opL_m (P := P) (n := D) (x := l.getD i 0) (by rw [← hl]; exact getD_mem hi)
        omega
      · rw [GG 103 _ rfl, show rt τ = rt σ from congrArg Int32.toInt (GG 108 1 rfl)]
        exact hG k i hi
    refine fj_12 p what (l.length : Nat) w3 w4 w5 hw3 hw4 hw5 hB4 ⟨by omega, hw, by omega, trivial⟩ ⟨e4, trivial⟩ ?_ ?_ ?_
    · intro τ5 y5 hB5 F5 f5 _ _ _
      refine ⟨hB5, G4.tr (FQ.up (G := []) rfl F5), Or.inr ⟨q, ?_⟩⟩
      rw [if_neg (by omega)]
    · intro τ5 y5 z3 z4 z5 hz3 hz4 hz5 hB5 F5 f5 _ _ _
      have h8 : l.length ≤ 8 := by omega
      refine Ok.mono (fx_31 (X τ5 F5 h8) (by omega) (Or.inl (by omega)) hB5 z3 z4 z5 hz3 hz4 hz5) (fun r τ6 q6 => ?_)
      obtain ⟨rfl, hB6, F6⟩ := q6
      refine ⟨hB6, G4.tr ((FQ.up (G := []) rfl F5).tr (FQ.up (G := FFi) rfl F6)), Or.inr ⟨q, ?_⟩⟩
      rw [if_pos h8]
    · intro τ5 y5 z3 z4 z5 hz3 hz4 hz5 hB5 F5 f5 rl _ _
      have r0 := rl.1
      have h8 : l.length ≤ 8 := by omega
      refine Ok.cv rfl rfl rfl rfl rfl rfl rfl ?_
      refine (x_isIn (v := what) (l := 10) (h := (l.length : Int) + 9) hw (by omega) (by omega)).use (by decide) (fun r τ6 q6 => ?_)
      obtain ⟨rfl, ⟨c, rfl⟩ | ⟨c, rfl⟩⟩ := q6
      · rw [show pm_iv 0 0 = Int32.ofInt 0 by decide]
        refine fj_26n p what z3 z4 z5 hz3 hz4 hz5 hB5 ⟨by omega, hw, trivial⟩ ?_
        intro τ7 y7 hB7 F7 _ _ _ _
        refine ⟨hB7, G4.tr (FQ.up (G := []) rfl (F5.tr F7)), Or.inr ⟨q, ?_⟩⟩
        unfold fsV
        rw [if_pos h8, if_neg r0, if_neg (by omega)]
      · rw [show pm_iv 1 0 = Int32.ofInt 1 by decide]
        refine fj_26 p what z3 z4 z5 hz3 hz4 hz5 hB5 ⟨by omega, hw, trivial⟩ ?_
        intro τ7 y7 u3 u4 u5 hu3 hu4 hu5 hB7 F7 _ _ _ _
        refine Ok.mono (fx_31 (X τ7 (F5.tr F7) h8) (by omega) (Or.inr (by omega)) hB7 u3 u4 u5 hu3 hu4 hu5) (fun r τ8 q8 => ?_)
        obtain ⟨rfl, hB8, F8⟩ := q8
        refine ⟨hB8, G4.tr ((FQ.up (G := []) rfl (F5.tr F7)).tr (FQ.up (G := FFi) rfl F8)), Or.inr ⟨q, ?_⟩⟩
        rw [if_pos h8]
end FTX
theorem fs_rg {σ : pm_S} {D N S : Nat} {ls : List (List Int)} (h : TW D N S ls σ) (hB : an_GB pm_B σ) (p : Int) : (0 ≤ sI σ 2 1 ∧ sI σ 2 1 ≤ 99) ∧ ((opL (fun d => decide (σ.1 20 d = 0) && decide (sI σ 14 d = p)) D).length ≤ 8 → fB (opL (fun d => decide (σ.1 20 d = 0) && decide (sI σ 14 d = p)) D).length (fun k i => gN (σ.1 16 ((opL (fun d => decide (σ.1 20 d = 0) && decide (sI σ 14 d = p)) D).getD i 0)).toInt (sI σ 2 1) k)) := by
  obtain ⟨_, ⟨⟨d30, _⟩, hh, _, _, hd, _⟩, _⟩ := h
  have hr : 0 ≤ sI σ 2 1 ∧ sI σ 2 1 ≤ 99 := by
    have e : sI σ 2 1 = rt σ := congrArg Int32.toInt (hh.2.2.2.2 1 (by decide))
    rw [e]
    exact hB 108 1 (by decide)
  generalize hl : opL (fun d => decide (σ.1 20 d = 0) && decide (sI σ 14 d = p)) D = l
  refine ⟨hr, fun h8 => ⟨h8, fun k i hk hi => ?_⟩⟩
  have h := opL_m (P := fun d => decide (σ.1 20 d = 0) && decide (sI σ 14 d = p)) (n := D) (x := l.getD i 0) (by rw [hl]; exact getD_mem hi)
  refine gG_b ?_ hr (by omega)
  rw [(hd _ h.1).2.2.1]
  exact ca_k hB (d := ((l.getD i 0 : Nat) : Int)) (by omega)
set_option maxRecDepth 20000 in
theorem tt_first (a1 a2 : Int32) : Two 1 true IT IT 144 223 [.int a1, .int a2] := by
  rw [← oI a1, ← oI a2]
  have o1 := ai_rng a1
  have o2 := ai_rng a2
  generalize a1.toInt = p at o1
  generalize a2.toInt = w at o2
  refine two_TE (GC := FCc) (GM := FMf) (by decide +kernel) (by decide +kernel) rfl rfl (fun σ v τ => ∃ (D N S : Nat) (ls : List (List Int)), TW D N S ls σ ∧ ((¬ (0 ≤ p ∧ p < (N : Int)) ∧ v = -1) ∨ ((0 ≤ p ∧ p < (N : Int)) ∧ ∃ l : List Nat, l = opL (fun d => decide (σ.1 20 d = 0) && decide (sI σ 14 d = p)) D ∧ v = (if l.length ≤ 8 then fsV l.length l (fun k i => gN (σ.1 16 (l.getD i 0)).toInt (sI σ 2 1) k) w else -1)))) (fun σ hI => ?_) (fun σ τ v hI x F1 hB1 _ => ?_)
  · obtain ⟨D, N, S, ls, w'⟩ := RT.o hI.2.2.1.2.1
    have hb := w'.2.1.1
    have rg := fs_rg w' hI.1 p
    refine (x_fsc p w o1 o2 hb.1 hb.2.1 w'.1.1 w'.1.2.1 rfl rfl rg.1 (fun k i _ => rfl) rg.2 hI.1).use (by decide) (fun r τ q => ?_)
    obtain ⟨hB, F, ⟨q, rfl⟩ | ⟨q, v, ev, rfl⟩⟩ := q
    · exact ⟨-1, rfl, hB, F, D, N, S, ls, w', Or.inl ⟨q, rfl⟩⟩
    · exact ⟨v, rfl, hB, F, D, N, S, ls, w', Or.inr ⟨q, _, rfl, ev⟩⟩
  · obtain ⟨D, N, S, ls, w', x⟩ := x
    have wt : TW D N S ls τ := w'.fq rfl rfl rfl rfl rfl rfl rfl rfl rfl rfl F1
    have hb := wt.2.1.1
    have rg := fs_rg w' hI.1 p
    obtain ⟨_, ⟨_, hh, _, _, hd, _⟩, _⟩ := w'
    have el : opL (fun d => decide (τ.1 107 d = 0) && decide (sI τ 101 d = p)) D = opL (fun d => decide (σ.1 20 d = 0) && decide (sI σ 14 d = p)) D := opL_e D (fun i hi => by
      have h := hd i hi
      show (decide (τ.1 107 i = 0) && decide ((τ.1 101 i).toInt = p)) = (decide (σ.1 20 i = 0) && decide ((σ.1 14 i).toInt = p))
      rw [F1 107 i rfl, F1 101 i rfl, ← h.1, ← h.2.2.2.2.2.2])
    generalize hl : opL (fun d => decide (σ.1 20 d = 0) && decide (sI σ 14 d = p)) D = l at x el rg
    have er : rt τ = sI σ 2 1 := congrArg Int32.toInt ((F1 108 1 rfl).trans (hh.2.2.2.2 1 (by decide)).symm)
    refine (x_fsm p w o1 o2 hb.1 hb.2.1 wt.1.2.2.2.1 wt.1.2.2.2.2.1 rfl (l := l) el.symm (G := fun k i => gN (σ.1 16 (l.getD i 0)).toInt (sI σ 2 1) k) (fun k i hi => ?_) rg.2 hB1).use (by decide) (fun r τ2 q => ?_)
    · have h := opL_m (P := fun d => decide (σ.1 20 d = 0) && decide (sI σ 14 d = p)) (n := D) (x := l.getD i 0) (by rw [hl]; exact getD_mem hi)
      rw [er, F1 103 _ rfl, ← (hd _ h.1).2.2.1]
    · obtain ⟨hB2, F2, q⟩ := q
      have w2 : TW D N S ls τ2 := wt.fq rfl rfl rfl rfl rfl rfl rfl rfl rfl rfl F2
      refine ⟨?_, hB2, F2, D, N, S, ls, w2⟩
      rcases q with ⟨q, rfl⟩ | ⟨q, rfl⟩
      · rcases x with ⟨x, rfl⟩ | ⟨x, _⟩
        · rfl
        · exact absurd x q
      · rcases x with ⟨x, rfl⟩ | ⟨x, l', e', rfl⟩
        · exact absurd q x
        · rw [e']
