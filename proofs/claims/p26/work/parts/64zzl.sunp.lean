/-! sunday, pass of the whole town -/
section TWP
variable {D N S : Nat} {ls : List (List Int)}
theorem isM_0 {P j : Nat} (h : isM P j) : an_inF [(93, 0)] P j = false := by
  rcases h with ⟨rfl, h⟩ | ⟨n, h, hj⟩
  · simp only [List.mem_cons, List.not_mem_nil, or_false] at h
    rcases h with rfl | rfl | rfl | rfl | rfl | rfl | rfl | rfl | rfl <;> rfl
  · exact an_inP_ok ((show ∀ q ∈ mRw, an_inP [(93, 0)] q.1 = false by decide) _ h) j
theorem TW.kc {σ : pm_S} (w : TW D N S ls σ) (hB : an_GB pm_B σ) : KCs D N S ls σ := by
  obtain ⟨⟨c1, c2, c3, c4, c5, c6⟩, ⟨hb, hh, hS, hp, hd, hl⟩, s, wy, z, l16, l, c, m⟩ := w
  refine ⟨⟨hb.1, hb.2.1, hb.2.2, c1, c2, c3, fun d hd' => ⟨(hl.2 d hd').1, (hl.2 d hd').2.1⟩, fun d hd' => (hl.2 d hd').2.2.1⟩, fun p hp' => ⟨(hl.1 p hp').2.1, (hl.1 p hp').2.2.2⟩, fun d hd' => ?_, l, c.2⟩
  have b : 0 ≤ (σ.1 103 d).toInt ∧ (σ.1 103 d).toInt ≤ 99999 := hB 103 d (show d < 30 by have := hb.1; omega)
  show 0 ≤ (σ.1 16 d).toInt ∧ (σ.1 16 d).toInt ≤ 99999
  rw [(hd d hd').2.2.1]
  exact b
theorem TW.km {σ : pm_S} (w : TW D N S ls σ) : KM D N S ls σ := by
  obtain ⟨⟨c1, c2, c3, c4, c5, c6⟩, ⟨hb, hh, hS, hp, hd, hl⟩, s, wy, z, l16, l, c, m⟩ := w
  refine ⟨⟨hb.1, hb.2.1, hb.2.2, c4, c5, c6⟩, fun d hd' => ?_, l, m⟩
  obtain ⟨e1, e2, _⟩ := hd d hd'
  have q := (hl.2 d hd').2.2.1
  intro e
  refine q ?_
  show (σ.1 14 d).toInt.toNat = (σ.1 15 d).toInt.toNat
  rw [e1, e2]
  exact e
theorem gyS_100 {σ τ : pm_S} {q : Nat} (h : gyS D N S ls σ τ q) (p : Nat) (hp : N ≤ p) : τ.1 100 p = σ.1 100 p := by
  obtain ⟨τ1, τ2, τ3, b, h1, h2, h3, h4, _⟩ := h
  rw [h4.1 100 p rfl, h3.1 100 p rfl, h2.1 100 p rfl, h1.2.2.2.2.2.1]
  unfold stS
  rw [if_neg (Nat.not_lt.mpr hp)]
theorem gyN_100 : ∀ {n : Nat} {σ τ : pm_S} {q : Nat}, gyN D N S ls n σ τ q → ∀ p, N ≤ p → τ.1 100 p = σ.1 100 p
  | 0, _, _, _, h, p, _ => h.1 100 p rfl
  | n + 1, _, _, _, ⟨σ', τ', q1, q2, a, b, c, e⟩, p, hp => (gyN_100 c p hp).trans ((gyS_100 b p hp).trans (a 100 p rfl))
/-- n Sundays of both sides: the relation behind them -/
theorem TW.sun {n : Nat} {σ σ1 τ τ1 τ2 : pm_S} {q q' : Nat} (w : TW D N S ls σ) (x : RX D N S σ1.1 τ1.1) (FC : FQ FGb σ σ1) (FM : FQ ((93, 0) :: FGy) τ τ1) (F1 : FQ FGb σ τ) (F2 : FQ ((93, 0) :: FGy) τ τ2) (z1 : ∀ p, N ≤ p → τ1.1 100 p = τ.1 100 p) (g : gbN D N S ls n σ1 τ q) (g' : gyN D N S ls n τ1 τ2 q') (hs : 0 ≤ sI τ 1 1 ∧ sI τ 1 1 ≤ 9999) : TW D N S ls τ2 ∧ q = q' := by
  obtain ⟨⟨c1, c2, c3, c4, c5, c6⟩, ⟨hb, hh, hS, hp, hd, hl⟩, s, wy, z, l⟩ := w
  have y := rx_N x ((congrArg Int32.toInt (FC 7 0 rfl)).trans c2) ((congrArg Int32.toInt ((FM 93 5 rfl).trans (F1 93 5 rfl))).trans c5) g g'
  have F : FQ (FGb ++ ((93, 0) :: FGy)) σ τ2 := FQ.tr (FQ.up (G := FGb) rfl F1) (FQ.up (G := (93, 0) :: FGy) rfl F2)
  refine ⟨⟨TWc.fq ⟨c1, c2, c3, c4, c5, c6⟩ rfl F, y.1.cg (fun P n h j _ => F2 P j (an_inP_ok ((show ∀ q ∈ [(1, 4), (2, 4), (4, 10), (5, 100), (8, 10), (9, 10), (10, 10), (11, 10), (12, 10), (14, 30), (15, 30), (16, 30), (17, 30), (18, 30), (19, 30), (20, 30)], an_inP ((93, 0) :: FGy) q.1 = false by decide) _ h) j)) (fun _ _ _ => rfl), ?_, wy.fq rfl F, fun p h1 h2 => ?_, l.fq rfl F⟩, y.2⟩
  · rw [show sI τ2 1 1 = sI τ 1 1 from congrArg Int32.toInt (F2 1 1 rfl)]
    exact hs
  · rw [gyN_100 g' p h1, z1 p h1, F1 100 p rfl]
    exact z p h1 h2
theorem rx_ah {σ σ' τ' : pm_S} (h : RX D N S σ.1 σ.1) (C : ahC σ σ') (M : ∀ P j, isM P j → P ≠ 99 → τ'.1 P j = σ.1 P j) (M9 : ∀ j, j < N → τ'.1 99 j = σ.1 96 j) : RX D N S σ'.1 τ'.1 := by
  obtain ⟨hb, ⟨h1, h2, h3, h4, h5⟩, hS, hp, hd, hl⟩ := h
  obtain ⟨F, A⟩ := C
  have U : ∀ j, j ∈ mCe → τ'.1 93 j = σ.1 93 j := fun j hj => M 93 j (Or.inl ⟨rfl, hj⟩) (by decide)
  have V : ∀ P n, (P, n) ∈ mRw → P ≠ 99 → ∀ j, j < n → τ'.1 P j = σ.1 P j := fun P n h ne j hj => M P j (Or.inr ⟨n, h, hj⟩) ne
  have ab : ∀ {a b : Nat}, a < S → b < S → a * 10 + b < 100 := fun {a b} ha hb' => by have := hb.2.2; omega
  refine ⟨hb, ⟨?_, ?_, ?_, ?_, fun j hj => ?_⟩, ⟨fun a ha => ?_, fun a b ha hb' hab => ?_⟩, fun p hp' => ?_, fun d hd' => ?_, fun p hp' => ?_, fun d hd' => ?_⟩
  · rw [F 1 0 rfl, U 1 (by decide)]
    exact h1
  · rw [F 1 1 rfl, U 19 (by decide)]
    exact h2
  · rw [F 1 2 rfl, U 20 (by decide)]
    exact h3
  · rw [F 1 3 rfl, U 21 (by decide)]
    exact h4
  · rw [F 2 j rfl, V 108 4 (by decide) (by decide) j hj]
    exact h5 j hj
  · rw [F 4 a rfl, V 94 10 (by decide) (by decide) a (by omega)]
    exact hS.1 a ha
  · rw [F 5 _ rfl, V 95 100 (by decide) (by decide) _ (ab ha hb')]
    exact hS.2 a b ha hb' hab
  · have q : p < 10 := by omega
    obtain ⟨a, b, c, _, f⟩ := hp p hp'
    rw [F 8 p rfl, F 9 p rfl, F 10 p rfl, A p q, F 12 p rfl, V 96 10 (by decide) (by decide) p q, V 97 10 (by decide) (by decide) p q, V 98 10 (by decide) (by decide) p q, M9 p hp', V 100 10 (by decide) (by decide) p q]
    exact ⟨a, b, c, a, f⟩
  · have q : d < 30 := by omega
    rw [F 14 d rfl, F 15 d rfl, F 16 d rfl, F 17 d rfl, F 18 d rfl, F 19 d rfl, F 20 d rfl, V 101 30 (by decide) (by decide) d q, V 102 30 (by decide) (by decide) d q, V 103 30 (by decide) (by decide) d q, V 104 30 (by decide) (by decide) d q, V 105 30 (by decide) (by decide) d q, V 106 30 (by decide) (by decide) d q, V 107 30 (by decide) (by decide) d q]
    exact hd d hd'
  · have q := hl.1 p hp'
    rw [F 8 p rfl, A p (by omega)]
    exact ⟨q.1, q.2.1, q.1, q.2.1⟩
  · rw [row_fq F (P := 14) rfl, row_fq F (P := 15) rfl, row_fq F (P := 17) rfl]
    exact hl.2 d hd'
end TWP
set_option maxRecDepth 20000 in
theorem tt_sunday : Two 1 true IT IT 139 211 [] := by
  refine two_TE (GC := FGb) (GM := (93, 0) :: FGy) (by decide +kernel) (by decide +kernel) rfl rfl (fun σ v τ => ∃ (D N S : Nat) (ls : List (List Int)), TW D N S ls σ ∧ ((sI σ 1 1 = 9999 ∧ FQ [] σ τ ∧ v = -1) ∨ (sI σ 1 1 ≤ 9998 ∧ sI τ 1 1 = sI σ 1 1 + 1 ∧ ∃ q : Nat, gbN D N S ls 1 σ τ q ∧ v = (q : Int)))) (fun σ hI => ?_) (fun σ τ v hI x F1 hB1 _ => ?_)
  · obtain ⟨D, N, S, ls, w⟩ := RT.o hI.2.2.1.2.1
    refine (x_suC (w.kc hI.1) w.2.2.1 hI.1).use (by decide) (fun r τ q => ?_)
    obtain ⟨hB, _, ⟨q1, q2, rfl⟩ | ⟨q1, q2, q, g, rfl⟩⟩ := q
    · exact ⟨-1, rfl, hB, FQ.up (G := []) rfl q2, D, N, S, ls, w, Or.inl ⟨q1, q2, rfl⟩⟩
    · exact ⟨_, rfl, hB, gbN_F g, D, N, S, ls, w, Or.inr ⟨q1, q2, q, g, rfl⟩⟩
  · obtain ⟨D, N, S, ls, w, x⟩ := x
    have eS : sI τ 93 19 = sI σ 1 1 := (congrArg Int32.toInt (F1 93 19 rfl)).trans (congrArg Int32.toInt w.2.1.2.1.2.1).symm
    have s := w.2.2.1
    refine (x_suM (w.km.fq F1 rfl rfl rfl rfl rfl rfl rfl rfl rfl rfl rfl) (by omega) hB1).use (by decide) (fun r τ2 q => ?_)
    obtain ⟨hB2, _, ⟨q1, q2, rfl⟩ | ⟨q1, q2, τ1, q, f, g, rfl⟩⟩ := q
    · rcases x with ⟨x1, x2, rfl⟩ | ⟨x1, x2, q, g, rfl⟩
      · have F : FQ [(93, 0)] σ τ2 := FQ.tr (FQ.up (G := []) rfl x2) (FQ.up (G := FTd) rfl q2)
        exact ⟨rfl, hB2, FQ.up (G := FTd) rfl q2, D, N, S, ls, w.fq rfl rfl rfl rfl rfl rfl rfl rfl rfl rfl F⟩
      · exfalso
        omega
    · rcases x with ⟨x1, x2, rfl⟩ | ⟨x1, x2, qc, gc, rfl⟩
      · exfalso
        omega
      · have F2 : FQ ((93, 0) :: FGy) τ τ2 := FQ.tr (FQ.up (G := FTd) rfl f) (FQ.up (G := FGy) rfl (gyN_F g))
        have x0 : RX D N S σ.1 τ1.1 := w.2.1.cg (fun _ _ _ _ _ => rfl) (fun P j hm => (f P j (isM_0 hm)).trans (F1 P j (an_foot93 rfl (isM_93 hm))))
        have y := w.sun x0 (FQ.rf _ _) (FQ.up (G := FTd) rfl f) F1 F2 (fun p _ => f 100 p rfl) gc g (by omega)
        exact ⟨by rw [y.2], hB2, F2, D, N, S, ls, y.1⟩
set_option maxRecDepth 20000 in
theorem tt_pass (a1 : Int32) : Two 1 true IT IT 140 212 [.int a1] := by
  rw [← oI a1]
  have o1 := ai_rng a1
  generalize a1.toInt = n at o1
  refine two_TE (GC := FGb) (GM := (93, 0) :: FGy) (by decide +kernel) (by decide +kernel) rfl rfl (fun σ v τ => ∃ (D N S : Nat) (ls : List (List Int)), TW D N S ls σ ∧ ((¬ (1 ≤ n ∧ n ≤ 400 ∧ sI σ 1 1 + n ≤ 9999) ∧ FQ [] σ τ ∧ v = -1) ∨ (1 ≤ n ∧ n ≤ 400 ∧ sI σ 1 1 + n ≤ 9999 ∧ sI τ 1 1 = sI σ 1 1 + n ∧ ∃ (σ' : pm_S) (q : Nat), ahC σ σ' ∧ gbN D N S ls n.toNat σ' τ q ∧ v = (q : Int)))) (fun σ hI => ?_) (fun σ τ v hI x F1 hB1 _ => ?_)
  · obtain ⟨D, N, S, ls, w⟩ := RT.o hI.2.2.1.2.1
    refine (x_paC n o1 (w.kc hI.1) w.2.2.1 hI.1).use (by decide) (fun r τ q => ?_)
    obtain ⟨hB, _, ⟨q1, q2, rfl⟩ | ⟨q1, q2, q3, q4, σ', q, A, g, rfl⟩⟩ := q
    · exact ⟨-1, rfl, hB, FQ.up (G := []) rfl q2, D, N, S, ls, w, Or.inl ⟨q1, q2, rfl⟩⟩
    · exact ⟨_, rfl, hB, FQ.tr (FQ.up (G := [(11, 9999)]) rfl A.1) (gbN_F g), D, N, S, ls, w, Or.inr ⟨q1, q2, q3, q4, σ', q, A, g, rfl⟩⟩
  · obtain ⟨D, N, S, ls, w, x⟩ := x
    have eS : sI τ 93 19 = sI σ 1 1 := (congrArg Int32.toInt (F1 93 19 rfl)).trans (congrArg Int32.toInt w.2.1.2.1.2.1).symm
    have s := w.2.2.1
    refine (x_paM n o1 (w.km.fq F1 rfl rfl rfl rfl rfl rfl rfl rfl rfl rfl rfl) (by omega) hB1).use (by decide) (fun r τ2 q => ?_)
    obtain ⟨hB2, _, ⟨q1, q2, rfl⟩ | ⟨q1, q2, q3, q4, τ1, q, A, g, rfl⟩⟩ := q
    · rcases x with ⟨x1, x2, rfl⟩ | ⟨x1, x2, x3, x4, σ', q, A, g, rfl⟩
      · have F : FQ [(93, 0)] σ τ2 := FQ.tr (FQ.up (G := []) rfl x2) (FQ.up (G := FTd) rfl q2)
        exact ⟨rfl, hB2, FQ.up (G := FTd) rfl q2, D, N, S, ls, w.fq rfl rfl rfl rfl rfl rfl rfl rfl rfl rfl F⟩
      · exfalso
        exact q1 ⟨x1, x2, by omega⟩
    · rcases x with ⟨x1, x2, rfl⟩ | ⟨x1, x2, x3, x4, σ', qc, Ac, gc, rfl⟩
      · exfalso
        exact x1 ⟨q1, q2, by omega⟩
      · have F2 : FQ ((93, 0) :: FGy) τ τ2 := FQ.tr (FQ.up (G := [(93, 0), (99, 9999)]) rfl A.1) (FQ.up (G := FGy) rfl (gyN_F g))
        have x0 : RX D N S σ'.1 τ1.1 := by
          refine rx_ah w.2.1 Ac (fun P j hm ne => ?_) (fun j hj => (A.2 j hj).trans (F1 96 j rfl))
          refine (A.1 P j ?_).trans (F1 P j (an_foot93 rfl (isM_93 hm)))
          rcases hm with ⟨rfl, h⟩ | ⟨m, h, hj⟩
          · simp only [List.mem_cons, List.not_mem_nil, or_false] at h
            rcases h with rfl | rfl | rfl | rfl | rfl | rfl | rfl | rfl | rfl <;> rfl
          · exact an_inP_ok ((show ∀ q ∈ mRw, q.1 ≠ 99 → an_inP [(93, 0), (99, 9999)] q.1 = false by decide) _ h ne) j
        have y := w.sun x0 (FQ.up (G := [(11, 9999)]) rfl Ac.1) (FQ.up (G := [(93, 0), (99, 9999)]) rfl A.1) F1 F2 (fun p _ => A.1 100 p rfl) gc g (by omega)
        exact ⟨by rw [y.2], hB2, F2, D, N, S, ls, y.1⟩
