/-! feed, end, text of the whole town -/
set_option maxRecDepth 20000 in
theorem tt_feed (a1 a2 a3 a4 a5 : Int32) : Two 1 true IT IT 135 175 [.int a1, .int a2, .int a3, .int a4, .int a5] := by
  intro σ hI
  obtain ⟨k2, k0, k1, kt⟩ := K11.e hI.2.2.2
  have g30 : 0 ≤ cI σ 30 ∧ cI σ 30 ≤ 400 := hI.1 93 30 (by decide)
  have n30 : (((cI σ 30).toNat : Nat) : Int) = cI σ 30 := by omega
  rw [← oI a1, ← oI a2, ← oI a3, ← oI a4, ← oI a5]
  refine (x_fdc a1.toInt a2.toInt a3.toInt a4.toInt a5.toInt (ai_rng _) (ai_rng _) (ai_rng _) (ai_rng _) (ai_rng _) (cI σ 30).toNat (by omega) hI.1 (by rw [k2]; exact n30.symm)).use (by decide) (fun r τ q => ?_)
  obtain ⟨hB1, F1, q⟩ := q
  have hPτ : mP τ := mP93 σ τ (fun p j hp => F1 p j (an_foot93 rfl hp)) hI.2.1
  refine ⟨?_, (x_anm a1.toInt a2.toInt a3.toInt a4.toInt a5.toInt (ai_rng _) (ai_rng _) (ai_rng _) (ai_rng _) (ai_rng _) (cI σ 30).toNat (by omega) hB1 ((congrArg Int32.toInt (F1 93 30 rfl)).trans n30.symm)).use (by decide) (fun r2 τ2 q2 => ?_)⟩
  · rcases q with ⟨_, rfl, _⟩ | ⟨_, rfl, _⟩
    · exact ⟨_, rfl⟩
    · exact ⟨_, rfl⟩
  · obtain ⟨hB2, F2, q2⟩ := q2
    have hP2 : mP τ2 := mP.fr [(93, 0), (93, 30), (114, 9999)] rfl rfl rfl rfl rfl rfl rfl rfl rfl rfl rfl rfl F2 hPτ
    have hE2 : ERT τ2 := ER_x (KX.of (by decide +kernel) F2) (ER_x (KX.of (by decide +kernel) F1) hI.2.2.1)
    have f0 : sI τ2 67 0 = cI τ2 48 := by
      rw [show sI τ2 67 0 = sI σ 67 0 from congrArg Int32.toInt ((F2 67 0 rfl).trans (F1 67 0 rfl)), show cI τ2 48 = cI σ 48 from congrArg Int32.toInt ((F2 93 48 rfl).trans (F1 93 48 rfl))]
      exact k0
    have f1 : sI τ2 67 1 = cI τ2 49 := by
      rw [show sI τ2 67 1 = sI σ 67 1 from congrArg Int32.toInt ((F2 67 1 rfl).trans (F1 67 1 rfl)), show cI τ2 49 = cI σ 49 from congrArg Int32.toInt ((F2 93 49 rfl).trans (F1 93 49 rfl))]
      exact k1
    have m114 : τ.1 114 = σ.1 114 := funext (fun j => F1 114 j rfl)
    rcases q with ⟨x1, rfl, a2, a3⟩ | ⟨x1, rfl, a2, a3⟩
    · rcases q2 with ⟨_, rfl, b2, b3⟩ | ⟨x2, _⟩
      · refine ⟨⟨_, rfl⟩, fun _ => rfl, hB2, hP2, hE2, K11.i (((congrArg Int32.toInt (F2 67 2 rfl)).trans a2).trans b2.symm) f0 f1 (fun j hj => ?_)⟩
        rw [F2 68 j rfl, a3, b3, m114]
        exact tw20_e kt _ _ _ _ _ _ j hj
      · exfalso
        omega
    · rcases q2 with ⟨x2, _⟩ | ⟨_, rfl, b2, b3⟩
      · exfalso
        omega
      · refine ⟨⟨_, rfl⟩, fun _ => rfl, hB2, hP2, hE2, K11.i (((congrArg Int32.toInt (F2 67 2 rfl)).trans a2).trans b2.symm) f0 f1 (fun j hj => ?_)⟩
        rw [F2 68 j rfl, a3, b3, m114]
        exact kt j hj
set_option maxRecDepth 20000 in
theorem tt_end (a1 : Int32) : Two 1 true IT IT 136 176 [.int a1] := by
  intro σ hI
  obtain ⟨e, k0, k1, kt⟩ := K11.e hI.2.2.2
  have fin : ∀ τ2 : pm_S, FQ [(67, 2), (93, 0), (93, 30)] σ τ2 → sI τ2 67 2 = cI τ2 30 → KE K11 τ2 := fun τ2 F h => K11.i h (by rw [show sI τ2 67 0 = sI σ 67 0 from congrArg Int32.toInt (F 67 0 rfl), show cI τ2 48 = cI σ 48 from congrArg Int32.toInt (F 93 48 rfl)]; exact k0) (by rw [show sI τ2 67 1 = sI σ 67 1 from congrArg Int32.toInt (F 67 1 rfl), show cI τ2 49 = cI σ 49 from congrArg Int32.toInt (F 93 49 rfl)]; exact k1) (fun j hj => by rw [F 68 j rfl, F 114 j rfl]; exact kt j hj)
  have g : 0 ≤ cI σ 30 ∧ cI σ 30 ≤ 400 := hI.1 93 30 (by decide)
  have e : (σ.1 67 2).toInt = cI σ 30 := e
  rw [← oI a1]
  have ea : (Int32.ofInt a1.toInt).toInt = a1.toInt := by rw [oI]
  refine (x_endC (ai_rng a1)).use (by decide) (fun r τ q => ?_)
  rcases q with ⟨q, rfl, rfl⟩ | ⟨q, rfl, rfl⟩
  · refine ⟨⟨_, rfl⟩, (x_endM (ai_rng a1)).use (by decide) (fun r2 τ2 q2 => ?_)⟩
    rcases q2 with ⟨q2, rfl, rfl⟩ | ⟨q2, rfl, rfl⟩
    · have F : FQ [(93, 0)] τ (put τ 93 0 (pm_iv 0 0)) := fq_put1 rfl
      exact ⟨⟨_, rfl⟩, fun _ => rfl, put_GB hI.1 (by decide), mP.fr _ rfl rfl rfl rfl rfl rfl rfl rfl rfl rfl rfl rfl F hI.2.1, ER_x (KX.of (by decide +kernel) F) hI.2.2.1, fin _ (FQ.up (G := [(93, 0)]) rfl F) (by show ((put τ 93 0 (pm_iv 0 0)).1 67 2).toInt = _; rw [F 67 2 rfl, F.c 30 rfl]; exact e)⟩
    · exfalso
      omega
  · have B1 : an_GB pm_B (put σ 67 2 (Int32.ofInt a1.toInt)) := put_GB hI.1 (by
      show (0 : Int) ≤ (Int32.ofInt a1.toInt).toInt ∧ (Int32.ofInt a1.toInt).toInt ≤ 400
      omega)
    have F0 : FQ [(67, 2)] σ (put σ 67 2 (Int32.ofInt a1.toInt)) := fq_put1 rfl
    have P1 : mP (put σ 67 2 (Int32.ofInt a1.toInt)) := mP93 σ _ (fun p j hp => F0 p j (an_foot93 rfl hp)) hI.2.1
    have e1 : ((put σ 67 2 (Int32.ofInt a1.toInt)).1 67 2).toInt = a1.toInt := by rw [put_eq, oI]
    have e2 : cI (put σ 67 2 (Int32.ofInt a1.toInt)) 30 = cI σ 30 := F0.c 30 rfl
    generalize put σ 67 2 (Int32.ofInt a1.toInt) = τ at B1 P1 e1 e2 F0 ⊢
    refine ⟨⟨_, rfl⟩, (x_endM (ai_rng a1)).use (by decide) (fun r2 τ2 q2 => ?_)⟩
    rcases q2 with ⟨q2, rfl, rfl⟩ | ⟨q2, rfl, rfl⟩
    · exfalso
      omega
    · have F : FQ [(93, 0), (93, 30)] τ (put (put τ 93 0 (pm_iv 0 0)) 93 30 (Int32.ofInt a1.toInt)) := FQ.tr (fq_put1 rfl) (fq_put1 rfl)
      refine ⟨⟨_, rfl⟩, fun _ => rfl, put_GB (put_GB B1 (by decide)) ?_, mP.fr _ rfl rfl rfl rfl rfl rfl rfl rfl rfl rfl rfl rfl F P1, ER_x (KX.of (by decide +kernel) F) (ER_x (KX.of (by decide +kernel) F0) hI.2.2.1), fin _ (FQ.tr (FQ.up (G := [(67, 2)]) rfl F0) (FQ.up (G := [(93, 0), (93, 30)]) rfl F)) ?_⟩
      · show (0 : Int) ≤ (Int32.ofInt a1.toInt).toInt ∧ (Int32.ofInt a1.toInt).toInt ≤ 400
        omega
      · show ((put (put τ 93 0 (pm_iv 0 0)) 93 30 (Int32.ofInt a1.toInt)).1 67 2).toInt = _
        rw [F 67 2 rfl, e1]
        show _ = ((put _ 93 30 _).1 93 30).toInt
        rw [put_eq, oI]
set_option maxRecDepth 20000 in
theorem tt_text : Two 1 true IT IT 137 195 [] := by
  intro σ hI
  obtain ⟨pb, mb⟩ := K11.b hI.1 hI.2.2.2
  obtain ⟨_, _, _, kt⟩ := K11.e hI.2.2.2
  generalize (fun j => sI σ 68 j) = tp at pb mb
  generalize (cI σ 30).toNat = n at pb mb
  refine (x_txc hI.1 pb).use (by decide) (fun r τ q => ?_)
  obtain ⟨hB1, z2, F1, q⟩ := q
  have hPτ : mP τ := mP93 σ τ (fun p j hp => F1 p j (an_foot93 rfl hp)) hI.2.1
  refine ⟨?_, (x_mtx hB1 (mb.fq (G := FTr) rfl F1)).use (by decide) (fun r2 τ2 q2 => ?_)⟩
  · rcases q with ⟨_, rfl, _⟩ | ⟨_, rfl, _⟩
    · exact ⟨_, rfl⟩
    · exact ⟨_, rfl⟩
  · obtain ⟨hB2, z3, F2, q2⟩ := q2
    have tape : ∀ j, j < 400 → τ2.1 68 j = τ2.1 114 j := fun j hj => by
      rw [F2 68 j rfl, F2 114 j rfl, F1 68 j rfl, F1 114 j rfl]
      exact kt j hj
    have len : sI τ2 67 2 = cI τ2 30 := ((congrArg Int32.toInt (F2 67 2 rfl)).trans z2).trans z3.symm
    have done : lwW τ2 → mP τ2 := fun w => by
      refine ⟨⟨⟨w, unl.fr FTX rfl rfl rfl F2 hPτ.1.1.2⟩, ?_⟩, mP_img (F2.c 64 rfl) (fun i => F2 133 i rfl) hPτ⟩
      unfold sPP
      rw [F2.c 2 rfl, F2.c 5 rfl]
      exact hPτ.1.2
    have F : FQ (FTr ++ FTX) σ τ2 := FQ.tr (FQ.up (G := FTr) rfl F1) (FQ.up (G := FTX) rfl F2)
    obtain ⟨D, N, S, ls0, cn, ⟨hb, hh, hS, hp, hd, hl⟩, s, wy, z, l⟩ := RT.o hI.2.2.1.2.1
    have made : ∀ ls : List (List Int), TWl ls τ2 → ERT τ2 := fun ls l2 => by
      have w : TW D N S ls τ2 := ⟨cn.fq rfl F, ⟨hb, hh.fq rfl F, hS.fq rfl F, hp.fq rfl F, hd.fq rfl F, hl.fq rfl F⟩, TWs.fq s rfl F, wy.fq rfl F, z.fq rfl F, l2⟩
      have kc : KX K26m σ τ2 := KX.of (by decide +kernel) F
      obtain ⟨⟨x1, x2⟩, x3, x4⟩ := K26m_k kc
      refine ⟨?_, RT.m w (by rw [F 21 0 rfl, F 93 23 rfl]; exact RT.k hI.2.2.1.2.1), fun ne => RT.d _ _ _ _ x3 x4 (hI.2.2.1.2.2 (by rw [x1] at ne; exact ne))⟩
      rw [x1, x2]
      exact hI.2.2.1.1
    rcases q with ⟨x1, rfl, a0, a1, g0, g1, g2, g3⟩ | ⟨x1, rfl, Fn, a0, a1⟩
    · rcases q2 with ⟨_, rfl, m0, m1, b0, b1, w⟩ | ⟨x2, _⟩
      · have hw := psX_w (fun j => ts_T_r j) 17 0 0 x1
        refine ⟨⟨_, rfl⟩, fun _ => rfl, hB2, done (lwW_L hw w), made (tX tp n).2.2 ⟨by omega, hw, ⟨?_, (congrArg Int32.toInt (F2 31 1 rfl)).trans g1, g2, fun j hj => (congrArg Int32.toInt (F2 32 j rfl)).trans (g3 j hj)⟩, w⟩, K11.i len (((congrArg Int32.toInt (F2 67 0 rfl)).trans a0).trans b0.symm) (((congrArg Int32.toInt (F2 67 1 rfl)).trans a1).trans b1.symm) tape⟩
        rw [← m0]
        exact (congrArg Int32.toInt (F2 31 0 rfl)).trans g0
      · exact absurd x1 x2
    · rcases q2 with ⟨x2, _⟩ | ⟨_, rfl, b0, b1, w, e36⟩
      · exact absurd x2 x1
      · refine ⟨⟨_, rfl⟩, fun _ => rfl, hB2, done (lwW_of hB1 e36 w hPτ.1.1.1), made ls0 (l.cg (fun P n hp' j hj => ?_) (Int32.toInt_inj.mp (e36.trans (F1.c 36 rfl))) (fun P n hp' j hj => ?_)), K11.i len (((congrArg Int32.toInt (F2 67 0 rfl)).trans a0).trans b0.symm) (((congrArg Int32.toInt (F2 67 1 rfl)).trans a1).trans b1.symm) tape⟩
        · simp only [List.mem_cons, List.not_mem_nil, or_false, Prod.mk.injEq] at hp'
          rcases hp' with ⟨rfl, rfl⟩ | ⟨rfl, rfl⟩
          · match j, hj with
            | 0, _ => exact (F2 31 0 rfl).trans (Fn 31 0 rfl)
            | 1, _ => exact (F2 31 1 rfl).trans (Fn 31 1 rfl)
            | j + 2, hj => exact absurd hj (by omega)
          · exact (F2 32 j rfl).trans (Fn 32 j rfl)
        · simp only [List.mem_cons, List.not_mem_nil, or_false, Prod.mk.injEq] at hp'
          rcases hp' with ⟨rfl, rfl⟩ | ⟨rfl, rfl⟩ | ⟨rfl, rfl⟩ | ⟨rfl, rfl⟩ | ⟨rfl, rfl⟩
          · exact (w.2 j hj).1.trans (F1 116 j rfl)
          · exact (w.2 j hj).2.1.trans (F1 117 j rfl)
          · exact (w.2 j hj).2.2.trans (F1 118 j rfl)
          · exact (w.1 j hj).1.trans (F1 119 j rfl)
          · exact (w.1 j hj).2.trans (F1 120 j rfl)
