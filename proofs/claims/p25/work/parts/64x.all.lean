/-! all calls, keys kept -/
theorem two_weak {t kC kM : Nat} {I J : pm_S → Prop} {as : List Value} (h : Two t true I J kC kM as) : Two t false I J kC kM as := fun σ hI => (h σ hI).mono (fun r τ g => ⟨g.1, g.2.mono (fun r2 τ2 g2 => ⟨g2.1, fun z => absurd z (by decide), g2.2.2⟩)⟩)
abbrev K25 : KY := [(0, 2, 93, 64)]
theorem K25.e {σ : pm_S} (h : KE K25 σ) : (σ.1 0 2).toInt = cI σ 64 := congrArg Int32.toInt (h (0, 2, 93, 64) (List.mem_singleton.mpr rfl))
theorem K25.i {σ : pm_S} (h : (σ.1 0 2).toInt = cI σ 64) : KE K25 σ := fun q hq => by
  rw [List.mem_singleton.mp hq]
  exact Int32.toInt_inj.mp h
theorem sp1 {c : Int} {r : Option Value} (h : an_spost r (1, c, c)) (h1 : -2147483648 ≤ c ∧ c ≤ 2147483647) : r = some (.int (Int32.ofInt c)) := by
  obtain ⟨w, e, w1, w2⟩ := h
  have w1 : c ≤ w.toInt := w1
  have w2 : w.toInt ≤ c := w2
  rw [e, ← oI w, show w.toInt = c by omega]
theorem t25_mid {w : Int32} (hw : w = 0 ∨ w = 1) {c : Int} {σ τ : pm_S} (hc : c = 0 ∨ c = 1) (hB : an_GB pm_B τ) (hp : mP τ) (e0 : (τ.1 0 2).toInt = c) (e64 : cI τ 64 = cI σ 64) (h0 : c = 0 → w = 0 ∧ cI σ 64 = 0) (h1 : c = 1 → w = 1 ∨ cI σ 64 = 1) {r : Option Value} (hr : r = some (.int (Int32.ofInt c))) :
    an_sh 1 r ∧ Sp 245 1200 (.ref 93 :: [.int w]) τ (fun r2 τ2 => an_sh 1 r2 ∧ (true = true → r = r2) ∧ IK K25 τ2) := by
  subst hr
  refine ⟨⟨_, rfl⟩, (ka_image w hw τ hB hp).mono (fun r2 τ2 q => ?_)⟩
  obtain ⟨q1, q2, q3, q4, q5⟩ := q
  rcases q5 with ⟨a1, a2, a3, a4⟩ | ⟨a1, a2, a3⟩
  · have c0 : c = 0 := by
      rcases hc with z | z
      · exact z
      · exfalso
        rcases h1 z with y | y
        · rw [y] at a2
          exact absurd a2 (by decide)
        · omega
    exact ⟨q1, fun _ => by rw [a1, c0], q2, q3, K25.i (by rw [q4]; omega)⟩
  · have c1 : c = 1 := by
      rcases hc with z | z
      · exfalso
        obtain ⟨y1, y2⟩ := h0 z
        rcases a2 with y | y
        · rw [y1] at y
          exact absurd y (by decide)
        · omega
      · exact z
    exact ⟨q1, fun _ => by rw [a1, c1], q2, q3, K25.i (by rw [q4]; omega)⟩
theorem t25_image (a1 : Int32) (hw : a1 = 0 ∨ a1 = 1) : Two 1 true (IK K25) (IK K25) 151 245 [.int a1] := by
  intro σ hI
  have e := K25.e hI.2.2
  have g : 0 ≤ cI σ 64 ∧ cI σ 64 ≤ 1 := hI.1 93 64 (by decide)
  rcases hw with rfl | rfl
  · rcases (show cI σ 64 = 0 ∨ cI σ 64 = 1 by omega) with h | h
    · refine (sx_im0_ok σ _ hI.1 (show an_sargs [.ref 0, .int 0] sx_im0.2.2.1 from ⟨rfl, ⟨_, rfl, by decide, by decide⟩, trivial⟩) (fun q hq => ?_)).use (by decide) (fun r τ hr => ?_)
      · rcases List.mem_cons.mp hq with rfl | hq
        · show (0 : Int) ≤ (σ.1 0 2).toInt ∧ (σ.1 0 2).toInt ≤ 0
          omega
        · exact absurd hq List.not_mem_nil
      · obtain ⟨k1, k2, k3, k4⟩ := hr
        have z : 0 ≤ (τ.1 0 2).toInt ∧ (τ.1 0 2).toInt ≤ 0 := k4 _ List.mem_cons_self
        exact t25_mid (σ := σ) (Or.inl rfl) (c := 0) (Or.inl rfl) k1 (mP93 σ τ (fun p j hp => k3 p j (an_foot93 rfl hp)) hI.2.1) (by omega) (congrArg Int32.toInt (k3 93 64 rfl)) (fun _ => ⟨rfl, h⟩) (fun z => absurd z (by decide)) (sp1 k2 (by decide))
    · refine (sx_imb_ok σ _ hI.1 (show an_sargs [.ref 0, .int 0] sx_imb.2.2.1 from ⟨rfl, ⟨_, rfl, by decide, by decide⟩, trivial⟩) (fun q hq => ?_)).use (by decide) (fun r τ hr => ?_)
      · rcases List.mem_cons.mp hq with rfl | hq
        · show (1 : Int) ≤ (σ.1 0 2).toInt ∧ (σ.1 0 2).toInt ≤ 1
          omega
        · exact absurd hq List.not_mem_nil
      · obtain ⟨k1, k2, k3, k4⟩ := hr
        have z : 1 ≤ (τ.1 0 2).toInt ∧ (τ.1 0 2).toInt ≤ 1 := k4 _ List.mem_cons_self
        exact t25_mid (σ := σ) (Or.inl rfl) (c := 1) (Or.inr rfl) k1 (mP93 σ τ (fun p j hp => k3 p j (an_foot93 rfl hp)) hI.2.1) (by omega) (congrArg Int32.toInt (k3 93 64 rfl)) (fun z => absurd z (by decide)) (fun _ => Or.inr h) (sp1 k2 (by decide))
  · refine (sx_im1_ok σ _ hI.1 (show an_sargs [.ref 0, .int 1] sx_im1.2.2.1 from ⟨rfl, ⟨_, rfl, by decide, by decide⟩, trivial⟩) (fun q hq => absurd hq List.not_mem_nil)).use (by decide) (fun r τ hr => ?_)
    obtain ⟨k1, k2, k3, k4⟩ := hr
    have z : 1 ≤ (τ.1 0 2).toInt ∧ (τ.1 0 2).toInt ≤ 1 := k4 _ List.mem_cons_self
    exact t25_mid (σ := σ) (Or.inr rfl) (c := 1) (Or.inr rfl) k1 (mP93 σ τ (fun p j hp => k3 p j (an_foot93 rfl hp)) hI.2.1) (by omega) (congrArg Int32.toInt (k3 93 64 rfl)) (fun z => absurd z (by decide)) (fun _ => Or.inl rfl) (sp1 k2 (by decide))
theorem t25_state (a1 : Int32) : Two 1 false (IK K25) (IK K25) 128 161 [.int a1] := two_K se_101_ok (by decide) rfl rfl rfl rfl ⟨rfl, a0 a1, trivial⟩ (mKX_S se_125_ok (by decide) rfl (fun σ τ h p => mP.fr se_125.2.2.2.2.2.1 rfl rfl rfl rfl rfl rfl rfl rfl rfl rfl rfl rfl h p) rfl rfl ⟨rfl, a0 a1, trivial⟩)
theorem t25_spot (a1 : Int32) : Two 1 false (IK K25) (IK K25) 129 166 [.int a1] := two_K se_102_ok (by decide) rfl rfl rfl rfl ⟨rfl, a0 a1, trivial⟩ (kx_spot rfl a1)
theorem t25_way (a1 a2 a3 : Int32) : Two 1 false (IK K25) (IK K25) 130 167 [.int a1, .int a2, .int a3] := two_K se_103_ok (by decide) rfl rfl rfl rfl ⟨rfl, a0 a1, a0 a2, a0 a3, trivial⟩ (mKX_S se_127_ok (by decide) rfl (fun σ τ h p => mP.fr se_127.2.2.2.2.2.1 rfl rfl rfl rfl rfl rfl rfl rfl rfl rfl rfl rfl h p) rfl rfl ⟨rfl, a0 a1, a0 a2, a0 a3, trivial⟩)
theorem t25_person (a1 a2 a3 : Int32) : Two 1 false (IK K25) (IK K25) 131 168 [.int a1, .int a2, .int a3] := two_K se_104_ok (by decide) rfl rfl rfl rfl ⟨rfl, a0 a1, a0 a2, a0 a3, trivial⟩ (kx_person rfl a1 a2 a3)
theorem t25_debt (a1 a2 a3 a4 : Int32) : Two 1 false (IK K25) (IK K25) 132 169 [.int a1, .int a2, .int a3, .int a4] := two_K se_105_ok (by decide) rfl rfl rfl rfl ⟨rfl, a0 a1, a0 a2, a0 a3, a0 a4, trivial⟩ (kx_debt rfl a1 a2 a3 a4)
theorem t25_set (a1 a2 : Int32) : Two 1 false (IK K25) (IK K25) 133 172 [.int a1, .int a2] := two_K se_106_ok (by decide) rfl rfl rfl rfl ⟨rfl, a0 a1, a0 a2, trivial⟩ (mKX_S se_130_ok (by decide) rfl (fun σ τ h p => mP.fr se_130.2.2.2.2.2.1 rfl rfl rfl rfl rfl rfl rfl rfl rfl rfl rfl rfl h p) rfl rfl ⟨rfl, a0 a1, a0 a2, trivial⟩)
theorem t25_goal (a1 a2 : Int32) : Two 1 false (IK K25) (IK K25) 134 173 [.int a1, .int a2] := two_K se_107_ok (by decide) rfl rfl rfl rfl ⟨rfl, a0 a1, a0 a2, trivial⟩ (mKX_S se_131_ok (by decide) rfl (fun σ τ h p => mP.fr se_131.2.2.2.2.2.1 rfl rfl rfl rfl rfl rfl rfl rfl rfl rfl rfl rfl h p) rfl rfl ⟨rfl, a0 a1, a0 a2, trivial⟩)
theorem t25_feed (a1 a2 a3 a4 a5 : Int32) : Two 1 false (IK K25) (IK K25) 135 175 [.int a1, .int a2, .int a3, .int a4, .int a5] := two_K se_108_ok (by decide) rfl rfl rfl rfl ⟨rfl, a0 a1, a0 a2, a0 a3, a0 a4, a0 a5, trivial⟩ (mKX_S se_132_ok (by decide) rfl (fun σ τ h p => mP.fr se_132.2.2.2.2.2.1 rfl rfl rfl rfl rfl rfl rfl rfl rfl rfl rfl rfl h p) rfl rfl ⟨rfl, a0 a1, a0 a2, a0 a3, a0 a4, a0 a5, trivial⟩)
theorem t25_end (a1 : Int32) : Two 1 false (IK K25) (IK K25) 136 176 [.int a1] := two_K se_109_ok (by decide) rfl rfl rfl rfl ⟨rfl, a0 a1, trivial⟩ (mKX_S se_133_ok (by decide) rfl (fun σ τ h p => mP.fr se_133.2.2.2.2.2.1 rfl rfl rfl rfl rfl rfl rfl rfl rfl rfl rfl rfl h p) rfl rfl ⟨rfl, a0 a1, trivial⟩)
theorem t25_text : Two 1 false (IK K25) (IK K25) 137 195 [] := two_K se_110_ok (by decide) rfl rfl rfl rfl ⟨rfl, trivial⟩ (kx_text rfl )
theorem t25_fault (a1 : Int32) : Two 1 false (IK K25) (IK K25) 138 196 [.int a1] := two_K se_111_ok (by decide) rfl rfl rfl rfl ⟨rfl, a0 a1, trivial⟩ (mKX_S se_134_ok (by decide) rfl (fun σ τ h p => mP.fr se_134.2.2.2.2.2.1 rfl rfl rfl rfl rfl rfl rfl rfl rfl rfl rfl rfl h p) rfl rfl ⟨rfl, a0 a1, trivial⟩)
theorem t25_sunday : Two 1 false (IK K25) (IK K25) 139 211 [] := two_K se_112_ok (by decide) rfl rfl rfl rfl ⟨rfl, trivial⟩ (mKX_P sp_sunday_ok (by decide) rfl rfl (fun σ τ h p => mP.fr sp_sunday.2.2.2.2.2.1 rfl rfl rfl rfl rfl rfl rfl rfl rfl rfl rfl rfl h p) rfl ⟨rfl, trivial⟩)
theorem t25_pass (a1 : Int32) : Two 1 false (IK K25) (IK K25) 140 212 [.int a1] := two_K se_48_ok (by decide) rfl rfl rfl rfl ⟨rfl, a0 a1, trivial⟩ (mKX_P sp_pass_ok (by decide) rfl rfl (fun σ τ h p => mP.fr sp_pass.2.2.2.2.2.1 rfl rfl rfl rfl rfl rfl rfl rfl rfl rfl rfl rfl h p) rfl ⟨rfl, a0 a1, trivial⟩)
theorem t25_of (a1 a2 : Int32) : Two 1 false (IK K25) (IK K25) 141 214 [.int a1, .int a2] := two_K se_113_ok (by decide) rfl rfl rfl rfl ⟨rfl, a0 a1, a0 a2, trivial⟩ (mKX_S se_135_ok (by decide) rfl (fun σ τ h p => mP.fr se_135.2.2.2.2.2.1 rfl rfl rfl rfl rfl rfl rfl rfl rfl rfl rfl rfl h p) rfl rfl ⟨rfl, a0 a1, a0 a2, trivial⟩)
theorem t25_owed (a1 a2 : Int32) : Two 1 false (IK K25) (IK K25) 142 215 [.int a1, .int a2] := two_K se_114_ok (by decide) rfl rfl rfl rfl ⟨rfl, a0 a1, a0 a2, trivial⟩ (mKX_P sp_owed_ok (by decide) rfl rfl (fun σ τ h p => mP.fr sp_owed.2.2.2.2.2.1 rfl rfl rfl rfl rfl rfl rfl rfl rfl rfl rfl rfl h p) rfl ⟨rfl, a0 a1, a0 a2, trivial⟩)
theorem t25_cleared (a1 : Int32) : Two 1 false (IK K25) (IK K25) 143 220 [.int a1] := two_K se_115_ok (by decide) rfl rfl rfl rfl ⟨rfl, a0 a1, trivial⟩ (mKX_S se_87_ok (by decide) rfl (fun σ τ h p => mP.fr se_87.2.2.2.2.2.1 rfl rfl rfl rfl rfl rfl rfl rfl rfl rfl rfl rfl h p) rfl rfl ⟨rfl, a0 a1, trivial⟩)
theorem t25_first (a1 a2 : Int32) : Two 1 false (IK K25) (IK K25) 144 223 [.int a1, .int a2] := two_K se_116_ok (by decide) rfl rfl rfl rfl ⟨rfl, a0 a1, a0 a2, trivial⟩ (kx_first rfl a1 a2)
theorem t25_tour (a1 a2 : Int32) : Two 1 false (IK K25) (IK K25) 145 225 [.int a1, .int a2] := two_K se_117_ok (by decide) rfl rfl rfl rfl ⟨rfl, a0 a1, a0 a2, trivial⟩ (mKX_S se_90_ok (by decide) rfl (fun σ τ h p => mP.fr se_90.2.2.2.2.2.1 rfl rfl rfl rfl rfl rfl rfl rfl rfl rfl rfl rfl h p) rfl rfl ⟨rfl, a0 a1, a0 a2, trivial⟩)
theorem t25_share (a1 a2 a3 a4 : Int32) : Two 1 false (IK K25) (IK K25) 146 229 [.int a1, .int a2, .int a3, .int a4] := two_K se_118_ok (by decide) rfl rfl rfl rfl ⟨rfl, a0 a1, a0 a2, a0 a3, a0 a4, trivial⟩ (mKX_S se_100_ok (by decide) rfl (fun σ τ h p => mP.fr se_100.2.2.2.2.2.1 rfl rfl rfl rfl rfl rfl rfl rfl rfl rfl rfl rfl h p) rfl rfl ⟨rfl, a0 a1, a0 a2, a0 a3, a0 a4, trivial⟩)
theorem t25_chance (a1 a2 a3 : Int32) : Two 1 false (IK K25) (IK K25) 147 230 [.int a1, .int a2, .int a3] := two_K se_119_ok (by decide) rfl rfl rfl rfl ⟨rfl, a0 a1, a0 a2, a0 a3, trivial⟩ (mKX_S se_94_ok (by decide) rfl (fun σ τ h p => mP.fr se_94.2.2.2.2.2.1 rfl rfl rfl rfl rfl rfl rfl rfl rfl rfl rfl rfl h p) rfl rfl ⟨rfl, a0 a1, a0 a2, a0 a3, trivial⟩)
theorem t25_waiting (a1 a2 a3 : Int32) : Two 2 false (IK K25) (IK K25) 148 238 [.int a1, .int a2, .int a3] := two_K se_120_ok (by decide) rfl rfl rfl rfl ⟨rfl, a0 a1, a0 a2, a0 a3, trivial⟩ (kx_waiting rfl a1 a2 a3)
theorem t25_line (a1 a2 a3 a4 : Int32) : Two 1 false (IK K25) (IK K25) 149 239 [.int a1, .int a2, .int a3, .int a4] := two_K se_121_ok (by decide) rfl rfl rfl rfl ⟨rfl, a0 a1, a0 a2, a0 a3, a0 a4, trivial⟩ (mKX_S se_136_ok (by decide) rfl (fun σ τ h p => mP.fr se_136.2.2.2.2.2.1 rfl rfl rfl rfl rfl rfl rfl rfl rfl rfl rfl rfl h p) rfl rfl ⟨rfl, a0 a1, a0 a2, a0 a3, a0 a4, trivial⟩)
theorem t25_wrong (a1 : Int32) : Two 1 false (IK K25) (IK K25) 150 241 [.int a1] := two_K se_122_ok (by decide) rfl rfl rfl rfl ⟨rfl, a0 a1, trivial⟩ (kx_wrong rfl rfl a1)
theorem t25_look (a1 : Int32) : Two 1 false (IK K25) (IK K25) 152 246 [.int a1] := two_K se_124_ok (by decide) rfl rfl rfl rfl ⟨rfl, a0 a1, trivial⟩ (mKX_S se_137_ok (by decide) rfl (fun σ τ h p => mP.fr se_137.2.2.2.2.2.1 rfl rfl rfl rfl rfl rfl rfl rfl rfl rfl rfl rfl h p) rfl rfl ⟨rfl, a0 a1, trivial⟩)
