/-! p1: the first call on fresh objects, by the analyser -/
abbrev p1_G : List an_G := [(0, 0, [(0, 2, 0)]), (0, 0, [(1, 0, 0)]), (0, 0, [(1, 1, 0)]), (0, 0, [(1, 2, 0)]), (0, 0, [(1, 3, 0)]), (0, 0, [(3, 0, 0)]), (0, 0, [(7, 0, 0)]), (0, 0, [(13, 0, 0)]), (0, 0, [(21, 0, 0)]), (0, 0, [(31, 0, 0)]), (0, 0, [(31, 1, 0)]), (0, 0, [(31, 2, 0)]), (0, 0, [(34, 0, 0)]), (0, 0, [(34, 1, 0)]), (0, 0, [(34, 2, 0)]), (0, 0, [(34, 3, 0)]), (0, 0, [(36, 0, 0)]), (0, 0, [(40, 0, 0)]), (0, 0, [(46, 0, 0)]), (0, 0, [(54, 0, 0)]), (0, 0, [(64, 0, 0)]), (0, 0, [(64, 1, 0)]), (0, 0, [(64, 2, 0)]), (0, 0, [(67, 0, 0)]), ((-1), (-1), [(67, 1, 0)]), (0, 0, [(67, 2, 0)]), (0, 0, [(67, 7, 0)]), (0, 0, [(67, 8, 0)]), (0, 0, [(67, 9, 0)]), (0, 0, [(69, 0, 0)]), (0, 0, [(69, 1, 0)]), (0, 0, [(69, 2, 0)]), (0, 0, [(74, 5, 0)]), (0, 0, [(79, 2, 0)]), (0, 0, [(85, 1, 0)]), (0, 0, [(90, 1, 0)]), (0, 0, [(93, 0, 0)]), (0, 0, [(93, 1, 0)]), (0, 0, [(93, 2, 0)]), (0, 0, [(93, 5, 0)]), (0, 0, [(93, 11, 0)]), (0, 0, [(93, 19, 0)]), (0, 0, [(93, 20, 0)]), (0, 0, [(93, 21, 0)]), (0, 0, [(93, 23, 0)]), (0, 0, [(93, 30, 0)]), (0, 0, [(93, 31, 0)]), (0, 0, [(93, 32, 0)]), (0, 0, [(93, 33, 0)]), (0, 0, [(93, 34, 0)]), (0, 0, [(93, 36, 0)]), (0, 0, [(93, 42, 0)]), (0, 0, [(93, 43, 0)]), (0, 0, [(93, 45, 0)]), (0, 0, [(93, 46, 0)]), (0, 0, [(93, 47, 0)]), (0, 0, [(93, 48, 0)]), ((-1), (-1), [(93, 49, 0)]), (0, 0, [(93, 53, 0)]), (0, 0, [(93, 55, 0)]), (0, 0, [(93, 63, 0)]), (0, 0, [(93, 64, 0)]), (0, 0, [(93, 65, 0)]), (0, 0, [(2, 0, 0)]), (0, 0, [(2, 1, 0)]), (0, 0, [(2, 2, 0)]), (4, 4, [(2, 3, 0)]), (0, 0, [(108, 0, 0)]), (0, 0, [(108, 1, 0)]), (0, 0, [(108, 2, 0)]), (4, 4, [(108, 3, 0)])]
abbrev p1_T : List Nat := [2, 108, 72, 73, 30, 82, 83, 126, 127]
theorem p1_inv : an_Inv [] p1_G pm_s0 := by
  refine ⟨fun p j _ => an_full_ok _, fun g hg => ?_⟩
  have h : ∀ g ∈ p1_G, g.1 ≤ g.2.1 ∧ ∀ q ∈ g.2.2, (pm_s0.1 q.1 q.2.1).toInt = g.1 + q.2.2 := by decide +kernel
  obtain ⟨h1, h2⟩ := h g hg
  exact ⟨g.1, Int.le_refl _, h1, h2⟩
abbrev p1_I : pm_S → Prop := an_Inv [] p1_G
abbrev p1_J : pm_S → Prop := an_Inv [] []
theorem an_a0 (a : Int32) : an_sarg (.int a) (1, 0, -2147483648, 2147483647) := ⟨a, rfl, ai_rng a⟩
theorem an_ai {a : Int32} {l h : Int} (h1 : l ≤ a.toInt) (h2 : a.toInt ≤ h) : an_sarg (.int a) (1, 0, l, h) := ⟨a, rfl, h1, h2⟩
theorem an_no {B : an_B} : ∀ e ∈ ([] : List an_S), an_sok B e := fun e he => absurd he List.not_mem_nil
set_option maxRecDepth 100000 in
theorem p1c_state_0 : an_two [] p1_T [] p1_G [] 1 true 128 161 [(1, 0, (-2147483648), 2147483647)] 15 = true := by decide +kernel
theorem p1_state (a1 : Int32) : Two 1 true p1_I p1_J 128 161 [.int a1] := an_two_ok an_no p1c_state_0 ⟨an_a0 a1, trivial⟩
set_option maxRecDepth 100000 in
theorem p1c_spot_0 : an_two [] p1_T [] p1_G [] 1 true 129 166 [(1, 0, (-2147483648), 2147483647)] 43 = true := by decide +kernel
theorem p1_spot (a1 : Int32) : Two 1 true p1_I p1_J 129 166 [.int a1] := an_two_ok an_no p1c_spot_0 ⟨an_a0 a1, trivial⟩
set_option maxRecDepth 100000 in
theorem p1c_way_0 : an_two [] p1_T [] p1_G [] 1 true 130 167 [(1, 0, (-2147483648), 2147483647), (1, 0, (-2147483648), 2147483647), (1, 0, (-2147483648), 2147483647)] 26 = true := by decide +kernel
theorem p1_way (a1 a2 a3 : Int32) : Two 1 true p1_I p1_J 130 167 [.int a1, .int a2, .int a3] := an_two_ok an_no p1c_way_0 ⟨an_a0 a1, ⟨an_a0 a2, ⟨an_a0 a3, trivial⟩⟩⟩
set_option maxRecDepth 100000 in
theorem p1c_person_0 : an_two [] p1_T [] p1_G [] 1 true 131 168 [(1, 0, (-2147483648), 2147483647), (1, 0, (-2147483648), 2147483647), (1, 0, (-2147483648), 2147483647)] 21 = true := by decide +kernel
theorem p1_person (a1 a2 a3 : Int32) : Two 1 true p1_I p1_J 131 168 [.int a1, .int a2, .int a3] := an_two_ok an_no p1c_person_0 ⟨an_a0 a1, ⟨an_a0 a2, ⟨an_a0 a3, trivial⟩⟩⟩
set_option maxRecDepth 100000 in
theorem p1c_debt_0 : an_two [] p1_T [] p1_G [] 1 true 132 169 [(1, 0, (-2147483648), 2147483647), (1, 0, (-2147483648), 2147483647), (1, 0, (-2147483648), 2147483647), (1, 0, (-2147483648), 2147483647)] 24 = true := by decide +kernel
theorem p1_debt (a1 a2 a3 a4 : Int32) : Two 1 true p1_I p1_J 132 169 [.int a1, .int a2, .int a3, .int a4] := an_two_ok an_no p1c_debt_0 ⟨an_a0 a1, ⟨an_a0 a2, ⟨an_a0 a3, ⟨an_a0 a4, trivial⟩⟩⟩⟩
set_option maxRecDepth 100000 in
theorem p1c_set_0 : an_two [] p1_T [] p1_G [] 1 true 133 172 [(1, 0, (-2147483648), 2147483647), (1, 0, (-2147483648), 2147483647)] 64 = true := by decide +kernel
theorem p1_set (a1 a2 : Int32) : Two 1 true p1_I p1_J 133 172 [.int a1, .int a2] := an_two_ok an_no p1c_set_0 ⟨an_a0 a1, ⟨an_a0 a2, trivial⟩⟩
set_option maxRecDepth 100000 in
theorem p1c_goal_0 : an_two [] p1_T [] p1_G [] 1 true 134 173 [(1, 0, (-2147483648), 2147483647), (1, 0, (-2147483648), 2147483647)] 21 = true := by decide +kernel
theorem p1_goal (a1 a2 : Int32) : Two 1 true p1_I p1_J 134 173 [.int a1, .int a2] := an_two_ok an_no p1c_goal_0 ⟨an_a0 a1, ⟨an_a0 a2, trivial⟩⟩
set_option maxRecDepth 100000 in
theorem p1c_feed_0 : an_two [] p1_T [] p1_G [] 1 true 135 175 [(1, 0, (-2147483648), 2147483647), (1, 0, (-2147483648), 2147483647), (1, 0, (-2147483648), 2147483647), (1, 0, (-2147483648), 2147483647), (1, 0, (-2147483648), 2147483647)] 542 = true := by decide +kernel
theorem p1_feed (a1 a2 a3 a4 a5 : Int32) : Two 1 true p1_I p1_J 135 175 [.int a1, .int a2, .int a3, .int a4, .int a5] := an_two_ok an_no p1c_feed_0 ⟨an_a0 a1, ⟨an_a0 a2, ⟨an_a0 a3, ⟨an_a0 a4, ⟨an_a0 a5, trivial⟩⟩⟩⟩⟩
set_option maxRecDepth 100000 in
theorem p1c_end_0 : an_two [] p1_T [] p1_G [] 1 true 136 176 [(1, 0, (-2147483648), 2147483647)] 28 = true := by decide +kernel
theorem p1_end (a1 : Int32) : Two 1 true p1_I p1_J 136 176 [.int a1] := an_two_ok an_no p1c_end_0 ⟨an_a0 a1, trivial⟩
set_option maxRecDepth 100000 in
theorem p1c_text_0 : an_two [] p1_T [] p1_G [] 1 true 137 195 [] 133 = true := by decide +kernel
theorem p1_text : Two 1 true p1_I p1_J 137 195 [] := an_two_ok an_no p1c_text_0 trivial
set_option maxRecDepth 100000 in
theorem p1c_fault_0 : an_two [] p1_T [] p1_G [] 1 true 138 196 [(1, 0, (-2147483648), 2147483647)] 16 = true := by decide +kernel
theorem p1_fault (a1 : Int32) : Two 1 true p1_I p1_J 138 196 [.int a1] := an_two_ok an_no p1c_fault_0 ⟨an_a0 a1, trivial⟩
set_option maxRecDepth 100000 in
theorem p1c_sunday_0 : an_two [] p1_T [] p1_G [] 1 true 139 211 [] 117 = true := by decide +kernel
theorem p1_sunday : Two 1 true p1_I p1_J 139 211 [] := an_two_ok an_no p1c_sunday_0 trivial
set_option maxRecDepth 100000 in
theorem p1c_pass_0 : an_two [] p1_T [] p1_G [] 1 true 140 212 [(1, 0, (-2147483648), 0)] 20 = true := by decide +kernel
set_option maxRecDepth 100000 in
theorem p1c_pass_1 : an_two [] p1_T [] p1_G [] 1 true 140 212 [(1, 0, 401, 2147483647)] 23 = true := by decide +kernel
abbrev p1_eC : an_S := (140, 1200, [(2, 0, 0, 0), (1, 0, 1, 400)], [(1, 1, 0, 0), (3, 0, 0, 0), (7, 0, 0, 0), (13, 0, 0, 0), (2, 0, 0, 0), (2, 1, 0, 0), (2, 2, 0, 0), (2, 3, 4, 4)], (1, 0, 0), [(1, 9999), (11, 9999)], [])
abbrev p1_eM : an_S := (212, 1200, [(2, 93, 0, 0), (1, 0, 1, 400)], [(93, 19, 0, 0), (93, 2, 0, 0), (93, 5, 0, 0), (93, 11, 0, 0), (108, 0, 0, 0), (108, 1, 0, 0), (108, 2, 0, 0), (108, 3, 4, 4)], (1, 0, 0), [(93, 0), (93, 19), (93, 21), (93, 53)], [])
theorem p1_eC_ok : an_sok [] p1_eC := an_sum (T := p1_T) (S := []) (H := [(23, [(2, 0, 0, 0), (1, 0, 1, 400), (1, 0, 0, 0), (1, 0, 0, 400)], [(3, 0, 0, 0), (7, 0, 0, 0), (13, 0, 0, 0), (2, 0, 0, 0), (2, 1, 0, 0), (2, 2, 0, 0), (2, 3, 4, 4)], [(2, 3, 400), (0, 0, 0), (0, 0, 0)], [])]) (f := 118) an_no (by decide +kernel)
theorem p1_eM_ok : an_sok [] p1_eM := an_sum (T := p1_T) (S := []) (H := [(37, [(2, 93, 0, 0), (1, 0, 1, 400), (1, 0, 0, 0), (1, 0, 0, 400)], [(93, 2, 0, 0), (93, 5, 0, 0), (93, 11, 0, 0), (108, 0, 0, 0), (108, 1, 0, 0), (108, 2, 0, 0), (108, 3, 4, 4)], [(2, 3, 400), (0, 0, 0), (0, 0, 0)], [])]) (f := 72) an_no (by decide +kernel)
theorem p1_cel {σ : pm_S} (hI : p1_I σ) {cs : List an_P} (h : cs.all (fun q => p1_G.any (fun g => an_eq g.1 g.2.1 && an_le q.2.2.1 g.1 && an_le g.1 q.2.2.2 && g.2.2.any (fun r => Nat.beq r.1 q.1 && Nat.beq r.2.1 q.2.1 && an_eq r.2.2 0))) = true) : an_scel σ cs := by
  intro q hq
  have h1 := List.all_eq_true.mp h q hq
  obtain ⟨g, g1, g2⟩ := List.any_eq_true.mp h1
  simp only [Bool.and_eq_true, an_eq_iff, an_le_iff] at g2
  obtain ⟨r, r1, r2⟩ := List.any_eq_true.mp g2.2
  simp only [Bool.and_eq_true, an_eq_iff] at r2
  obtain ⟨v, v1, v2, v3⟩ := hI.2 g g1
  have := v3 r r1
  rw [Nat.eq_of_beq_eq_true r2.1.1, Nat.eq_of_beq_eq_true r2.1.2] at this
  omega
theorem p1_pass (a1 : Int32) : Two 1 true p1_I p1_J 140 212 [.int a1] := by
  have r := ai_rng a1
  rcases (show a1.toInt ≤ 0 ∨ 401 ≤ a1.toInt ∨ (1 ≤ a1.toInt ∧ a1.toInt ≤ 400) by omega) with h | h | h
  · exact an_two_ok an_no p1c_pass_0 ⟨an_ai (by omega) (by omega), trivial⟩
  · exact an_two_ok an_no p1c_pass_1 ⟨an_ai (by omega) (by omega), trivial⟩
  · exact an_two_S p1_eC_ok p1_eM_ok (Nat.le_refl _) (Nat.le_refl _) rfl rfl (fun σ hI => p1_cel hI (by decide +kernel)) (fun σ hI => p1_cel hI (by decide +kernel)) (by decide +kernel) ⟨rfl, ⟨a1, rfl, h⟩, trivial⟩ ⟨rfl, ⟨a1, rfl, h⟩, trivial⟩
set_option maxRecDepth 100000 in
theorem p1c_of_0 : an_two [] p1_T [] p1_G [] 1 true 141 214 [(1, 0, (-2147483648), 2147483647), (1, 0, (-2147483648), 2147483647)] 21 = true := by decide +kernel
theorem p1_of (a1 a2 : Int32) : Two 1 true p1_I p1_J 141 214 [.int a1, .int a2] := an_two_ok an_no p1c_of_0 ⟨an_a0 a1, ⟨an_a0 a2, trivial⟩⟩
set_option maxRecDepth 100000 in
theorem p1c_owed_0 : an_two [] p1_T [] p1_G [] 1 true 142 215 [(1, 0, (-2147483648), 2147483647), (1, 0, (-2147483648), 2147483647)] 26 = true := by decide +kernel
theorem p1_owed (a1 a2 : Int32) : Two 1 true p1_I p1_J 142 215 [.int a1, .int a2] := an_two_ok an_no p1c_owed_0 ⟨an_a0 a1, ⟨an_a0 a2, trivial⟩⟩
set_option maxRecDepth 100000 in
theorem p1c_cleared_0 : an_two [] p1_T [] p1_G [] 1 true 143 220 [(1, 0, (-2147483648), 2147483647)] 77 = true := by decide +kernel
theorem p1_cleared (a1 : Int32) : Two 1 true p1_I p1_J 143 220 [.int a1] := an_two_ok an_no p1c_cleared_0 ⟨an_a0 a1, trivial⟩
set_option maxRecDepth 100000 in
theorem p1c_first_0 : an_two [] p1_T [] p1_G [] 1 true 144 223 [(1, 0, (-2147483648), 2147483647), (1, 0, (-2147483648), 2147483647)] 21 = true := by decide +kernel
theorem p1_first (a1 a2 : Int32) : Two 1 true p1_I p1_J 144 223 [.int a1, .int a2] := an_two_ok an_no p1c_first_0 ⟨an_a0 a1, ⟨an_a0 a2, trivial⟩⟩
set_option maxRecDepth 100000 in
theorem p1c_tour_0 : an_two [] p1_T [] p1_G [] 1 true 145 225 [(1, 0, (-2147483648), 2147483647), (1, 0, (-2147483648), 2147483647)] 21 = true := by decide +kernel
theorem p1_tour (a1 a2 : Int32) : Two 1 true p1_I p1_J 145 225 [.int a1, .int a2] := an_two_ok an_no p1c_tour_0 ⟨an_a0 a1, ⟨an_a0 a2, trivial⟩⟩
set_option maxRecDepth 100000 in
theorem p1c_share_0 : an_two [] p1_T [] p1_G [] 1 true 146 229 [(1, 0, (-2147483648), 2147483647), (1, 0, (-2147483648), 2147483647), (1, 0, (-2147483648), 2147483647), (1, 0, (-2147483648), 2147483647)] 24 = true := by decide +kernel
theorem p1_share (a1 a2 a3 a4 : Int32) : Two 1 true p1_I p1_J 146 229 [.int a1, .int a2, .int a3, .int a4] := an_two_ok an_no p1c_share_0 ⟨an_a0 a1, ⟨an_a0 a2, ⟨an_a0 a3, ⟨an_a0 a4, trivial⟩⟩⟩⟩
set_option maxRecDepth 100000 in
theorem p1c_chance_0 : an_two [] p1_T [] p1_G [] 1 true 147 230 [(1, 0, (-2147483648), 2147483647), (1, 0, (-2147483648), 2147483647), (1, 0, (-2147483648), 2147483647)] 26 = true := by decide +kernel
theorem p1_chance (a1 a2 a3 : Int32) : Two 1 true p1_I p1_J 147 230 [.int a1, .int a2, .int a3] := an_two_ok an_no p1c_chance_0 ⟨an_a0 a1, ⟨an_a0 a2, ⟨an_a0 a3, trivial⟩⟩⟩
set_option maxRecDepth 100000 in
theorem p1c_waiting_0 : an_two [] p1_T [] p1_G [] 2 true 148 238 [(1, 0, (-2147483648), 2147483647), (1, 0, (-2147483648), 2147483647), (1, 0, (-2147483648), 2147483647)] 21 = true := by decide +kernel
theorem p1_waiting (a1 a2 a3 : Int32) : Two 2 true p1_I p1_J 148 238 [.int a1, .int a2, .int a3] := an_two_ok an_no p1c_waiting_0 ⟨an_a0 a1, ⟨an_a0 a2, ⟨an_a0 a3, trivial⟩⟩⟩
set_option maxRecDepth 100000 in
theorem p1c_line_0 : an_two [] p1_T [] p1_G [] 1 true 149 239 [(1, 0, (-2147483648), 2147483647), (1, 0, (-2147483648), 2147483647), (1, 0, (-2147483648), 2147483647), (1, 0, (-2147483648), 2147483647)] 62 = true := by decide +kernel
theorem p1_line (a1 a2 a3 a4 : Int32) : Two 1 true p1_I p1_J 149 239 [.int a1, .int a2, .int a3, .int a4] := an_two_ok an_no p1c_line_0 ⟨an_a0 a1, ⟨an_a0 a2, ⟨an_a0 a3, ⟨an_a0 a4, trivial⟩⟩⟩⟩
set_option maxRecDepth 100000 in
theorem p1c_wrong_0 : an_two [] p1_T [] p1_G [] 1 true 150 241 [(1, 0, (-2147483648), 2147483647)] 168 = true := by decide +kernel
theorem p1_wrong (a1 : Int32) : Two 1 true p1_I p1_J 150 241 [.int a1] := an_two_ok an_no p1c_wrong_0 ⟨an_a0 a1, trivial⟩
set_option maxRecDepth 100000 in
theorem p1c_image_0 : an_two [] p1_T [] p1_G [] 1 true 151 245 [(1, 0, 0, 0)] 14 = true := by decide +kernel
abbrev p1_e0 : an_S := (243, 1190, [(2, 93, 0, 0)], [(93, 65, 250, 250), (93, 63, 1, 1)], (0, 0, 0), [(93, 11), (93, 23), (93, 65), (133, 9999), (101, 9999), (102, 9999), (103, 9999), (104, 9999), (105, 9999), (106, 9999), (107, 9999), (109, 9999), (110, 9999), (111, 9999), (112, 9999)], [(93, 65, 582, 582)])
theorem p1_e0_ok : an_sok [] p1_e0 := an_sum (T := []) (S := []) (H := [(8, [(2, 93, 0, 0), (1, 0, 0, 30)], [(93, 65, (-2147483648), 2147483647), (93, 63, 1, 1)], [(0, 0, 1), (2, 1, 30), (0, 0, 0)], [(0, 93, 65, 7, 1, 251, 0)]), (91, [(2, 93, 0, 0), (1, 0, 0, 30)], [(93, 65, (-2147483648), 2147483647), (93, 63, 1, 1)], [(0, 0, 0), (2, 1, 30), (0, 0, 0)], [(0, 93, 65, 4, 1, 462, 0)])]) (f := 212) an_no (by decide +kernel)
abbrev p1_e1 : an_S := (244, 1190, [(2, 93, 0, 0)], [(93, 65, 582, 582), (93, 63, 1, 1)], (0, 0, 0), [(93, 36), (93, 65), (133, 9999), (116, 9999), (117, 9999), (118, 9999), (119, 9999), (120, 9999)], [])
theorem p1_e1_ok : an_sok [] p1_e1 := an_sum (T := []) (S := []) (H := [(8, [(2, 93, 0, 0), (1, 0, 0, 16)], [(93, 65, (-2147483648), 2147483647), (93, 63, 1, 1)], [(0, 0, 1), (2, 1, 16), (0, 0, 0)], [(0, 93, 65, 3, 1, 583, 0)]), (45, [(2, 93, 0, 0), (1, 0, 0, 400)], [(93, 65, (-2147483648), 2147483647), (93, 63, 1, 1)], [(0, 0, 0), (2, 1, 400), (0, 0, 0)], [(0, 93, 65, 2, 1, 631, 0)])]) (f := 96) an_no (by decide +kernel)
abbrev p1_iM : an_S := (245, 1200, [(2, 93, 0, 0), (1, 0, 1, 1)], [], (1, 1, 1), [(93, 0), (93, 1), (93, 2), (93, 5), (93, 11), (93, 19), (93, 20), (93, 21), (93, 23), (93, 36), (93, 63), (93, 64), (93, 65), (94, 9999), (95, 9999), (96, 9999), (97, 9999), (98, 9999), (99, 9999), (100, 9999), (101, 9999), (102, 9999), (103, 9999), (104, 9999), (105, 9999), (106, 9999), (107, 9999), (108, 9999), (109, 9999), (110, 9999), (111, 9999), (112, 9999), (113, 9999), (116, 9999), (117, 9999), (118, 9999), (119, 9999), (120, 9999), (133, 9999)], [])
theorem p1_iM_ok : an_sok [] p1_iM := an_sum (T := []) (S := [p1_e0, p1_e1]) (H := [(33, [(2, 93, 0, 0), (1, 0, 1, 1), (1, 0, 0, 10)], [(93, 65, (-2147483648), 2147483647), (93, 63, 1, 1)], [(0, 0, 5), (2, 2, 10), (0, 0, 0)], [(0, 93, 65, 1, 2, 2, 0)]), (50, [(2, 93, 0, 0), (1, 0, 1, 1), (1, 0, 0, 100)], [(93, 65, (-2147483648), 2147483647), (93, 63, 1, 1)], [(0, 0, 4), (2, 2, 100), (0, 0, 0)], [(0, 93, 65, 1, 2, 12, 0)]), (67, [(2, 93, 0, 0), (1, 0, 1, 1), (1, 0, 0, 80)], [(93, 65, (-2147483648), 2147483647), (93, 63, 1, 1)], [(0, 0, 3), (2, 2, 80), (0, 0, 0)], [(0, 93, 65, 1, 2, 112, 0)]), (90, [(2, 93, 0, 0), (1, 0, 1, 1), (1, 0, 0, 10)], [(93, 65, (-2147483648), 2147483647), (93, 63, 1, 1)], [(0, 0, 2), (2, 2, 10), (0, 0, 0)], [(0, 93, 65, 5, 2, 193, 0)]), (165, [(2, 93, 0, 0), (1, 0, 1, 1), (1, 0, 0, 4)], [(93, 65, (-2147483648), 2147483647), (93, 63, 1, 1)], [(0, 0, 1), (2, 2, 4), (0, 0, 0)], [(0, 93, 65, 1, 2, 246, 0)])]) (f := 154) (fun e he => by
  rcases List.mem_cons.mp he with rfl | he
  · exact p1_e0_ok
  · rw [List.mem_singleton.mp he]; exact p1_e1_ok) (by decide +kernel)
abbrev p1_iC : an_S := (151, 1200, [(2, 0, 0, 0), (1, 0, 1, 1)], [(1, 3, 0, 0)], (1, 1, 1), [(0, 9999), (34, 9999), (35, 9999), (36, 9999), (37, 9999), (38, 9999), (39, 9999), (40, 9999), (41, 9999), (42, 9999), (43, 9999), (44, 9999), (45, 9999), (46, 9999), (47, 9999), (48, 9999), (49, 9999), (50, 9999), (51, 9999), (52, 9999), (53, 9999), (54, 9999), (55, 9999), (56, 9999), (57, 9999), (58, 9999), (59, 9999), (60, 9999), (61, 9999), (62, 9999), (63, 9999), (64, 9999), (65, 9999), (66, 9999)], [])
theorem p1_iC_ok : an_sok [] p1_iC := an_sum (T := []) (S := []) (H := []) (f := 425) an_no (by decide +kernel)
theorem p1_image (w : Int32) (h : w = 0 ∨ w = 1) : Two 1 true p1_I p1_J 151 245 [.int w] := by
  rcases h with rfl | rfl
  · exact an_two_ok an_no p1c_image_0 ⟨an_ai (by decide) (by decide), trivial⟩
  · exact an_two_S p1_iC_ok p1_iM_ok (Nat.le_refl _) (Nat.le_refl _) rfl rfl (fun σ hI => p1_cel hI (by decide +kernel)) (fun σ hI => fun q hq => absurd hq List.not_mem_nil) (fun q hq => absurd hq List.not_mem_nil) ⟨rfl, an_ai (by decide) (by decide), trivial⟩ ⟨rfl, an_ai (by decide) (by decide), trivial⟩
set_option maxRecDepth 100000 in
theorem p1c_look_0 : an_two [] p1_T [] p1_G [] 1 true 152 246 [(1, 0, (-2147483648), 19)] 49 = true := by decide +kernel
set_option maxRecDepth 100000 in
theorem p1c_look_1 : an_two [] p1_T [] p1_G [] 1 true 152 246 [(1, 0, 20, 20)] 59 = true := by decide +kernel
set_option maxRecDepth 100000 in
theorem p1c_look_2 : an_two [] p1_T [] p1_G [] 1 true 152 246 [(1, 0, 21, 21)] 59 = true := by decide +kernel
set_option maxRecDepth 100000 in
theorem p1c_look_3 : an_two [] p1_T [] p1_G [] 1 true 152 246 [(1, 0, 22, 22)] 59 = true := by decide +kernel
set_option maxRecDepth 100000 in
theorem p1c_look_4 : an_two [] p1_T [] p1_G [] 1 true 152 246 [(1, 0, 23, 23)] 59 = true := by decide +kernel
set_option maxRecDepth 100000 in
theorem p1c_look_5 : an_two [] p1_T [] p1_G [] 1 true 152 246 [(1, 0, 24, 2147483647)] 52 = true := by decide +kernel
theorem p1_look (a1 : Int32) : Two 1 true p1_I p1_J 152 246 [.int a1] := by
  have r := ai_rng a1
  rcases (show a1.toInt ≤ 19 ∨ a1.toInt = 20 ∨ a1.toInt = 21 ∨ a1.toInt = 22 ∨ a1.toInt = 23 ∨ 24 ≤ a1.toInt by omega) with h | h | h | h | h | h
  · exact an_two_ok an_no p1c_look_0 ⟨an_ai (by omega) (by omega), trivial⟩
  · exact an_two_ok an_no p1c_look_1 ⟨an_ai (by omega) (by omega), trivial⟩
  · exact an_two_ok an_no p1c_look_2 ⟨an_ai (by omega) (by omega), trivial⟩
  · exact an_two_ok an_no p1c_look_3 ⟨an_ai (by omega) (by omega), trivial⟩
  · exact an_two_ok an_no p1c_look_4 ⟨an_ai (by omega) (by omega), trivial⟩
  · exact an_two_ok an_no p1c_look_5 ⟨an_ai (by omega) (by omega), trivial⟩
theorem p1_all : AllTwo p1_I p1_J := ⟨p1_state, p1_spot, p1_way, p1_person, p1_debt, p1_set, p1_goal, p1_feed, p1_end, p1_text, p1_fault, p1_sunday, p1_pass, p1_of, p1_owed, p1_cleared, p1_first, p1_tour, p1_share, p1_chance, p1_waiting, p1_line, p1_wrong, p1_image, p1_look⟩
