/-! the model's Sundays, and what is owed: summaries under the condition that the law is well-formed and no debt is one's own -/
def pPP (σ : pm_S) : Prop := lwW σ ∧ unl σ
theorem pPP.fr {σ τ : pm_S} (G : List (Nat × Nat)) (h36 : an_inF G 93 36 = false) (h1 : an_inP G 117 = false) (h2 : an_inP G 118 = false) (h3 : an_inP G 119 = false) (h4 : an_inP G 120 = false) (h11 : an_inF G 93 11 = false) (h5 : an_inP G 101 = false) (h6 : an_inP G 102 = false) (hF : FQ G σ τ) (h : pPP σ) : pPP τ := ⟨lwW.fr G h36 h1 h2 h3 h4 hF h.1, unl.fr G h11 h5 h6 hF h.2⟩
abbrev hn_lets : an_S := (201, 41, [(2, 93, 0, 0), (1, 0, 0, 29)], [], (1, 0, 1), [(122, 9999), (123, 9999)], [])
theorem hn_lets_ok : an_sokP pPP pm_B hn_lets := by
  intro σ As hB hP hA _
  match As, hA with
  | [a, b], hA =>
    obtain ⟨h1, ⟨w, e, w1, w2⟩, -⟩ := hA
    have h1 : a = .ref 93 := h1
    rw [h1, e, ← oI w]
    refine (m_lets hB hP.1 w.toInt ⟨w1, w2⟩).use (Nat.le_refl _) (fun r τ q => ?_)
    obtain ⟨q1, q2, q3⟩ := q
    refine ⟨q2, ?_, q3, fun q hq => absurd hq List.not_mem_nil⟩
    rcases q1 with rfl | rfl
    · exact ⟨_, rfl, by decide, by decide⟩
    · exact ⟨_, rfl, by decide, by decide⟩
  | [], hA => exact hA.elim
  | [_], hA => exact hA.2.elim
  | _ :: _ :: _ :: _, hA => exact hA.2.2.elim
abbrev hn_at : an_S := (208, 31, [(2, 93, 0, 0), (1, 0, 0, 9)], [], (0, 0, 0), [(124, 9999), (103, 9999), (107, 9999), (106, 9999), (93, 53)], [])
theorem hn_at_ok : an_sokP pPP pm_B hn_at := by
  intro σ As hB hP hA _
  match As, hA with
  | [a, b], hA =>
    obtain ⟨h1, ⟨w, e, w1, w2⟩, -⟩ := hA
    have h1 : a = .ref 93 := h1
    rw [h1, e, ← oI w]
    refine (m_cancelsAt hB hP.2 ⟨w1, w2⟩).use (Nat.le_refl _) (fun r τ q => ?_)
    obtain ⟨q1, q2, q3⟩ := q
    exact ⟨q2, q1, q3, fun q hq => absurd hq List.not_mem_nil⟩
  | [], hA => exact hA.elim
  | [_], hA => exact hA.2.elim
  | _ :: _ :: _ :: _, hA => exact hA.2.2.elim
/-- Model.pays -/
abbrev sp_pays : an_S := (209, 60, [(2, 93, 0, 0), (1, 0, 0, 29)], [], (0, 0, 0), [(93, 53), (97, 9999), (106, 9999), (107, 9999), (122, 9999), (123, 9999)], [])
set_option maxRecDepth 100000 in
theorem sp_pays_ok : an_sokP pPP pm_B sp_pays := an_sumP (P := pPP) (T := []) (S := [se_82, hn_lets]) (H := []) (f := 132) (fun σ τ h p => pPP.fr [(93, 53), (97, 9999), (106, 9999), (107, 9999), (122, 9999), (123, 9999)] rfl rfl rfl rfl rfl rfl rfl rfl h p) (List.forall_mem_cons.mpr ⟨an_sokP_of se_82_ok, List.forall_mem_cons.mpr ⟨hn_lets_ok, fun _ h => absurd h List.not_mem_nil⟩⟩) (by decide +kernel)
/-- Model.goesBy -/
abbrev sp_goesBy : an_S := (210, 80, [(2, 93, 0, 0)], [], (1, (-2147483648), 2147483647), [(93, 1), (93, 19), (93, 20), (93, 21), (93, 53), (97, 9999), (99, 9999), (100, 9999), (103, 9999), (106, 9999), (107, 9999), (122, 9999), (123, 9999), (124, 9999)], [])
set_option maxRecDepth 100000 in
theorem sp_goesBy_ok : an_sokP pPP pm_B sp_goesBy := an_sumP (P := pPP) (T := []) (S := [se_82, se_83, hn_lets, hn_at, sp_pays]) (H := [(32, [(2, 93, 0, 0), (1, 0, 0, 1), (1, 0, 0, 10), (5, 0, 0, 0)], [], [(2, 2, 30000000010), (0, 0, 1000000000000), (0, 0, 1000000000000), (0, 0, 1000000000000)], []), (49, [(2, 93, 0, 0), (1, 0, 0, 1), (1, 0, 0, 30), (5, 0, 0, 0)], [], [(2, 2, 20000000030), (0, 0, 1000000000000), (0, 0, 1000000000000), (0, 0, 1000000000000)], []), (66, [(2, 93, 0, 0), (1, 0, 0, 1), (1, 0, 0, 30), (5, 0, 0, 0)], [], [(2, 2, 10000000030), (0, 0, 1000000000000), (0, 0, 1000000000000), (0, 0, 1000000000000)], []), (119, [(2, 93, 0, 0), (1, 0, 0, 1), (1, 0, 0, 10), (5, 0, 0, 0)], [], [(2, 2, 10), (0, 0, 1000000000000), (0, 0, 1000000000000), (0, 0, 1000000000000)], [])]) (f := 61) (fun σ τ h p => pPP.fr [(93, 1), (93, 19), (93, 20), (93, 21), (93, 53), (97, 9999), (99, 9999), (100, 9999), (103, 9999), (106, 9999), (107, 9999), (122, 9999), (123, 9999), (124, 9999)] rfl rfl rfl rfl rfl rfl rfl rfl h p) (List.forall_mem_cons.mpr ⟨an_sokP_of se_82_ok, List.forall_mem_cons.mpr ⟨an_sokP_of se_83_ok, List.forall_mem_cons.mpr ⟨hn_lets_ok, List.forall_mem_cons.mpr ⟨hn_at_ok, List.forall_mem_cons.mpr ⟨sp_pays_ok, fun _ h => absurd h List.not_mem_nil⟩⟩⟩⟩⟩) (by decide +kernel)
/-- Model.sunday -/
abbrev sp_sunday : an_S := (211, 90, [(2, 93, 0, 0)], [], (1, (-2147483648), 2147483647), [(93, 0), (93, 1), (93, 19), (93, 20), (93, 21), (93, 53), (97, 9999), (99, 9999), (100, 9999), (103, 9999), (106, 9999), (107, 9999), (122, 9999), (123, 9999), (124, 9999)], [])
set_option maxRecDepth 100000 in
theorem sp_sunday_ok : an_sokP pPP pm_B sp_sunday := an_sumP (P := pPP) (T := []) (S := [se_82, se_83, hn_lets, hn_at, sp_pays, sp_goesBy]) (H := []) (f := 14) (fun σ τ h p => pPP.fr [(93, 0), (93, 1), (93, 19), (93, 20), (93, 21), (93, 53), (97, 9999), (99, 9999), (100, 9999), (103, 9999), (106, 9999), (107, 9999), (122, 9999), (123, 9999), (124, 9999)] rfl rfl rfl rfl rfl rfl rfl rfl h p) (List.forall_mem_cons.mpr ⟨an_sokP_of se_82_ok, List.forall_mem_cons.mpr ⟨an_sokP_of se_83_ok, List.forall_mem_cons.mpr ⟨hn_lets_ok, List.forall_mem_cons.mpr ⟨hn_at_ok, List.forall_mem_cons.mpr ⟨sp_pays_ok, List.forall_mem_cons.mpr ⟨sp_goesBy_ok, fun _ h => absurd h List.not_mem_nil⟩⟩⟩⟩⟩⟩) (by decide +kernel)
/-- Model.pass -/
abbrev sp_pass : an_S := (212, 100, [(2, 93, 0, 0), (1, 0, (-2147483648), 2147483647)], [], (1, (-2147483648), 2147483647), [(93, 0), (93, 1), (93, 19), (93, 20), (93, 21), (93, 53), (97, 9999), (99, 9999), (100, 9999), (103, 9999), (106, 9999), (107, 9999), (122, 9999), (123, 9999), (124, 9999)], [])
set_option maxRecDepth 100000 in
theorem sp_pass_ok : an_sokP pPP pm_B sp_pass := an_sumP (P := pPP) (T := []) (S := [se_82, se_83, hn_lets, hn_at, sp_pays, sp_goesBy]) (H := [(19, [(2, 93, 0, 0), (1, 0, 1, 400), (1, 0, 0, 10), (5, 0, 0, 0)], [], [(2, 2, 10000000010), (0, 0, 1000000000000), (0, 0, 1000000000000), (0, 0, 1000000000000)], []), (37, [(2, 93, 0, 0), (1, 0, 1, 400), (1, 0, (-2147483648), 2147483647), (1, 0, 0, 400)], [], [(2, 3, 400), (0, 0, 1000000000000), (0, 0, 1000000000000), (0, 0, 1000000000000)], [])]) (f := 30) (fun σ τ h p => pPP.fr [(93, 0), (93, 1), (93, 19), (93, 20), (93, 21), (93, 53), (97, 9999), (99, 9999), (100, 9999), (103, 9999), (106, 9999), (107, 9999), (122, 9999), (123, 9999), (124, 9999)] rfl rfl rfl rfl rfl rfl rfl rfl h p) (List.forall_mem_cons.mpr ⟨an_sokP_of se_82_ok, List.forall_mem_cons.mpr ⟨an_sokP_of se_83_ok, List.forall_mem_cons.mpr ⟨hn_lets_ok, List.forall_mem_cons.mpr ⟨hn_at_ok, List.forall_mem_cons.mpr ⟨sp_pays_ok, List.forall_mem_cons.mpr ⟨sp_goesBy_ok, fun _ h => absurd h List.not_mem_nil⟩⟩⟩⟩⟩⟩) (by decide +kernel)
/-- Model.owed -/
abbrev sp_owed : an_S := (215, 90, [(2, 93, 0, 0), (1, 0, (-2147483648), 2147483647), (1, 0, (-2147483648), 2147483647)], [], (1, (-2147483648), 2147483647), [(93, 0), (122, 9999), (123, 9999)], [])
set_option maxRecDepth 100000 in
theorem sp_owed_ok : an_sokP pPP pm_B sp_owed := an_sumP (P := pPP) (T := []) (S := [se_82, hn_lets]) (H := []) (f := 67) (fun σ τ h p => pPP.fr [(93, 0), (122, 9999), (123, 9999)] rfl rfl rfl rfl rfl rfl rfl rfl h p) (List.forall_mem_cons.mpr ⟨an_sokP_of se_82_ok, List.forall_mem_cons.mpr ⟨hn_lets_ok, fun _ h => absurd h List.not_mem_nil⟩⟩) (by decide +kernel)
