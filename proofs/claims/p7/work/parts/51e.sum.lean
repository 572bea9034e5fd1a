/-- Tours.coachShare -/
abbrev se_72 : an_S := (109, 60, [(2, 85, 0, 0), (1, 0, 0, 9), (1, 0, (-2147483648), 2147483647), (1, 0, (-2147483648), 2147483647), (1, 0, 0, 1)], [], (1, (-2147483648), 2147483647), [(85, 1), (86, 9999), (87, 9999), (88, 9999), (89, 9999)], [])
set_option maxRecDepth 100000 in
theorem se_72_ok : an_sok pm_B se_72 := an_sum (T := []) (S := [se_5, se_58, se_60, se_61, se_70, se_71]) (H := []) (f := 61) (List.forall_mem_cons.mpr ⟨se_5_ok, List.forall_mem_cons.mpr ⟨se_58_ok, List.forall_mem_cons.mpr ⟨se_60_ok, List.forall_mem_cons.mpr ⟨se_61_ok, List.forall_mem_cons.mpr ⟨se_70_ok, List.forall_mem_cons.mpr ⟨se_71_ok, fun _ h => absurd h List.not_mem_nil⟩⟩⟩⟩⟩⟩) (by decide +kernel)
