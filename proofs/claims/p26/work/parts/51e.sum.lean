/-- Plans.leastBehind -/
abbrev se_72 : an_S := (77, 30, [(2, 79, 0, 0), (1, 0, 0, 254)], [(79, 2, 0, 8)], (1, (-2147483648), 1073741824), [], [])
set_option maxRecDepth 100000 in
theorem se_72_ok : an_sok pm_B se_72 := an_sum (T := []) (S := [se_70]) (H := [(4, [(2, 79, 0, 0), (1, 0, 0, 254), (1, 0, (-2147483648), 1073741824), (1, 0, 0, 8)], [(79, 2, 0, 8)], [(2, 3, 8), (0, 0, 1000000000000), (0, 0, 1000000000000), (0, 0, 1000000000000)], [])]) (f := 49) (List.forall_mem_cons.mpr ⟨se_70_ok, fun _ h => absurd h List.not_mem_nil⟩) (by decide +kernel)
/-- Plans.firstOfLeast -/
abbrev se_73 : an_S := (80, 30, [(2, 79, 0, 0), (1, 0, 0, 255)], [(79, 2, 0, 8)], (1, 0, 7), [], [])
set_option maxRecDepth 100000 in
theorem se_73_0 : an_sok pm_B (80, 30, [(2, 79, 0, 0), (1, 0, 0, 254)], [(79, 2, 0, 8)], (1, 0, 7), [], []) := an_sum (T := []) (S := [se_70]) (H := [(2, [(2, 79, 0, 0), (1, 0, 0, 254), (1, 0, 0, 8)], [(79, 2, 0, 8)], [(2, 2, 8), (0, 0, 1000000000000), (0, 0, 1000000000000), (0, 0, 1000000000000)], [])]) (f := 51) (List.forall_mem_cons.mpr ⟨se_70_ok, fun _ h => absurd h List.not_mem_nil⟩) (by decide +kernel)
set_option maxRecDepth 100000 in
theorem se_73_1 : an_sok pm_B (80, 30, [(2, 79, 0, 0), (1, 0, 255, 255)], [(79, 2, 0, 8)], (1, 0, 7), [], []) := an_sum (T := []) (S := [se_70]) (H := []) (f := 172) (List.forall_mem_cons.mpr ⟨se_70_ok, fun _ h => absurd h List.not_mem_nil⟩) (by decide +kernel)
theorem se_73_ok : an_sok pm_B se_73 := an_split 1 rfl se_73_0 se_73_1
/-- Plans.debtInOrder -/
abbrev se_74 : an_S := (79, 40, [(2, 79, 0, 0), (1, 0, (-2147483648), 2147483647)], [(79, 2, 0, 8)], (1, (-1), 29), [], [])
set_option maxRecDepth 100000 in
theorem se_74_ok : an_sok pm_B se_74 := an_sum (T := []) (S := [se_70, se_73]) (H := [(6, [(2, 79, 0, 0), (1, 0, (-2147483648), 2147483647), (1, 0, 0, 255), (1, 0, (-1), 7), (1, 0, 0, 8)], [(79, 2, 0, 8)], [(2, 4, 8), (0, 0, 1000000000000), (0, 0, 1000000000000), (0, 0, 1000000000000)], [])]) (f := 23) (List.forall_mem_cons.mpr ⟨se_70_ok, List.forall_mem_cons.mpr ⟨se_73_ok, fun _ h => absurd h List.not_mem_nil⟩⟩) (by decide +kernel)
/-- Plans.paying -/
abbrev se_75 : an_S := (75, 50, [(2, 79, 0, 0), (1, 0, (-2147483648), 2147483647), (1, 0, (-2147483648), 2147483647)], [], (1, (-2147483648), 2147483647), [(79, 2), (80, 9999), (83, 9999), (84, 9999)], [])
set_option maxRecDepth 100000 in
theorem se_75_ok : an_sok pm_B se_75 := an_sum (T := []) (S := [se_49, se_50, se_55, se_70, se_72, se_73, se_74]) (H := [(25, [(2, 79, 0, 0), (1, 0, (-2147483648), 2147483647), (1, 0, (-2147483648), 2147483647), (1, 0, 0, 255), (1, 0, (-1), 254)], [(79, 2, 0, 8)], [(1, 4, 1), (0, 0, 1000000000000), (0, 0, 1000000000000), (0, 0, 1000000000000)], [])]) (f := 27) (List.forall_mem_cons.mpr ⟨se_49_ok, List.forall_mem_cons.mpr ⟨se_50_ok, List.forall_mem_cons.mpr ⟨se_55_ok, List.forall_mem_cons.mpr ⟨se_70_ok, List.forall_mem_cons.mpr ⟨se_72_ok, List.forall_mem_cons.mpr ⟨se_73_ok, List.forall_mem_cons.mpr ⟨se_74_ok, fun _ h => absurd h List.not_mem_nil⟩⟩⟩⟩⟩⟩⟩) (by decide +kernel)
/-- Plans.clearing -/
abbrev se_76 : an_S := (68, 50, [(2, 79, 0, 0), (1, 0, (-2147483648), 2147483647)], [], (1, (-2147483648), 2147483647), [(79, 2), (80, 9999), (81, 9999), (82, 9999), (83, 9999)], [])
set_option maxRecDepth 100000 in
theorem se_76_ok : an_sok pm_B se_76 := an_sum (T := []) (S := [se_49, se_50, se_51, se_52, se_53, se_54, se_70, se_71]) (H := []) (f := 42) (List.forall_mem_cons.mpr ⟨se_49_ok, List.forall_mem_cons.mpr ⟨se_50_ok, List.forall_mem_cons.mpr ⟨se_51_ok, List.forall_mem_cons.mpr ⟨se_52_ok, List.forall_mem_cons.mpr ⟨se_53_ok, List.forall_mem_cons.mpr ⟨se_54_ok, List.forall_mem_cons.mpr ⟨se_70_ok, List.forall_mem_cons.mpr ⟨se_71_ok, fun _ h => absurd h List.not_mem_nil⟩⟩⟩⟩⟩⟩⟩⟩) (by decide +kernel)
/-- Tours.sumOverOrders -/
abbrev se_77 : an_S := (110, 50, [(2, 85, 0, 0), (1, 0, (-2147483648), 2147483647), (1, 0, (-2147483648), 2147483647), (1, 0, 0, 6)], [], (1, (-2147483648), 2147483647), [], [])
set_option maxRecDepth 100000 in
theorem se_77_ok : an_sok pm_B se_77 := an_sum (T := []) (S := [se_5, se_59, se_60, se_70]) (H := [(4, [(2, 85, 0, 0), (1, 0, (-2147483648), 2147483647), (1, 0, (-2147483648), 2147483647), (1, 0, 0, 6), (1, 0, (-2147483648), 2147483647), (1, 0, (-2147483648), 2147483647), (5, 0, 0, 0), (5, 0, 0, 0)], [], [(1, 5, 2147483648), (0, 0, 1000000000000), (0, 0, 1000000000000), (0, 0, 1000000000000)], [])]) (f := 59) (List.forall_mem_cons.mpr ⟨se_5_ok, List.forall_mem_cons.mpr ⟨se_59_ok, List.forall_mem_cons.mpr ⟨se_60_ok, List.forall_mem_cons.mpr ⟨se_70_ok, fun _ h => absurd h List.not_mem_nil⟩⟩⟩⟩) (by decide +kernel)
/-- Tours.coachShare -/
abbrev se_78 : an_S := (109, 60, [(2, 85, 0, 0), (1, 0, 0, 9), (1, 0, (-2147483648), 2147483647), (1, 0, (-2147483648), 2147483647), (1, 0, 0, 1)], [], (1, (-2147483648), 2147483647), [(85, 1), (86, 9999), (87, 9999), (88, 9999), (89, 9999)], [])
set_option maxRecDepth 100000 in
theorem se_78_ok : an_sok pm_B se_78 := an_sum (T := []) (S := [se_5, se_56, se_57, se_58, se_59, se_60, se_61, se_70, se_77]) (H := []) (f := 61) (List.forall_mem_cons.mpr ⟨se_5_ok, List.forall_mem_cons.mpr ⟨se_56_ok, List.forall_mem_cons.mpr ⟨se_57_ok, List.forall_mem_cons.mpr ⟨se_58_ok, List.forall_mem_cons.mpr ⟨se_59_ok, List.forall_mem_cons.mpr ⟨se_60_ok, List.forall_mem_cons.mpr ⟨se_61_ok, List.forall_mem_cons.mpr ⟨se_70_ok, List.forall_mem_cons.mpr ⟨se_77_ok, fun _ h => absurd h List.not_mem_nil⟩⟩⟩⟩⟩⟩⟩⟩⟩) (by decide +kernel)
