/-- Sundays.lawLets -/
abbrev se_36 : an_S := (95, 30, [(2, 74, 0, 0), (1, 0, 0, 29)], [], (1, 0, 1), [(31, 2), (33, 9999), (75, 9999)], [])
set_option maxRecDepth 100000 in
theorem se_36_ok : an_sok pm_B se_36 := an_sum (T := []) (S := [se_4, se_7]) (H := []) (f := 108) (List.forall_mem_cons.mpr ⟨se_4_ok, List.forall_mem_cons.mpr ⟨se_7_ok, fun _ h => absurd h List.not_mem_nil⟩⟩) (by decide +kernel)
/-- Sundays.sendOut -/
abbrev se_37 : an_S := (91, 30, [(2, 74, 0, 0)], [], (0, 0, 0), [(1, 0), (1, 2), (1, 3), (9, 9999), (12, 9999)], [])
set_option maxRecDepth 100000 in
theorem se_37_ok : an_sok pm_B se_37 := an_sum (T := []) (S := []) (H := [(22, [(2, 74, 0, 0), (1, 0, 0, 100), (1, 0, 0, 10)], [], [(2, 2, 10), (0, 0, 1000000000000), (0, 0, 1000000000000), (0, 0, 1000000000000)], [])]) (f := 156) (fun _ h => absurd h List.not_mem_nil) (by decide +kernel)
/-- Sundays.payAll -/
abbrev se_38 : an_S := (93, 40, [(2, 74, 0, 0)], [], (1, (-2147483648), 2147483647), [(9, 9999), (19, 9999), (20, 9999), (31, 2), (33, 9999), (75, 9999)], [])
set_option maxRecDepth 100000 in
theorem se_38_ok : an_sok pm_B se_38 := an_sum (T := []) (S := [se_4, se_7, se_36]) (H := [(4, [(2, 74, 0, 0), (1, 0, (-2147483648), 2147483647), (1, 0, 0, 30), (5, 0, 0, 0), (5, 0, 0, 0)], [], [(2, 2, 30), (0, 0, 1000000000000), (0, 0, 1000000000000), (0, 0, 1000000000000)], [])]) (f := 157) (List.forall_mem_cons.mpr ⟨se_4_ok, List.forall_mem_cons.mpr ⟨se_7_ok, List.forall_mem_cons.mpr ⟨se_36_ok, fun _ h => absurd h List.not_mem_nil⟩⟩⟩) (by decide +kernel)
/-- Sundays.spotsWithTwoDebts -/
abbrev se_39 : an_S := (97, 30, [(2, 74, 0, 0)], [], (1, 0, 1023), [], [])
set_option maxRecDepth 100000 in
theorem se_39_ok : an_sok pm_B se_39 := an_sum (T := []) (S := []) (H := [(6, [(2, 74, 0, 0), (1, 0, 0, 1023), (1, 0, 0, 1023), (1, 0, 0, 30), (5, 0, 0, 0)], [], [(2, 3, 30), (0, 0, 1000000000000), (0, 0, 1000000000000), (0, 0, 1000000000000)], [])]) (f := 91) (fun _ h => absurd h List.not_mem_nil) (by decide +kernel)
/-- Sundays.stepsBetween -/
abbrev se_40 : an_S := (100, 30, [(2, 74, 0, 0), (1, 0, 0, 9), (1, 0, 0, 9)], [], (1, 0, 99), [], [])
set_option maxRecDepth 100000 in
theorem se_40_ok : an_sok pm_B se_40 := an_sum (T := []) (S := []) (H := [(6, [(2, 74, 0, 0), (1, 0, 0, 9), (1, 0, 0, 9), (1, 0, (-2147483648), 2147483647), (1, 0, 0, 10), (5, 0, 0, 0), (5, 0, 0, 0)], [], [(2, 4, 10), (0, 0, 1000000000000), (0, 0, 1000000000000), (0, 0, 1000000000000)], []), (19, [(2, 74, 0, 0), (1, 0, 0, 9), (1, 0, 0, 9), (1, 0, (-2147483648), 2147483647), (1, 0, 0, 9), (1, 0, (-2147483648), 2147483647), (1, 0, 0, 10)], [], [(2, 4, 10), (2, 6, 10), (0, 0, 1000000000000), (0, 0, 1000000000000)], [])]) (f := 34) (fun _ h => absurd h List.not_mem_nil) (by decide +kernel)
/-- Sundays.noteWhoOwes -/
abbrev se_41 : an_S := (99, 30, [(2, 74, 0, 0), (1, 0, 0, 9)], [], (0, 0, 0), [(76, 9999), (77, 9999)], [])
set_option maxRecDepth 100000 in
theorem se_41_ok : an_sok pm_B se_41 := an_sum (T := []) (S := []) (H := [(6, [(2, 74, 0, 0), (1, 0, 0, 9), (1, 0, 0, 30)], [], [(2, 2, 30), (0, 0, 1000000000000), (0, 0, 1000000000000), (0, 0, 1000000000000)], [])]) (f := 111) (fun _ h => absurd h List.not_mem_nil) (by decide +kernel)
/-- Sundays.leastDebtTowards -/
abbrev se_42 : an_S := (102, 35, [(2, 74, 0, 0), (1, 0, 0, 9), (1, 0, 0, 9), (1, 0, (-2147483648), 2147483647)], [], (1, (-1), 29), [], [])
set_option maxRecDepth 100000 in
theorem se_42_ok : an_sok pm_B se_42 := an_sum (T := []) (S := [se_40]) (H := [(2, [(2, 74, 0, 0), (1, 0, 0, 9), (1, 0, 0, 9), (1, 0, (-2147483648), 2147483647), (1, 0, 0, 30), (5, 0, 0, 0)], [], [(2, 4, 30), (0, 0, 1000000000000), (0, 0, 1000000000000), (0, 0, 1000000000000)], [])]) (f := 41) (List.forall_mem_cons.mpr ⟨se_40_ok, fun _ h => absurd h List.not_mem_nil⟩) (by decide +kernel)
/-- Sundays.traceRound -/
abbrev se_43 : an_S := (101, 40, [(2, 74, 0, 0), (1, 0, 0, 29), (1, 0, (-2147483648), 2147483647)], [], (0, 0, 0), [(74, 5), (78, 9999)], [])
set_option maxRecDepth 100000 in
theorem se_43_ok : an_sok pm_B se_43 := an_sum (T := []) (S := [se_40, se_42]) (H := [(26, [(2, 74, 0, 0), (1, 0, 0, 29), (1, 0, (-2147483648), 2147483647), (1, 0, 0, 9), (1, 0, 0, 9), (1, 0, (-2147483648), 2147483647), (5, 0, 0, 0)], [], [(1, 5, 2147483648), (0, 0, 1000000000000), (0, 0, 1000000000000), (0, 0, 1000000000000)], [])]) (f := 44) (List.forall_mem_cons.mpr ⟨se_40_ok, List.forall_mem_cons.mpr ⟨se_42_ok, fun _ h => absurd h List.not_mem_nil⟩⟩) (by decide +kernel)
/-- Sundays.findRound -/
abbrev se_44 : an_S := (98, 50, [(2, 74, 0, 0), (1, 0, 0, 9)], [], (1, 0, 1), [(74, 5), (76, 9999), (77, 9999), (78, 9999)], [])
set_option maxRecDepth 100000 in
theorem se_44_ok : an_sok pm_B se_44 := an_sum (T := []) (S := [se_40, se_41, se_42, se_43]) (H := [(9, [(2, 74, 0, 0), (1, 0, 0, 9), (1, 0, 1, 99), (1, 0, (-1), 29), (1, 0, 0, 30), (5, 0, 0, 0)], [], [(2, 4, 30), (0, 0, 1000000000000), (0, 0, 1000000000000), (0, 0, 1000000000000)], [])]) (f := 41) (List.forall_mem_cons.mpr ⟨se_40_ok, List.forall_mem_cons.mpr ⟨se_41_ok, List.forall_mem_cons.mpr ⟨se_42_ok, List.forall_mem_cons.mpr ⟨se_43_ok, fun _ h => absurd h List.not_mem_nil⟩⟩⟩⟩) (by decide +kernel)
/-- Sundays.cancelRound -/
abbrev se_45 : an_S := (103, 40, [(2, 74, 0, 0)], [], (1, (-2147483648), 2147483647), [(16, 9999), (19, 9999), (20, 9999)], [])
set_option maxRecDepth 100000 in
theorem se_45_ok : an_sok pm_B se_45 := an_sum (T := []) (S := []) (H := [(4, [(2, 74, 0, 0), (1, 0, (-2147483648), 1073741824), (1, 0, 0, 10), (5, 0, 0, 0), (5, 0, 0, 0)], [], [(2, 2, 10000000010), (0, 0, 1000000000000), (0, 0, 1000000000000), (0, 0, 1000000000000)], []), (26, [(2, 74, 0, 0), (1, 0, (-2147483648), 1073741824), (1, 0, (-2147483648), 2147483647), (1, 0, 0, 10), (5, 0, 0, 0)], [], [(2, 3, 10), (0, 0, 1000000000000), (0, 0, 1000000000000), (0, 0, 1000000000000)], [])]) (f := 66) (fun _ h => absurd h List.not_mem_nil) (by decide +kernel)
/-- Sundays.cancelAll -/
abbrev se_46 : an_S := (96, 60, [(2, 74, 0, 0)], [], (1, (-2147483648), 2147483647), [(16, 9999), (19, 9999), (20, 9999), (74, 5), (76, 9999), (77, 9999), (78, 9999)], [])
set_option maxRecDepth 100000 in
theorem se_46_ok : an_sok pm_B se_46 := an_sum (T := []) (S := [se_39, se_40, se_41, se_42, se_43, se_44, se_45]) (H := [(7, [(2, 74, 0, 0), (1, 0, (-2147483648), 2147483647), (1, 0, 0, 1023), (1, 0, 0, 10), (5, 0, 0, 0)], [], [(2, 3, 10), (0, 0, 1000000000000), (0, 0, 1000000000000), (0, 0, 1000000000000)], []), (15, [(2, 74, 0, 0), (1, 0, (-2147483648), 2147483647), (1, 0, 0, 1023), (1, 0, 0, 9), (1, 0, 0, 30)], [], [(2, 3, 10), (2, 4, 30), (0, 0, 1000000000000), (0, 0, 1000000000000)], [])]) (f := 32) (List.forall_mem_cons.mpr ⟨se_39_ok, List.forall_mem_cons.mpr ⟨se_40_ok, List.forall_mem_cons.mpr ⟨se_41_ok, List.forall_mem_cons.mpr ⟨se_42_ok, List.forall_mem_cons.mpr ⟨se_43_ok, List.forall_mem_cons.mpr ⟨se_44_ok, List.forall_mem_cons.mpr ⟨se_45_ok, fun _ h => absurd h List.not_mem_nil⟩⟩⟩⟩⟩⟩⟩) (by decide +kernel)
/-- Sundays.goBy -/
abbrev se_47 : an_S := (90, 70, [(2, 74, 0, 0)], [], (1, (-2147483648), 2147483647), [(1, 0), (1, 1), (1, 2), (1, 3), (9, 9999), (11, 9999), (12, 9999), (16, 9999), (19, 9999), (20, 9999), (31, 2), (33, 9999), (74, 5), (75, 9999), (76, 9999), (77, 9999), (78, 9999)], [])
set_option maxRecDepth 100000 in
theorem se_47_ok : an_sok pm_B se_47 := an_sum (T := []) (S := [se_3, se_4, se_7, se_36, se_37, se_38, se_39, se_40, se_41, se_42, se_43, se_44, se_45, se_46]) (H := []) (f := 69) (List.forall_mem_cons.mpr ⟨se_3_ok, List.forall_mem_cons.mpr ⟨se_4_ok, List.forall_mem_cons.mpr ⟨se_7_ok, List.forall_mem_cons.mpr ⟨se_36_ok, List.forall_mem_cons.mpr ⟨se_37_ok, List.forall_mem_cons.mpr ⟨se_38_ok, List.forall_mem_cons.mpr ⟨se_39_ok, List.forall_mem_cons.mpr ⟨se_40_ok, List.forall_mem_cons.mpr ⟨se_41_ok, List.forall_mem_cons.mpr ⟨se_42_ok, List.forall_mem_cons.mpr ⟨se_43_ok, List.forall_mem_cons.mpr ⟨se_44_ok, List.forall_mem_cons.mpr ⟨se_45_ok, List.forall_mem_cons.mpr ⟨se_46_ok, fun _ h => absurd h List.not_mem_nil⟩⟩⟩⟩⟩⟩⟩⟩⟩⟩⟩⟩⟩⟩) (by decide +kernel)
/-- PaidWhereMade.pass -/
abbrev se_48 : an_S := (140, 80, [(2, 0, 0, 0), (1, 0, (-2147483648), 2147483647)], [], (1, (-2147483648), 2147483647), [(1, 0), (1, 1), (1, 2), (1, 3), (9, 9999), (11, 9999), (12, 9999), (16, 9999), (19, 9999), (20, 9999), (31, 2), (33, 9999), (74, 5), (75, 9999), (76, 9999), (77, 9999), (78, 9999)], [])
set_option maxRecDepth 100000 in
theorem se_48_ok : an_sok pm_B se_48 := an_sum (T := []) (S := [se_3, se_4, se_7, se_36, se_37, se_38, se_39, se_40, se_41, se_42, se_43, se_44, se_45, se_46, se_47]) (H := [(23, [(2, 0, 0, 0), (1, 0, 1, 400), (1, 0, (-2147483648), 2147483647), (1, 0, 0, 400)], [], [(2, 3, 400), (0, 0, 1000000000000), (0, 0, 1000000000000), (0, 0, 1000000000000)], [])]) (f := 42) (List.forall_mem_cons.mpr ⟨se_3_ok, List.forall_mem_cons.mpr ⟨se_4_ok, List.forall_mem_cons.mpr ⟨se_7_ok, List.forall_mem_cons.mpr ⟨se_36_ok, List.forall_mem_cons.mpr ⟨se_37_ok, List.forall_mem_cons.mpr ⟨se_38_ok, List.forall_mem_cons.mpr ⟨se_39_ok, List.forall_mem_cons.mpr ⟨se_40_ok, List.forall_mem_cons.mpr ⟨se_41_ok, List.forall_mem_cons.mpr ⟨se_42_ok, List.forall_mem_cons.mpr ⟨se_43_ok, List.forall_mem_cons.mpr ⟨se_44_ok, List.forall_mem_cons.mpr ⟨se_45_ok, List.forall_mem_cons.mpr ⟨se_46_ok, List.forall_mem_cons.mpr ⟨se_47_ok, fun _ h => absurd h List.not_mem_nil⟩⟩⟩⟩⟩⟩⟩⟩⟩⟩⟩⟩⟩⟩⟩) (by decide +kernel)
/-- Plans.gatherOpen -/
abbrev se_49 : an_S := (69, 30, [(2, 79, 0, 0), (1, 0, (-2147483648), 2147483647), (1, 0, 8, 8)], [], (1, 0, 1), [(79, 2), (80, 9999)], [(79, 2, 0, 8)])
set_option maxRecDepth 100000 in
theorem se_49_ok : an_sok pm_B se_49 := an_sum (T := []) (S := []) (H := [(5, [(2, 79, 0, 0), (1, 0, (-2147483648), 2147483647), (1, 0, 8, 8), (1, 0, 0, 30)], [(79, 2, 0, 8)], [(2, 3, 30), (0, 0, 1000000000000), (0, 0, 1000000000000), (0, 0, 1000000000000)], [])]) (f := 65) (fun _ h => absurd h List.not_mem_nil) (by decide +kernel)
/-- Plans.gatherOpen -/
abbrev se_50 : an_S := (69, 30, [(2, 79, 0, 0), (1, 0, (-2147483648), 2147483647), (1, 0, 10, 10)], [], (1, 0, 1), [(79, 2), (80, 9999)], [])
set_option maxRecDepth 100000 in
theorem se_50_ok : an_sok pm_B se_50 := an_sum (T := []) (S := []) (H := [(5, [(2, 79, 0, 0), (1, 0, (-2147483648), 2147483647), (1, 0, 10, 10), (1, 0, 0, 30)], [], [(2, 3, 30), (0, 0, 1000000000000), (0, 0, 1000000000000), (0, 0, 1000000000000)], [])]) (f := 65) (fun _ h => absurd h List.not_mem_nil) (by decide +kernel)
/-- Plans.noteClashes -/
abbrev se_51 : an_S := (70, 30, [(2, 79, 0, 0)], [], (0, 0, 0), [(81, 9999)], [])
set_option maxRecDepth 100000 in
theorem se_51_ok : an_sok pm_B se_51 := an_sum (T := []) (S := []) (H := [(2, [(2, 79, 0, 0), (1, 0, 0, 10), (5, 0, 0, 0), (5, 0, 0, 0)], [], [(2, 1, 10), (0, 0, 1000000000000), (0, 0, 1000000000000), (0, 0, 1000000000000)], []), (13, [(2, 79, 0, 0), (1, 0, 0, 9), (1, 0, 0, 10), (5, 0, 0, 0)], [], [(2, 1, 10), (2, 2, 10), (0, 0, 1000000000000), (0, 0, 1000000000000)], [])]) (f := 97) (fun _ h => absurd h List.not_mem_nil) (by decide +kernel)
/-- Plans.fewestSundays -/
abbrev se_52 : an_S := (72, 30, [(2, 79, 0, 0), (1, 0, 0, 1023), (1, 0, 0, 1023)], [], (1, (-2147483648), 10), [], [])
set_option maxRecDepth 100000 in
theorem se_52_ok : an_sok pm_B se_52 := an_sum (T := []) (S := []) (H := [(4, [(2, 79, 0, 0), (1, 0, 0, 1023), (1, 0, 0, 1023), (1, 0, (-2147483648), 10), (1, 0, 0, 1023)], [], [(1, 4, 0), (0, 0, 1000000000000), (0, 0, 1000000000000), (0, 0, 1000000000000)], [])]) (f := 33) (fun _ h => absurd h List.not_mem_nil) (by decide +kernel)
/-- Plans.greatestSet -/
abbrev se_53 : an_S := (74, 30, [(2, 79, 0, 0), (1, 0, 0, 1023)], [], (1, 0, 1023), [], [])
set_option maxRecDepth 100000 in
theorem se_53_ok : an_sok pm_B se_53 := an_sum (T := []) (S := []) (H := [(2, [(2, 79, 0, 0), (1, 0, 0, 1023), (1, 0, 0, 1023)], [], [(1, 2, 0), (0, 0, 1000000000000), (0, 0, 1000000000000), (0, 0, 1000000000000)], [])]) (f := 33) (fun _ h => absurd h List.not_mem_nil) (by decide +kernel)
