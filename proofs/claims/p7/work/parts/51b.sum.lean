/-- LawReader.readAny -/
abbrev se_18 : an_S := (32, 35, [(2, 67, 0, 0), (1, 0, 8, 8)], [], (0, 0, 0), [(67, 0), (67, 1), (67, 8), (67, 9), (69, 1), (70, 9999)], [])
set_option maxRecDepth 100000 in
theorem se_18_ok : an_sok pm_B se_18 := an_sum (T := []) (S := [se_17]) (H := [(7, [(2, 67, 0, 0), (1, 0, 8, 8), (1, 0, 0, 1), (1, 0, 0, 400), (5, 0, 0, 0)], [], [(2, 3, 400), (0, 0, 1000000000000), (0, 0, 1000000000000), (0, 0, 1000000000000)], [])]) (f := 88) (List.forall_mem_cons.mpr ⟨se_17_ok, fun _ h => absurd h List.not_mem_nil⟩) (by decide +kernel)
/-- LawReader.readCondition -/
abbrev se_19 : an_S := (33, 40, [(2, 67, 0, 0), (1, 0, 7, 7)], [], (0, 0, 0), [(67, 0), (67, 1), (67, 8), (67, 9), (69, 1), (70, 9999)], [])
set_option maxRecDepth 100000 in
theorem se_19_ok : an_sok pm_B se_19 := an_sum (T := []) (S := [se_15, se_17, se_18]) (H := []) (f := 84) (List.forall_mem_cons.mpr ⟨se_15_ok, List.forall_mem_cons.mpr ⟨se_17_ok, List.forall_mem_cons.mpr ⟨se_18_ok, fun _ h => absurd h List.not_mem_nil⟩⟩⟩) (by decide +kernel)
/-- LawReader.readAny -/
abbrev se_20 : an_S := (32, 45, [(2, 67, 0, 0), (1, 0, 7, 7)], [], (0, 0, 0), [(67, 0), (67, 1), (67, 8), (67, 9), (69, 1), (70, 9999)], [])
set_option maxRecDepth 100000 in
theorem se_20_ok : an_sok pm_B se_20 := an_sum (T := []) (S := [se_17, se_19]) (H := [(7, [(2, 67, 0, 0), (1, 0, 7, 7), (1, 0, 0, 1), (1, 0, 0, 400), (5, 0, 0, 0)], [], [(2, 3, 400), (0, 0, 1000000000000), (0, 0, 1000000000000), (0, 0, 1000000000000)], [])]) (f := 88) (List.forall_mem_cons.mpr ⟨se_17_ok, List.forall_mem_cons.mpr ⟨se_19_ok, fun _ h => absurd h List.not_mem_nil⟩⟩) (by decide +kernel)
/-- LawReader.readCondition -/
abbrev se_21 : an_S := (33, 50, [(2, 67, 0, 0), (1, 0, 6, 6)], [], (0, 0, 0), [(67, 0), (67, 1), (67, 8), (67, 9), (69, 1), (70, 9999)], [])
set_option maxRecDepth 100000 in
theorem se_21_ok : an_sok pm_B se_21 := an_sum (T := []) (S := [se_15, se_17, se_18, se_19, se_20]) (H := []) (f := 84) (List.forall_mem_cons.mpr ⟨se_15_ok, List.forall_mem_cons.mpr ⟨se_17_ok, List.forall_mem_cons.mpr ⟨se_18_ok, List.forall_mem_cons.mpr ⟨se_19_ok, List.forall_mem_cons.mpr ⟨se_20_ok, fun _ h => absurd h List.not_mem_nil⟩⟩⟩⟩⟩) (by decide +kernel)
/-- LawReader.readAny -/
abbrev se_22 : an_S := (32, 55, [(2, 67, 0, 0), (1, 0, 6, 6)], [], (0, 0, 0), [(67, 0), (67, 1), (67, 8), (67, 9), (69, 1), (70, 9999)], [])
set_option maxRecDepth 100000 in
theorem se_22_ok : an_sok pm_B se_22 := an_sum (T := []) (S := [se_17, se_19, se_21]) (H := [(7, [(2, 67, 0, 0), (1, 0, 6, 6), (1, 0, 0, 1), (1, 0, 0, 400), (5, 0, 0, 0)], [], [(2, 3, 400), (0, 0, 1000000000000), (0, 0, 1000000000000), (0, 0, 1000000000000)], [])]) (f := 88) (List.forall_mem_cons.mpr ⟨se_17_ok, List.forall_mem_cons.mpr ⟨se_19_ok, List.forall_mem_cons.mpr ⟨se_21_ok, fun _ h => absurd h List.not_mem_nil⟩⟩⟩) (by decide +kernel)
/-- LawReader.readCondition -/
abbrev se_23 : an_S := (33, 60, [(2, 67, 0, 0), (1, 0, 5, 5)], [], (0, 0, 0), [(67, 0), (67, 1), (67, 8), (67, 9), (69, 1), (70, 9999)], [])
set_option maxRecDepth 100000 in
theorem se_23_ok : an_sok pm_B se_23 := an_sum (T := []) (S := [se_15, se_17, se_18, se_19, se_20, se_21, se_22]) (H := []) (f := 84) (List.forall_mem_cons.mpr ⟨se_15_ok, List.forall_mem_cons.mpr ⟨se_17_ok, List.forall_mem_cons.mpr ⟨se_18_ok, List.forall_mem_cons.mpr ⟨se_19_ok, List.forall_mem_cons.mpr ⟨se_20_ok, List.forall_mem_cons.mpr ⟨se_21_ok, List.forall_mem_cons.mpr ⟨se_22_ok, fun _ h => absurd h List.not_mem_nil⟩⟩⟩⟩⟩⟩⟩) (by decide +kernel)
/-- LawReader.readAny -/
abbrev se_24 : an_S := (32, 65, [(2, 67, 0, 0), (1, 0, 5, 5)], [], (0, 0, 0), [(67, 0), (67, 1), (67, 8), (67, 9), (69, 1), (70, 9999)], [])
set_option maxRecDepth 100000 in
theorem se_24_ok : an_sok pm_B se_24 := an_sum (T := []) (S := [se_17, se_19, se_21, se_23]) (H := [(7, [(2, 67, 0, 0), (1, 0, 5, 5), (1, 0, 0, 1), (1, 0, 0, 400), (5, 0, 0, 0)], [], [(2, 3, 400), (0, 0, 1000000000000), (0, 0, 1000000000000), (0, 0, 1000000000000)], [])]) (f := 88) (List.forall_mem_cons.mpr ⟨se_17_ok, List.forall_mem_cons.mpr ⟨se_19_ok, List.forall_mem_cons.mpr ⟨se_21_ok, List.forall_mem_cons.mpr ⟨se_23_ok, fun _ h => absurd h List.not_mem_nil⟩⟩⟩⟩) (by decide +kernel)
/-- LawReader.readCondition -/
abbrev se_25 : an_S := (33, 70, [(2, 67, 0, 0), (1, 0, 4, 4)], [], (0, 0, 0), [(67, 0), (67, 1), (67, 8), (67, 9), (69, 1), (70, 9999)], [])
set_option maxRecDepth 100000 in
theorem se_25_ok : an_sok pm_B se_25 := an_sum (T := []) (S := [se_15, se_17, se_18, se_19, se_20, se_21, se_22, se_23, se_24]) (H := []) (f := 84) (List.forall_mem_cons.mpr ⟨se_15_ok, List.forall_mem_cons.mpr ⟨se_17_ok, List.forall_mem_cons.mpr ⟨se_18_ok, List.forall_mem_cons.mpr ⟨se_19_ok, List.forall_mem_cons.mpr ⟨se_20_ok, List.forall_mem_cons.mpr ⟨se_21_ok, List.forall_mem_cons.mpr ⟨se_22_ok, List.forall_mem_cons.mpr ⟨se_23_ok, List.forall_mem_cons.mpr ⟨se_24_ok, fun _ h => absurd h List.not_mem_nil⟩⟩⟩⟩⟩⟩⟩⟩⟩) (by decide +kernel)
/-- LawReader.readAny -/
abbrev se_26 : an_S := (32, 75, [(2, 67, 0, 0), (1, 0, 4, 4)], [], (0, 0, 0), [(67, 0), (67, 1), (67, 8), (67, 9), (69, 1), (70, 9999)], [])
set_option maxRecDepth 100000 in
theorem se_26_ok : an_sok pm_B se_26 := an_sum (T := []) (S := [se_17, se_19, se_21, se_23, se_25]) (H := [(7, [(2, 67, 0, 0), (1, 0, 4, 4), (1, 0, 0, 1), (1, 0, 0, 400), (5, 0, 0, 0)], [], [(2, 3, 400), (0, 0, 1000000000000), (0, 0, 1000000000000), (0, 0, 1000000000000)], [])]) (f := 88) (List.forall_mem_cons.mpr ⟨se_17_ok, List.forall_mem_cons.mpr ⟨se_19_ok, List.forall_mem_cons.mpr ⟨se_21_ok, List.forall_mem_cons.mpr ⟨se_23_ok, List.forall_mem_cons.mpr ⟨se_25_ok, fun _ h => absurd h List.not_mem_nil⟩⟩⟩⟩⟩) (by decide +kernel)
/-- LawReader.readCondition -/
abbrev se_27 : an_S := (33, 80, [(2, 67, 0, 0), (1, 0, 3, 3)], [], (0, 0, 0), [(67, 0), (67, 1), (67, 8), (67, 9), (69, 1), (70, 9999)], [])
set_option maxRecDepth 100000 in
theorem se_27_ok : an_sok pm_B se_27 := an_sum (T := []) (S := [se_15, se_17, se_18, se_19, se_20, se_21, se_22, se_23, se_24, se_25, se_26]) (H := []) (f := 84) (List.forall_mem_cons.mpr ⟨se_15_ok, List.forall_mem_cons.mpr ⟨se_17_ok, List.forall_mem_cons.mpr ⟨se_18_ok, List.forall_mem_cons.mpr ⟨se_19_ok, List.forall_mem_cons.mpr ⟨se_20_ok, List.forall_mem_cons.mpr ⟨se_21_ok, List.forall_mem_cons.mpr ⟨se_22_ok, List.forall_mem_cons.mpr ⟨se_23_ok, List.forall_mem_cons.mpr ⟨se_24_ok, List.forall_mem_cons.mpr ⟨se_25_ok, List.forall_mem_cons.mpr ⟨se_26_ok, fun _ h => absurd h List.not_mem_nil⟩⟩⟩⟩⟩⟩⟩⟩⟩⟩⟩) (by decide +kernel)
/-- LawReader.readAny -/
abbrev se_28 : an_S := (32, 85, [(2, 67, 0, 0), (1, 0, 3, 3)], [], (0, 0, 0), [(67, 0), (67, 1), (67, 8), (67, 9), (69, 1), (70, 9999)], [])
set_option maxRecDepth 100000 in
theorem se_28_ok : an_sok pm_B se_28 := an_sum (T := []) (S := [se_17, se_19, se_21, se_23, se_25, se_27]) (H := [(7, [(2, 67, 0, 0), (1, 0, 3, 3), (1, 0, 0, 1), (1, 0, 0, 400), (5, 0, 0, 0)], [], [(2, 3, 400), (0, 0, 1000000000000), (0, 0, 1000000000000), (0, 0, 1000000000000)], [])]) (f := 88) (List.forall_mem_cons.mpr ⟨se_17_ok, List.forall_mem_cons.mpr ⟨se_19_ok, List.forall_mem_cons.mpr ⟨se_21_ok, List.forall_mem_cons.mpr ⟨se_23_ok, List.forall_mem_cons.mpr ⟨se_25_ok, List.forall_mem_cons.mpr ⟨se_27_ok, fun _ h => absurd h List.not_mem_nil⟩⟩⟩⟩⟩⟩) (by decide +kernel)
/-- LawReader.readCondition -/
abbrev se_29 : an_S := (33, 90, [(2, 67, 0, 0), (1, 0, 2, 2)], [], (0, 0, 0), [(67, 0), (67, 1), (67, 8), (67, 9), (69, 1), (70, 9999)], [])
set_option maxRecDepth 100000 in
theorem se_29_ok : an_sok pm_B se_29 := an_sum (T := []) (S := [se_15, se_17, se_18, se_19, se_20, se_21, se_22, se_23, se_24, se_25, se_26, se_27, se_28]) (H := []) (f := 84) (List.forall_mem_cons.mpr ⟨se_15_ok, List.forall_mem_cons.mpr ⟨se_17_ok, List.forall_mem_cons.mpr ⟨se_18_ok, List.forall_mem_cons.mpr ⟨se_19_ok, List.forall_mem_cons.mpr ⟨se_20_ok, List.forall_mem_cons.mpr ⟨se_21_ok, List.forall_mem_cons.mpr ⟨se_22_ok, List.forall_mem_cons.mpr ⟨se_23_ok, List.forall_mem_cons.mpr ⟨se_24_ok, List.forall_mem_cons.mpr ⟨se_25_ok, List.forall_mem_cons.mpr ⟨se_26_ok, List.forall_mem_cons.mpr ⟨se_27_ok, List.forall_mem_cons.mpr ⟨se_28_ok, fun _ h => absurd h List.not_mem_nil⟩⟩⟩⟩⟩⟩⟩⟩⟩⟩⟩⟩⟩) (by decide +kernel)
/-- LawReader.readAny -/
abbrev se_30 : an_S := (32, 95, [(2, 67, 0, 0), (1, 0, 2, 2)], [], (0, 0, 0), [(67, 0), (67, 1), (67, 8), (67, 9), (69, 1), (70, 9999)], [])
set_option maxRecDepth 100000 in
theorem se_30_ok : an_sok pm_B se_30 := an_sum (T := []) (S := [se_17, se_19, se_21, se_23, se_25, se_27, se_29]) (H := [(7, [(2, 67, 0, 0), (1, 0, 2, 2), (1, 0, 0, 1), (1, 0, 0, 400), (5, 0, 0, 0)], [], [(2, 3, 400), (0, 0, 1000000000000), (0, 0, 1000000000000), (0, 0, 1000000000000)], [])]) (f := 88) (List.forall_mem_cons.mpr ⟨se_17_ok, List.forall_mem_cons.mpr ⟨se_19_ok, List.forall_mem_cons.mpr ⟨se_21_ok, List.forall_mem_cons.mpr ⟨se_23_ok, List.forall_mem_cons.mpr ⟨se_25_ok, List.forall_mem_cons.mpr ⟨se_27_ok, List.forall_mem_cons.mpr ⟨se_29_ok, fun _ h => absurd h List.not_mem_nil⟩⟩⟩⟩⟩⟩⟩) (by decide +kernel)
/-- LawReader.readCondition -/
abbrev se_31 : an_S := (33, 100, [(2, 67, 0, 0), (1, 0, 1, 1)], [], (0, 0, 0), [(67, 0), (67, 1), (67, 8), (67, 9), (69, 1), (70, 9999)], [])
set_option maxRecDepth 100000 in
theorem se_31_ok : an_sok pm_B se_31 := an_sum (T := []) (S := [se_15, se_17, se_18, se_19, se_20, se_21, se_22, se_23, se_24, se_25, se_26, se_27, se_28, se_29, se_30]) (H := []) (f := 84) (List.forall_mem_cons.mpr ⟨se_15_ok, List.forall_mem_cons.mpr ⟨se_17_ok, List.forall_mem_cons.mpr ⟨se_18_ok, List.forall_mem_cons.mpr ⟨se_19_ok, List.forall_mem_cons.mpr ⟨se_20_ok, List.forall_mem_cons.mpr ⟨se_21_ok, List.forall_mem_cons.mpr ⟨se_22_ok, List.forall_mem_cons.mpr ⟨se_23_ok, List.forall_mem_cons.mpr ⟨se_24_ok, List.forall_mem_cons.mpr ⟨se_25_ok, List.forall_mem_cons.mpr ⟨se_26_ok, List.forall_mem_cons.mpr ⟨se_27_ok, List.forall_mem_cons.mpr ⟨se_28_ok, List.forall_mem_cons.mpr ⟨se_29_ok, List.forall_mem_cons.mpr ⟨se_30_ok, fun _ h => absurd h List.not_mem_nil⟩⟩⟩⟩⟩⟩⟩⟩⟩⟩⟩⟩⟩⟩⟩) (by decide +kernel)
/-- LawReader.readAny -/
abbrev se_32 : an_S := (32, 105, [(2, 67, 0, 0), (1, 0, 1, 1)], [], (0, 0, 0), [(67, 0), (67, 1), (67, 8), (67, 9), (69, 1), (70, 9999)], [])
set_option maxRecDepth 100000 in
theorem se_32_ok : an_sok pm_B se_32 := an_sum (T := []) (S := [se_17, se_19, se_21, se_23, se_25, se_27, se_29, se_31]) (H := [(7, [(2, 67, 0, 0), (1, 0, 1, 1), (1, 0, 0, 1), (1, 0, 0, 400), (5, 0, 0, 0)], [], [(2, 3, 400), (0, 0, 1000000000000), (0, 0, 1000000000000), (0, 0, 1000000000000)], [])]) (f := 88) (List.forall_mem_cons.mpr ⟨se_17_ok, List.forall_mem_cons.mpr ⟨se_19_ok, List.forall_mem_cons.mpr ⟨se_21_ok, List.forall_mem_cons.mpr ⟨se_23_ok, List.forall_mem_cons.mpr ⟨se_25_ok, List.forall_mem_cons.mpr ⟨se_27_ok, List.forall_mem_cons.mpr ⟨se_29_ok, List.forall_mem_cons.mpr ⟨se_31_ok, fun _ h => absurd h List.not_mem_nil⟩⟩⟩⟩⟩⟩⟩⟩) (by decide +kernel)
/-- LawReader.readCondition -/
abbrev se_33 : an_S := (33, 110, [(2, 67, 0, 0), (1, 0, 0, 0)], [], (0, 0, 0), [(67, 0), (67, 1), (67, 8), (67, 9), (69, 1), (70, 9999)], [])
set_option maxRecDepth 100000 in
theorem se_33_ok : an_sok pm_B se_33 := an_sum (T := []) (S := [se_15, se_17, se_18, se_19, se_20, se_21, se_22, se_23, se_24, se_25, se_26, se_27, se_28, se_29, se_30, se_31, se_32]) (H := []) (f := 84) (List.forall_mem_cons.mpr ⟨se_15_ok, List.forall_mem_cons.mpr ⟨se_17_ok, List.forall_mem_cons.mpr ⟨se_18_ok, List.forall_mem_cons.mpr ⟨se_19_ok, List.forall_mem_cons.mpr ⟨se_20_ok, List.forall_mem_cons.mpr ⟨se_21_ok, List.forall_mem_cons.mpr ⟨se_22_ok, List.forall_mem_cons.mpr ⟨se_23_ok, List.forall_mem_cons.mpr ⟨se_24_ok, List.forall_mem_cons.mpr ⟨se_25_ok, List.forall_mem_cons.mpr ⟨se_26_ok, List.forall_mem_cons.mpr ⟨se_27_ok, List.forall_mem_cons.mpr ⟨se_28_ok, List.forall_mem_cons.mpr ⟨se_29_ok, List.forall_mem_cons.mpr ⟨se_30_ok, List.forall_mem_cons.mpr ⟨se_31_ok, List.forall_mem_cons.mpr ⟨se_32_ok, fun _ h => absurd h List.not_mem_nil⟩⟩⟩⟩⟩⟩⟩⟩⟩⟩⟩⟩⟩⟩⟩⟩⟩) (by decide +kernel)
/-- LawReader.readAny -/
abbrev se_34 : an_S := (32, 115, [(2, 67, 0, 0), (1, 0, 0, 0)], [], (0, 0, 0), [(67, 0), (67, 1), (67, 8), (67, 9), (69, 1), (70, 9999)], [])
set_option maxRecDepth 100000 in
theorem se_34_ok : an_sok pm_B se_34 := an_sum (T := []) (S := [se_17, se_19, se_21, se_23, se_25, se_27, se_29, se_31, se_33]) (H := [(7, [(2, 67, 0, 0), (1, 0, 0, 0), (1, 0, 0, 1), (1, 0, 0, 400), (5, 0, 0, 0)], [], [(2, 3, 400), (0, 0, 1000000000000), (0, 0, 1000000000000), (0, 0, 1000000000000)], [])]) (f := 88) (List.forall_mem_cons.mpr ⟨se_17_ok, List.forall_mem_cons.mpr ⟨se_19_ok, List.forall_mem_cons.mpr ⟨se_21_ok, List.forall_mem_cons.mpr ⟨se_23_ok, List.forall_mem_cons.mpr ⟨se_25_ok, List.forall_mem_cons.mpr ⟨se_27_ok, List.forall_mem_cons.mpr ⟨se_29_ok, List.forall_mem_cons.mpr ⟨se_31_ok, List.forall_mem_cons.mpr ⟨se_33_ok, fun _ h => absurd h List.not_mem_nil⟩⟩⟩⟩⟩⟩⟩⟩⟩) (by decide +kernel)
/-- LawReader.readInto -/
abbrev se_35 : an_S := (27, 150, [(2, 67, 0, 0), (2, 31, 0, 0)], [], (1, (-2147483648), 2147483647), [(31, 0), (31, 1), (32, 9999), (67, 0), (67, 1), (67, 2), (67, 7), (67, 8), (67, 9), (69, 0), (69, 1), (70, 9999), (72, 9999), (73, 9999)], [])
set_option maxRecDepth 100000 in
theorem se_35_ok : an_sok pm_B se_35 := an_sum (T := []) (S := [se_14, se_18, se_20, se_22, se_24, se_26, se_28, se_30, se_32, se_34]) (H := [(25, [(2, 67, 0, 0), (2, 31, 0, 0), (1, 0, 0, 17)], [], [(2, 2, 17), (0, 0, 1000000000000), (0, 0, 1000000000000), (0, 0, 1000000000000)], [])]) (f := 152) (List.forall_mem_cons.mpr ⟨se_14_ok, List.forall_mem_cons.mpr ⟨se_18_ok, List.forall_mem_cons.mpr ⟨se_20_ok, List.forall_mem_cons.mpr ⟨se_22_ok, List.forall_mem_cons.mpr ⟨se_24_ok, List.forall_mem_cons.mpr ⟨se_26_ok, List.forall_mem_cons.mpr ⟨se_28_ok, List.forall_mem_cons.mpr ⟨se_30_ok, List.forall_mem_cons.mpr ⟨se_32_ok, List.forall_mem_cons.mpr ⟨se_34_ok, fun _ h => absurd h List.not_mem_nil⟩⟩⟩⟩⟩⟩⟩⟩⟩⟩) (by decide +kernel)
