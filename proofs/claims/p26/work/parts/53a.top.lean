/-! summaries of the public methods of both sides, by program, each checked by the kernel -/
/-- PaidWhereMade.state -/
abbrev se_101 : an_S := (128, 1000, [(2, 0, 0, 0), (1, 0, (-2147483648), 2147483647)], [], (1, (-2147483648), 2147483647), [(1, 0)], [])
set_option maxRecDepth 100000 in
theorem se_101_ok : an_sok pm_B se_101 := an_sum (T := []) (S := []) (H := []) (f := 14) (fun _ h => absurd h List.not_mem_nil) (by decide +kernel)
/-- PaidWhereMade.spot -/
abbrev se_102 : an_S := (129, 1000, [(2, 0, 0, 0), (1, 0, (-2147483648), 2147483647)], [], (1, (-1), 9), [(3, 0), (4, 9999)], [])
set_option maxRecDepth 100000 in
theorem se_102_ok : an_sok pm_B se_102 := an_sum (T := []) (S := []) (H := []) (f := 36) (fun _ h => absurd h List.not_mem_nil) (by decide +kernel)
/-- PaidWhereMade.way -/
abbrev se_103 : an_S := (130, 1000, [(2, 0, 0, 0), (1, 0, (-2147483648), 2147483647), (1, 0, (-2147483648), 2147483647), (1, 0, (-2147483648), 2147483647)], [], (1, 0, 1), [(5, 9999)], [])
set_option maxRecDepth 100000 in
theorem se_103_ok : an_sok pm_B se_103 := an_sum (T := []) (S := []) (H := []) (f := 66) (fun _ h => absurd h List.not_mem_nil) (by decide +kernel)
/-- PaidWhereMade.person -/
abbrev se_104 : an_S := (131, 1000, [(2, 0, 0, 0), (1, 0, (-2147483648), 2147483647), (1, 0, (-2147483648), 2147483647), (1, 0, (-2147483648), 2147483647)], [], (1, (-1), 9), [(7, 0), (8, 9999), (9, 9999), (10, 9999), (11, 9999), (12, 9999)], [])
set_option maxRecDepth 100000 in
theorem se_104_ok : an_sok pm_B se_104 := an_sum (T := []) (S := []) (H := []) (f := 88) (fun _ h => absurd h List.not_mem_nil) (by decide +kernel)
/-- PaidWhereMade.debt -/
abbrev se_105 : an_S := (132, 1000, [(2, 0, 0, 0), (1, 0, (-2147483648), 2147483647), (1, 0, (-2147483648), 2147483647), (1, 0, (-2147483648), 2147483647), (1, 0, (-2147483648), 2147483647)], [], (1, (-1), 29), [(13, 0), (14, 9999), (15, 9999), (16, 9999), (17, 9999), (18, 9999), (19, 9999), (20, 9999)], [])
set_option maxRecDepth 100000 in
theorem se_105_ok : an_sok pm_B se_105 := an_sum (T := []) (S := []) (H := []) (f := 133) (fun _ h => absurd h List.not_mem_nil) (by decide +kernel)
/-- PaidWhereMade.set -/
abbrev se_106 : an_S := (133, 1000, [(2, 0, 0, 0), (1, 0, (-2147483648), 2147483647), (1, 0, (-2147483648), 2147483647)], [], (1, 0, 1), [(2, 9999)], [])
set_option maxRecDepth 100000 in
theorem se_106_ok : an_sok pm_B se_106 := an_sum (T := []) (S := []) (H := []) (f := 40) (fun _ h => absurd h List.not_mem_nil) (by decide +kernel)
/-- PaidWhereMade.goal -/
abbrev se_107 : an_S := (134, 1000, [(2, 0, 0, 0), (1, 0, (-2147483648), 2147483647), (1, 0, (-2147483648), 2147483647)], [], (1, 0, 1), [(11, 9999)], [])
set_option maxRecDepth 100000 in
theorem se_107_ok : an_sok pm_B se_107 := an_sum (T := []) (S := []) (H := []) (f := 43) (fun _ h => absurd h List.not_mem_nil) (by decide +kernel)
/-- PaidWhereMade.feed -/
abbrev se_108 : an_S := (135, 1000, [(2, 0, 0, 0), (1, 0, (-2147483648), 2147483647), (1, 0, (-2147483648), 2147483647), (1, 0, (-2147483648), 2147483647), (1, 0, (-2147483648), 2147483647), (1, 0, (-2147483648), 2147483647)], [], (1, (-1), 400), [(67, 2), (68, 9999)], [])
set_option maxRecDepth 100000 in
theorem se_108_ok : an_sok pm_B se_108 := an_sum (T := []) (S := [se_16]) (H := []) (f := 13) (List.forall_mem_cons.mpr ⟨se_16_ok, fun _ h => absurd h List.not_mem_nil⟩) (by decide +kernel)
/-- PaidWhereMade.end -/
abbrev se_109 : an_S := (136, 1000, [(2, 0, 0, 0), (1, 0, (-2147483648), 2147483647)], [], (1, 0, 1), [(67, 2)], [])
set_option maxRecDepth 100000 in
theorem se_109_ok : an_sok pm_B se_109 := an_sum (T := []) (S := []) (H := []) (f := 20) (fun _ h => absurd h List.not_mem_nil) (by decide +kernel)
/-- PaidWhereMade.text -/
abbrev se_110 : an_S := (137, 1000, [(2, 0, 0, 0)], [], (1, (-2147483648), 2147483647), [(31, 0), (31, 1), (32, 9999), (67, 0), (67, 1), (67, 2), (67, 7), (67, 8), (67, 9), (69, 0), (69, 1), (70, 9999), (72, 9999), (73, 9999)], [])
set_option maxRecDepth 100000 in
theorem se_110_ok : an_sok pm_B se_110 := an_sum (T := []) (S := [se_8, se_9, se_10, se_11, se_12, se_13, se_14, se_15, se_17, se_18, se_19, se_20, se_21, se_22, se_23, se_24, se_25, se_26, se_27, se_28, se_29, se_30, se_31, se_32, se_33, se_34, se_35]) (H := []) (f := 11) (List.forall_mem_cons.mpr ⟨se_8_ok, List.forall_mem_cons.mpr ⟨se_9_ok, List.forall_mem_cons.mpr ⟨se_10_ok, List.forall_mem_cons.mpr ⟨se_11_ok, List.forall_mem_cons.mpr ⟨se_12_ok, List.forall_mem_cons.mpr ⟨se_13_ok, List.forall_mem_cons.mpr ⟨se_14_ok, List.forall_mem_cons.mpr ⟨se_15_ok, List.forall_mem_cons.mpr ⟨se_17_ok, List.forall_mem_cons.mpr ⟨se_18_ok, List.forall_mem_cons.mpr ⟨se_19_ok, List.forall_mem_cons.mpr ⟨se_20_ok, List.forall_mem_cons.mpr ⟨se_21_ok, List.forall_mem_cons.mpr ⟨se_22_ok, List.forall_mem_cons.mpr ⟨se_23_ok, List.forall_mem_cons.mpr ⟨se_24_ok, List.forall_mem_cons.mpr ⟨se_25_ok, List.forall_mem_cons.mpr ⟨se_26_ok, List.forall_mem_cons.mpr ⟨se_27_ok, List.forall_mem_cons.mpr ⟨se_28_ok, List.forall_mem_cons.mpr ⟨se_29_ok, List.forall_mem_cons.mpr ⟨se_30_ok, List.forall_mem_cons.mpr ⟨se_31_ok, List.forall_mem_cons.mpr ⟨se_32_ok, List.forall_mem_cons.mpr ⟨se_33_ok, List.forall_mem_cons.mpr ⟨se_34_ok, List.forall_mem_cons.mpr ⟨se_35_ok, fun _ h => absurd h List.not_mem_nil⟩⟩⟩⟩⟩⟩⟩⟩⟩⟩⟩⟩⟩⟩⟩⟩⟩⟩⟩⟩⟩⟩⟩⟩⟩⟩⟩) (by decide +kernel)
/-- PaidWhereMade.fault -/
abbrev se_111 : an_S := (138, 1000, [(2, 0, 0, 0), (1, 0, (-2147483648), 2147483647)], [], (1, (-2147483648), 2147483647), [], [])
set_option maxRecDepth 100000 in
theorem se_111_ok : an_sok pm_B se_111 := an_sum (T := []) (S := []) (H := []) (f := 10) (fun _ h => absurd h List.not_mem_nil) (by decide +kernel)
/-- PaidWhereMade.sunday -/
abbrev se_112 : an_S := (139, 1000, [(2, 0, 0, 0)], [], (1, (-2147483648), 2147483647), [(1, 0), (1, 1), (1, 2), (1, 3), (9, 9999), (11, 9999), (12, 9999), (16, 9999), (19, 9999), (20, 9999), (31, 2), (33, 9999), (74, 5), (75, 9999), (76, 9999), (77, 9999), (78, 9999)], [])
set_option maxRecDepth 100000 in
theorem se_112_ok : an_sok pm_B se_112 := an_sum (T := []) (S := [se_3, se_4, se_7, se_36, se_37, se_38, se_39, se_40, se_41, se_42, se_43, se_44, se_45, se_46, se_47]) (H := []) (f := 14) (List.forall_mem_cons.mpr ⟨se_3_ok, List.forall_mem_cons.mpr ⟨se_4_ok, List.forall_mem_cons.mpr ⟨se_7_ok, List.forall_mem_cons.mpr ⟨se_36_ok, List.forall_mem_cons.mpr ⟨se_37_ok, List.forall_mem_cons.mpr ⟨se_38_ok, List.forall_mem_cons.mpr ⟨se_39_ok, List.forall_mem_cons.mpr ⟨se_40_ok, List.forall_mem_cons.mpr ⟨se_41_ok, List.forall_mem_cons.mpr ⟨se_42_ok, List.forall_mem_cons.mpr ⟨se_43_ok, List.forall_mem_cons.mpr ⟨se_44_ok, List.forall_mem_cons.mpr ⟨se_45_ok, List.forall_mem_cons.mpr ⟨se_46_ok, List.forall_mem_cons.mpr ⟨se_47_ok, fun _ h => absurd h List.not_mem_nil⟩⟩⟩⟩⟩⟩⟩⟩⟩⟩⟩⟩⟩⟩⟩) (by decide +kernel)
/-- PaidWhereMade.of -/
abbrev se_113 : an_S := (141, 1000, [(2, 0, 0, 0), (1, 0, (-2147483648), 2147483647), (1, 0, (-2147483648), 2147483647)], [], (1, (-2147483648), 2147483647), [], [])
set_option maxRecDepth 100000 in
theorem se_113_ok : an_sok pm_B se_113 := an_sum (T := []) (S := [se_1, se_2]) (H := []) (f := 28) (List.forall_mem_cons.mpr ⟨se_1_ok, List.forall_mem_cons.mpr ⟨se_2_ok, fun _ h => absurd h List.not_mem_nil⟩⟩) (by decide +kernel)
/-- PaidWhereMade.owed -/
abbrev se_114 : an_S := (142, 1000, [(2, 0, 0, 0), (1, 0, (-2147483648), 2147483647), (1, 0, (-2147483648), 2147483647)], [], (1, (-2147483648), 2147483647), [(31, 2), (33, 9999), (75, 9999)], [])
set_option maxRecDepth 100000 in
theorem se_114_ok : an_sok pm_B se_114 := an_sum (T := []) (S := [se_4, se_7, se_36]) (H := []) (f := 49) (List.forall_mem_cons.mpr ⟨se_4_ok, List.forall_mem_cons.mpr ⟨se_7_ok, List.forall_mem_cons.mpr ⟨se_36_ok, fun _ h => absurd h List.not_mem_nil⟩⟩⟩) (by decide +kernel)
/-- PaidWhereMade.cleared -/
abbrev se_115 : an_S := (143, 1000, [(2, 0, 0, 0), (1, 0, (-2147483648), 2147483647)], [], (1, (-2147483648), 2147483647), [(79, 2), (80, 9999), (81, 9999), (82, 9999), (83, 9999)], [])
set_option maxRecDepth 100000 in
theorem se_115_ok : an_sok pm_B se_115 := an_sum (T := []) (S := [se_49, se_50, se_51, se_52, se_53, se_54, se_70, se_71, se_76]) (H := []) (f := 9) (List.forall_mem_cons.mpr ⟨se_49_ok, List.forall_mem_cons.mpr ⟨se_50_ok, List.forall_mem_cons.mpr ⟨se_51_ok, List.forall_mem_cons.mpr ⟨se_52_ok, List.forall_mem_cons.mpr ⟨se_53_ok, List.forall_mem_cons.mpr ⟨se_54_ok, List.forall_mem_cons.mpr ⟨se_70_ok, List.forall_mem_cons.mpr ⟨se_71_ok, List.forall_mem_cons.mpr ⟨se_76_ok, fun _ h => absurd h List.not_mem_nil⟩⟩⟩⟩⟩⟩⟩⟩⟩) (by decide +kernel)
/-- PaidWhereMade.first -/
abbrev se_116 : an_S := (144, 1000, [(2, 0, 0, 0), (1, 0, (-2147483648), 2147483647), (1, 0, (-2147483648), 2147483647)], [], (1, (-2147483648), 2147483647), [(79, 2), (80, 9999), (83, 9999), (84, 9999)], [])
set_option maxRecDepth 100000 in
theorem se_116_ok : an_sok pm_B se_116 := an_sum (T := []) (S := [se_49, se_50, se_55, se_70, se_72, se_73, se_74, se_75]) (H := []) (f := 26) (List.forall_mem_cons.mpr ⟨se_49_ok, List.forall_mem_cons.mpr ⟨se_50_ok, List.forall_mem_cons.mpr ⟨se_55_ok, List.forall_mem_cons.mpr ⟨se_70_ok, List.forall_mem_cons.mpr ⟨se_72_ok, List.forall_mem_cons.mpr ⟨se_73_ok, List.forall_mem_cons.mpr ⟨se_74_ok, List.forall_mem_cons.mpr ⟨se_75_ok, fun _ h => absurd h List.not_mem_nil⟩⟩⟩⟩⟩⟩⟩⟩) (by decide +kernel)
/-- PaidWhereMade.tour -/
abbrev se_117 : an_S := (145, 1000, [(2, 0, 0, 0), (1, 0, (-2147483648), 2147483647), (1, 0, (-2147483648), 2147483647)], [], (1, (-2147483648), 1073741824), [(85, 1), (86, 9999), (87, 9999), (88, 9999), (89, 9999)], [])
set_option maxRecDepth 100000 in
theorem se_117_ok : an_sok pm_B se_117 := an_sum (T := []) (S := [se_56, se_57, se_58, se_59]) (H := []) (f := 46) (List.forall_mem_cons.mpr ⟨se_56_ok, List.forall_mem_cons.mpr ⟨se_57_ok, List.forall_mem_cons.mpr ⟨se_58_ok, List.forall_mem_cons.mpr ⟨se_59_ok, fun _ h => absurd h List.not_mem_nil⟩⟩⟩⟩) (by decide +kernel)
/-- PaidWhereMade.share -/
abbrev se_118 : an_S := (146, 1000, [(2, 0, 0, 0), (1, 0, (-2147483648), 2147483647), (1, 0, (-2147483648), 2147483647), (1, 0, (-2147483648), 2147483647), (1, 0, (-2147483648), 2147483647)], [], (1, (-2147483648), 2147483647), [(85, 1), (86, 9999), (87, 9999), (88, 9999), (89, 9999)], [])
set_option maxRecDepth 100000 in
theorem se_118_ok : an_sok pm_B se_118 := an_sum (T := []) (S := [se_5, se_56, se_57, se_58, se_59, se_60, se_61, se_70, se_77, se_78]) (H := []) (f := 71) (List.forall_mem_cons.mpr ⟨se_5_ok, List.forall_mem_cons.mpr ⟨se_56_ok, List.forall_mem_cons.mpr ⟨se_57_ok, List.forall_mem_cons.mpr ⟨se_58_ok, List.forall_mem_cons.mpr ⟨se_59_ok, List.forall_mem_cons.mpr ⟨se_60_ok, List.forall_mem_cons.mpr ⟨se_61_ok, List.forall_mem_cons.mpr ⟨se_70_ok, List.forall_mem_cons.mpr ⟨se_77_ok, List.forall_mem_cons.mpr ⟨se_78_ok, fun _ h => absurd h List.not_mem_nil⟩⟩⟩⟩⟩⟩⟩⟩⟩⟩) (by decide +kernel)
/-- PaidWhereMade.chance -/
abbrev se_119 : an_S := (147, 1000, [(2, 0, 0, 0), (1, 0, (-2147483648), 2147483647), (1, 0, (-2147483648), 2147483647), (1, 0, (-2147483648), 2147483647)], [], (1, 0, 1), [(6, 9999)], [])
set_option maxRecDepth 100000 in
theorem se_119_ok : an_sok pm_B se_119 := an_sum (T := []) (S := [se_6]) (H := []) (f := 12) (List.forall_mem_cons.mpr ⟨se_6_ok, fun _ h => absurd h List.not_mem_nil⟩) (by decide +kernel)
/-- PaidWhereMade.waiting -/
abbrev se_120 : an_S := (148, 1000, [(2, 0, 0, 0), (1, 0, (-2147483648), 2147483647), (1, 0, (-2147483648), 2147483647), (1, 0, (-2147483648), 2147483647)], [], (4, 0, 0), [(90, 1)], [])
set_option maxRecDepth 100000 in
theorem se_120_ok : an_sok pm_B se_120 := an_sum (T := []) (S := [se_62, se_63, se_64]) (H := []) (f := 64) (List.forall_mem_cons.mpr ⟨se_62_ok, List.forall_mem_cons.mpr ⟨se_63_ok, List.forall_mem_cons.mpr ⟨se_64_ok, fun _ h => absurd h List.not_mem_nil⟩⟩⟩) (by decide +kernel)
/-- PaidWhereMade.line -/
abbrev se_121 : an_S := (149, 1000, [(2, 0, 0, 0), (1, 0, (-2147483648), 2147483647), (1, 0, (-2147483648), 2147483647), (1, 0, (-2147483648), 2147483647), (1, 0, (-2147483648), 2147483647)], [], (1, (-1), 29), [(21, 0), (22, 9999), (23, 9999), (24, 9999), (25, 9999)], [])
set_option maxRecDepth 100000 in
theorem se_121_ok : an_sok pm_B se_121 := an_sum (T := []) (S := []) (H := []) (f := 111) (fun _ h => absurd h List.not_mem_nil) (by decide +kernel)
/-- PaidWhereMade.wrong -/
abbrev se_122 : an_S := (150, 1000, [(2, 0, 0, 0), (1, 0, (-2147483648), 2147483647)], [], (1, (-2147483648), 2147483647), [(26, 9999), (27, 9999), (28, 9999), (29, 9999), (30, 9999)], [])
set_option maxRecDepth 100000 in
theorem se_122_ok : an_sok pm_B se_122 := an_sum (T := []) (S := [se_65, se_66, se_67, se_68, se_69]) (H := []) (f := 22) (List.forall_mem_cons.mpr ⟨se_65_ok, List.forall_mem_cons.mpr ⟨se_66_ok, List.forall_mem_cons.mpr ⟨se_67_ok, List.forall_mem_cons.mpr ⟨se_68_ok, List.forall_mem_cons.mpr ⟨se_69_ok, fun _ h => absurd h List.not_mem_nil⟩⟩⟩⟩⟩) (by decide +kernel)
/-- PaidWhereMade.image -/
abbrev se_123 : an_S := (151, 1000, [(2, 0, 0, 0), (1, 0, 0, 1)], [], (1, 0, 1), [(0, 2), (1, 0), (1, 1), (1, 2), (1, 3), (2, 9999), (3, 0), (4, 9999), (5, 9999), (6, 9999), (7, 0), (8, 9999), (9, 9999), (10, 9999), (11, 9999), (12, 9999), (13, 0), (14, 9999), (15, 9999), (16, 9999), (17, 9999), (18, 9999), (19, 9999), (20, 9999), (21, 0), (22, 9999), (23, 9999), (24, 9999), (25, 9999), (31, 0), (31, 1), (32, 9999), (34, 0), (34, 1), (34, 2), (34, 3), (35, 9999), (36, 0), (37, 9999), (38, 9999), (39, 9999), (40, 0), (41, 9999), (42, 9999), (43, 9999), (44, 9999), (45, 9999), (46, 0), (47, 9999), (48, 9999), (49, 9999), (50, 9999), (51, 9999), (52, 9999), (53, 9999), (54, 0), (55, 9999), (56, 9999), (57, 9999), (58, 9999), (64, 0), (64, 1), (65, 9999)], [])
set_option maxRecDepth 100000 in
theorem se_123_ok : an_sok pm_B se_123 := an_sum (T := []) (S := []) (H := []) (f := 425) (fun _ h => absurd h List.not_mem_nil) (by decide +kernel)
/-- PaidWhereMade.look -/
abbrev se_124 : an_S := (152, 1000, [(2, 0, 0, 0), (1, 0, (-2147483648), 2147483647)], [], (1, (-2147483648), 2147483647), [], [])
set_option maxRecDepth 100000 in
theorem se_124_ok : an_sok pm_B se_124 := an_sum (T := []) (S := [se_0]) (H := []) (f := 24) (List.forall_mem_cons.mpr ⟨se_0_ok, fun _ h => absurd h List.not_mem_nil⟩) (by decide +kernel)
/-- Model.state -/
abbrev se_125 : an_S := (161, 1000, [(2, 93, 0, 0), (1, 0, (-2147483648), 2147483647)], [], (1, (-2147483648), 2147483647), [(93, 0), (93, 1)], [])
set_option maxRecDepth 100000 in
theorem se_125_ok : an_sok pm_B se_125 := an_sum (T := []) (S := []) (H := []) (f := 15) (fun _ h => absurd h List.not_mem_nil) (by decide +kernel)
/-- Model.spot -/
abbrev se_126 : an_S := (166, 1000, [(2, 93, 0, 0), (1, 0, (-2147483648), 2147483647)], [], (1, (-1), 9), [(93, 0), (93, 2), (94, 9999)], [])
set_option maxRecDepth 100000 in
theorem se_126_ok : an_sok pm_B se_126 := an_sum (T := []) (S := []) (H := []) (f := 43) (fun _ h => absurd h List.not_mem_nil) (by decide +kernel)
/-- Model.way -/
abbrev se_127 : an_S := (167, 1000, [(2, 93, 0, 0), (1, 0, (-2147483648), 2147483647), (1, 0, (-2147483648), 2147483647), (1, 0, (-2147483648), 2147483647)], [], (1, 0, 1), [(93, 0), (95, 9999)], [])
set_option maxRecDepth 100000 in
theorem se_127_ok : an_sok pm_B se_127 := an_sum (T := []) (S := []) (H := []) (f := 75) (fun _ h => absurd h List.not_mem_nil) (by decide +kernel)
/-- Model.person -/
abbrev se_128 : an_S := (168, 1000, [(2, 93, 0, 0), (1, 0, (-2147483648), 2147483647), (1, 0, (-2147483648), 2147483647), (1, 0, (-2147483648), 2147483647)], [], (1, (-1), 9), [(93, 0), (93, 5), (96, 9999), (97, 9999), (98, 9999), (99, 9999)], [])
set_option maxRecDepth 100000 in
theorem se_128_ok : an_sok pm_B se_128 := an_sum (T := []) (S := []) (H := []) (f := 89) (fun _ h => absurd h List.not_mem_nil) (by decide +kernel)
/-- Model.debt -/
abbrev se_129 : an_S := (169, 1000, [(2, 93, 0, 0), (1, 0, (-2147483648), 2147483647), (1, 0, (-2147483648), 2147483647), (1, 0, (-2147483648), 2147483647), (1, 0, (-2147483648), 2147483647)], [], (1, (-1), 29), [(93, 0), (93, 11), (101, 9999), (102, 9999), (103, 9999), (104, 9999), (105, 9999), (106, 9999), (107, 9999)], [])
set_option maxRecDepth 100000 in
theorem se_129_ok : an_sok pm_B se_129 := an_sum (T := []) (S := []) (H := []) (f := 122) (fun _ h => absurd h List.not_mem_nil) (by decide +kernel)
/-- Model.set -/
abbrev se_130 : an_S := (172, 1000, [(2, 93, 0, 0), (1, 0, (-2147483648), 2147483647), (1, 0, (-2147483648), 2147483647)], [], (1, 0, 1), [(93, 0), (108, 9999)], [])
set_option maxRecDepth 100000 in
theorem se_130_ok : an_sok pm_B se_130 := an_sum (T := []) (S := []) (H := []) (f := 64) (fun _ h => absurd h List.not_mem_nil) (by decide +kernel)
/-- Model.goal -/
abbrev se_131 : an_S := (173, 1000, [(2, 93, 0, 0), (1, 0, (-2147483648), 2147483647), (1, 0, (-2147483648), 2147483647)], [], (1, 0, 1), [(93, 0), (99, 9999)], [])
set_option maxRecDepth 100000 in
theorem se_131_ok : an_sok pm_B se_131 := an_sum (T := []) (S := []) (H := []) (f := 40) (fun _ h => absurd h List.not_mem_nil) (by decide +kernel)
/-- Model.feed -/
abbrev se_132 : an_S := (175, 1000, [(2, 93, 0, 0), (1, 0, (-2147483648), 2147483647), (1, 0, (-2147483648), 2147483647), (1, 0, (-2147483648), 2147483647), (1, 0, (-2147483648), 2147483647), (1, 0, (-2147483648), 2147483647)], [], (1, (-1), 400), [(93, 0), (93, 30), (114, 9999)], [])
set_option maxRecDepth 100000 in
theorem se_132_ok : an_sok pm_B se_132 := an_sum (T := []) (S := []) (H := []) (f := 454) (fun _ h => absurd h List.not_mem_nil) (by decide +kernel)
/-- Model.end -/
abbrev se_133 : an_S := (176, 1000, [(2, 93, 0, 0), (1, 0, (-2147483648), 2147483647)], [], (1, 0, 1), [(93, 0), (93, 30)], [])
set_option maxRecDepth 100000 in
theorem se_133_ok : an_sok pm_B se_133 := an_sum (T := []) (S := []) (H := []) (f := 28) (fun _ h => absurd h List.not_mem_nil) (by decide +kernel)
/-- Model.fault -/
abbrev se_134 : an_S := (196, 1000, [(2, 93, 0, 0), (1, 0, (-2147483648), 2147483647)], [], (1, (-2147483648), 2147483647), [(93, 0)], [])
set_option maxRecDepth 100000 in
theorem se_134_ok : an_sok pm_B se_134 := an_sum (T := []) (S := []) (H := []) (f := 16) (fun _ h => absurd h List.not_mem_nil) (by decide +kernel)
/-- Model.of -/
abbrev se_135 : an_S := (214, 1000, [(2, 93, 0, 0), (1, 0, (-2147483648), 2147483647), (1, 0, (-2147483648), 2147483647)], [], (1, (-2147483648), 2147483647), [(93, 0)], [])
set_option maxRecDepth 100000 in
theorem se_135_ok : an_sok pm_B se_135 := an_sum (T := []) (S := [se_81]) (H := []) (f := 49) (List.forall_mem_cons.mpr ⟨se_81_ok, fun _ h => absurd h List.not_mem_nil⟩) (by decide +kernel)
/-- Model.line -/
abbrev se_136 : an_S := (239, 1000, [(2, 93, 0, 0), (1, 0, (-2147483648), 2147483647), (1, 0, (-2147483648), 2147483647), (1, 0, (-2147483648), 2147483647), (1, 0, (-2147483648), 2147483647)], [], (1, (-1), 29), [(93, 0), (93, 23), (109, 9999), (110, 9999), (111, 9999), (112, 9999)], [])
set_option maxRecDepth 100000 in
theorem se_136_ok : an_sok pm_B se_136 := an_sum (T := []) (S := []) (H := []) (f := 103) (fun _ h => absurd h List.not_mem_nil) (by decide +kernel)
/-- Model.look -/
abbrev se_137 : an_S := (246, 1000, [(2, 93, 0, 0), (1, 0, (-2147483648), 2147483647)], [], (1, (-2147483648), 2147483647), [(93, 0), (93, 55), (125, 9999)], [])
set_option maxRecDepth 100000 in
theorem se_137_ok : an_sok pm_B se_137 := an_sum (T := []) (S := [se_80]) (H := []) (f := 59) (List.forall_mem_cons.mpr ⟨se_80_ok, fun _ h => absurd h List.not_mem_nil⟩) (by decide +kernel)
