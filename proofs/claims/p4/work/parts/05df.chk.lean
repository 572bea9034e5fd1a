set_option maxRecDepth 100000 in
theorem pm_ck_5 : ∀ M ∈ pm_tab_5, pm_chk M = true := List.all_eq_true.mp (by decide +kernel)
set_option maxRecDepth 100000 in
theorem pm_ck_6 : ∀ M ∈ pm_tab_6, pm_chk M = true := List.all_eq_true.mp (by decide +kernel)
set_option maxRecDepth 100000 in
theorem pm_ck_7 : ∀ M ∈ pm_tab_7, pm_chk M = true := List.all_eq_true.mp (by decide +kernel)
set_option maxRecDepth 100000 in
theorem pm_ck_8 : ∀ M ∈ pm_tab_8, pm_chk M = true := List.all_eq_true.mp (by decide +kernel)
set_option maxRecDepth 100000 in
theorem pm_ckm_144 : pm_chk (⟨"PaidWhereMade", "first", "(II)I"⟩, prog_1_method_18_code, 3, (some .int), 11, pc_144) = true := by decide +kernel
set_option maxRecDepth 100000 in
theorem pm_ckm_145 : pm_chk (⟨"PaidWhereMade", "tour", "(II)I"⟩, prog_1_method_19_code, 3, (some .int), 11, pc_145) = true := by decide +kernel
set_option maxRecDepth 100000 in
theorem pm_ckm_146 : pm_chk (⟨"PaidWhereMade", "share", "(IIII)I"⟩, prog_1_method_20_code, 6, (some .int), 11, pc_146) = true := by decide +kernel
set_option maxRecDepth 100000 in
theorem pm_ckm_147 : pm_chk (⟨"PaidWhereMade", "chance", "(III)Z"⟩, prog_1_method_21_code, 4, (some .boolean), 11, pc_147) = true := by decide +kernel
set_option maxRecDepth 100000 in
theorem pm_ckm_148 : pm_chk (⟨"PaidWhereMade", "waiting", "(III)J"⟩, prog_1_method_22_code, 4, (some .long), 11, pc_148) = true := by decide +kernel
set_option maxRecDepth 100000 in
theorem pm_ckm_149 : pm_chk (⟨"PaidWhereMade", "line", "(IIII)I"⟩, prog_1_method_23_code, 7, (some .int), 11, pc_149) = true := by decide +kernel
set_option maxRecDepth 100000 in
theorem pm_ckm_150 : pm_chk (⟨"PaidWhereMade", "wrong", "(I)I"⟩, prog_1_method_24_code, 2, (some .int), 11, pc_150) = true := by decide +kernel
set_option maxRecDepth 100000 in
theorem pm_ckm_151 : pm_chk (⟨"PaidWhereMade", "image", "(Z)Z"⟩, prog_1_method_25_code, 2, (some .boolean), 11, pc_151) = true := by decide +kernel
set_option maxRecDepth 100000 in
theorem pm_ckm_152 : pm_chk (⟨"PaidWhereMade", "look", "(I)I"⟩, prog_1_method_26_code, 2, (some .int), 11, pc_152) = true := by decide +kernel
set_option maxRecDepth 100000 in
theorem pm_ckm_153 : pm_chk (⟨"PaidWhereMade", "lookAtSetting", "(I)I"⟩, prog_1_method_27_code, 2, (some .int), 11, pc_153) = true := by decide +kernel
set_option maxRecDepth 100000 in
theorem pm_ckm_154 : pm_chk (⟨"PaidWhereMade", "isSunday", "(I)Z"⟩, prog_1_method_28_code, 1, (some .boolean), 11, pc_154) = true := by decide +kernel
set_option maxRecDepth 100000 in
theorem pm_ckm_155 : pm_chk (⟨"PaidWhereMade", "isSetOf", "(II)Z"⟩, prog_1_method_29_code, 2, (some .boolean), 11, pc_155) = true := by decide +kernel
set_option maxRecDepth 100000 in
theorem pm_ckm_156 : pm_chk (⟨"PaidWhereMade", "isIn", "(II)Z"⟩, prog_1_method_30_code, 2, (some .boolean), 11, pc_156) = true := by decide +kernel
set_option maxRecDepth 100000 in
theorem pm_ckm_157 : pm_chk (⟨"PaidWhereMade", "copyRow", "([I[I)V"⟩, prog_1_method_31_code, 2, none, 11, pc_157) = true := by decide +kernel
set_option maxRecDepth 100000 in
theorem pm_ckm_159 : pm_chk (⟨"PaidWhereMadeModel", "isIn", "(III)Z"⟩, prog_14_method_3_code, 4, (some .boolean), 12, pc_159) = true := by decide +kernel
theorem pm_ck_9 : ∀ M ∈ pm_tab_9, pm_chk M = true := List.forall_mem_cons.mpr ⟨pm_ckm_144, List.forall_mem_cons.mpr ⟨pm_ckm_145, List.forall_mem_cons.mpr ⟨pm_ckm_146, List.forall_mem_cons.mpr ⟨pm_ckm_147, List.forall_mem_cons.mpr ⟨pm_ckm_148, List.forall_mem_cons.mpr ⟨pm_ckm_149, List.forall_mem_cons.mpr ⟨pm_ckm_150, List.forall_mem_cons.mpr ⟨pm_ckm_151, List.forall_mem_cons.mpr ⟨pm_ckm_152, List.forall_mem_cons.mpr ⟨pm_ckm_153, List.forall_mem_cons.mpr ⟨pm_ckm_154, List.forall_mem_cons.mpr ⟨pm_ckm_155, List.forall_mem_cons.mpr ⟨pm_ckm_156, List.forall_mem_cons.mpr ⟨pm_ckm_157, List.forall_mem_cons.mpr ⟨pm_ckm_158, List.forall_mem_cons.mpr ⟨pm_ckm_159, fun _ h => absurd h List.not_mem_nil⟩⟩⟩⟩⟩⟩⟩⟩⟩⟩⟩⟩⟩⟩⟩⟩
