set_option maxRecDepth 100000 in
theorem pm_ckm_240 : pm_chk (⟨"PaidWhereMadeModel", "wrongWith", "(I)I"⟩, prog_14_method_84_code, 5, (some .int), 12, pc_240) = true := by decide +kernel
set_option maxRecDepth 100000 in
theorem pm_ckm_241 : pm_chk (⟨"PaidWhereMadeModel", "wrong", "(I)I"⟩, prog_14_method_85_code, 8, (some .int), 12, pc_241) = true := by decide +kernel
set_option maxRecDepth 100000 in
theorem pm_ckm_242 : pm_chk (⟨"PaidWhereMadeModel", "kept", "(I)I"⟩, prog_14_method_86_code, 2, (some .int), 12, pc_242) = true := by decide +kernel
set_option maxRecDepth 100000 in
theorem pm_ckm_243 : pm_chk (⟨"PaidWhereMadeModel", "keepsDebts", "()V"⟩, prog_14_method_87_code, 2, none, 12, pc_243) = true := by decide +kernel
set_option maxRecDepth 100000 in
theorem pm_ckm_244 : pm_chk (⟨"PaidWhereMadeModel", "keepsLaw", "()V"⟩, prog_14_method_88_code, 2, none, 12, pc_244) = true := by decide +kernel
set_option maxRecDepth 100000 in
theorem pm_ckm_246 : pm_chk (⟨"PaidWhereMadeModel", "look", "(I)I"⟩, prog_14_method_90_code, 2, (some .int), 12, pc_246) = true := by decide +kernel
set_option maxRecDepth 100000 in
theorem pm_ckm_247 : pm_chk (⟨"java/util/Arrays", "fill", "([II)V"⟩, prog_21_method_103_code, 4, none, 14, pc_247) = true := by decide +kernel
set_option maxRecDepth 100000 in
theorem pm_ckm_248 : pm_chk (⟨"java/lang/String", "length", "()I"⟩, prog_17_method_54_code, 1, (some .int), 15, pc_248) = true := by decide +kernel
set_option maxRecDepth 100000 in
theorem pm_ckm_249 : pm_chk (⟨"java/lang/String", "coder", "()B"⟩, prog_17_method_152_code, 1, (some .byte), 15, pc_249) = true := by decide +kernel
set_option maxRecDepth 100000 in
theorem pm_ckm_250 : pm_chk (⟨"java/lang/String", "charAt", "(I)C"⟩, prog_17_method_56_code, 2, (some .char), 15, pc_250) = true := by decide +kernel
set_option maxRecDepth 100000 in
theorem pm_ckm_251 : pm_chk (⟨"java/lang/String", "isLatin1", "()Z"⟩, prog_17_method_154_code, 1, (some .boolean), 15, pc_251) = true := by decide +kernel
set_option maxRecDepth 100000 in
theorem pm_ckm_252 : pm_chk (⟨"java/lang/StringLatin1", "charAt", "([BI)C"⟩, prog_18_method_2_code, 2, (some .char), 16, pc_252) = true := by decide +kernel
set_option maxRecDepth 100000 in
theorem pm_ckm_253 : pm_chk (⟨"java/lang/String", "checkIndex", "(II)V"⟩, prog_17_method_155_code, 2, none, 15, pc_253) = true := by decide +kernel
set_option maxRecDepth 100000 in
theorem pm_ckm_254 : pm_chk (⟨"jdk/internal/util/Preconditions", "checkIndex", "(IILjava/util/function/BiFunction;)I"⟩, prog_22_method_11_code, 3, (some .int), 17, pc_254) = true := by decide +kernel
set_option maxRecDepth 100000 in
theorem pm_ckm_255 : pm_chk (⟨"java/lang/Integer", "bitCount", "(I)I"⟩, prog_15_method_49_code, 1, (some .int), 13, pc_255) = true := by decide +kernel
theorem pm_ck_15 : ∀ M ∈ pm_tab_15, pm_chk M = true := List.forall_mem_cons.mpr ⟨pm_ckm_240, List.forall_mem_cons.mpr ⟨pm_ckm_241, List.forall_mem_cons.mpr ⟨pm_ckm_242, List.forall_mem_cons.mpr ⟨pm_ckm_243, List.forall_mem_cons.mpr ⟨pm_ckm_244, List.forall_mem_cons.mpr ⟨pm_ckm_245, List.forall_mem_cons.mpr ⟨pm_ckm_246, List.forall_mem_cons.mpr ⟨pm_ckm_247, List.forall_mem_cons.mpr ⟨pm_ckm_248, List.forall_mem_cons.mpr ⟨pm_ckm_249, List.forall_mem_cons.mpr ⟨pm_ckm_250, List.forall_mem_cons.mpr ⟨pm_ckm_251, List.forall_mem_cons.mpr ⟨pm_ckm_252, List.forall_mem_cons.mpr ⟨pm_ckm_253, List.forall_mem_cons.mpr ⟨pm_ckm_254, List.forall_mem_cons.mpr ⟨pm_ckm_255, fun _ h => absurd h List.not_mem_nil⟩⟩⟩⟩⟩⟩⟩⟩⟩⟩⟩⟩⟩⟩⟩⟩
