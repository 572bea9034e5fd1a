def pm_Mx_law : pm_M := (x, code, maxLocals, ret, 18, pc_law)
set_option maxRecDepth 100000 in
theorem pm_ckm_law : pm_chk pm_Mx_law = true := pm_chkN_ok (by decide +kernel)
set_option maxRecDepth 100000 in
theorem pm_ckn_0 : pm_tab_0.all pm_chkN = true := by decide +kernel
theorem pm_ck_0 : ∀ M ∈ pm_tab_0, pm_chk M = true := fun M h => pm_chkN_ok (List.all_eq_true.mp pm_ckn_0 M h)
set_option maxRecDepth 100000 in
theorem pm_ckn_1 : pm_tab_1.all pm_chkN = true := by decide +kernel
theorem pm_ck_1 : ∀ M ∈ pm_tab_1, pm_chk M = true := fun M h => pm_chkN_ok (List.all_eq_true.mp pm_ckn_1 M h)
set_option maxRecDepth 100000 in
theorem pm_ckn_2 : pm_tab_2.all pm_chkN = true := by decide +kernel
theorem pm_ck_2 : ∀ M ∈ pm_tab_2, pm_chk M = true := fun M h => pm_chkN_ok (List.all_eq_true.mp pm_ckn_2 M h)
set_option maxRecDepth 100000 in
theorem pm_ckn_3 : pm_tab_3.all pm_chkN = true := by decide +kernel
theorem pm_ck_3 : ∀ M ∈ pm_tab_3, pm_chk M = true := fun M h => pm_chkN_ok (List.all_eq_true.mp pm_ckn_3 M h)
set_option maxRecDepth 100000 in
theorem pm_ckn_4 : pm_tab_4.all pm_chkN = true := by decide +kernel
theorem pm_ck_4 : ∀ M ∈ pm_tab_4, pm_chk M = true := fun M h => pm_chkN_ok (List.all_eq_true.mp pm_ckn_4 M h)
set_option maxRecDepth 100000 in
theorem pm_ckn_5 : pm_tab_5.all pm_chkN = true := by decide +kernel
theorem pm_ck_5 : ∀ M ∈ pm_tab_5, pm_chk M = true := fun M h => pm_chkN_ok (List.all_eq_true.mp pm_ckn_5 M h)
set_option maxRecDepth 100000 in
theorem pm_ckn_6 : pm_tab_6.all pm_chkN = true := by decide +kernel
theorem pm_ck_6 : ∀ M ∈ pm_tab_6, pm_chk M = true := fun M h => pm_chkN_ok (List.all_eq_true.mp pm_ckn_6 M h)
set_option maxRecDepth 100000 in
theorem pm_ckn_7 : pm_tab_7.all pm_chkN = true := by decide +kernel
theorem pm_ck_7 : ∀ M ∈ pm_tab_7, pm_chk M = true := fun M h => pm_chkN_ok (List.all_eq_true.mp pm_ckn_7 M h)
