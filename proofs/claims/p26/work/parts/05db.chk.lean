set_option maxRecDepth 100000 in
theorem pm_ckn_8 : pm_tab_8.all pm_chkN = true := by decide +kernel
theorem pm_ck_8 : ∀ M ∈ pm_tab_8, pm_chk M = true := fun M h => pm_chkN_ok (List.all_eq_true.mp pm_ckn_8 M h)
set_option maxRecDepth 100000 in
theorem pm_ckn_9 : pm_tab_9.all pm_chkN = true := by decide +kernel
theorem pm_ck_9 : ∀ M ∈ pm_tab_9, pm_chk M = true := fun M h => pm_chkN_ok (List.all_eq_true.mp pm_ckn_9 M h)
set_option maxRecDepth 100000 in
theorem pm_ckn_10 : pm_tab_10.all pm_chkN = true := by decide +kernel
theorem pm_ck_10 : ∀ M ∈ pm_tab_10, pm_chk M = true := fun M h => pm_chkN_ok (List.all_eq_true.mp pm_ckn_10 M h)
set_option maxRecDepth 100000 in
theorem pm_ckn_11 : pm_tab_11.all pm_chkN = true := by decide +kernel
theorem pm_ck_11 : ∀ M ∈ pm_tab_11, pm_chk M = true := fun M h => pm_chkN_ok (List.all_eq_true.mp pm_ckn_11 M h)
set_option maxRecDepth 100000 in
theorem pm_ckn_12 : pm_tab_12.all pm_chkN = true := by decide +kernel
theorem pm_ck_12 : ∀ M ∈ pm_tab_12, pm_chk M = true := fun M h => pm_chkN_ok (List.all_eq_true.mp pm_ckn_12 M h)
set_option maxRecDepth 100000 in
theorem pm_ckn_13 : pm_tab_13.all pm_chkN = true := by decide +kernel
theorem pm_ck_13 : ∀ M ∈ pm_tab_13, pm_chk M = true := fun M h => pm_chkN_ok (List.all_eq_true.mp pm_ckn_13 M h)
set_option maxRecDepth 100000 in
theorem pm_ckn_14 : pm_tab_14.all pm_chkN = true := by decide +kernel
theorem pm_ck_14 : ∀ M ∈ pm_tab_14, pm_chk M = true := fun M h => pm_chkN_ok (List.all_eq_true.mp pm_ckn_14 M h)
set_option maxRecDepth 100000 in
theorem pm_ckn_15 : pm_tab_15.all pm_chkN = true := by decide +kernel
theorem pm_ck_15 : ∀ M ∈ pm_tab_15, pm_chk M = true := fun M h => pm_chkN_ok (List.all_eq_true.mp pm_ckn_15 M h)
