set_option maxRecDepth 100000 in
theorem pm_ck_10 : ∀ M ∈ pm_tab_10, pm_chk M = true := List.all_eq_true.mp (by decide +kernel)
set_option maxRecDepth 100000 in
theorem pm_ck_11 : ∀ M ∈ pm_tab_11, pm_chk M = true := List.all_eq_true.mp (by decide +kernel)
set_option maxRecDepth 100000 in
theorem pm_ck_12 : ∀ M ∈ pm_tab_12, pm_chk M = true := List.all_eq_true.mp (by decide +kernel)
set_option maxRecDepth 100000 in
theorem pm_ck_13 : ∀ M ∈ pm_tab_13, pm_chk M = true := List.all_eq_true.mp (by decide +kernel)
set_option maxRecDepth 100000 in
theorem pm_ck_14 : ∀ M ∈ pm_tab_14, pm_chk M = true := List.all_eq_true.mp (by decide +kernel)
