set_option maxRecDepth 100000 in
theorem pm_ck_0 : ∀ M ∈ pm_tab_0, pm_chk M = true := List.all_eq_true.mp (by decide +kernel)
set_option maxRecDepth 100000 in
theorem pm_ck_1 : ∀ M ∈ pm_tab_1, pm_chk M = true := List.all_eq_true.mp (by decide +kernel)
set_option maxRecDepth 100000 in
theorem pm_ck_2 : ∀ M ∈ pm_tab_2, pm_chk M = true := List.all_eq_true.mp (by decide +kernel)
set_option maxRecDepth 100000 in
theorem pm_ck_3 : ∀ M ∈ pm_tab_3, pm_chk M = true := List.all_eq_true.mp (by decide +kernel)
set_option maxRecDepth 100000 in
theorem pm_ck_4 : ∀ M ∈ pm_tab_4, pm_chk M = true := List.all_eq_true.mp (by decide +kernel)
