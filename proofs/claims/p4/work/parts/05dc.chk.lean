def pm_Mx_245 : pm_M := (⟨"PaidWhereMadeModel", "image", "(Z)Z"⟩, prog_14_method_89_code, 3, (some .boolean), 12, pc_245)
set_option maxRecDepth 100000 in
theorem pm_ckr_245_0 : (((pm_Mx_245.2.2.2.2.2.zipIdx).drop 0).take 50).all (fun q => pm_chk1 pm_Mx_245 q.2 q.1) = true := by decide +kernel
set_option maxRecDepth 100000 in
theorem pm_ckr_245_50 : (((pm_Mx_245.2.2.2.2.2.zipIdx).drop 50).take 50).all (fun q => pm_chk1 pm_Mx_245 q.2 q.1) = true := by decide +kernel
set_option maxRecDepth 100000 in
theorem pm_ckr_245_100 : (((pm_Mx_245.2.2.2.2.2.zipIdx).drop 100).take 50).all (fun q => pm_chk1 pm_Mx_245 q.2 q.1) = true := by decide +kernel
set_option maxRecDepth 100000 in
theorem pm_ckr_245_150 : (((pm_Mx_245.2.2.2.2.2.zipIdx).drop 150).take 50).all (fun q => pm_chk1 pm_Mx_245 q.2 q.1) = true := by decide +kernel
set_option maxRecDepth 100000 in
theorem pm_ckm_245 : pm_chk pm_Mx_245 = true := pm_chkj (pm_pcs _ _ 0 50 pm_ckr_245_0 (pm_pcs _ _ 50 50 pm_ckr_245_50 (pm_pcs _ _ 100 50 pm_ckr_245_100 (pm_pcs _ _ 150 50 pm_ckr_245_150 (pm_pce _ _ _ (by decide +kernel)))))) (by decide +kernel)
