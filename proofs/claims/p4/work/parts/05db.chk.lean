def pm_Mx_158 : pm_M := (⟨"PaidWhereMadeModel", "<init>", "()V"⟩, prog_14_method_1_code, 1, none, 12, pc_158)
set_option maxRecDepth 100000 in
theorem pm_ckr_158_0 : (((pm_Mx_158.2.2.2.2.2.zipIdx).drop 0).take 50).all (fun q => pm_chk1 pm_Mx_158 q.2 q.1) = true := by decide +kernel
set_option maxRecDepth 100000 in
theorem pm_ckr_158_50 : (((pm_Mx_158.2.2.2.2.2.zipIdx).drop 50).take 50).all (fun q => pm_chk1 pm_Mx_158 q.2 q.1) = true := by decide +kernel
set_option maxRecDepth 100000 in
theorem pm_ckr_158_100 : (((pm_Mx_158.2.2.2.2.2.zipIdx).drop 100).take 50).all (fun q => pm_chk1 pm_Mx_158 q.2 q.1) = true := by decide +kernel
set_option maxRecDepth 100000 in
theorem pm_ckr_158_150 : (((pm_Mx_158.2.2.2.2.2.zipIdx).drop 150).take 50).all (fun q => pm_chk1 pm_Mx_158 q.2 q.1) = true := by decide +kernel
set_option maxRecDepth 100000 in
theorem pm_ckr_158_200 : (((pm_Mx_158.2.2.2.2.2.zipIdx).drop 200).take 50).all (fun q => pm_chk1 pm_Mx_158 q.2 q.1) = true := by decide +kernel
set_option maxRecDepth 100000 in
theorem pm_ckr_158_250 : (((pm_Mx_158.2.2.2.2.2.zipIdx).drop 250).take 50).all (fun q => pm_chk1 pm_Mx_158 q.2 q.1) = true := by decide +kernel
set_option maxRecDepth 100000 in
theorem pm_ckr_158_300 : (((pm_Mx_158.2.2.2.2.2.zipIdx).drop 300).take 50).all (fun q => pm_chk1 pm_Mx_158 q.2 q.1) = true := by decide +kernel
set_option maxRecDepth 100000 in
theorem pm_ckr_158_350 : (((pm_Mx_158.2.2.2.2.2.zipIdx).drop 350).take 50).all (fun q => pm_chk1 pm_Mx_158 q.2 q.1) = true := by decide +kernel
set_option maxRecDepth 100000 in
theorem pm_ckr_158_400 : (((pm_Mx_158.2.2.2.2.2.zipIdx).drop 400).take 50).all (fun q => pm_chk1 pm_Mx_158 q.2 q.1) = true := by decide +kernel
set_option maxRecDepth 100000 in
theorem pm_ckr_158_450 : (((pm_Mx_158.2.2.2.2.2.zipIdx).drop 450).take 50).all (fun q => pm_chk1 pm_Mx_158 q.2 q.1) = true := by decide +kernel
set_option maxRecDepth 100000 in
theorem pm_ckr_158_500 : (((pm_Mx_158.2.2.2.2.2.zipIdx).drop 500).take 50).all (fun q => pm_chk1 pm_Mx_158 q.2 q.1) = true := by decide +kernel
set_option maxRecDepth 100000 in
theorem pm_ckm_158 : pm_chk pm_Mx_158 = true := pm_chkj (pm_pcs _ _ 0 50 pm_ckr_158_0 (pm_pcs _ _ 50 50 pm_ckr_158_50 (pm_pcs _ _ 100 50 pm_ckr_158_100 (pm_pcs _ _ 150 50 pm_ckr_158_150 (pm_pcs _ _ 200 50 pm_ckr_158_200 (pm_pcs _ _ 250 50 pm_ckr_158_250 (pm_pcs _ _ 300 50 pm_ckr_158_300 (pm_pcs _ _ 350 50 pm_ckr_158_350 (pm_pcs _ _ 400 50 pm_ckr_158_400 (pm_pcs _ _ 450 50 pm_ckr_158_450 (pm_pcs _ _ 500 50 pm_ckr_158_500 (pm_pce _ _ _ (by decide +kernel))))))))))))) (by decide +kernel)
