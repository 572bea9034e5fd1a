def pm_Mx_law : pm_M := (x, code, maxLocals, ret, 18, pc_law)
set_option maxRecDepth 100000 in
theorem pm_ckr_law_0 : (((pm_Mx_law.2.2.2.2.2.zipIdx).drop 0).take 40).all (fun q => pm_chk1 pm_Mx_law q.2 q.1) = true := by decide +kernel
set_option maxRecDepth 100000 in
theorem pm_ckr_law_40 : (((pm_Mx_law.2.2.2.2.2.zipIdx).drop 40).take 40).all (fun q => pm_chk1 pm_Mx_law q.2 q.1) = true := by decide +kernel
set_option maxRecDepth 100000 in
theorem pm_ckr_law_80 : (((pm_Mx_law.2.2.2.2.2.zipIdx).drop 80).take 40).all (fun q => pm_chk1 pm_Mx_law q.2 q.1) = true := by decide +kernel
set_option maxRecDepth 100000 in
theorem pm_ckr_law_120 : (((pm_Mx_law.2.2.2.2.2.zipIdx).drop 120).take 40).all (fun q => pm_chk1 pm_Mx_law q.2 q.1) = true := by decide +kernel
set_option maxRecDepth 100000 in
theorem pm_ckr_law_160 : (((pm_Mx_law.2.2.2.2.2.zipIdx).drop 160).take 40).all (fun q => pm_chk1 pm_Mx_law q.2 q.1) = true := by decide +kernel
set_option maxRecDepth 100000 in
theorem pm_ckr_law_200 : (((pm_Mx_law.2.2.2.2.2.zipIdx).drop 200).take 40).all (fun q => pm_chk1 pm_Mx_law q.2 q.1) = true := by decide +kernel
set_option maxRecDepth 100000 in
theorem pm_ckr_law_240 : (((pm_Mx_law.2.2.2.2.2.zipIdx).drop 240).take 40).all (fun q => pm_chk1 pm_Mx_law q.2 q.1) = true := by decide +kernel
set_option maxRecDepth 100000 in
theorem pm_ckr_law_280 : (((pm_Mx_law.2.2.2.2.2.zipIdx).drop 280).take 40).all (fun q => pm_chk1 pm_Mx_law q.2 q.1) = true := by decide +kernel
set_option maxRecDepth 100000 in
theorem pm_ckr_law_320 : (((pm_Mx_law.2.2.2.2.2.zipIdx).drop 320).take 40).all (fun q => pm_chk1 pm_Mx_law q.2 q.1) = true := by decide +kernel
set_option maxRecDepth 100000 in
theorem pm_ckr_law_360 : (((pm_Mx_law.2.2.2.2.2.zipIdx).drop 360).take 40).all (fun q => pm_chk1 pm_Mx_law q.2 q.1) = true := by decide +kernel
set_option maxRecDepth 100000 in
theorem pm_ckr_law_400 : (((pm_Mx_law.2.2.2.2.2.zipIdx).drop 400).take 40).all (fun q => pm_chk1 pm_Mx_law q.2 q.1) = true := by decide +kernel
set_option maxRecDepth 100000 in
theorem pm_ckr_law_440 : (((pm_Mx_law.2.2.2.2.2.zipIdx).drop 440).take 40).all (fun q => pm_chk1 pm_Mx_law q.2 q.1) = true := by decide +kernel
set_option maxRecDepth 100000 in
theorem pm_ckr_law_480 : (((pm_Mx_law.2.2.2.2.2.zipIdx).drop 480).take 40).all (fun q => pm_chk1 pm_Mx_law q.2 q.1) = true := by decide +kernel
set_option maxRecDepth 100000 in
theorem pm_ckr_law_520 : (((pm_Mx_law.2.2.2.2.2.zipIdx).drop 520).take 40).all (fun q => pm_chk1 pm_Mx_law q.2 q.1) = true := by decide +kernel
set_option maxRecDepth 100000 in
theorem pm_ckr_law_560 : (((pm_Mx_law.2.2.2.2.2.zipIdx).drop 560).take 40).all (fun q => pm_chk1 pm_Mx_law q.2 q.1) = true := by decide +kernel
set_option maxRecDepth 100000 in
theorem pm_ckr_law_600 : (((pm_Mx_law.2.2.2.2.2.zipIdx).drop 600).take 40).all (fun q => pm_chk1 pm_Mx_law q.2 q.1) = true := by decide +kernel
set_option maxRecDepth 100000 in
theorem pm_ckr_law_640 : (((pm_Mx_law.2.2.2.2.2.zipIdx).drop 640).take 40).all (fun q => pm_chk1 pm_Mx_law q.2 q.1) = true := by decide +kernel
set_option maxRecDepth 100000 in
theorem pm_ckr_law_680 : (((pm_Mx_law.2.2.2.2.2.zipIdx).drop 680).take 40).all (fun q => pm_chk1 pm_Mx_law q.2 q.1) = true := by decide +kernel
set_option maxRecDepth 100000 in
theorem pm_ckm_law : pm_chk pm_Mx_law = true := pm_chkj (pm_pcs _ _ 0 40 pm_ckr_law_0 (pm_pcs _ _ 40 40 pm_ckr_law_40 (pm_pcs _ _ 80 40 pm_ckr_law_80 (pm_pcs _ _ 120 40 pm_ckr_law_120 (pm_pcs _ _ 160 40 pm_ckr_law_160 (pm_pcs _ _ 200 40 pm_ckr_law_200 (pm_pcs _ _ 240 40 pm_ckr_law_240 (pm_pcs _ _ 280 40 pm_ckr_law_280 (pm_pcs _ _ 320 40 pm_ckr_law_320 (pm_pcs _ _ 360 40 pm_ckr_law_360 (pm_pcs _ _ 400 40 pm_ckr_law_400 (pm_pcs _ _ 440 40 pm_ckr_law_440 (pm_pcs _ _ 480 40 pm_ckr_law_480 (pm_pcs _ _ 520 40 pm_ckr_law_520 (pm_pcs _ _ 560 40 pm_ckr_law_560 (pm_pcs _ _ 600 40 pm_ckr_law_600 (pm_pcs _ _ 640 40 pm_ckr_law_640 (pm_pcs _ _ 680 40 pm_ckr_law_680 (pm_pce _ _ _ (by decide +kernel)))))))))))))))))))) (by decide +kernel)
