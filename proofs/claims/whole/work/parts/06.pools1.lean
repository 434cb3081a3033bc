/-! the pools, on -/
set_option maxRecDepth 100000 in
theorem mu_kM_10_0 : ((mu_pM 10).take 6).all (mu_ckM 10) = true := by decide +kernel
set_option maxRecDepth 100000 in
theorem mu_kM_10_1 : (((mu_pM 10).drop 6).take 6).all (mu_ckM 10) = true := by decide +kernel
set_option maxRecDepth 100000 in
theorem mu_kM_10_2 : ((((mu_pM 10).drop 6).drop 6).take 6).all (mu_ckM 10) = true := by decide +kernel
set_option maxRecDepth 100000 in
theorem mu_kM_10_3 : (((((mu_pM 10).drop 6).drop 6).drop 6).take 6).all (mu_ckM 10) = true := by decide +kernel
set_option maxRecDepth 100000 in
theorem mu_kM_10_4 : ((((((mu_pM 10).drop 6).drop 6).drop 6).drop 6).take 6).all (mu_ckM 10) = true := by decide +kernel
set_option maxRecDepth 100000 in
theorem mu_kM_10_5 : (((((((mu_pM 10).drop 6).drop 6).drop 6).drop 6).drop 6).take 6).all (mu_ckM 10) = true := by decide +kernel
set_option maxRecDepth 100000 in
theorem mu_kM_10_6 : ((((((((mu_pM 10).drop 6).drop 6).drop 6).drop 6).drop 6).drop 6).take 6).all (mu_ckM 10) = true := by decide +kernel
set_option maxRecDepth 100000 in
theorem mu_kM_10_7 : (((((((((mu_pM 10).drop 6).drop 6).drop 6).drop 6).drop 6).drop 6).drop 6).take 6).all (mu_ckM 10) = true := by decide +kernel
set_option maxRecDepth 100000 in
theorem mu_kM_10_8 : ((((((((((mu_pM 10).drop 6).drop 6).drop 6).drop 6).drop 6).drop 6).drop 6).drop 6).take 6).all (mu_ckM 10) = true := by decide +kernel
set_option maxRecDepth 100000 in
theorem mu_kM_10_9 : (((((((((((mu_pM 10).drop 6).drop 6).drop 6).drop 6).drop 6).drop 6).drop 6).drop 6).drop 6).take 6).all (mu_ckM 10) = true := by decide +kernel
set_option maxRecDepth 100000 in
theorem mu_kM_10 : (mu_pM 10).all (mu_ckM 10) = true := (mu_all_split (mu_ckM 10) (mu_pM 10) 6 mu_kM_10_0 (mu_all_split (mu_ckM 10) ((mu_pM 10).drop 6) 6 mu_kM_10_1 (mu_all_split (mu_ckM 10) (((mu_pM 10).drop 6).drop 6) 6 mu_kM_10_2 (mu_all_split (mu_ckM 10) ((((mu_pM 10).drop 6).drop 6).drop 6) 6 mu_kM_10_3 (mu_all_split (mu_ckM 10) (((((mu_pM 10).drop 6).drop 6).drop 6).drop 6) 6 mu_kM_10_4 (mu_all_split (mu_ckM 10) ((((((mu_pM 10).drop 6).drop 6).drop 6).drop 6).drop 6) 6 mu_kM_10_5 (mu_all_split (mu_ckM 10) (((((((mu_pM 10).drop 6).drop 6).drop 6).drop 6).drop 6).drop 6) 6 mu_kM_10_6 (mu_all_split (mu_ckM 10) ((((((((mu_pM 10).drop 6).drop 6).drop 6).drop 6).drop 6).drop 6).drop 6) 6 mu_kM_10_7 (mu_all_split (mu_ckM 10) (((((((((mu_pM 10).drop 6).drop 6).drop 6).drop 6).drop 6).drop 6).drop 6).drop 6) 6 mu_kM_10_8 (mu_all_split (mu_ckM 10) ((((((((((mu_pM 10).drop 6).drop 6).drop 6).drop 6).drop 6).drop 6).drop 6).drop 6).drop 6) 6 mu_kM_10_9 (rfl : ((((((((((((mu_pM 10).drop 6).drop 6).drop 6).drop 6).drop 6).drop 6).drop 6).drop 6).drop 6).drop 6)).all (mu_ckM 10) = true)))))))))))
set_option maxRecDepth 100000 in
theorem mu_kM_11_0 : ((mu_pM 11).take 6).all (mu_ckM 11) = true := by decide +kernel
set_option maxRecDepth 100000 in
theorem mu_kM_11_1 : (((mu_pM 11).drop 6).take 6).all (mu_ckM 11) = true := by decide +kernel
set_option maxRecDepth 100000 in
theorem mu_kM_11_2 : ((((mu_pM 11).drop 6).drop 6).take 6).all (mu_ckM 11) = true := by decide +kernel
set_option maxRecDepth 100000 in
theorem mu_kM_11_3 : (((((mu_pM 11).drop 6).drop 6).drop 6).take 6).all (mu_ckM 11) = true := by decide +kernel
set_option maxRecDepth 100000 in
theorem mu_kM_11_4 : ((((((mu_pM 11).drop 6).drop 6).drop 6).drop 6).take 6).all (mu_ckM 11) = true := by decide +kernel
set_option maxRecDepth 100000 in
theorem mu_kM_11_5 : (((((((mu_pM 11).drop 6).drop 6).drop 6).drop 6).drop 6).take 6).all (mu_ckM 11) = true := by decide +kernel
set_option maxRecDepth 100000 in
theorem mu_kM_11_6 : ((((((((mu_pM 11).drop 6).drop 6).drop 6).drop 6).drop 6).drop 6).take 6).all (mu_ckM 11) = true := by decide +kernel
set_option maxRecDepth 100000 in
theorem mu_kM_11_7 : (((((((((mu_pM 11).drop 6).drop 6).drop 6).drop 6).drop 6).drop 6).drop 6).take 6).all (mu_ckM 11) = true := by decide +kernel
set_option maxRecDepth 100000 in
theorem mu_kM_11_8 : ((((((((((mu_pM 11).drop 6).drop 6).drop 6).drop 6).drop 6).drop 6).drop 6).drop 6).take 6).all (mu_ckM 11) = true := by decide +kernel
set_option maxRecDepth 100000 in
theorem mu_kM_11_9 : (((((((((((mu_pM 11).drop 6).drop 6).drop 6).drop 6).drop 6).drop 6).drop 6).drop 6).drop 6).take 6).all (mu_ckM 11) = true := by decide +kernel
set_option maxRecDepth 100000 in
theorem mu_kM_11_10 : ((((((((((((mu_pM 11).drop 6).drop 6).drop 6).drop 6).drop 6).drop 6).drop 6).drop 6).drop 6).drop 6).take 6).all (mu_ckM 11) = true := by decide +kernel
set_option maxRecDepth 100000 in
theorem mu_kM_11_11 : (((((((((((((mu_pM 11).drop 6).drop 6).drop 6).drop 6).drop 6).drop 6).drop 6).drop 6).drop 6).drop 6).drop 6).take 6).all (mu_ckM 11) = true := by decide +kernel
set_option maxRecDepth 100000 in
theorem mu_kM_11 : (mu_pM 11).all (mu_ckM 11) = true := (mu_all_split (mu_ckM 11) (mu_pM 11) 6 mu_kM_11_0 (mu_all_split (mu_ckM 11) ((mu_pM 11).drop 6) 6 mu_kM_11_1 (mu_all_split (mu_ckM 11) (((mu_pM 11).drop 6).drop 6) 6 mu_kM_11_2 (mu_all_split (mu_ckM 11) ((((mu_pM 11).drop 6).drop 6).drop 6) 6 mu_kM_11_3 (mu_all_split (mu_ckM 11) (((((mu_pM 11).drop 6).drop 6).drop 6).drop 6) 6 mu_kM_11_4 (mu_all_split (mu_ckM 11) ((((((mu_pM 11).drop 6).drop 6).drop 6).drop 6).drop 6) 6 mu_kM_11_5 (mu_all_split (mu_ckM 11) (((((((mu_pM 11).drop 6).drop 6).drop 6).drop 6).drop 6).drop 6) 6 mu_kM_11_6 (mu_all_split (mu_ckM 11) ((((((((mu_pM 11).drop 6).drop 6).drop 6).drop 6).drop 6).drop 6).drop 6) 6 mu_kM_11_7 (mu_all_split (mu_ckM 11) (((((((((mu_pM 11).drop 6).drop 6).drop 6).drop 6).drop 6).drop 6).drop 6).drop 6) 6 mu_kM_11_8 (mu_all_split (mu_ckM 11) ((((((((((mu_pM 11).drop 6).drop 6).drop 6).drop 6).drop 6).drop 6).drop 6).drop 6).drop 6) 6 mu_kM_11_9 (mu_all_split (mu_ckM 11) (((((((((((mu_pM 11).drop 6).drop 6).drop 6).drop 6).drop 6).drop 6).drop 6).drop 6).drop 6).drop 6) 6 mu_kM_11_10 (mu_all_split (mu_ckM 11) ((((((((((((mu_pM 11).drop 6).drop 6).drop 6).drop 6).drop 6).drop 6).drop 6).drop 6).drop 6).drop 6).drop 6) 6 mu_kM_11_11 (rfl : ((((((((((((((mu_pM 11).drop 6).drop 6).drop 6).drop 6).drop 6).drop 6).drop 6).drop 6).drop 6).drop 6).drop 6).drop 6)).all (mu_ckM 11) = true)))))))))))))
