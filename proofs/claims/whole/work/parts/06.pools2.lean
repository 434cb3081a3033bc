/-! the pools, on -/
set_option maxRecDepth 100000 in
theorem mu_kM_12_0 : ((mu_pM 12).take 6).all (mu_ckM 12) = true := by decide +kernel
set_option maxRecDepth 100000 in
theorem mu_kM_12_1 : (((mu_pM 12).drop 6).take 6).all (mu_ckM 12) = true := by decide +kernel
set_option maxRecDepth 100000 in
theorem mu_kM_12 : (mu_pM 12).all (mu_ckM 12) = true := (mu_all_split (mu_ckM 12) (mu_pM 12) 6 mu_kM_12_0 (mu_all_split (mu_ckM 12) ((mu_pM 12).drop 6) 6 mu_kM_12_1 (rfl : ((((mu_pM 12).drop 6).drop 6)).all (mu_ckM 12) = true)))
set_option maxRecDepth 100000 in
theorem mu_kM_13_0 : ((mu_pM 13).take 6).all (mu_ckM 13) = true := by decide +kernel
set_option maxRecDepth 100000 in
theorem mu_kM_13 : (mu_pM 13).all (mu_ckM 13) = true := (mu_all_split (mu_ckM 13) (mu_pM 13) 6 mu_kM_13_0 (rfl : (((mu_pM 13).drop 6)).all (mu_ckM 13) = true))
set_option maxRecDepth 100000 in
theorem mu_kM_14_0 : ((mu_pM 14).take 6).all (mu_ckM 14) = true := by decide +kernel
set_option maxRecDepth 100000 in
theorem mu_kM_14 : (mu_pM 14).all (mu_ckM 14) = true := (mu_all_split (mu_ckM 14) (mu_pM 14) 6 mu_kM_14_0 (rfl : (((mu_pM 14).drop 6)).all (mu_ckM 14) = true))
set_option maxRecDepth 100000 in
theorem mu_kM_15_0 : ((mu_pM 15).take 6).all (mu_ckM 15) = true := by decide +kernel
set_option maxRecDepth 100000 in
theorem mu_kM_15 : (mu_pM 15).all (mu_ckM 15) = true := (mu_all_split (mu_ckM 15) (mu_pM 15) 6 mu_kM_15_0 (rfl : (((mu_pM 15).drop 6)).all (mu_ckM 15) = true))
set_option maxRecDepth 100000 in
theorem mu_kM_16_0 : ((mu_pM 16).take 6).all (mu_ckM 16) = true := by decide +kernel
set_option maxRecDepth 100000 in
theorem mu_kM_16 : (mu_pM 16).all (mu_ckM 16) = true := (mu_all_split (mu_ckM 16) (mu_pM 16) 6 mu_kM_16_0 (rfl : (((mu_pM 16).drop 6)).all (mu_ckM 16) = true))
set_option maxRecDepth 100000 in
theorem mu_kM_17_0 : ((mu_pM 17).take 6).all (mu_ckM 17) = true := by decide +kernel
set_option maxRecDepth 100000 in
theorem mu_kM_17_1 : (((mu_pM 17).drop 6).take 6).all (mu_ckM 17) = true := by decide +kernel
set_option maxRecDepth 100000 in
theorem mu_kM_17_2 : ((((mu_pM 17).drop 6).drop 6).take 6).all (mu_ckM 17) = true := by decide +kernel
set_option maxRecDepth 100000 in
theorem mu_kM_17_3 : (((((mu_pM 17).drop 6).drop 6).drop 6).take 6).all (mu_ckM 17) = true := by decide +kernel
set_option maxRecDepth 100000 in
theorem mu_kM_17_4 : ((((((mu_pM 17).drop 6).drop 6).drop 6).drop 6).take 6).all (mu_ckM 17) = true := by decide +kernel
set_option maxRecDepth 100000 in
theorem mu_kM_17_5 : (((((((mu_pM 17).drop 6).drop 6).drop 6).drop 6).drop 6).take 6).all (mu_ckM 17) = true := by decide +kernel
set_option maxRecDepth 100000 in
theorem mu_kM_17_6 : ((((((((mu_pM 17).drop 6).drop 6).drop 6).drop 6).drop 6).drop 6).take 6).all (mu_ckM 17) = true := by decide +kernel
set_option maxRecDepth 100000 in
theorem mu_kM_17_7 : (((((((((mu_pM 17).drop 6).drop 6).drop 6).drop 6).drop 6).drop 6).drop 6).take 6).all (mu_ckM 17) = true := by decide +kernel
set_option maxRecDepth 100000 in
theorem mu_kM_17_8 : ((((((((((mu_pM 17).drop 6).drop 6).drop 6).drop 6).drop 6).drop 6).drop 6).drop 6).take 6).all (mu_ckM 17) = true := by decide +kernel
set_option maxRecDepth 100000 in
theorem mu_kM_17_9 : (((((((((((mu_pM 17).drop 6).drop 6).drop 6).drop 6).drop 6).drop 6).drop 6).drop 6).drop 6).take 6).all (mu_ckM 17) = true := by decide +kernel
set_option maxRecDepth 100000 in
theorem mu_kM_17_10 : ((((((((((((mu_pM 17).drop 6).drop 6).drop 6).drop 6).drop 6).drop 6).drop 6).drop 6).drop 6).drop 6).take 6).all (mu_ckM 17) = true := by decide +kernel
set_option maxRecDepth 100000 in
theorem mu_kM_17_11 : (((((((((((((mu_pM 17).drop 6).drop 6).drop 6).drop 6).drop 6).drop 6).drop 6).drop 6).drop 6).drop 6).drop 6).take 6).all (mu_ckM 17) = true := by decide +kernel
set_option maxRecDepth 100000 in
theorem mu_kM_17_12 : ((((((((((((((mu_pM 17).drop 6).drop 6).drop 6).drop 6).drop 6).drop 6).drop 6).drop 6).drop 6).drop 6).drop 6).drop 6).take 6).all (mu_ckM 17) = true := by decide +kernel
set_option maxRecDepth 100000 in
theorem mu_kM_17_13 : (((((((((((((((mu_pM 17).drop 6).drop 6).drop 6).drop 6).drop 6).drop 6).drop 6).drop 6).drop 6).drop 6).drop 6).drop 6).drop 6).take 6).all (mu_ckM 17) = true := by decide +kernel
set_option maxRecDepth 100000 in
theorem mu_kM_17_14 : ((((((((((((((((mu_pM 17).drop 6).drop 6).drop 6).drop 6).drop 6).drop 6).drop 6).drop 6).drop 6).drop 6).drop 6).drop 6).drop 6).drop 6).take 6).all (mu_ckM 17) = true := by decide +kernel
set_option maxRecDepth 100000 in
theorem mu_kM_17_15 : (((((((((((((((((mu_pM 17).drop 6).drop 6).drop 6).drop 6).drop 6).drop 6).drop 6).drop 6).drop 6).drop 6).drop 6).drop 6).drop 6).drop 6).drop 6).take 6).all (mu_ckM 17) = true := by decide +kernel
set_option maxRecDepth 100000 in
theorem mu_kM_17_16 : ((((((((((((((((((mu_pM 17).drop 6).drop 6).drop 6).drop 6).drop 6).drop 6).drop 6).drop 6).drop 6).drop 6).drop 6).drop 6).drop 6).drop 6).drop 6).drop 6).take 6).all (mu_ckM 17) = true := by decide +kernel
set_option maxRecDepth 100000 in
theorem mu_kM_17 : (mu_pM 17).all (mu_ckM 17) = true := (mu_all_split (mu_ckM 17) (mu_pM 17) 6 mu_kM_17_0 (mu_all_split (mu_ckM 17) ((mu_pM 17).drop 6) 6 mu_kM_17_1 (mu_all_split (mu_ckM 17) (((mu_pM 17).drop 6).drop 6) 6 mu_kM_17_2 (mu_all_split (mu_ckM 17) ((((mu_pM 17).drop 6).drop 6).drop 6) 6 mu_kM_17_3 (mu_all_split (mu_ckM 17) (((((mu_pM 17).drop 6).drop 6).drop 6).drop 6) 6 mu_kM_17_4 (mu_all_split (mu_ckM 17) ((((((mu_pM 17).drop 6).drop 6).drop 6).drop 6).drop 6) 6 mu_kM_17_5 (mu_all_split (mu_ckM 17) (((((((mu_pM 17).drop 6).drop 6).drop 6).drop 6).drop 6).drop 6) 6 mu_kM_17_6 (mu_all_split (mu_ckM 17) ((((((((mu_pM 17).drop 6).drop 6).drop 6).drop 6).drop 6).drop 6).drop 6) 6 mu_kM_17_7 (mu_all_split (mu_ckM 17) (((((((((mu_pM 17).drop 6).drop 6).drop 6).drop 6).drop 6).drop 6).drop 6).drop 6) 6 mu_kM_17_8 (mu_all_split (mu_ckM 17) ((((((((((mu_pM 17).drop 6).drop 6).drop 6).drop 6).drop 6).drop 6).drop 6).drop 6).drop 6) 6 mu_kM_17_9 (mu_all_split (mu_ckM 17) (((((((((((mu_pM 17).drop 6).drop 6).drop 6).drop 6).drop 6).drop 6).drop 6).drop 6).drop 6).drop 6) 6 mu_kM_17_10 (mu_all_split (mu_ckM 17) ((((((((((((mu_pM 17).drop 6).drop 6).drop 6).drop 6).drop 6).drop 6).drop 6).drop 6).drop 6).drop 6).drop 6) 6 mu_kM_17_11 (mu_all_split (mu_ckM 17) (((((((((((((mu_pM 17).drop 6).drop 6).drop 6).drop 6).drop 6).drop 6).drop 6).drop 6).drop 6).drop 6).drop 6).drop 6) 6 mu_kM_17_12 (mu_all_split (mu_ckM 17) ((((((((((((((mu_pM 17).drop 6).drop 6).drop 6).drop 6).drop 6).drop 6).drop 6).drop 6).drop 6).drop 6).drop 6).drop 6).drop 6) 6 mu_kM_17_13 (mu_all_split (mu_ckM 17) (((((((((((((((mu_pM 17).drop 6).drop 6).drop 6).drop 6).drop 6).drop 6).drop 6).drop 6).drop 6).drop 6).drop 6).drop 6).drop 6).drop 6) 6 mu_kM_17_14 (mu_all_split (mu_ckM 17) ((((((((((((((((mu_pM 17).drop 6).drop 6).drop 6).drop 6).drop 6).drop 6).drop 6).drop 6).drop 6).drop 6).drop 6).drop 6).drop 6).drop 6).drop 6) 6 mu_kM_17_15 (mu_all_split (mu_ckM 17) (((((((((((((((((mu_pM 17).drop 6).drop 6).drop 6).drop 6).drop 6).drop 6).drop 6).drop 6).drop 6).drop 6).drop 6).drop 6).drop 6).drop 6).drop 6).drop 6) 6 mu_kM_17_16 (rfl : (((((((((((((((((((mu_pM 17).drop 6).drop 6).drop 6).drop 6).drop 6).drop 6).drop 6).drop 6).drop 6).drop 6).drop 6).drop 6).drop 6).drop 6).drop 6).drop 6).drop 6)).all (mu_ckM 17) = true))))))))))))))))))
theorem mu_kM : (List.range 18).all (fun c => (mu_pM c).all (mu_ckM c)) = true := by
  rw [List.all_eq_true]
  intro c hc
  have hc := List.mem_range.mp hc
  rcases (show c = 0 ∨ c = 1 ∨ c = 2 ∨ c = 3 ∨ c = 4 ∨ c = 5 ∨ c = 6 ∨ c = 7 ∨ c = 8 ∨ c = 9 ∨ c = 10 ∨ c = 11 ∨ c = 12 ∨ c = 13 ∨ c = 14 ∨ c = 15 ∨ c = 16 ∨ c = 17 by omega) with rfl | rfl | rfl | rfl | rfl | rfl | rfl | rfl | rfl | rfl | rfl | rfl | rfl | rfl | rfl | rfl | rfl | rfl
  · exact mu_kM_0
  · exact mu_kM_1
  · exact mu_kM_2
  · exact mu_kM_3
  · exact mu_kM_4
  · exact mu_kM_5
  · exact mu_kM_6
  · exact mu_kM_7
  · exact mu_kM_8
  · exact mu_kM_9
  · exact mu_kM_10
  · exact mu_kM_11
  · exact mu_kM_12
  · exact mu_kM_13
  · exact mu_kM_14
  · exact mu_kM_15
  · exact mu_kM_16
  · exact mu_kM_17
