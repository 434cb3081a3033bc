/-! the pools of methods are right, a stretch at a time -/
theorem mu_all_split {α : Type} (f : α → Bool) (l : List α) (n : Nat) (h1 : (l.take n).all f = true) (h2 : (l.drop n).all f = true) : l.all f = true := by
  rw [← List.take_append_drop n l, List.all_append, h1, h2]
  rfl
set_option maxRecDepth 100000 in
theorem mu_kM_0_0 : ((mu_pM 0).take 6).all (mu_ckM 0) = true := by decide +kernel
set_option maxRecDepth 100000 in
theorem mu_kM_0 : (mu_pM 0).all (mu_ckM 0) = true := (mu_all_split (mu_ckM 0) (mu_pM 0) 6 mu_kM_0_0 (rfl : (((mu_pM 0).drop 6)).all (mu_ckM 0) = true))
set_option maxRecDepth 100000 in
theorem mu_kM_1_0 : ((mu_pM 1).take 6).all (mu_ckM 1) = true := by decide +kernel
set_option maxRecDepth 100000 in
theorem mu_kM_1 : (mu_pM 1).all (mu_ckM 1) = true := (mu_all_split (mu_ckM 1) (mu_pM 1) 6 mu_kM_1_0 (rfl : (((mu_pM 1).drop 6)).all (mu_ckM 1) = true))
set_option maxRecDepth 100000 in
theorem mu_kM_2_0 : ((mu_pM 2).take 6).all (mu_ckM 2) = true := by decide +kernel
set_option maxRecDepth 100000 in
theorem mu_kM_2 : (mu_pM 2).all (mu_ckM 2) = true := (mu_all_split (mu_ckM 2) (mu_pM 2) 6 mu_kM_2_0 (rfl : (((mu_pM 2).drop 6)).all (mu_ckM 2) = true))
set_option maxRecDepth 100000 in
theorem mu_kM_3_0 : ((mu_pM 3).take 6).all (mu_ckM 3) = true := by decide +kernel
set_option maxRecDepth 100000 in
theorem mu_kM_3_1 : (((mu_pM 3).drop 6).take 6).all (mu_ckM 3) = true := by decide +kernel
set_option maxRecDepth 100000 in
theorem mu_kM_3_2 : ((((mu_pM 3).drop 6).drop 6).take 6).all (mu_ckM 3) = true := by decide +kernel
set_option maxRecDepth 100000 in
theorem mu_kM_3 : (mu_pM 3).all (mu_ckM 3) = true := (mu_all_split (mu_ckM 3) (mu_pM 3) 6 mu_kM_3_0 (mu_all_split (mu_ckM 3) ((mu_pM 3).drop 6) 6 mu_kM_3_1 (mu_all_split (mu_ckM 3) (((mu_pM 3).drop 6).drop 6) 6 mu_kM_3_2 (rfl : (((((mu_pM 3).drop 6).drop 6).drop 6)).all (mu_ckM 3) = true))))
set_option maxRecDepth 100000 in
theorem mu_kM_4_0 : ((mu_pM 4).take 6).all (mu_ckM 4) = true := by decide +kernel
set_option maxRecDepth 100000 in
theorem mu_kM_4_1 : (((mu_pM 4).drop 6).take 6).all (mu_ckM 4) = true := by decide +kernel
set_option maxRecDepth 100000 in
theorem mu_kM_4_2 : ((((mu_pM 4).drop 6).drop 6).take 6).all (mu_ckM 4) = true := by decide +kernel
set_option maxRecDepth 100000 in
theorem mu_kM_4_3 : (((((mu_pM 4).drop 6).drop 6).drop 6).take 6).all (mu_ckM 4) = true := by decide +kernel
set_option maxRecDepth 100000 in
theorem mu_kM_4 : (mu_pM 4).all (mu_ckM 4) = true := (mu_all_split (mu_ckM 4) (mu_pM 4) 6 mu_kM_4_0 (mu_all_split (mu_ckM 4) ((mu_pM 4).drop 6) 6 mu_kM_4_1 (mu_all_split (mu_ckM 4) (((mu_pM 4).drop 6).drop 6) 6 mu_kM_4_2 (mu_all_split (mu_ckM 4) ((((mu_pM 4).drop 6).drop 6).drop 6) 6 mu_kM_4_3 (rfl : ((((((mu_pM 4).drop 6).drop 6).drop 6).drop 6)).all (mu_ckM 4) = true)))))
set_option maxRecDepth 100000 in
theorem mu_kM_5_0 : ((mu_pM 5).take 6).all (mu_ckM 5) = true := by decide +kernel
set_option maxRecDepth 100000 in
theorem mu_kM_5 : (mu_pM 5).all (mu_ckM 5) = true := (mu_all_split (mu_ckM 5) (mu_pM 5) 6 mu_kM_5_0 (rfl : (((mu_pM 5).drop 6)).all (mu_ckM 5) = true))
set_option maxRecDepth 100000 in
theorem mu_kM_6_0 : ((mu_pM 6).take 6).all (mu_ckM 6) = true := by decide +kernel
set_option maxRecDepth 100000 in
theorem mu_kM_6_1 : (((mu_pM 6).drop 6).take 6).all (mu_ckM 6) = true := by decide +kernel
set_option maxRecDepth 100000 in
theorem mu_kM_6 : (mu_pM 6).all (mu_ckM 6) = true := (mu_all_split (mu_ckM 6) (mu_pM 6) 6 mu_kM_6_0 (mu_all_split (mu_ckM 6) ((mu_pM 6).drop 6) 6 mu_kM_6_1 (rfl : ((((mu_pM 6).drop 6).drop 6)).all (mu_ckM 6) = true)))
set_option maxRecDepth 100000 in
theorem mu_kM_7_0 : ((mu_pM 7).take 6).all (mu_ckM 7) = true := by decide +kernel
set_option maxRecDepth 100000 in
theorem mu_kM_7 : (mu_pM 7).all (mu_ckM 7) = true := (mu_all_split (mu_ckM 7) (mu_pM 7) 6 mu_kM_7_0 (rfl : (((mu_pM 7).drop 6)).all (mu_ckM 7) = true))
set_option maxRecDepth 100000 in
theorem mu_kM_8_0 : ((mu_pM 8).take 6).all (mu_ckM 8) = true := by decide +kernel
set_option maxRecDepth 100000 in
theorem mu_kM_8_1 : (((mu_pM 8).drop 6).take 6).all (mu_ckM 8) = true := by decide +kernel
set_option maxRecDepth 100000 in
theorem mu_kM_8_2 : ((((mu_pM 8).drop 6).drop 6).take 6).all (mu_ckM 8) = true := by decide +kernel
set_option maxRecDepth 100000 in
theorem mu_kM_8 : (mu_pM 8).all (mu_ckM 8) = true := (mu_all_split (mu_ckM 8) (mu_pM 8) 6 mu_kM_8_0 (mu_all_split (mu_ckM 8) ((mu_pM 8).drop 6) 6 mu_kM_8_1 (mu_all_split (mu_ckM 8) (((mu_pM 8).drop 6).drop 6) 6 mu_kM_8_2 (rfl : (((((mu_pM 8).drop 6).drop 6).drop 6)).all (mu_ckM 8) = true))))
set_option maxRecDepth 100000 in
theorem mu_kM_9_0 : ((mu_pM 9).take 6).all (mu_ckM 9) = true := by decide +kernel
set_option maxRecDepth 100000 in
theorem mu_kM_9 : (mu_pM 9).all (mu_ckM 9) = true := (mu_all_split (mu_ckM 9) (mu_pM 9) 6 mu_kM_9_0 (rfl : (((mu_pM 9).drop 6)).all (mu_ckM 9) = true))
