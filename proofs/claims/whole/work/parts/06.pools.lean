/-! the pools of methods are right, a stretch at a time -/
theorem mu_all_split {α : Type} (f : α → Bool) (l : List α) (n : Nat) (h1 : (l.take n).all f = true) (h2 : (l.drop n).all f = true) : l.all f = true := by
  rw [← List.take_append_drop n l, List.all_append, h1, h2]
  rfl
set_option maxRecDepth 100000 in
theorem mu_kM_0_0 : ((mu_pM 0).take 12).all (mu_ckM 0) = true := by decide +kernel
set_option maxRecDepth 100000 in
theorem mu_kM_0 : (mu_pM 0).all (mu_ckM 0) = true := (mu_all_split (mu_ckM 0) (mu_pM 0) 12 mu_kM_0_0 (rfl : (((mu_pM 0).drop 12)).all (mu_ckM 0) = true))
set_option maxRecDepth 100000 in
theorem mu_kM_1_0 : ((mu_pM 1).take 12).all (mu_ckM 1) = true := by decide +kernel
set_option maxRecDepth 100000 in
theorem mu_kM_1 : (mu_pM 1).all (mu_ckM 1) = true := (mu_all_split (mu_ckM 1) (mu_pM 1) 12 mu_kM_1_0 (rfl : (((mu_pM 1).drop 12)).all (mu_ckM 1) = true))
set_option maxRecDepth 100000 in
theorem mu_kM_2_0 : ((mu_pM 2).take 12).all (mu_ckM 2) = true := by decide +kernel
set_option maxRecDepth 100000 in
theorem mu_kM_2 : (mu_pM 2).all (mu_ckM 2) = true := (mu_all_split (mu_ckM 2) (mu_pM 2) 12 mu_kM_2_0 (rfl : (((mu_pM 2).drop 12)).all (mu_ckM 2) = true))
set_option maxRecDepth 100000 in
theorem mu_kM_3_0 : ((mu_pM 3).take 12).all (mu_ckM 3) = true := by decide +kernel
set_option maxRecDepth 100000 in
theorem mu_kM_3_1 : (((mu_pM 3).drop 12).take 12).all (mu_ckM 3) = true := by decide +kernel
set_option maxRecDepth 100000 in
theorem mu_kM_3 : (mu_pM 3).all (mu_ckM 3) = true := (mu_all_split (mu_ckM 3) (mu_pM 3) 12 mu_kM_3_0 (mu_all_split (mu_ckM 3) ((mu_pM 3).drop 12) 12 mu_kM_3_1 (rfl : ((((mu_pM 3).drop 12).drop 12)).all (mu_ckM 3) = true)))
set_option maxRecDepth 100000 in
theorem mu_kM_4_0 : ((mu_pM 4).take 12).all (mu_ckM 4) = true := by decide +kernel
set_option maxRecDepth 100000 in
theorem mu_kM_4_1 : (((mu_pM 4).drop 12).take 12).all (mu_ckM 4) = true := by decide +kernel
set_option maxRecDepth 100000 in
theorem mu_kM_4 : (mu_pM 4).all (mu_ckM 4) = true := (mu_all_split (mu_ckM 4) (mu_pM 4) 12 mu_kM_4_0 (mu_all_split (mu_ckM 4) ((mu_pM 4).drop 12) 12 mu_kM_4_1 (rfl : ((((mu_pM 4).drop 12).drop 12)).all (mu_ckM 4) = true)))
set_option maxRecDepth 100000 in
theorem mu_kM_5_0 : ((mu_pM 5).take 12).all (mu_ckM 5) = true := by decide +kernel
set_option maxRecDepth 100000 in
theorem mu_kM_5 : (mu_pM 5).all (mu_ckM 5) = true := (mu_all_split (mu_ckM 5) (mu_pM 5) 12 mu_kM_5_0 (rfl : (((mu_pM 5).drop 12)).all (mu_ckM 5) = true))
set_option maxRecDepth 100000 in
theorem mu_kM_6_0 : ((mu_pM 6).take 12).all (mu_ckM 6) = true := by decide +kernel
set_option maxRecDepth 100000 in
theorem mu_kM_6 : (mu_pM 6).all (mu_ckM 6) = true := (mu_all_split (mu_ckM 6) (mu_pM 6) 12 mu_kM_6_0 (rfl : (((mu_pM 6).drop 12)).all (mu_ckM 6) = true))
set_option maxRecDepth 100000 in
theorem mu_kM_7_0 : ((mu_pM 7).take 12).all (mu_ckM 7) = true := by decide +kernel
set_option maxRecDepth 100000 in
theorem mu_kM_7 : (mu_pM 7).all (mu_ckM 7) = true := (mu_all_split (mu_ckM 7) (mu_pM 7) 12 mu_kM_7_0 (rfl : (((mu_pM 7).drop 12)).all (mu_ckM 7) = true))
set_option maxRecDepth 100000 in
theorem mu_kM_8_0 : ((mu_pM 8).take 12).all (mu_ckM 8) = true := by decide +kernel
set_option maxRecDepth 100000 in
theorem mu_kM_8_1 : (((mu_pM 8).drop 12).take 12).all (mu_ckM 8) = true := by decide +kernel
set_option maxRecDepth 100000 in
theorem mu_kM_8 : (mu_pM 8).all (mu_ckM 8) = true := (mu_all_split (mu_ckM 8) (mu_pM 8) 12 mu_kM_8_0 (mu_all_split (mu_ckM 8) ((mu_pM 8).drop 12) 12 mu_kM_8_1 (rfl : ((((mu_pM 8).drop 12).drop 12)).all (mu_ckM 8) = true)))
set_option maxRecDepth 100000 in
theorem mu_kM_9_0 : ((mu_pM 9).take 12).all (mu_ckM 9) = true := by decide +kernel
set_option maxRecDepth 100000 in
theorem mu_kM_9 : (mu_pM 9).all (mu_ckM 9) = true := (mu_all_split (mu_ckM 9) (mu_pM 9) 12 mu_kM_9_0 (rfl : (((mu_pM 9).drop 12)).all (mu_ckM 9) = true))
set_option maxRecDepth 100000 in
theorem mu_kM_10_0 : ((mu_pM 10).take 12).all (mu_ckM 10) = true := by decide +kernel
set_option maxRecDepth 100000 in
theorem mu_kM_10_1 : (((mu_pM 10).drop 12).take 12).all (mu_ckM 10) = true := by decide +kernel
set_option maxRecDepth 100000 in
theorem mu_kM_10_2 : ((((mu_pM 10).drop 12).drop 12).take 12).all (mu_ckM 10) = true := by decide +kernel
set_option maxRecDepth 100000 in
theorem mu_kM_10_3 : (((((mu_pM 10).drop 12).drop 12).drop 12).take 12).all (mu_ckM 10) = true := by decide +kernel
set_option maxRecDepth 100000 in
theorem mu_kM_10_4 : ((((((mu_pM 10).drop 12).drop 12).drop 12).drop 12).take 12).all (mu_ckM 10) = true := by decide +kernel
set_option maxRecDepth 100000 in
theorem mu_kM_10 : (mu_pM 10).all (mu_ckM 10) = true := (mu_all_split (mu_ckM 10) (mu_pM 10) 12 mu_kM_10_0 (mu_all_split (mu_ckM 10) ((mu_pM 10).drop 12) 12 mu_kM_10_1 (mu_all_split (mu_ckM 10) (((mu_pM 10).drop 12).drop 12) 12 mu_kM_10_2 (mu_all_split (mu_ckM 10) ((((mu_pM 10).drop 12).drop 12).drop 12) 12 mu_kM_10_3 (mu_all_split (mu_ckM 10) (((((mu_pM 10).drop 12).drop 12).drop 12).drop 12) 12 mu_kM_10_4 (rfl : (((((((mu_pM 10).drop 12).drop 12).drop 12).drop 12).drop 12)).all (mu_ckM 10) = true))))))
set_option maxRecDepth 100000 in
theorem mu_kM_11_0 : ((mu_pM 11).take 12).all (mu_ckM 11) = true := by decide +kernel
set_option maxRecDepth 100000 in
theorem mu_kM_11_1 : (((mu_pM 11).drop 12).take 12).all (mu_ckM 11) = true := by decide +kernel
set_option maxRecDepth 100000 in
theorem mu_kM_11_2 : ((((mu_pM 11).drop 12).drop 12).take 12).all (mu_ckM 11) = true := by decide +kernel
set_option maxRecDepth 100000 in
theorem mu_kM_11_3 : (((((mu_pM 11).drop 12).drop 12).drop 12).take 12).all (mu_ckM 11) = true := by decide +kernel
set_option maxRecDepth 100000 in
theorem mu_kM_11_4 : ((((((mu_pM 11).drop 12).drop 12).drop 12).drop 12).take 12).all (mu_ckM 11) = true := by decide +kernel
set_option maxRecDepth 100000 in
theorem mu_kM_11_5 : (((((((mu_pM 11).drop 12).drop 12).drop 12).drop 12).drop 12).take 12).all (mu_ckM 11) = true := by decide +kernel
set_option maxRecDepth 100000 in
theorem mu_kM_11 : (mu_pM 11).all (mu_ckM 11) = true := (mu_all_split (mu_ckM 11) (mu_pM 11) 12 mu_kM_11_0 (mu_all_split (mu_ckM 11) ((mu_pM 11).drop 12) 12 mu_kM_11_1 (mu_all_split (mu_ckM 11) (((mu_pM 11).drop 12).drop 12) 12 mu_kM_11_2 (mu_all_split (mu_ckM 11) ((((mu_pM 11).drop 12).drop 12).drop 12) 12 mu_kM_11_3 (mu_all_split (mu_ckM 11) (((((mu_pM 11).drop 12).drop 12).drop 12).drop 12) 12 mu_kM_11_4 (mu_all_split (mu_ckM 11) ((((((mu_pM 11).drop 12).drop 12).drop 12).drop 12).drop 12) 12 mu_kM_11_5 (rfl : ((((((((mu_pM 11).drop 12).drop 12).drop 12).drop 12).drop 12).drop 12)).all (mu_ckM 11) = true)))))))
set_option maxRecDepth 100000 in
theorem mu_kM_12_0 : ((mu_pM 12).take 12).all (mu_ckM 12) = true := by decide +kernel
set_option maxRecDepth 100000 in
theorem mu_kM_12 : (mu_pM 12).all (mu_ckM 12) = true := (mu_all_split (mu_ckM 12) (mu_pM 12) 12 mu_kM_12_0 (rfl : (((mu_pM 12).drop 12)).all (mu_ckM 12) = true))
set_option maxRecDepth 100000 in
theorem mu_kM_13_0 : ((mu_pM 13).take 12).all (mu_ckM 13) = true := by decide +kernel
set_option maxRecDepth 100000 in
theorem mu_kM_13 : (mu_pM 13).all (mu_ckM 13) = true := (mu_all_split (mu_ckM 13) (mu_pM 13) 12 mu_kM_13_0 (rfl : (((mu_pM 13).drop 12)).all (mu_ckM 13) = true))
set_option maxRecDepth 100000 in
theorem mu_kM_14_0 : ((mu_pM 14).take 12).all (mu_ckM 14) = true := by decide +kernel
set_option maxRecDepth 100000 in
theorem mu_kM_14 : (mu_pM 14).all (mu_ckM 14) = true := (mu_all_split (mu_ckM 14) (mu_pM 14) 12 mu_kM_14_0 (rfl : (((mu_pM 14).drop 12)).all (mu_ckM 14) = true))
set_option maxRecDepth 100000 in
theorem mu_kM_15_0 : ((mu_pM 15).take 12).all (mu_ckM 15) = true := by decide +kernel
set_option maxRecDepth 100000 in
theorem mu_kM_15 : (mu_pM 15).all (mu_ckM 15) = true := (mu_all_split (mu_ckM 15) (mu_pM 15) 12 mu_kM_15_0 (rfl : (((mu_pM 15).drop 12)).all (mu_ckM 15) = true))
set_option maxRecDepth 100000 in
theorem mu_kM_16_0 : ((mu_pM 16).take 12).all (mu_ckM 16) = true := by decide +kernel
set_option maxRecDepth 100000 in
theorem mu_kM_16 : (mu_pM 16).all (mu_ckM 16) = true := (mu_all_split (mu_ckM 16) (mu_pM 16) 12 mu_kM_16_0 (rfl : (((mu_pM 16).drop 12)).all (mu_ckM 16) = true))
set_option maxRecDepth 100000 in
theorem mu_kM_17_0 : ((mu_pM 17).take 12).all (mu_ckM 17) = true := by decide +kernel
set_option maxRecDepth 100000 in
theorem mu_kM_17_1 : (((mu_pM 17).drop 12).take 12).all (mu_ckM 17) = true := by decide +kernel
set_option maxRecDepth 100000 in
theorem mu_kM_17_2 : ((((mu_pM 17).drop 12).drop 12).take 12).all (mu_ckM 17) = true := by decide +kernel
set_option maxRecDepth 100000 in
theorem mu_kM_17_3 : (((((mu_pM 17).drop 12).drop 12).drop 12).take 12).all (mu_ckM 17) = true := by decide +kernel
set_option maxRecDepth 100000 in
theorem mu_kM_17_4 : ((((((mu_pM 17).drop 12).drop 12).drop 12).drop 12).take 12).all (mu_ckM 17) = true := by decide +kernel
set_option maxRecDepth 100000 in
theorem mu_kM_17_5 : (((((((mu_pM 17).drop 12).drop 12).drop 12).drop 12).drop 12).take 12).all (mu_ckM 17) = true := by decide +kernel
set_option maxRecDepth 100000 in
theorem mu_kM_17_6 : ((((((((mu_pM 17).drop 12).drop 12).drop 12).drop 12).drop 12).drop 12).take 12).all (mu_ckM 17) = true := by decide +kernel
set_option maxRecDepth 100000 in
theorem mu_kM_17_7 : (((((((((mu_pM 17).drop 12).drop 12).drop 12).drop 12).drop 12).drop 12).drop 12).take 12).all (mu_ckM 17) = true := by decide +kernel
set_option maxRecDepth 100000 in
theorem mu_kM_17_8 : ((((((((((mu_pM 17).drop 12).drop 12).drop 12).drop 12).drop 12).drop 12).drop 12).drop 12).take 12).all (mu_ckM 17) = true := by decide +kernel
set_option maxRecDepth 100000 in
theorem mu_kM_17 : (mu_pM 17).all (mu_ckM 17) = true := (mu_all_split (mu_ckM 17) (mu_pM 17) 12 mu_kM_17_0 (mu_all_split (mu_ckM 17) ((mu_pM 17).drop 12) 12 mu_kM_17_1 (mu_all_split (mu_ckM 17) (((mu_pM 17).drop 12).drop 12) 12 mu_kM_17_2 (mu_all_split (mu_ckM 17) ((((mu_pM 17).drop 12).drop 12).drop 12) 12 mu_kM_17_3 (mu_all_split (mu_ckM 17) (((((mu_pM 17).drop 12).drop 12).drop 12).drop 12) 12 mu_kM_17_4 (mu_all_split (mu_ckM 17) ((((((mu_pM 17).drop 12).drop 12).drop 12).drop 12).drop 12) 12 mu_kM_17_5 (mu_all_split (mu_ckM 17) (((((((mu_pM 17).drop 12).drop 12).drop 12).drop 12).drop 12).drop 12) 12 mu_kM_17_6 (mu_all_split (mu_ckM 17) ((((((((mu_pM 17).drop 12).drop 12).drop 12).drop 12).drop 12).drop 12).drop 12) 12 mu_kM_17_7 (mu_all_split (mu_ckM 17) (((((((((mu_pM 17).drop 12).drop 12).drop 12).drop 12).drop 12).drop 12).drop 12).drop 12) 12 mu_kM_17_8 (rfl : (((((((((((mu_pM 17).drop 12).drop 12).drop 12).drop 12).drop 12).drop 12).drop 12).drop 12).drop 12)).all (mu_ckM 17) = true))))))))))
theorem mu_kM : (List.range 18).all (fun c => (mu_pM c).all (mu_ckM c)) = true := by
  rw [List.all_eq_true]
  intro c hc
  have hc := List.mem_range.mp hc
  rcases (show c = 0 ∨ c = 1 ∨ c = 2 ∨ c = 3 ∨ c = 4 ∨ c = 5 ∨ c = 6 ∨ c = 7 ∨ c = 8 ∨ c = 9 ∨ c = 10 ∨ c = 11 ∨ c = 12 ∨ c = 13 ∨ c = 14 ∨ c = 15 ∨ c = 16 ∨ c = 17 by omega) with rfl | rfl | rfl | rfl | rfl | rfl | rfl | rfl | rfl | rfl | rfl | rfl | rfl | rfl | rfl | rfl | rfl | rfl
  · exact mu_kM_0
  · exact mu_kM_1
  · exact mu_kM_2
  · exact mu_kM_3
  · exact mu_kM_4
  · exact mu_kM_5
  · exact mu_kM_6
  · exact mu_kM_7
  · exact mu_kM_8
  · exact mu_kM_9
  · exact mu_kM_10
  · exact mu_kM_11
  · exact mu_kM_12
  · exact mu_kM_13
  · exact mu_kM_14
  · exact mu_kM_15
  · exact mu_kM_16
  · exact mu_kM_17
