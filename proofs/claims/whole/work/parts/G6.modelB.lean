/-! REFERENCE: the whole constructor -/
section In2
variable {w : mu_O} {a d : Nat} {g : mu_H} {L : Nat × Nat} {Q : Option Value → mu_H → Prop}
theorem go_X11_b (ha : w.1 < a) (h1 : mu_T g a = 12) (h2 : mu_R g a 4 = a + 4) (h3 : mu_T g (a + 4) = 20) (h4 : mu_N g (a + 4) = 4) (hQ : Q none (mu_sI (mu_sI (mu_sI (mu_sI g (a + 4) 0 (-1)) (a + 4) 1 (-1)) (a + 4) 2 (-1)) (a + 4) 3 (-1))) : mu_go w mm_X11_init (d + 1) L Q 309 [some (.ref a), some (.int (0 : Int32))] [] g := by
  have wa : w.1 < a + 4 := by omega
  have step : ∀ (i : Nat) (g1 : mu_H), i < 4 → mu_T g1 a = 12 → mu_R g1 a 4 = a + 4 → mu_T g1 (a + 4) = 20 → mu_N g1 (a + 4) = 4 → mu_go w mm_X11_init (d + 1) L Q 309 [some (.ref a), some (.int (nI (i + 1)))] [] (mu_sI g1 (a + 4) i (-1)) → mu_go w mm_X11_init (d + 1) L Q 309 [some (.ref a), some (.int (nI i))] [] g1 := fun i g1 hi k1 k2 k3 k4 k5 => by
    have e4 : ((4 : Int32) ≤ nI i) ↔ 4 ≤ i := nI_leI (a := 4) (by omega) (by omega)
    refine fm_X11_init_309 ⟨fun q => absurd (e4.mp q) (by omega), fun _ => ⟨k1, ?_⟩⟩
    rw [k2, k3, k4, nI_clamp (by omega), show nI i + (1 : Int32) = nI (i + 1) from nI_add i 1]
    exact ⟨wa, rfl, mu_in_n (by omega) (by omega), k5⟩
  refine step 0 g (by omega) h1 h2 h3 h4 ?_
  refine step 1 _ (by omega) h1 h2 h3 h4 ?_
  refine step 2 _ (by omega) h1 h2 h3 h4 ?_
  refine step 3 _ (by omega) h1 h2 h3 h4 ?_
  exact fm_X11_init_309 ⟨fun _ => hQ, fun q => absurd (by decide) q⟩
theorem f5M : mu_fw (fun z => z = a + 1 ∨ z = a + 4) nO g (mu_sI (mu_sI (mu_sI (mu_sI (mu_sI g (a + 1) 8 1) (a + 4) 0 (-1)) (a + 4) 1 (-1)) (a + 4) 2 (-1)) (a + 4) 3 (-1)) :=
  fw_tr (fw_tr (fw_tr (fw_tr (f1I (Or.inl rfl)) (f1I (Or.inr rfl))) (f1I (Or.inr rfl))) (f1I (Or.inr rfl))) (f1I (Or.inr rfl))
theorem i5M (h1 : mu_I g (a + 1) = oZ) (h4 : mu_I g (a + 4) = oZ) : (∀ k, mu_I (mu_sI (mu_sI (mu_sI (mu_sI (mu_sI g (a + 1) 8 1) (a + 4) 0 (-1)) (a + 4) 1 (-1)) (a + 4) 2 (-1)) (a + 4) 3 (-1)) (a + 1) k = if k = 8 then 1 else 0) ∧ ∀ k, k < 4 → mu_I (mu_sI (mu_sI (mu_sI (mu_sI (mu_sI g (a + 1) 8 1) (a + 4) 0 (-1)) (a + 4) 1 (-1)) (a + 4) 2 (-1)) (a + 4) 3 (-1)) (a + 4) k = -1 := by
  have n1 : ¬ (a + 1 = a + 4) := by omega
  refine ⟨fun k => ?_, fun k hk => ?_⟩
  · rw [mu_I_sI, if_neg (fun q => n1 q.1), mu_I_sI, if_neg (fun q => n1 q.1), mu_I_sI, if_neg (fun q => n1 q.1), mu_I_sI, if_neg (fun q => n1 q.1), mu_I_sI, h1]
    simp only [true_and, oZ]
  · rcases (show k = 0 ∨ k = 1 ∨ k = 2 ∨ k = 3 by omega) with rfl | rfl | rfl | rfl <;> simp only [mu_I_sI, true_and, if_true, and_self, Nat.reduceEqDiff, if_false, and_false, Nat.zero_ne_one, reduceCtorEq]
def P11 (w : mu_O) (a : Nat) (g g' : mu_H) : Prop := (Zr g' ∧ mu_ft nO (fun z => z = a) g g') ∧ md_L w a g' ∧ md_K a g' ∧ (∀ k, mu_I g' (a + 1) k = if k = 8 then 1 else 0) ∧ (∀ k, k < 4 → mu_I g' (a + 4) k = -1) ∧ ∀ j, 5 ≤ j → j ≤ 25 → (j ≤ 10 ∨ 15 ≤ j) → mu_I g' (a + j) = oZ
theorem dM_z : ∀ j, j < 25 → (j < 10 ∨ 14 ≤ j) → dM j = oZ := fun j _ h => by unfold dM; split <;> first | rfl | omega
theorem dM_k : ∀ k, k < 6 → dM 10 k = nI (kReach k) ∧ dM 11 k = nI (kWorth k) ∧ dM 12 k = nI (kTires k) ∧ dM 13 k = nI (kWears k) := by decide
theorem md_F : ∀ j, j < 25 → md_A.getD j 0 ∈ md_A ∧ md_R 0 (md_A.getD j 0) = j + 1 := by decide
theorem md_Fi : ∀ k ∈ md_A, ∃ j, j < 25 ∧ fM j = k := by decide
theorem md_R_eq : ∀ j, j < 25 → md_R a (fM j) = a + 1 + j := fun j hj => by
  rcases (show j = 0 ∨ j = 1 ∨ j = 2 ∨ j = 3 ∨ j = 4 ∨ j = 5 ∨ j = 6 ∨ j = 7 ∨ j = 8 ∨ j = 9 ∨ j = 10 ∨ j = 11 ∨ j = 12 ∨ j = 13 ∨ j = 14 ∨ j = 15 ∨ j = 16 ∨ j = 17 ∨ j = 18 ∨ j = 19 ∨ j = 20 ∨ j = 21 ∨ j = 22 ∨ j = 23 ∨ j = 24 by omega) with rfl | rfl | rfl | rfl | rfl | rfl | rfl | rfl | rfl | rfl | rfl | rfl | rfl | rfl | rfl | rfl | rfl | rfl | rfl | rfl | rfl | rfl | rfl | rfl | rfl <;> (show a + _ = _; omega)
theorem sp_X11_init (ha : w.1 < a) (hX : mu_X g = a + 1) (hZ : Zr g) (hT : mu_T g a = 12) : mu_mt w mm_X11_init (d + 1) [.ref a] g (fun r g' => r = none ∧ P11 w a g g') (a + 26) (mu_S g + 12143) := by
  refine mu_mkX mk_X11_init rfl (by omega) (by omega) (fun L l1 l2 Q hQ => ?_)
  refine go_X11_a ha hX hZ hT (by omega) (by omega) (fun g1 h1 => ?_)
  have T1 : mu_T g1 a = 12 := aw_T h1 hT
  have c1 : ∀ j, 1 ≤ j → j ≤ 25 → mu_T g1 (a + j) = 20 ∧ mu_N g1 (a + j) = md_N j ∧ mu_I g1 (a + j) = dM (j - 1) := fun j j1 j2 => by
    obtain ⟨p1, p2, p3, -⟩ := aw_c h1 (j := j - 1) (z := a + j) (by omega) (by omega)
    refine ⟨p1, ?_, p3⟩
    rw [p2]
    show md_N (j - 1 + 1) = md_N j
    rw [show j - 1 + 1 = j by omega]
  have r1 : ∀ k ∈ md_A, mu_R g1 a k = md_R a k := fun k hk => by
    obtain ⟨j, hj, rfl⟩ := md_Fi k hk
    rw [md_R_eq j hj]
    exact aw_r h1 hj rfl rfl
  have x1 := c1 1 (by omega) (by omega)
  have x4 := c1 4 (by omega) (by omega)
  refine go_X11_b ha T1 (r1 4 (by decide)) x4.1 x4.2.1 ?_
  have hf := f5M (g := g1) (a := a)
  have iM := i5M (g := g1) (a := a) (x1.2.2.trans (dM_z 0 (by omega) (by omega))) (x4.2.2.trans (dM_z 3 (by omega) (by omega)))
  generalize mu_sI (mu_sI (mu_sI (mu_sI (mu_sI g1 (a + 1) 8 1) (a + 4) 0 (-1)) (a + 4) 1 (-1)) (a + 4) 2 (-1)) (a + 4) 3 (-1) = g2 at hf iM ⊢
  obtain ⟨f1, f2, f3, f4, f5, f6⟩ := hf
  have hI : ∀ j, 5 ≤ j → j ≤ 25 → mu_I g2 (a + j) = dM (j - 1) := fun j j1 j2 => by rw [f6 (a + j) (by omega)]; exact (c1 j (by omega) j2).2.2
  refine hQ none g2 ⟨rfl, ⟨fun z hz => ?_, fun z hz => ?_⟩, ⟨ha, by rw [f1]; exact T1, fun k hk => ?_, fun j j1 j2 => ?_⟩, fun k hk => ?_, iM.1, iM.2, fun j j1 j2 j3 => ?_⟩ (by rw [f4]; exact (aw_X h1).trans (by omega)) (by rw [f5]; exact aw_S h1)
  · rw [f1]; exact aw_Z h1 z (by rw [← f4]; exact hz)
  · have hz0 : z < mu_X g := Zr_lt hZ hz
    obtain ⟨s1, s2, s3, s4⟩ := aw_ft h1 z hz
    exact ⟨by rw [f1]; exact s1, by rw [f2]; exact s2, fun q => by rw [f6 z (by omega)]; exact s3 q, fun q => by rw [f3 z (fun q => q)]; exact s4 q⟩
  · rw [f3 a (fun q => q)]; exact r1 k hk
  · rw [f1, f2]; exact ⟨(c1 j j1 j2).1, (c1 j j1 j2).2.1⟩
  · rw [hI 11 (by omega) (by omega), hI 12 (by omega) (by omega), hI 13 (by omega) (by omega), hI 14 (by omega) (by omega)]; exact dM_k k hk
  · rw [hI j j1 j2]; exact dM_z _ (by omega) (by omega)
end In2
