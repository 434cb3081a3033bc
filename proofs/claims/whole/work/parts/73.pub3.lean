/-! CLIENTS: weapons, cuts: the reference's public calls -/
section Pw
variable {w : mu_O} {d x y E : Nat} {g : mu_H} {s : Nat → Int32}
/-- a write into the row that leaves what was found right -/
theorem mp_ok {g' : mu_H} {Q : Option Value → mu_H → Prop} {q : Int32 × (Nat → Int32)} {v : Int32} (hW : wf_s s) (hca : caC y s g) (hQ : ∀ r g', mPost w y q g r g' → mu_X g' = mu_X g → mu_S g' = mu_S g → Q r g') (hf : mu_fr (fun a => a = y + 1) g g') (hv : v = q.1) (hs : mu_I g' (y + 1) = q.2) (hz : agZ s q.2) : Q (some (.int v)) g' :=
  hQ _ _ ⟨_, rfl, hv, hs, az_caC hz hW hca (by rw [hf.2.2.2.2.2 y (by omega)]) (by rw [hf.2.2.2.2.2 y (by omega)]) (by rw [hf.2.2.2.2.2 y (by omega)]) (hf.2.2.2.2.2 _ (by omega)) (hf.2.2.2.2.2 _ (by omega)), f2_of hf (fun a k q => Or.inl q)⟩ hf.2.2.2.1 hf.2.2.2.2.1
theorem agZ_u {K : Nat} {v : Int32} {c : Nat → Int32} (h : agZ s c) (hK : ¬ (K = 0 ∨ K = 1 ∨ K = 3 ∨ K = 4 ∨ K = 9 ∨ (20 ≤ K ∧ K < 52 ∧ K % 4 ≠ 3) ∨ (60 ≤ K ∧ K < 220) ∨ (260 ≤ K ∧ K < 266) ∨ (460 ≤ K ∧ K < 460 + 200 * ntx s))) : agZ s (upd c K v) := fun i hi => by
  rw [pk_un (fun q => hK (by rw [← q]; exact hi))]
  exact h i hi
theorem agZ_rf : agZ s s := fun _ _ => rfl
theorem pm_weapon (hM : md_L w y g) (hs : mu_I g (y + 1) = s) (hc : wf_c s) (hW : wf_s s) (hca : caC y s g) : mu_mp w mm_X11_weapon (d + 1) [.ref y] g (mPost w y (pWeapon s) g) := by
  refine mu_mkp mk_X11_weapon rfl (fun L hL Q hQ => fm_X11_weapon_0 ?_)
  have hb := wc_b hc
  have hw1 := md_wj hM 1
  unfold pWeapon at hQ
  simp (disch := omega) only [hw1, md_T0 hM, md_R0 hM, md_T1 hM, md_N1 hM, hs, wc_0 hc, wc_1 hc, wc_2 hc, wc_3 hc, wc_4 hc, wc_5 hc, wc_6 hc, wc_7 hc, wc_9 hc, li_n, nI_add, pk_mul, nI_clamp, nI_ltI, nI_leI, nI_eq, mi_n, Nat.add_zero, true_and, and_true, true_or, or_true, false_or, or_false, not_false_eq_true, not_true_eq_false, implies_true, forall_const, ne_eq, Classical.not_not, reduceCtorEq, nor_p, cI_1n, bI_1n, cI_F, cI_T, cI_0, cI_0n, bI_0, bI_0n, cI_01, bI_01, Nat.reduceLeDiff, Nat.reduceLT, Nat.reduceEqDiff, Nat.reduceSub, Nat.reduceAdd, Nat.lt_irrefl, Nat.le_refl, false_implies, true_implies]
  refine ⟨fun h => mu_cI sp_X11_weaponAt hL ?_, fun h => ?_⟩
  · have h6 : nwp s < 6 := by omega
    rw [cif_t h6] at hQ
    have hM1 : md_L w y (mu_sI g (y + 1) (270 + 2 * nwp s) (nI 0)) := hM
    simp (disch := omega) only [hw1, mu_I_upd, pk_un, md_T0 hM, md_R0 hM, md_T1 hM, md_N1 hM, hs, wc_0 hc, wc_1 hc, wc_2 hc, wc_3 hc, wc_4 hc, wc_5 hc, wc_6 hc, wc_7 hc, wc_9 hc, li_n, nI_add, pk_mul, nI_clamp, nI_ltI, nI_leI, nI_eq, mi_n, Nat.add_zero, true_and, and_true, true_or, or_true, false_or, or_false, not_false_eq_true, not_true_eq_false, implies_true, forall_const, ne_eq, Classical.not_not, reduceCtorEq, nor_p, cI_1n, bI_1n, cI_F, cI_T, cI_0, cI_0n, bI_0, bI_0n, cI_01, bI_01, Nat.reduceLeDiff, Nat.reduceLT, Nat.reduceEqDiff, Nat.reduceSub, Nat.reduceAdd, Nat.lt_irrefl, Nat.le_refl, false_implies, true_implies]
    refine ⟨by omega, mu_cI sp_X11_weaponAt hL ?_⟩
    simp (disch := omega) only [hw1, mu_I_upd, pk_un, pk_us, mu_T_sI, mu_N_sI, mu_R_sI, md_T0 hM, md_R0 hM, md_T1 hM, md_N1 hM, hs, wc_0 hc, wc_1 hc, wc_2 hc, wc_3 hc, wc_4 hc, wc_5 hc, wc_6 hc, wc_7 hc, wc_9 hc, li_n, nI_add, pk_mul, nI_clamp, nI_ltI, nI_leI, nI_eq, mi_n, Nat.add_zero, true_and, and_true, true_or, or_true, false_or, or_false, not_false_eq_true, not_true_eq_false, implies_true, forall_const, ne_eq, Classical.not_not, reduceCtorEq, nor_p, cI_1n, bI_1n, cI_F, cI_T, cI_0, cI_0n, bI_0, bI_0n, cI_01, bI_01, Nat.reduceLeDiff, Nat.reduceLT, Nat.reduceEqDiff, Nat.reduceSub, Nat.reduceAdd, Nat.lt_irrefl, Nat.le_refl, false_implies, true_implies]
    have e1 : nI (nwp s + 1) - nI 1 = nI (nwp s) := nI_pred _
    rw [e1]
    refine ⟨by omega, mp_ok hW hca hQ (mu_fr_tr (mu_fr_tr (mu_fr_sI rfl) (mu_fr_sI rfl)) (mu_fr_sI rfl)) rfl ?_ ?_⟩
    · rw [mu_I_upd, mu_I_upd, mu_I_upd, hs]; rfl
    · exact agZ_u (agZ_u (agZ_u agZ_rf (by omega)) (by omega)) (by omega)
  · rw [cif_f (by omega)] at hQ
    exact mp_0 hQ rfl hs hca
theorem pm_in {v : Int32} (hM : md_L w y g) (hs : mu_I g (y + 1) = s) (hc : wf_c s) (hW : wf_s s) (hca : caC y s g) : mu_mp w mm_X11_in (d + 2) [.ref y, .int v] g (mPost w y (pIn s v) g) := by
  refine mu_mkp mk_X11_in rfl (fun L hL Q hQ => fm_X11_in_0 ⟨md_T0 hM, mu_cI (sp_X11_isWeapon hM hs (wc_5 hc) (by have := wc_b hc; omega)) hL ?_⟩)
  have hb := wc_b hc
  have hw1 := md_wj hM 1
  unfold pIn at hQ
  rw [bI_cI]
  simp (disch := omega) only [md_T0 hM, md_R0 hM, md_T1 hM, md_N1 hM, hs, wc_0 hc, wc_1 hc, wc_2 hc, wc_3 hc, wc_4 hc, wc_5 hc, wc_6 hc, wc_7 hc, wc_9 hc, li_n, nI_add, pk_mul, nI_clamp, nI_ltI, nI_leI, nI_eq, mi_n, Nat.add_zero, true_and, and_true, true_or, or_true, false_or, or_false, not_false_eq_true, not_true_eq_false, implies_true, forall_const, ne_eq, Classical.not_not, reduceCtorEq, nor_p, cI_1n, bI_1n, cI_F, cI_T, cI_0, cI_0n, bI_0, bI_0n, cI_01, bI_01, Nat.reduceLeDiff, Nat.reduceLT, Nat.reduceEqDiff, Nat.reduceSub, Nat.reduceAdd, Nat.lt_irrefl, Nat.le_refl, false_implies, true_implies]
  refine ⟨fun h => ?_, fun h => ?_⟩
  · rw [cif_t h] at hQ
    obtain ⟨k, k1, rfl, k3, k4⟩ := ix_of h
    rw [k3] at hQ
    obtain ⟨-, -, hw⟩ := (ws_w hW).1 k k1
    refine mu_cI sp_X11_weaponAt hL ?_
    simp (disch := omega) only [md_T0 hM, md_R0 hM, md_T1 hM, md_N1 hM, hs, wc_0 hc, wc_1 hc, wc_2 hc, wc_3 hc, wc_4 hc, wc_5 hc, wc_6 hc, wc_7 hc, wc_9 hc, li_n, nI_add, pk_mul, nI_clamp, nI_ltI, nI_leI, nI_eq, mi_n, Nat.add_zero, true_and, and_true, true_or, or_true, false_or, or_false, not_false_eq_true, not_true_eq_false, implies_true, forall_const, ne_eq, Classical.not_not, reduceCtorEq, nor_p, cI_1n, bI_1n, cI_F, cI_T, cI_0, cI_0n, bI_0, bI_0n, cI_01, bI_01, Nat.reduceLeDiff, Nat.reduceLT, Nat.reduceEqDiff, Nat.reduceSub, Nat.reduceAdd, Nat.lt_irrefl, Nat.le_refl, false_implies, true_implies]
    rcases hw with hw | ⟨p, p1, p2, p3⟩
    · rw [cif_t hw] at hQ
      rw [hw]
      exact ⟨by omega, fun q => absurd q (by decide), fun _ => mp_0 hQ rfl hs hca⟩
    · rw [p2, cif_f (m1_n (by omega)), nI_clamp (by omega)] at hQ
      rw [p2]
      refine ⟨by omega, fun _ => mu_cI sp_X11_weaponAt hL ?_, fun q => absurd (by rw [nI_leI (by omega) (by omega)]; omega) q⟩
      simp (disch := omega) only [hw1, md_T0 hM, md_R0 hM, md_T1 hM, md_N1 hM, hs, wc_0 hc, wc_1 hc, wc_2 hc, wc_3 hc, wc_4 hc, wc_5 hc, wc_6 hc, wc_7 hc, wc_9 hc, li_n, nI_add, pk_mul, nI_clamp, nI_ltI, nI_leI, nI_eq, mi_n, Nat.add_zero, true_and, and_true, true_or, or_true, false_or, or_false, not_false_eq_true, not_true_eq_false, implies_true, forall_const, ne_eq, Classical.not_not, reduceCtorEq, nor_p, cI_1n, bI_1n, cI_F, cI_T, cI_0, cI_0n, bI_0, bI_0n, cI_01, bI_01, Nat.reduceLeDiff, Nat.reduceLT, Nat.reduceEqDiff, Nat.reduceSub, Nat.reduceAdd, Nat.lt_irrefl, Nat.le_refl, false_implies, true_implies]
      refine ⟨by omega, mu_cI sp_X11_personAt hL ?_⟩
      simp (disch := omega) only [hw1, mu_T_sI, mu_N_sI, mu_R_sI, md_T0 hM, md_R0 hM, md_T1 hM, md_N1 hM, hs, wc_0 hc, wc_1 hc, wc_2 hc, wc_3 hc, wc_4 hc, wc_5 hc, wc_6 hc, wc_7 hc, wc_9 hc, li_n, nI_add, pk_mul, nI_clamp, nI_ltI, nI_leI, nI_eq, mi_n, Nat.add_zero, true_and, and_true, true_or, or_true, false_or, or_false, not_false_eq_true, not_true_eq_false, implies_true, forall_const, ne_eq, Classical.not_not, reduceCtorEq, nor_p, cI_1n, bI_1n, cI_F, cI_T, cI_0, cI_0n, bI_0, bI_0n, cI_01, bI_01, Nat.reduceLeDiff, Nat.reduceLT, Nat.reduceEqDiff, Nat.reduceSub, Nat.reduceAdd, Nat.lt_irrefl, Nat.le_refl, false_implies, true_implies]
      refine ⟨by omega, mp_ok hW hca hQ (mu_fr_tr (mu_fr_sI rfl) (mu_fr_sI rfl)) rfl ?_ ?_⟩
      · rw [mu_I_upd, mu_I_upd, hs]; rfl
      · exact agZ_u (agZ_u agZ_rf (by omega)) (by omega)
  · rw [cif_f h] at hQ
    exact mp_0 hQ rfl hs hca
theorem pm_cut {v u : Int32} (hM : md_L w y g) (hs : mu_I g (y + 1) = s) (hc : wf_c s) (hW : wf_s s) (hca : caC y s g) (hu : u = 0 ∨ u = 1) : mu_mp w mm_X11_cut (d + 2) [.ref y, .int v, .int u] g (mPost w y (pCut s v u) g) := by
  refine mu_mkp mk_X11_cut rfl (fun L hL Q hQ => fm_X11_cut_0 ⟨md_T0 hM, mu_cI (sp_X11_isMove hM hs (wc_1 hc) (by have := wc_b hc; omega)) hL ?_⟩)
  have hb := wc_b hc
  unfold pCut at hQ
  rw [bI_cI]
  simp (disch := omega) only [md_T0 hM, md_R0 hM, md_T1 hM, md_N1 hM, hs, wc_0 hc, wc_1 hc, wc_2 hc, wc_3 hc, wc_4 hc, wc_5 hc, wc_6 hc, wc_7 hc, wc_9 hc, li_n, nI_add, pk_mul, nI_clamp, nI_ltI, nI_leI, nI_eq, mi_n, Nat.add_zero, true_and, and_true, true_or, or_true, false_or, or_false, not_false_eq_true, not_true_eq_false, implies_true, forall_const, ne_eq, Classical.not_not, reduceCtorEq, nor_p, cI_1n, bI_1n, cI_F, cI_T, cI_0, cI_0n, bI_0, bI_0n, cI_01, bI_01, Nat.reduceLeDiff, Nat.reduceLT, Nat.reduceEqDiff, Nat.reduceSub, Nat.reduceAdd, Nat.lt_irrefl, Nat.le_refl, false_implies, true_implies]
  refine ⟨fun h => ?_, fun h => ?_⟩
  · rw [cif_t h] at hQ
    obtain ⟨k, k1, rfl, k3, k4⟩ := ix_of h
    rw [k3] at hQ
    have hmb := wm_b (ws_m hW) k1
    have h7 := wm_v (ws_m hW) k1 (show 7 < 8 by omega)
    refine ⟨fun h2 => mu_cI sp_X11_moveAt hL ?_, fun h2 => mu_cI sp_X11_moveAt hL ?_⟩
    · have h2 : u = 0 := h2
      subst h2
      simp (disch := omega) only [md_T0 hM, md_R0 hM, md_T1 hM, md_N1 hM, hs, wc_0 hc, wc_1 hc, wc_2 hc, wc_3 hc, wc_4 hc, wc_5 hc, wc_6 hc, wc_7 hc, wc_9 hc, li_n, nI_add, pk_mul, nI_clamp, nI_ltI, nI_leI, nI_eq, mi_n, Nat.add_zero, true_and, and_true, true_or, or_true, false_or, or_false, not_false_eq_true, not_true_eq_false, implies_true, forall_const, ne_eq, Classical.not_not, reduceCtorEq, nor_p, cI_1n, bI_1n, cI_F, cI_T, cI_0, cI_0n, bI_0, bI_0n, cI_01, bI_01, Nat.reduceLeDiff, Nat.reduceLT, Nat.reduceEqDiff, Nat.reduceSub, Nat.reduceAdd, Nat.lt_irrefl, Nat.le_refl, false_implies, true_implies]
      refine mu_cI (sp_X11_becomesN hM hs (by omega)) hL ?_
      refine ⟨fun q => hQ _ _ ⟨_, rfl, ?_, bec_s hs, bec_c, bec_f⟩ rfl rfl, fun q => hQ _ _ ⟨_, rfl, ?_, bec_s hs, bec_c, bec_f⟩ rfl rfl⟩
      · exact (cI_t q).symm
      · exact (cI_f (fun z => z q)).symm
    · have h2 : u = 1 := hu.resolve_left h2
      subst h2
      simp (disch := omega) only [md_T0 hM, md_R0 hM, md_T1 hM, md_N1 hM, hs, wc_0 hc, wc_1 hc, wc_2 hc, wc_3 hc, wc_4 hc, wc_5 hc, wc_6 hc, wc_7 hc, wc_9 hc, li_n, nI_add, pk_mul, nI_clamp, nI_ltI, nI_leI, nI_eq, mi_n, Nat.add_zero, true_and, and_true, true_or, or_true, false_or, or_false, not_false_eq_true, not_true_eq_false, implies_true, forall_const, ne_eq, Classical.not_not, reduceCtorEq, nor_p, cI_1n, bI_1n, cI_F, cI_T, cI_0, cI_0n, bI_0, bI_0n, cI_01, bI_01, Nat.reduceLeDiff, Nat.reduceLT, Nat.reduceEqDiff, Nat.reduceSub, Nat.reduceAdd, Nat.lt_irrefl, Nat.le_refl, false_implies, true_implies]
      refine mu_cI (sp_X11_becomesN hM hs (by omega)) hL ?_
      refine ⟨fun q => hQ _ _ ⟨_, rfl, ?_, bec_s hs, bec_c, bec_f⟩ rfl rfl, fun q => hQ _ _ ⟨_, rfl, ?_, bec_s hs, bec_c, bec_f⟩ rfl rfl⟩
      · exact (cI_t q).symm
      · exact (cI_f (fun z => z q)).symm
  · rw [cif_f h] at hQ
    exact mp_0 hQ rfl hs hca
end Pw
