/-! CLIENTS: count: both public calls (gen85) -/
section Qi
variable {w : mu_O} {d x y E : Nat} {g g1 g2 : mu_H} {s : Nat → Int32} {a b : Int32}
theorem pc_count {v : Int32} (hst : st_L w g) (hC : cl_L w x g) (hV : sc_V w E (x + 1) s g) (hW : wf_s s) (ha : mu_I g x 11 = a) (hb' : mu_I g x 10 = b) : mu_mp w mm_X10_count (d + 3) [.ref x, .int v] g (cPost w x E (pCount s a b v) g) := by
  refine mu_mkp mk_X10_count rfl (fun L hL Q hQ => fm_X10_count_0 ?_)
  have hc := ws_c hW
  have hb := wc_b hc
  have hN := cl_n hC
  unfold pCount at hQ
  by_cases h2 : 0 ≤ v.toInt ∧ v.toInt ≤ 13
  · rw [cif_t h2] at hQ
    obtain ⟨n, n1, en, n3, n4⟩ := ix_of (v := v) (n := 14) ⟨by omega, by omega⟩
    have hu : v.toInt = (n : Int) := by rw [en, nI_toInt n4]
    rw [n3] at hQ
    obtain ⟨c0, c1, c2, c3, c4, c5, c9, c6, c8, c7⟩ := hV.2.1
    refine ⟨fun q => absurd q (by omega), fun q => ⟨cl_T hC, ?_⟩, fun q => ⟨cl_T hC, ?_⟩, fun q => ⟨cl_T hC, ?_⟩, fun q => ⟨cl_T hC, ?_⟩, fun q => ⟨cl_T hC, ?_⟩, fun q => ⟨cl_T hC, ?_⟩, fun q => ⟨cl_T hC, ?_⟩, fun q => ⟨cl_T hC, ?_⟩, fun q => ⟨cl_T hC, ?_⟩, fun q => ⟨cl_T hC, ?_⟩, fun q => ⟨cl_T hC, ?_⟩, fun q => ⟨cl_T hC, ?_⟩, fun q => ⟨cl_T hC, ?_⟩, fun q => ⟨cl_T hC, ?_⟩, trivial⟩
    · have e4 : n = 0 := by omega
      subst e4
      simp only [cl_R0 hC, sc_T hN, c0, true_and]
      exact cp_0 (L := L) hC hQ rfl hV
    · have e4 : n = 1 := by omega
      subst e4
      simp only [cl_R0 hC, sc_T hN, c1, true_and]
      exact cp_0 (L := L) hC hQ rfl hV
    · have e4 : n = 2 := by omega
      subst e4
      simp only [cl_R0 hC, sc_T hN, true_and]
      exact mu_cI (sp_X4_cutMoves hN hV hc (ws_m hW)) hL (cp_0 (L := L) hC hQ rfl hV)
    · have e4 : n = 3 := by omega
      subst e4
      simp only [cl_R0 hC, sc_T hN, true_and]
      exact mu_cI (sp_X4_blows hN hV hc hst (ws_m hW)) hL (cp_0 (L := L) hC hQ rfl hV)
    · have e4 : n = 4 := by omega
      subst e4
      simp only [cl_R0 hC, sc_T hN, c2, true_and]
      exact cp_0 (L := L) hC hQ rfl hV
    · have e4 : n = 5 := by omega
      subst e4
      simp only [cl_R0 hC, sc_T hN, c3, true_and]
      exact cp_0 (L := L) hC hQ rfl hV
    · have e4 : n = 6 := by omega
      subst e4
      simp only [cl_R0 hC, sc_T hN, c4, true_and]
      exact cp_0 (L := L) hC hQ rfl hV
    · have e4 : n = 7 := by omega
      subst e4
      simp only [cl_R0 hC, sc_T hN, c5, true_and]
      exact cp_0 (L := L) hC hQ rfl hV
    · have e4 : n = 8 := by omega
      subst e4
      simp only [cl_R0 hC, sc_T hN, true_and]
      exact mu_cI (sp_X4_weaponsOut hN hV hc (ws_w hW)) hL (cp_0 (L := L) hC hQ rfl hV)
    · have e4 : n = 9 := by omega
      subst e4
      simp only [cl_R0 hC, sc_T hN, c6, true_and]
      exact cp_0 (L := L) hC hQ rfl hV
    · have e4 : n = 10 := by omega
      subst e4
      simp only [cl_R0 hC, sc_T hN, sc_R9 hN, sc_T10 hN, c7, true_and]
      exact cp_0 (L := L) hC hQ rfl hV
    · have e4 : n = 11 := by omega
      subst e4
      rw [ha]
      exact cp_0 (L := L) hC hQ rfl hV
    · have e4 : n = 12 := by omega
      subst e4
      rw [hb']
      exact cp_0 (L := L) hC hQ rfl hV
    · have e4 : n = 13 := by omega
      subst e4
      simp only [cl_R0 hC, sc_T hN, c8, true_and]
      exact cp_0 (L := L) hC hQ rfl hV
  · rw [cif_f h2] at hQ
    refine ⟨fun q => cp_0 (L := L) hC hQ rfl hV, fun q => absurd (by omega) h2, fun q => absurd (by omega) h2, fun q => absurd (by omega) h2, fun q => absurd (by omega) h2, fun q => absurd (by omega) h2, fun q => absurd (by omega) h2, fun q => absurd (by omega) h2, fun q => absurd (by omega) h2, fun q => absurd (by omega) h2, fun q => absurd (by omega) h2, fun q => absurd (by omega) h2, fun q => absurd (by omega) h2, fun q => absurd (by omega) h2, fun q => absurd (by omega) h2, trivial⟩
theorem ml_cnt2 {L : Nat × Nat} {Q : Option Value → mu_H → Prop} (hM : md_L w y g) (hs : mu_I g (y + 1) = s) (hc : wf_c s) (hW : wf_s s) (hL : mu_fit2 L g) (hQ : Q (some (.int (nI (sumN (fun m => vM s m 7) (nm s))))) g) : mu_go w mm_X11_count (d + 3) L Q 88 [some (.ref y), some (.int (nI 2)), some (.int (nI 0)), some (.int (nI 0))] [] g := by
  have hb := wc_b hc
  refine lp (n := nm s) (P := fun i => mu_go w mm_X11_count (d + 3) L Q 88 [some (.ref y), some (.int (nI 2)), some (.int (nI (sumN (fun m => vM s m 7) i))), some (.int (nI i))] [] g) (fm_X11_count_88 ?_) (fun i hi ih => fm_X11_count_88 ?_)
  · simp (disch := omega) only [md_T0 hM, md_R0 hM, md_T1 hM, md_N1 hM, hs, wc_0 hc, wc_1 hc, wc_2 hc, wc_3 hc, wc_4 hc, wc_5 hc, wc_6 hc, wc_7 hc, wc_9 hc, li_n, nI_add, pk_mul, nI_clamp, nI_ltI, nI_leI, nI_eq, mi_n, Nat.add_zero, true_and, and_true, true_or, or_true, false_or, or_false, not_false_eq_true, not_true_eq_false, implies_true, forall_const, ne_eq, Classical.not_not, reduceCtorEq, nor_p, cI_1n, bI_1n, cI_F, cI_T, cI_0, cI_0n, bI_0, bI_0n, cI_01, bI_01, Nat.reduceLeDiff, Nat.reduceLT, Nat.reduceEqDiff, Nat.reduceSub, Nat.reduceAdd, Nat.lt_irrefl, Nat.le_refl, false_implies, true_implies]
    exact hQ
  · have hmb := (wm_b (ws_m hW) hi).2.2.2.2.2.2.2.2.2.2
    unfold sumN at ih
    simp (disch := omega) only [Nat.not_le_of_lt hi, md_T0 hM, md_R0 hM, md_T1 hM, md_N1 hM, hs, wc_0 hc, wc_1 hc, wc_2 hc, wc_3 hc, wc_4 hc, wc_5 hc, wc_6 hc, wc_7 hc, wc_9 hc, li_n, nI_add, pk_mul, nI_clamp, nI_ltI, nI_leI, nI_eq, mi_n, Nat.add_zero, true_and, and_true, true_or, or_true, false_or, or_false, not_false_eq_true, not_true_eq_false, implies_true, forall_const, ne_eq, Classical.not_not, reduceCtorEq, nor_p, cI_1n, bI_1n, cI_F, cI_T, cI_0, cI_0n, bI_0, bI_0n, cI_01, bI_01, Nat.reduceLeDiff, Nat.reduceLT, Nat.reduceEqDiff, Nat.reduceSub, Nat.reduceAdd, Nat.lt_irrefl, Nat.le_refl, false_implies, true_implies]
    refine mu_cI (sp_X11_fieldN (f := 7) hM hs hc (ws_m hW) hi (by omega)) hL ?_
    simp (disch := omega) only [md_T0 hM, md_R0 hM, md_T1 hM, md_N1 hM, hs, wc_0 hc, wc_1 hc, wc_2 hc, wc_3 hc, wc_4 hc, wc_5 hc, wc_6 hc, wc_7 hc, wc_9 hc, li_n, nI_add, pk_mul, nI_clamp, nI_ltI, nI_leI, nI_eq, mi_n, Nat.add_zero, true_and, and_true, true_or, or_true, false_or, or_false, not_false_eq_true, not_true_eq_false, implies_true, forall_const, ne_eq, Classical.not_not, reduceCtorEq, nor_p, cI_1n, bI_1n, cI_F, cI_T, cI_0, cI_0n, bI_0, bI_0n, cI_01, bI_01, Nat.reduceLeDiff, Nat.reduceLT, Nat.reduceEqDiff, Nat.reduceSub, Nat.reduceAdd, Nat.lt_irrefl, Nat.le_refl, false_implies, true_implies]
    refine ⟨fun h => ?_, fun h => ?_⟩
    · rw [show vM s i 7 = 0 by omega] at ih
      exact ih
    · rw [h] at ih
      exact ih
theorem ml_cnt3 {L : Nat × Nat} {Q : Option Value → mu_H → Prop} (hM : md_L w y g) (hs : mu_I g (y + 1) = s) (hc : wf_c s) (hW : wf_s s) (hL : mu_fit2 L g) (hQ : Q (some (.int (nI (sumN (fun m => cN (mBl s m)) (nm s))))) g) : mu_go w mm_X11_count (d + 3) L Q 88 [some (.ref y), some (.int (nI 3)), some (.int (nI 0)), some (.int (nI 0))] [] g := by
  have hb := wc_b hc
  refine lp (n := nm s) (P := fun i => mu_go w mm_X11_count (d + 3) L Q 88 [some (.ref y), some (.int (nI 3)), some (.int (nI (sumN (fun m => cN (mBl s m)) i))), some (.int (nI i))] [] g) (fm_X11_count_88 ?_) (fun i hi ih => fm_X11_count_88 ?_)
  · simp (disch := omega) only [md_T0 hM, md_R0 hM, md_T1 hM, md_N1 hM, hs, wc_0 hc, wc_1 hc, wc_2 hc, wc_3 hc, wc_4 hc, wc_5 hc, wc_6 hc, wc_7 hc, wc_9 hc, li_n, nI_add, pk_mul, nI_clamp, nI_ltI, nI_leI, nI_eq, mi_n, Nat.add_zero, true_and, and_true, true_or, or_true, false_or, or_false, not_false_eq_true, not_true_eq_false, implies_true, forall_const, ne_eq, Classical.not_not, reduceCtorEq, nor_p, cI_1n, bI_1n, cI_F, cI_T, cI_0, cI_0n, bI_0, bI_0n, cI_01, bI_01, Nat.reduceLeDiff, Nat.reduceLT, Nat.reduceEqDiff, Nat.reduceSub, Nat.reduceAdd, Nat.lt_irrefl, Nat.le_refl, false_implies, true_implies]
    exact hQ
  · unfold sumN at ih
    simp (disch := omega) only [Nat.not_le_of_lt hi, md_T0 hM, md_R0 hM, md_T1 hM, md_N1 hM, hs, wc_0 hc, wc_1 hc, wc_2 hc, wc_3 hc, wc_4 hc, wc_5 hc, wc_6 hc, wc_7 hc, wc_9 hc, li_n, nI_add, pk_mul, nI_clamp, nI_ltI, nI_leI, nI_eq, mi_n, Nat.add_zero, true_and, and_true, true_or, or_true, false_or, or_false, not_false_eq_true, not_true_eq_false, implies_true, forall_const, ne_eq, Classical.not_not, reduceCtorEq, nor_p, cI_1n, bI_1n, cI_F, cI_T, cI_0, cI_0n, bI_0, bI_0n, cI_01, bI_01, Nat.reduceLeDiff, Nat.reduceLT, Nat.reduceEqDiff, Nat.reduceSub, Nat.reduceAdd, Nat.lt_irrefl, Nat.le_refl, false_implies, true_implies]
    refine mu_cI (sp_X11_isBlowN hM hs hc (ws_m hW) hi) hL ?_
    simp (disch := omega) only [md_T0 hM, md_R0 hM, md_T1 hM, md_N1 hM, hs, wc_0 hc, wc_1 hc, wc_2 hc, wc_3 hc, wc_4 hc, wc_5 hc, wc_6 hc, wc_7 hc, wc_9 hc, li_n, nI_add, pk_mul, nI_clamp, nI_ltI, nI_leI, nI_eq, mi_n, Nat.add_zero, true_and, and_true, true_or, or_true, false_or, or_false, not_false_eq_true, not_true_eq_false, implies_true, forall_const, ne_eq, Classical.not_not, reduceCtorEq, nor_p, cI_1n, bI_1n, cI_F, cI_T, cI_0, cI_0n, bI_0, bI_0n, cI_01, bI_01, Nat.reduceLeDiff, Nat.reduceLT, Nat.reduceEqDiff, Nat.reduceSub, Nat.reduceAdd, Nat.lt_irrefl, Nat.le_refl, false_implies, true_implies]
    refine ⟨fun h => ?_, fun h => ?_⟩
    · rw [cN_f h] at ih
      exact ih
    · rw [cN_t h] at ih
      exact ih
theorem ml_cnt8 {L : Nat × Nat} {Q : Option Value → mu_H → Prop} (hM : md_L w y g) (hs : mu_I g (y + 1) = s) (hc : wf_c s) (hW : wf_s s) (hL : mu_fit2 L g) (hQ : Q (some (.int (nI (sumN (fun i => cN (¬ s (270 + 2 * i + 1) = -1)) (nwp s))))) g) : mu_go w mm_X11_count (d + 3) L Q 171 [some (.ref y), none, some (.int (nI 0)), some (.int (nI 0))] [] g := by
  have hb := wc_b hc
  refine lp (n := nwp s) (P := fun i => mu_go w mm_X11_count (d + 3) L Q 171 [some (.ref y), none, some (.int (nI (sumN (fun i => cN (¬ s (270 + 2 * i + 1) = -1)) i))), some (.int (nI i))] [] g) (fm_X11_count_171 ?_) (fun i hi ih => fm_X11_count_171 ?_)
  · simp (disch := omega) only [md_T0 hM, md_R0 hM, md_T1 hM, md_N1 hM, hs, wc_0 hc, wc_1 hc, wc_2 hc, wc_3 hc, wc_4 hc, wc_5 hc, wc_6 hc, wc_7 hc, wc_9 hc, li_n, nI_add, pk_mul, nI_clamp, nI_ltI, nI_leI, nI_eq, mi_n, Nat.add_zero, true_and, and_true, true_or, or_true, false_or, or_false, not_false_eq_true, not_true_eq_false, implies_true, forall_const, ne_eq, Classical.not_not, reduceCtorEq, nor_p, cI_1n, bI_1n, cI_F, cI_T, cI_0, cI_0n, bI_0, bI_0n, cI_01, bI_01, Nat.reduceLeDiff, Nat.reduceLT, Nat.reduceEqDiff, Nat.reduceSub, Nat.reduceAdd, Nat.lt_irrefl, Nat.le_refl, false_implies, true_implies]
    exact hQ
  · unfold sumN at ih
    simp (disch := omega) only [Nat.not_le_of_lt hi, md_T0 hM, md_R0 hM, md_T1 hM, md_N1 hM, hs, wc_0 hc, wc_1 hc, wc_2 hc, wc_3 hc, wc_4 hc, wc_5 hc, wc_6 hc, wc_7 hc, wc_9 hc, li_n, nI_add, pk_mul, nI_clamp, nI_ltI, nI_leI, nI_eq, mi_n, Nat.add_zero, true_and, and_true, true_or, or_true, false_or, or_false, not_false_eq_true, not_true_eq_false, implies_true, forall_const, ne_eq, Classical.not_not, reduceCtorEq, nor_p, cI_1n, bI_1n, cI_F, cI_T, cI_0, cI_0n, bI_0, bI_0n, cI_01, bI_01, Nat.reduceLeDiff, Nat.reduceLT, Nat.reduceEqDiff, Nat.reduceSub, Nat.reduceAdd, Nat.lt_irrefl, Nat.le_refl, false_implies, true_implies]
    refine mu_cI sp_X11_weaponAt hL ?_
    simp (disch := omega) only [md_T0 hM, md_R0 hM, md_T1 hM, md_N1 hM, hs, wc_0 hc, wc_1 hc, wc_2 hc, wc_3 hc, wc_4 hc, wc_5 hc, wc_6 hc, wc_7 hc, wc_9 hc, li_n, nI_add, pk_mul, nI_clamp, nI_ltI, nI_leI, nI_eq, mi_n, Nat.add_zero, true_and, and_true, true_or, or_true, false_or, or_false, not_false_eq_true, not_true_eq_false, implies_true, forall_const, ne_eq, Classical.not_not, reduceCtorEq, nor_p, cI_1n, bI_1n, cI_F, cI_T, cI_0, cI_0n, bI_0, bI_0n, cI_01, bI_01, Nat.reduceLeDiff, Nat.reduceLT, Nat.reduceEqDiff, Nat.reduceSub, Nat.reduceAdd, Nat.lt_irrefl, Nat.le_refl, false_implies, true_implies]
    rcases ((ws_w hW).1 i hi).2.2 with hw | ⟨p, p1, p2, -⟩
    · rw [cN_f (fun q => q hw)] at ih
      rw [hw]
      exact ⟨by omega, fun _ => ih, fun q => absurd (by decide) q⟩
    · rw [cN_t (by rw [p2]; exact m1_n (by omega))] at ih
      rw [p2]
      exact ⟨by omega, fun q => absurd q (by rw [nI_ltI (by omega) (by omega)]; omega), fun _ => ih⟩
theorem pm_count {v : Int32} (hM : md_L w y g) (hs : mu_I g (y + 1) = s) (hc : wf_c s) (hW : wf_s s) (hca : caC y s g) (ha : mu_I g y 39 = a) (hb' : mu_I g y 21 = b) : mu_mp w mm_X11_count (d + 3) [.ref y, .int v] g (mPost w y (pCount s a b v) g) := by
  refine mu_mkp mk_X11_count rfl (fun L hL Q hQ => fm_X11_count_0 ?_)
  have hb := wc_b hc
  unfold pCount at hQ
  by_cases h2 : 0 ≤ v.toInt ∧ v.toInt ≤ 13
  · rw [cif_t h2] at hQ
    obtain ⟨n, n1, en, n3, n4⟩ := ix_of (v := v) (n := 14) ⟨by omega, by omega⟩
    have hu : v.toInt = (n : Int) := by rw [en, nI_toInt n4]
    rw [n3] at hQ
    refine ⟨fun q => absurd q (by omega), fun q => ?_, fun q => ?_, fun q => ?_, fun q => ?_, fun q => ?_, fun q => ?_, fun q => ?_, fun q => ?_, fun q => ?_, fun q => ?_, fun q => ?_, fun q => ?_, fun q => ?_, fun q => ?_, trivial⟩
    · have e4 : n = 0 := by omega
      subst e4
      simp (disch := omega) only [md_T0 hM, md_R0 hM, md_T1 hM, md_N1 hM, hs, wc_0 hc, wc_1 hc, wc_2 hc, wc_3 hc, wc_4 hc, wc_5 hc, wc_6 hc, wc_7 hc, wc_9 hc, li_n, nI_add, pk_mul, nI_clamp, nI_ltI, nI_leI, nI_eq, mi_n, Nat.add_zero, true_and, and_true, true_or, or_true, false_or, or_false, not_false_eq_true, not_true_eq_false, implies_true, forall_const, ne_eq, Classical.not_not, reduceCtorEq, nor_p, cI_1n, bI_1n, cI_F, cI_T, cI_0, cI_0n, bI_0, bI_0n, cI_01, bI_01, Nat.reduceLeDiff, Nat.reduceLT, Nat.reduceEqDiff, Nat.reduceSub, Nat.reduceAdd, Nat.lt_irrefl, Nat.le_refl, false_implies, true_implies]
      exact mp_0 hQ (wc_0 hc).symm hs hca
    · have e4 : n = 1 := by omega
      subst e4
      simp (disch := omega) only [md_T0 hM, md_R0 hM, md_T1 hM, md_N1 hM, hs, wc_0 hc, wc_1 hc, wc_2 hc, wc_3 hc, wc_4 hc, wc_5 hc, wc_6 hc, wc_7 hc, wc_9 hc, li_n, nI_add, pk_mul, nI_clamp, nI_ltI, nI_leI, nI_eq, mi_n, Nat.add_zero, true_and, and_true, true_or, or_true, false_or, or_false, not_false_eq_true, not_true_eq_false, implies_true, forall_const, ne_eq, Classical.not_not, reduceCtorEq, nor_p, cI_1n, bI_1n, cI_F, cI_T, cI_0, cI_0n, bI_0, bI_0n, cI_01, bI_01, Nat.reduceLeDiff, Nat.reduceLT, Nat.reduceEqDiff, Nat.reduceSub, Nat.reduceAdd, Nat.lt_irrefl, Nat.le_refl, false_implies, true_implies]
      exact mp_0 hQ (wc_1 hc).symm hs hca
    · have e4 : n = 2 := by omega
      subst e4
      rw [en]
      exact ml_cnt2 hM hs hc hW hL (mp_0 hQ rfl hs hca)
    · have e4 : n = 3 := by omega
      subst e4
      rw [en]
      exact ml_cnt3 hM hs hc hW hL (mp_0 hQ rfl hs hca)
    · have e4 : n = 4 := by omega
      subst e4
      simp (disch := omega) only [md_T0 hM, md_R0 hM, md_T1 hM, md_N1 hM, hs, wc_0 hc, wc_1 hc, wc_2 hc, wc_3 hc, wc_4 hc, wc_5 hc, wc_6 hc, wc_7 hc, wc_9 hc, li_n, nI_add, pk_mul, nI_clamp, nI_ltI, nI_leI, nI_eq, mi_n, Nat.add_zero, true_and, and_true, true_or, or_true, false_or, or_false, not_false_eq_true, not_true_eq_false, implies_true, forall_const, ne_eq, Classical.not_not, reduceCtorEq, nor_p, cI_1n, bI_1n, cI_F, cI_T, cI_0, cI_0n, bI_0, bI_0n, cI_01, bI_01, Nat.reduceLeDiff, Nat.reduceLT, Nat.reduceEqDiff, Nat.reduceSub, Nat.reduceAdd, Nat.lt_irrefl, Nat.le_refl, false_implies, true_implies]
      exact mp_0 hQ (wc_2 hc).symm hs hca
    · have e4 : n = 5 := by omega
      subst e4
      simp (disch := omega) only [md_T0 hM, md_R0 hM, md_T1 hM, md_N1 hM, hs, wc_0 hc, wc_1 hc, wc_2 hc, wc_3 hc, wc_4 hc, wc_5 hc, wc_6 hc, wc_7 hc, wc_9 hc, li_n, nI_add, pk_mul, nI_clamp, nI_ltI, nI_leI, nI_eq, mi_n, Nat.add_zero, true_and, and_true, true_or, or_true, false_or, or_false, not_false_eq_true, not_true_eq_false, implies_true, forall_const, ne_eq, Classical.not_not, reduceCtorEq, nor_p, cI_1n, bI_1n, cI_F, cI_T, cI_0, cI_0n, bI_0, bI_0n, cI_01, bI_01, Nat.reduceLeDiff, Nat.reduceLT, Nat.reduceEqDiff, Nat.reduceSub, Nat.reduceAdd, Nat.lt_irrefl, Nat.le_refl, false_implies, true_implies]
      exact mp_0 hQ (wc_3 hc).symm hs hca
    · have e4 : n = 6 := by omega
      subst e4
      simp (disch := omega) only [md_T0 hM, md_R0 hM, md_T1 hM, md_N1 hM, hs, wc_0 hc, wc_1 hc, wc_2 hc, wc_3 hc, wc_4 hc, wc_5 hc, wc_6 hc, wc_7 hc, wc_9 hc, li_n, nI_add, pk_mul, nI_clamp, nI_ltI, nI_leI, nI_eq, mi_n, Nat.add_zero, true_and, and_true, true_or, or_true, false_or, or_false, not_false_eq_true, not_true_eq_false, implies_true, forall_const, ne_eq, Classical.not_not, reduceCtorEq, nor_p, cI_1n, bI_1n, cI_F, cI_T, cI_0, cI_0n, bI_0, bI_0n, cI_01, bI_01, Nat.reduceLeDiff, Nat.reduceLT, Nat.reduceEqDiff, Nat.reduceSub, Nat.reduceAdd, Nat.lt_irrefl, Nat.le_refl, false_implies, true_implies]
      exact mp_0 hQ (wc_4 hc).symm hs hca
    · have e4 : n = 7 := by omega
      subst e4
      simp (disch := omega) only [md_T0 hM, md_R0 hM, md_T1 hM, md_N1 hM, hs, wc_0 hc, wc_1 hc, wc_2 hc, wc_3 hc, wc_4 hc, wc_5 hc, wc_6 hc, wc_7 hc, wc_9 hc, li_n, nI_add, pk_mul, nI_clamp, nI_ltI, nI_leI, nI_eq, mi_n, Nat.add_zero, true_and, and_true, true_or, or_true, false_or, or_false, not_false_eq_true, not_true_eq_false, implies_true, forall_const, ne_eq, Classical.not_not, reduceCtorEq, nor_p, cI_1n, bI_1n, cI_F, cI_T, cI_0, cI_0n, bI_0, bI_0n, cI_01, bI_01, Nat.reduceLeDiff, Nat.reduceLT, Nat.reduceEqDiff, Nat.reduceSub, Nat.reduceAdd, Nat.lt_irrefl, Nat.le_refl, false_implies, true_implies]
      exact mp_0 hQ (wc_5 hc).symm hs hca
    · have e4 : n = 8 := by omega
      subst e4
      exact ml_cnt8 hM hs hc hW hL (mp_0 hQ rfl hs hca)
    · have e4 : n = 9 := by omega
      subst e4
      simp (disch := omega) only [md_T0 hM, md_R0 hM, md_T1 hM, md_N1 hM, hs, wc_0 hc, wc_1 hc, wc_2 hc, wc_3 hc, wc_4 hc, wc_5 hc, wc_6 hc, wc_7 hc, wc_9 hc, li_n, nI_add, pk_mul, nI_clamp, nI_ltI, nI_leI, nI_eq, mi_n, Nat.add_zero, true_and, and_true, true_or, or_true, false_or, or_false, not_false_eq_true, not_true_eq_false, implies_true, forall_const, ne_eq, Classical.not_not, reduceCtorEq, nor_p, cI_1n, bI_1n, cI_F, cI_T, cI_0, cI_0n, bI_0, bI_0n, cI_01, bI_01, Nat.reduceLeDiff, Nat.reduceLT, Nat.reduceEqDiff, Nat.reduceSub, Nat.reduceAdd, Nat.lt_irrefl, Nat.le_refl, false_implies, true_implies]
      exact mp_0 hQ (wc_6 hc).symm hs hca
    · have e4 : n = 10 := by omega
      subst e4
      simp (disch := omega) only [md_T0 hM, md_R0 hM, md_T1 hM, md_N1 hM, hs, wc_0 hc, wc_1 hc, wc_2 hc, wc_3 hc, wc_4 hc, wc_5 hc, wc_6 hc, wc_7 hc, wc_9 hc, li_n, nI_add, pk_mul, nI_clamp, nI_ltI, nI_leI, nI_eq, mi_n, Nat.add_zero, true_and, and_true, true_or, or_true, false_or, or_false, not_false_eq_true, not_true_eq_false, implies_true, forall_const, ne_eq, Classical.not_not, reduceCtorEq, nor_p, cI_1n, bI_1n, cI_F, cI_T, cI_0, cI_0n, bI_0, bI_0n, cI_01, bI_01, Nat.reduceLeDiff, Nat.reduceLT, Nat.reduceEqDiff, Nat.reduceSub, Nat.reduceAdd, Nat.lt_irrefl, Nat.le_refl, false_implies, true_implies]
      exact mp_0 hQ (wc_7 hc).symm hs hca
    · have e4 : n = 11 := by omega
      subst e4
      rw [ha]
      exact ⟨md_T0 hM, mp_0 hQ rfl hs hca⟩
    · have e4 : n = 12 := by omega
      subst e4
      rw [hb']
      exact ⟨md_T0 hM, mp_0 hQ rfl hs hca⟩
    · have e4 : n = 13 := by omega
      subst e4
      simp (disch := omega) only [md_T0 hM, md_R0 hM, md_T1 hM, md_N1 hM, hs, wc_0 hc, wc_1 hc, wc_2 hc, wc_3 hc, wc_4 hc, wc_5 hc, wc_6 hc, wc_7 hc, wc_9 hc, li_n, nI_add, pk_mul, nI_clamp, nI_ltI, nI_leI, nI_eq, mi_n, Nat.add_zero, true_and, and_true, true_or, or_true, false_or, or_false, not_false_eq_true, not_true_eq_false, implies_true, forall_const, ne_eq, Classical.not_not, reduceCtorEq, nor_p, cI_1n, bI_1n, cI_F, cI_T, cI_0, cI_0n, bI_0, bI_0n, cI_01, bI_01, Nat.reduceLeDiff, Nat.reduceLT, Nat.reduceEqDiff, Nat.reduceSub, Nat.reduceAdd, Nat.lt_irrefl, Nat.le_refl, false_implies, true_implies]
      exact mp_0 hQ rfl hs hca
  · rw [cif_f h2] at hQ
    refine ⟨fun q => mp_0 hQ rfl hs hca, fun q => absurd (by omega) h2, fun q => absurd (by omega) h2, fun q => absurd (by omega) h2, fun q => absurd (by omega) h2, fun q => absurd (by omega) h2, fun q => absurd (by omega) h2, fun q => absurd (by omega) h2, fun q => absurd (by omega) h2, fun q => absurd (by omega) h2, fun q => absurd (by omega) h2, fun q => absurd (by omega) h2, fun q => absurd (by omega) h2, fun q => absurd (by omega) h2, fun q => absurd (by omega) h2, trivial⟩
end Qi
