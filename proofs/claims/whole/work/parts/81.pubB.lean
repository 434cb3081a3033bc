/-! CLIENTS: sign, log, told, as: both public calls -/
noncomputable def pLog (s : Nat → Int32) (v u : Int32) : Int32 × (Nat → Int32) := (cif ((0 ≤ u.toInt ∧ u.toInt ≤ 2) ∧ 0 ≤ v.toInt) (cif (nlg s ≤ v.toNatClampNeg) (-1000000005) (s (360 + 3 * v.toNatClampNeg + u.toNatClampNeg))) (-1000000001), s)
noncomputable def pTold (s : Nat → Int32) (v u : Int32) : Int32 × (Nat → Int32) := (cif ((0 ≤ v.toInt ∧ v.toInt < (np s : Int)) ∧ 0 ≤ u.toInt ∧ u.toInt ≤ 4) (cif (u = 4) (sLate s v.toNatClampNeg) (cif (u = 3) (nn (s (20 + 4 * v.toNatClampNeg + 3))) (s (20 + 4 * v.toNatClampNeg + u.toNatClampNeg)))) (-1000000001), s)
noncomputable def pAs (s : Nat → Int32) (v u : Int32) : Int32 × (Nat → Int32) := (cif ((0 ≤ v.toInt ∧ v.toInt < (nm s : Int)) ∧ 0 ≤ u.toInt ∧ u.toInt ≤ 5) (cif (isOf (vM s v.toNatClampNeg 1) u.toNatClampNeg) (s (60 + 8 * v.toNatClampNeg + 6)) (-1000000012)) (-1000000001), s)
section Qe
variable {w : mu_O} {d x y E : Nat} {g g1 g2 : mu_H} {s : Nat → Int32}
theorem pc_sign {v u : Int32} (hC : cl_L w x g) (hV : sc_V w E (x + 1) s g) (hW : wf_s s) : mu_mp w mm_X10_sign (d + 2) [.ref x, .int v, .int u] g (cPost w x E (pSign s v u) g) := by
  refine mu_mkp mk_X10_sign rfl (fun L hL Q hQ => fm_X10_sign_0 ?_)
  have hc := ws_c hW
  have hb := wc_b hc
  have hN := cl_n hC
  refine ⟨cl_T hC, by rw [cl_R0 hC]; exact sc_T hN, ?_⟩
  rw [cl_R0 hC]
  refine mu_cI (sp_X4_hasPerson hN hV hc) hL ?_
  unfold pSign at hQ
  rw [cI_0]
  refine ⟨fun h => ?_, fun h => mu_cI (sp_X10_wN (a := 0) (b := 99) rfl rfl) hL ?_⟩
  · rw [cif_f (fun q => h q.1)] at hQ
    exact cp_0 (L := L) hC hQ rfl hV
  · replace h := Classical.not_not.mp h
    rw [cI_0]
    refine ⟨fun h2 => ?_, fun h2 => ?_⟩
    · rw [cif_t ⟨h, Classical.not_not.mp h2⟩] at hQ
      have o : ∀ z a k v, a ≠ x + 1 → mu_I (mu_sI z a k v) (x + 1) 12 = mu_I z (x + 1) 12 := fun z a k v h => I_sI_a _ _ _ _ (Ne.symm h)
      simp (disch := omega) only [cl_T hC, cl_R0 hC, o, I_sI_same, sc_T hN, sc_R0 hN, sc_R1 hN, sc_R2 hN, sc_R3 hN, sc_R4 hN, sc_R5 hN, sc_R6 hN, sc_R7 hN, sc_R8 hN, sc_R9 hN, sc_T1 hN, sc_N1 hN, sc_RP hN, sc_T2 hN, sc_N2 hN, sc_RM hN, sc_T3 hN, sc_N3 hN, sc_T4 hN, sc_N4 hN, sc_T5 hN, sc_N5 hN, sc_T6 hN, sc_N6 hN, sc_T7 hN, sc_N7 hN, sc_T8 hN, sc_N8 hN, sc_T9 hN, sc_N9 hN, sc_T10 hN, sc_RL0 hN, sc_RL1 hN, sc_T11 hN, sc_N11 hN, sc_T12 hN, sc_N12 hN, sc_TP hN, sc_TM hN, sc_w hN, sc_wj hN, sc_wp hN, sv_0 hV hc, sv_1 hV hc, sv_2 hV hc, sv_3 hV hc, sv_4 hV hc, sv_5 hV hc, sv_6 hV hc, sv_7 hV hc, sv_9 hV hc, sv_8 hV, li_n, nI_add, pk_mul, nI_clamp, nI_ltI, nI_leI, nI_eq, mi_n, Nat.add_zero, true_and, and_true, true_or, or_true, false_or, or_false, not_false_eq_true, not_true_eq_false, implies_true, forall_const, ne_eq, Classical.not_not, reduceCtorEq, nor_p, cI_1n, bI_1n, cI_F, cI_T, cI_0, cI_0n, bI_0, bI_0n, cI_01, bI_01, Nat.reduceLeDiff, Nat.reduceLT, Nat.reduceEqDiff, Nat.reduceSub, Nat.reduceAdd, Nat.lt_irrefl, Nat.le_refl, false_implies, true_implies]
      refine ⟨fun h3 => ⟨by omega, by omega, ?_⟩, fun h3 => ?_⟩
      · rw [cif_t h3] at hQ
        have k1 := sb_G0 (v := v) hV hc (i := nsg s) (Nat.le_refl _) h3
        have n1 : nsg (upd s (220 + 2 * nsg s) v) = nsg s := nsg_u (by omega)
        have k2 := sb_G1 (v := u) k1 (wf_c_u hc (by omega)) (i := nsg s) (by rw [n1]; exact Nat.le_refl _) h3
        have n2 : nsg (upd (upd s (220 + 2 * nsg s) v) (220 + 2 * nsg s + 1) u) = nsg s := (nsg_u (by omega)).trans n1
        have k3 := sm_G (v := nI (nsg s + 1)) k2 (wf_c_u (wf_c_u hc (by omega)) (by omega)) (by rw [n2, nI_clamp (by omega)]) (by
          rw [n2]
          refine ⟨?_, ?_⟩
          · rw [I_sI_a _ _ _ _ (by omega), I_sI_same, pk_un (by omega), pk_us]
          · rw [I_sI_same, pk_us])
        exact cp_ok (L := L) hC hQ (mu_fr_tr (mu_fr_tr (mu_fr_sI (A := fun a => x + 1 ≤ a ∧ a < x + 42) ⟨by omega, by omega⟩) (mu_fr_sI ⟨by omega, by omega⟩)) (mu_fr_sI ⟨by omega, by omega⟩)) (fun a q => Or.inl q) rfl k3
      · rw [cif_f h3] at hQ
        exact cp_0 (L := L) hC hQ rfl hV
    · rw [cif_f (fun q => h2 (fun z => z q.2))] at hQ
      exact cp_0 (L := L) hC hQ rfl hV
theorem pm_sign {v u : Int32} (hM : md_L w y g) (hs : mu_I g (y + 1) = s) (hc : wf_c s) (hW : wf_s s) (hca : caC y s g) : mu_mp w mm_X11_sign (d + 2) [.ref y, .int v, .int u] g (mPost w y (pSign s v u) g) := by
  refine mu_mkp mk_X11_sign rfl (fun L hL Q hQ => fm_X11_sign_0 ⟨md_T0 hM, mu_cI (sp_X11_isPersonN hM hs (wc_0 hc) (by have := wc_b hc; omega)) hL ?_⟩)
  have hb := wc_b hc
  have hw1 := md_wj hM 1
  unfold pSign at hQ
  rw [bI_0]
  refine ⟨fun h => ?_, fun h => mu_cI (sp_X11_iN (a := 0) (b := 99) rfl rfl) hL ?_⟩
  · rw [cif_f (fun q => h q.1)] at hQ
    exact mp_0 hQ rfl hs hca
  · replace h := Classical.not_not.mp h
    rw [cI_0]
    refine ⟨fun h2 => ?_, fun h2 => ?_⟩
    · rw [cif_t ⟨h, Classical.not_not.mp h2⟩] at hQ
      simp (disch := omega) only [hw1, mu_I_upd, pk_un, pk_us, md_T0 hM, md_R0 hM, md_T1 hM, md_N1 hM, hs, wc_0 hc, wc_1 hc, wc_2 hc, wc_3 hc, wc_4 hc, wc_5 hc, wc_6 hc, wc_7 hc, wc_9 hc, li_n, nI_add, pk_mul, nI_clamp, nI_ltI, nI_leI, nI_eq, mi_n, Nat.add_zero, true_and, and_true, true_or, or_true, false_or, or_false, not_false_eq_true, not_true_eq_false, implies_true, forall_const, ne_eq, Classical.not_not, reduceCtorEq, nor_p, cI_1n, bI_1n, cI_F, cI_T, cI_0, cI_0n, bI_0, bI_0n, cI_01, bI_01, Nat.reduceLeDiff, Nat.reduceLT, Nat.reduceEqDiff, Nat.reduceSub, Nat.reduceAdd, Nat.lt_irrefl, Nat.le_refl, false_implies, true_implies]
      refine ⟨fun h3 => ⟨by omega, by omega, ?_⟩, fun h3 => ?_⟩
      · rw [cif_t (by omega)] at hQ
        refine mp_ok hW hca hQ (mu_fr_tr (mu_fr_tr (mu_fr_sI rfl) (mu_fr_sI rfl)) (mu_fr_sI rfl)) rfl ?_ ?_
        · rw [mu_I_upd, mu_I_upd, mu_I_upd, hs]
        · exact agZ_u (agZ_u (agZ_u agZ_rf (by omega)) (by omega)) (by omega)
      · rw [cif_f (by omega)] at hQ
        exact mp_0 hQ rfl hs hca
    · rw [cif_f (fun q => h2 (fun z => z q.2))] at hQ
      exact mp_0 hQ rfl hs hca
theorem pc_log {v u : Int32} (hC : cl_L w x g) (hV : sc_V w E (x + 1) s g) (hW : wf_s s) : mu_mp w mm_X10_log (d + 1) [.ref x, .int v, .int u] g (cPost w x E (pLog s v u) g) := by
  refine mu_mkp mk_X10_log rfl (fun L hL Q hQ => fm_X10_log_0 (mu_cI (sp_X10_wN (a := 0) (b := 2) rfl rfl) hL ?_))
  have hc := ws_c hW
  have hb := wc_b hc
  have hN := cl_n hC
  unfold pLog at hQ
  rw [cI_0]
  refine ⟨fun h => ?_, fun h => ⟨fun h2 => ?_, fun h2 => ?_⟩⟩
  · rw [cif_f (fun q => h q.1)] at hQ
    exact cp_0 (L := L) hC hQ rfl hV
  · replace h := Classical.not_not.mp h
    replace h2 : 0 ≤ v.toInt := li_le.mp h2
    rw [cif_t ⟨h, h2⟩] at hQ
    obtain ⟨e, k1⟩ := li_get h2
    generalize v.toNatClampNeg = k at e k1 hQ
    subst e
    obtain ⟨n, n1, rfl, n3, n4⟩ := ix_of (v := u) (n := 3) ⟨by omega, by omega⟩
    rw [n3] at hQ
    simp (disch := omega) only [cl_T hC, cl_R0 hC, sc_T hN, sc_R0 hN, sc_R1 hN, sc_R2 hN, sc_R3 hN, sc_R4 hN, sc_R5 hN, sc_R6 hN, sc_R7 hN, sc_R8 hN, sc_R9 hN, sc_T1 hN, sc_N1 hN, sc_RP hN, sc_T2 hN, sc_N2 hN, sc_RM hN, sc_T3 hN, sc_N3 hN, sc_T4 hN, sc_N4 hN, sc_T5 hN, sc_N5 hN, sc_T6 hN, sc_N6 hN, sc_T7 hN, sc_N7 hN, sc_T8 hN, sc_N8 hN, sc_T9 hN, sc_N9 hN, sc_T10 hN, sc_RL0 hN, sc_RL1 hN, sc_T11 hN, sc_N11 hN, sc_T12 hN, sc_N12 hN, sc_TP hN, sc_TM hN, sc_w hN, sc_wj hN, sc_wp hN, sv_0 hV hc, sv_1 hV hc, sv_2 hV hc, sv_3 hV hc, sv_4 hV hc, sv_5 hV hc, sv_6 hV hc, sv_7 hV hc, sv_9 hV hc, sv_8 hV, li_n, nI_add, pk_mul, nI_clamp, nI_ltI, nI_leI, nI_eq, mi_n, Nat.add_zero, true_and, and_true, true_or, or_true, false_or, or_false, not_false_eq_true, not_true_eq_false, implies_true, forall_const, ne_eq, Classical.not_not, reduceCtorEq, nor_p, cI_1n, bI_1n, cI_F, cI_T, cI_0, cI_0n, bI_0, bI_0n, cI_01, bI_01, Nat.reduceLeDiff, Nat.reduceLT, Nat.reduceEqDiff, Nat.reduceSub, Nat.reduceAdd, Nat.lt_irrefl, Nat.le_refl, false_implies, true_implies]
    refine ⟨fun h3 => ?_, fun h3 => ?_⟩
    · rw [cif_t h3] at hQ
      exact cp_0 (L := L) hC hQ rfl hV
    · rw [cif_f h3] at hQ
      simp (disch := omega) only [hV.2.2.2.2.2.2.2.2.2, li_n, nI_add, pk_mul, nI_clamp, nI_ltI, nI_leI, nI_eq, mi_n, Nat.add_zero, true_and, and_true, true_or, or_true, false_or, or_false, not_false_eq_true, not_true_eq_false, implies_true, forall_const, ne_eq, Classical.not_not, reduceCtorEq, nor_p, cI_1n, bI_1n, cI_F, cI_T, cI_0, cI_0n, bI_0, bI_0n, cI_01, bI_01, Nat.reduceLeDiff, Nat.reduceLT, Nat.reduceEqDiff, Nat.reduceSub, Nat.reduceAdd, Nat.lt_irrefl, Nat.le_refl, false_implies, true_implies]
      exact ⟨by omega, cp_0 (L := L) hC hQ rfl hV⟩
  · rw [cif_f (fun q => h2 (li_le.mpr q.2))] at hQ
    exact cp_0 (L := L) hC hQ rfl hV
theorem pm_log {v u : Int32} (hM : md_L w y g) (hs : mu_I g (y + 1) = s) (hc : wf_c s) (hca : caC y s g) : mu_mp w mm_X11_log (d + 1) [.ref y, .int v, .int u] g (mPost w y (pLog s v u) g) := by
  refine mu_mkp mk_X11_log rfl (fun L hL Q hQ => fm_X11_log_0 ?_)
  have hb := wc_b hc
  unfold pLog at hQ
  refine ⟨fun h2 => ?_, fun h2 => mu_cI (sp_X11_iN (a := 0) (b := 2) rfl rfl) hL ?_⟩
  · rw [cif_f (fun q => absurd (li_lt.mp h2) (show ¬ v.toInt < 0 by have := q.2; omega))] at hQ
    exact mp_0 hQ rfl hs hca
  · replace h2 : 0 ≤ v.toInt := Int.not_lt.mp (fun q => h2 (li_lt.mpr q))
    rw [cI_0]
    refine ⟨fun h => ?_, fun h => ?_⟩
    · replace h := Classical.not_not.mp h
      rw [cif_t ⟨h, h2⟩] at hQ
      obtain ⟨e, k1⟩ := li_get h2
      generalize v.toNatClampNeg = k at e k1 hQ
      subst e
      obtain ⟨n, n1, rfl, n3, n4⟩ := ix_of (v := u) (n := 3) ⟨by omega, by omega⟩
      rw [n3] at hQ
      simp (disch := omega) only [md_T0 hM, md_R0 hM, md_T1 hM, md_N1 hM, hs, wc_0 hc, wc_1 hc, wc_2 hc, wc_3 hc, wc_4 hc, wc_5 hc, wc_6 hc, wc_7 hc, wc_9 hc, li_n, nI_add, pk_mul, nI_clamp, nI_ltI, nI_leI, nI_eq, mi_n, Nat.add_zero, true_and, and_true, true_or, or_true, false_or, or_false, not_false_eq_true, not_true_eq_false, implies_true, forall_const, ne_eq, Classical.not_not, reduceCtorEq, nor_p, cI_1n, bI_1n, cI_F, cI_T, cI_0, cI_0n, bI_0, bI_0n, cI_01, bI_01, Nat.reduceLeDiff, Nat.reduceLT, Nat.reduceEqDiff, Nat.reduceSub, Nat.reduceAdd, Nat.lt_irrefl, Nat.le_refl, false_implies, true_implies]
      refine ⟨fun h3 => ?_, fun h3 => ?_⟩
      · rw [cif_t h3] at hQ
        exact mp_0 hQ rfl hs hca
      · rw [cif_f h3] at hQ
        simp (disch := omega) only [md_T0 hM, md_R0 hM, md_T1 hM, md_N1 hM, hs, wc_0 hc, wc_1 hc, wc_2 hc, wc_3 hc, wc_4 hc, wc_5 hc, wc_6 hc, wc_7 hc, wc_9 hc, li_n, nI_add, pk_mul, nI_clamp, nI_ltI, nI_leI, nI_eq, mi_n, Nat.add_zero, true_and, and_true, true_or, or_true, false_or, or_false, not_false_eq_true, not_true_eq_false, implies_true, forall_const, ne_eq, Classical.not_not, reduceCtorEq, nor_p, cI_1n, bI_1n, cI_F, cI_T, cI_0, cI_0n, bI_0, bI_0n, cI_01, bI_01, Nat.reduceLeDiff, Nat.reduceLT, Nat.reduceEqDiff, Nat.reduceSub, Nat.reduceAdd, Nat.lt_irrefl, Nat.le_refl, false_implies, true_implies]
        exact ⟨by omega, mp_0 hQ rfl hs hca⟩
    · rw [cif_f (fun q => h (fun z => z q.1))] at hQ
      exact mp_0 hQ rfl hs hca
end Qe
