/-! CLIENTS: may, unready, sign: both public calls -/
noncomputable def pSign (s : Nat → Int32) (v u : Int32) : Int32 × (Nat → Int32) := cif ((0 ≤ v.toInt ∧ v.toInt < (np s : Int)) ∧ 0 ≤ u.toInt ∧ u.toInt ≤ 99) (cif (nsg s < 20) (nI (nsg s + 1), upd (upd (upd s (220 + 2 * nsg s) v) (220 + 2 * nsg s + 1) u) 2 (nI (nsg s + 1))) (-1000000003, s)) (-1000000001, s)
section Qd
variable {w : mu_O} {d x y E : Nat} {g g1 g2 : mu_H} {s : Nat → Int32}
theorem pc_may (hE : x + 187 ≤ E) (hst : st_L w g) (hC : cl_L w x g) (hV : sc_V w E (x + 1) s g) (hW : wf_s s) : mu_mp w mm_X10_may (d + 6) [.ref x] g (cPost w x E (pMay s) g) := by
  refine mu_mkp mk_X10_may rfl (fun L hL Q hQ => fm_X10_may_0 ?_)
  have hc := ws_c hW
  have hb := wc_b hc
  have hN := cl_n hC
  have hw := cl_w hC
  unfold pMay at hQ
  obtain ⟨b0, hG⟩ := cl_g hC
  refine ⟨cl_T hC, cl_T hC, by rw [cl_R3 hC]; exact sg_T hG, ?_⟩
  rw [cl_R3 hC, cl_R0 hC]
  refine mu_cVp (sp_X8_look hN hV hc hG ⟨by omega, by omega⟩ hst hW) hL (fun g1 h1 _ _ => ?_)
  have K := lk_of hE hst hC hV hW hG h1
  obtain ⟨C1, V1, G1, P1, T1, st1, F1⟩ := id K
  have N1 := cl_n C1
  have hL1 := fw_fit F1 hL
  refine ⟨cl_T C1, by rw [cl_R3 C1]; exact sg_T G1, ?_⟩
  rw [cl_R3 C1]
  refine mu_cI (sp_X8_firstBreach N1 V1 hc G1 ⟨by omega, by omega⟩ st1 (ws_p hW) (ws_m hW) P1 T1) hL1 ?_
  by_cases hlt : fBr s (lateN s) < nm s
  · rw [if_pos hlt]
    rw [cif_t hlt] at hQ
    exact ⟨fun q => absurd q (none_n (by omega)), fun _ => cp_l (L := L) hQ K hc mu_fr_rf rfl⟩
  · rw [if_neg hlt]
    rw [cif_f hlt] at hQ
    refine ⟨fun _ => ⟨cl_T C1, by rw [cl_R0 C1]; exact sc_T N1, ?_⟩, fun q => absurd rfl q⟩
    rw [cl_R0 C1]
    refine mu_cIp (sp_X4_hasBarred N1 V1 hc st1 (ws_p hW) (ws_m hW) (ws_t hW)) hL1 (fun z g2 hz _ _ => ?_)
    obtain ⟨rfl, f2⟩ := hz
    have C2 := cl_fr C1 f2
    have N2 := cl_n C2
    rw [cI_0]
    refine ⟨fun h2 => ⟨cl_T C2, by rw [cl_R0 C2]; exact sc_T N2, ?_⟩, fun h2 => ?_⟩
    · rw [cif_f h2] at hQ
      rw [cl_R0 C2]
      refine mu_cIp (sp_X4_lacksHours N2 (sv_fr V1 hc f2) hc (st_fr st1 f2 (fun a q => by have := q.1; omega)) (ws_p hW) (ws_m hW) (ws_h hW) (ws_t hW)) (mu_fr_fit f2 hL1) (fun z g3 hz _ _ => ?_)
      obtain ⟨rfl, f3⟩ := hz
      rw [cI_0]
      refine ⟨fun h3 => ?_, fun h3 => ?_⟩
      · rw [cif_f h3] at hQ
        exact cp_l (L := L) hQ K hc (mu_fr_tr f2 f3) rfl
      · rw [cif_t (Classical.not_not.mp h3)] at hQ
        exact cp_l (L := L) hQ K hc (mu_fr_tr f2 f3) rfl
    · rw [cif_t (Classical.not_not.mp h2)] at hQ
      exact cp_l (L := L) hQ K hc f2 rfl
theorem rk_j (h : rkd y s g g1) (f2 : mu_fr (rJ y) g1 g2) : rkd y s g g2 := rk_t h (mu_fr_mono f2 (fun a q => Or.inr q))
theorem pm_may (hM : md_L w y g) (hs : mu_I g (y + 1) = s) (hc : wf_c s) (hK : md_K y g) (hW : wf_s s) (hca : caC y s g) : mu_mp w mm_X11_may (d + 6) [.ref y] g (mPost w y (pMay s) g) := by
  refine mu_mkp mk_X11_may rfl (fun L hL Q hQ => fm_X11_may_0 ⟨md_T0 hM, mu_cIp (sp_X11_firstBreach hM hs hc hK (ws_p hW) (ws_m hW) (ws_a hW) (ws_t hW) hca.1) hL (fun z g1 hz _ _ => ?_)⟩)
  have hb := wc_b hc
  unfold pMay at hQ
  obtain ⟨rfl, f1, c1, c2, t1⟩ := hz
  have K : rkd y s g g1 := ⟨f1, c1, c2⟩
  have hM1 := md_L_fr hM (f2_T K.1)
  have hs1 := fr_s (y := y) K.1 (fun k => by unfold fW; omega) hs
  by_cases hlt : fBr s (lateN s) < nm s
  · rw [if_pos hlt]
    rw [cif_t hlt] at hQ
    exact ⟨fun q => absurd q (nI_pos (by omega)), fun _ => mp_l hQ K hs hca rfl⟩
  · rw [if_neg hlt]
    rw [cif_f hlt] at hQ
    refine ⟨fun _ => ⟨md_T0 hM1, mu_cIp (sp_X11_hasBarred hM1 hs1 hc (ws_m hW) (ws_t hW)) (f2_fit K.1 hL) (fun z g2 hz _ _ => ?_)⟩, fun q => absurd (by decide) q⟩
    obtain ⟨rfl, f2⟩ := hz
    have K2 := rk_j K f2
    have hM2 := md_L_fr hM (f2_T K2.1)
    have hs2 := fr_s (y := y) K2.1 (fun k => by unfold fW; omega) hs
    rw [cI_0]
    refine ⟨fun h2 => ⟨md_T0 hM2, mu_cIp (sp_X11_lacksHours hM2 hs2 hc (ws_p hW) (ws_m hW) (ws_h hW) (ws_t hW)) (f2_fit K2.1 hL) (fun z g3 hz _ _ => ?_)⟩, fun h2 => ?_⟩
    · rw [cif_f h2] at hQ
      obtain ⟨rfl, f3⟩ := hz
      have K3 := rk_j K2 f3
      rw [cI_0]
      refine ⟨fun h3 => ?_, fun h3 => ?_⟩
      · rw [cif_f h3] at hQ
        exact mp_l hQ K3 hs hca rfl
      · rw [cif_t (Classical.not_not.mp h3)] at hQ
        exact mp_l hQ K3 hs hca rfl
    · rw [cif_t (Classical.not_not.mp h2)] at hQ
      exact mp_l hQ K2 hs hca rfl
theorem pc_unready {v : Int32} (hst : st_L w g) (hC : cl_L w x g) (hV : sc_V w E (x + 1) s g) (hW : wf_s s) : mu_mp w mm_X10_unready (d + 4) [.ref x, .int v] g (cPost w x E (pUnready s v) g) := by
  refine mu_mkp mk_X10_unready rfl (fun L hL Q hQ => fm_X10_unready_0 ?_)
  have hc := ws_c hW
  have hb := wc_b hc
  have hN := cl_n hC
  unfold pUnready at hQ
  refine ⟨fun hv => ⟨cl_T hC, mu_cI (sp_X10_refusalOfBlow hst hC hV hW) hL ?_⟩, fun hv => ⟨cl_T hC, by rw [cl_R0 hC]; exact sc_T hN, ?_⟩⟩
  · rw [cif_f hv] at hQ
    rcases pbl3 s v with ⟨k, k1, rfl, k4, km⟩ | ⟨k, k1, rfl, k4, km⟩ | h
    · rw [pBl_1 k1 (by omega) km] at hQ ⊢
      refine ⟨fun _ => ?_, fun q => absurd rfl q⟩
      simp (disch := omega) only [cl_T hC, cl_R0 hC, sc_T hN, sc_R0 hN, sc_R1 hN, sc_R2 hN, sc_R3 hN, sc_R4 hN, sc_R5 hN, sc_R6 hN, sc_R7 hN, sc_R8 hN, sc_R9 hN, sc_T1 hN, sc_N1 hN, sc_RP hN, sc_T2 hN, sc_N2 hN, sc_RM hN, sc_T3 hN, sc_N3 hN, sc_T4 hN, sc_N4 hN, sc_T5 hN, sc_N5 hN, sc_T6 hN, sc_N6 hN, sc_T7 hN, sc_N7 hN, sc_T8 hN, sc_N8 hN, sc_T9 hN, sc_N9 hN, sc_T10 hN, sc_RL0 hN, sc_RL1 hN, sc_T11 hN, sc_N11 hN, sc_T12 hN, sc_N12 hN, sc_TP hN, sc_TM hN, sc_w hN, sc_wj hN, sc_wp hN, li_n, nI_add, pk_mul, nI_clamp, nI_ltI, nI_leI, nI_eq, mi_n, Nat.add_zero, true_and, and_true, true_or, or_true, false_or, or_false, not_false_eq_true, not_true_eq_false, implies_true, forall_const, ne_eq, Classical.not_not, reduceCtorEq, nor_p, cI_1n, bI_1n, cI_F, cI_T, cI_0, cI_0n, bI_0, bI_0n, cI_01, bI_01, Nat.reduceLeDiff, Nat.reduceLT, Nat.reduceEqDiff, Nat.reduceSub, Nat.reduceAdd, Nat.lt_irrefl, Nat.le_refl, false_implies, true_implies]
      refine ⟨by omega, mu_cI (sp_X4_isUnready hN hV hc (ws_m hW) (by omega) (ws_g hW) k1) hL (mu_cI sp_X10_asInt hL ?_)⟩
      rw [cI_c01]
      exact cp_0 (L := L) hC hQ rfl hV
    · rw [pBl_2 k1 (by omega) km] at hQ ⊢
      exact ⟨fun q => absurd q (show ¬ (-1000000012 : Int32) = 0 by decide), fun _ => cp_0 (L := L) hC hQ rfl hV⟩
    · rw [pBl_3 h] at hQ ⊢
      exact ⟨fun q => absurd q (show ¬ (-1000000001 : Int32) = 0 by decide), fun _ => cp_0 (L := L) hC hQ rfl hV⟩
  · rw [cif_t (Classical.not_not.mp hv)] at hQ
    rw [cl_R0 hC]
    exact mu_cI (sp_X4_unreadyBlows hN hV hc hst (ws_m hW) (by omega) (ws_g hW)) hL (cp_0 (L := L) hC hQ rfl hV)
theorem pm_unready {v : Int32} (hM : md_L w y g) (hs : mu_I g (y + 1) = s) (hc : wf_c s) (hW : wf_s s) (hca : caC y s g) : mu_mp w mm_X11_unready (d + 4) [.ref y, .int v] g (mPost w y (pUnready s v) g) := by
  refine mu_mkp mk_X11_unready rfl (fun L hL Q hQ => fm_X11_unready_0 ?_)
  have hb := wc_b hc
  unfold pUnready at hQ
  refine ⟨fun hv => ?_, fun hv => ⟨md_T0 hM, mu_cI (sp_X11_isMove hM hs (wc_1 hc) (by omega)) hL ?_⟩⟩
  · rw [cif_t hv] at hQ
    refine lp (n := nm s) (P := fun i => mu_go w mm_X11_unready (d + 4) L Q 49 [some (.ref y), none, some (.int (nI (sumN (fun m => cN (mDo s m ∧ mUn s m)) i))), some (.int (nI i))] [] g) (fm_X11_unready_49 ?_) (fun i hi ih => fm_X11_unready_49 ?_)
    · simp (disch := omega) only [md_T0 hM, md_R0 hM, md_T1 hM, md_N1 hM, hs, wc_0 hc, wc_1 hc, wc_2 hc, wc_3 hc, wc_4 hc, wc_5 hc, wc_6 hc, wc_7 hc, wc_9 hc, li_n, nI_add, pk_mul, nI_clamp, nI_ltI, nI_leI, nI_eq, mi_n, Nat.add_zero, true_and, and_true, true_or, or_true, false_or, or_false, not_false_eq_true, not_true_eq_false, implies_true, forall_const, ne_eq, Classical.not_not, reduceCtorEq, nor_p, cI_1n, bI_1n, cI_F, cI_T, cI_0, cI_0n, bI_0, bI_0n, cI_01, bI_01, Nat.reduceLeDiff, Nat.reduceLT, Nat.reduceEqDiff, Nat.reduceSub, Nat.reduceAdd, Nat.lt_irrefl, Nat.le_refl, false_implies, true_implies]
      exact mp_0 hQ rfl hs hca
    · have i1 : mDo s i ∧ mUn s i → mu_go w mm_X11_unready (d + 4) L Q 49 [some (.ref y), none, some (.int (nI (sumN (fun m => cN (mDo s m ∧ mUn s m)) i + 1))), some (.int (nI (i + 1)))] [] g := fun h => by
        have := ih
        unfold sumN at this
        rw [cN_t h] at this
        exact this
      have i0 : ¬ (mDo s i ∧ mUn s i) → mu_go w mm_X11_unready (d + 4) L Q 49 [some (.ref y), none, some (.int (nI (sumN (fun m => cN (mDo s m ∧ mUn s m)) i))), some (.int (nI (i + 1)))] [] g := fun h => by
        have := ih
        unfold sumN at this
        rw [cN_f h] at this
        exact this
      clear ih
      simp (disch := omega) only [Nat.not_le_of_lt hi, md_T0 hM, md_R0 hM, md_T1 hM, md_N1 hM, hs, wc_0 hc, wc_1 hc, wc_2 hc, wc_3 hc, wc_4 hc, wc_5 hc, wc_6 hc, wc_7 hc, wc_9 hc, li_n, nI_add, pk_mul, nI_clamp, nI_ltI, nI_leI, nI_eq, mi_n, Nat.add_zero, true_and, and_true, true_or, or_true, false_or, or_false, not_false_eq_true, not_true_eq_false, implies_true, forall_const, ne_eq, Classical.not_not, reduceCtorEq, nor_p, cI_1n, bI_1n, cI_F, cI_T, cI_0, cI_0n, bI_0, bI_0n, cI_01, bI_01, Nat.reduceLeDiff, Nat.reduceLT, Nat.reduceEqDiff, Nat.reduceSub, Nat.reduceAdd, Nat.lt_irrefl, Nat.le_refl, false_implies, true_implies]
      refine mu_cI (sp_X11_isDoneN hM hs hc (ws_m hW) hi) hL ?_
      simp (disch := omega) only [md_T0 hM, md_R0 hM, md_T1 hM, md_N1 hM, hs, wc_0 hc, wc_1 hc, wc_2 hc, wc_3 hc, wc_4 hc, wc_5 hc, wc_6 hc, wc_7 hc, wc_9 hc, li_n, nI_add, pk_mul, nI_clamp, nI_ltI, nI_leI, nI_eq, mi_n, Nat.add_zero, true_and, and_true, true_or, or_true, false_or, or_false, not_false_eq_true, not_true_eq_false, implies_true, forall_const, ne_eq, Classical.not_not, reduceCtorEq, nor_p, cI_1n, bI_1n, cI_F, cI_T, cI_0, cI_0n, bI_0, bI_0n, cI_01, bI_01, Nat.reduceLeDiff, Nat.reduceLT, Nat.reduceEqDiff, Nat.reduceSub, Nat.reduceAdd, Nat.lt_irrefl, Nat.le_refl, false_implies, true_implies]
      refine ⟨fun h => i0 (fun q => h q.1), fun h => mu_cI (sp_X11_isUnready hM hs hc (ws_m hW) (ws_g hW) hi) hL ?_⟩
      simp (disch := omega) only [md_T0 hM, md_R0 hM, md_T1 hM, md_N1 hM, hs, wc_0 hc, wc_1 hc, wc_2 hc, wc_3 hc, wc_4 hc, wc_5 hc, wc_6 hc, wc_7 hc, wc_9 hc, li_n, nI_add, pk_mul, nI_clamp, nI_ltI, nI_leI, nI_eq, mi_n, Nat.add_zero, true_and, and_true, true_or, or_true, false_or, or_false, not_false_eq_true, not_true_eq_false, implies_true, forall_const, ne_eq, Classical.not_not, reduceCtorEq, nor_p, cI_1n, bI_1n, cI_F, cI_T, cI_0, cI_0n, bI_0, bI_0n, cI_01, bI_01, Nat.reduceLeDiff, Nat.reduceLT, Nat.reduceEqDiff, Nat.reduceSub, Nat.reduceAdd, Nat.lt_irrefl, Nat.le_refl, false_implies, true_implies]
      exact ⟨fun h2 => i0 (fun q => h2 q.2), fun h2 => i1 ⟨h, h2⟩⟩
  · rw [cif_f hv] at hQ
    rw [bI_0]
    refine ⟨fun h => ⟨md_T0 hM, ?_⟩, fun h => ?_⟩
    · obtain ⟨k, k1, rfl, k3, k4⟩ := ix_of (Classical.not_not.mp h)
      refine mu_cI (sp_X11_isBlowN hM hs hc (ws_m hW) k1) hL ?_
      rw [cI_0]
      refine ⟨fun h2 => ⟨md_T0 hM, mu_cI (sp_X11_isUnready hM hs hc (ws_m hW) (ws_g hW) k1) hL ?_⟩, fun h2 => ?_⟩
      · rw [pBl_1 k1 (by omega) (Classical.not_not.mp h2)] at hQ
        rw [cI_0]
        refine ⟨fun q => mp_0 hQ ?_ hs hca, fun q => mp_0 hQ ?_ hs hca⟩
        · exact (cI_f q).symm
        · exact (cI_t (Classical.not_not.mp q)).symm
      · rw [pBl_2 k1 (by omega) (fun q => h2 (fun z => z q))] at hQ
        exact mp_0 hQ rfl hs hca
    · rw [pBl_3 (fun q => h (fun z => z q))] at hQ
      exact mp_0 hQ rfl hs hca
end Qd
