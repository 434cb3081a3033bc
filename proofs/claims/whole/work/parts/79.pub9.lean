/-! CLIENTS: gap, breach, may, unready: both public calls -/
noncomputable def pBreach (s : Nat → Int32) (v : Int32) : Int32 × (Nat → Int32) := (cif (0 ≤ v.toInt ∧ v.toInt ≤ 1) (cif (fBr s (lateN s) < nm s) (cif (v = 0) (nI (fBr s (lateN s))) (nI (fsN (brk s (lateN s) (fBr s (lateN s))) (np s)))) (-1000000005)) (-1000000001), s)
noncomputable def pMay (s : Nat → Int32) : Int32 × (Nat → Int32) := (cif (fBr s (lateN s) < nm s) 1 (cif (sAnyBar s) 2 (cif (sLack s) 3 0)), s)
noncomputable def pUnready (s : Nat → Int32) (v : Int32) : Int32 × (Nat → Int32) := cif (v = -1) (nI (sumN (fun m => cN (mDo s m ∧ mUn s m)) (nm s)), s) (pBl s v (fun m => cI (mUn s m)))
section Qc
variable {w : mu_O} {d x y E : Nat} {g g1 g2 : mu_H} {s : Nat → Int32}
theorem fb_ok (h : fBr s (lateN s) < nm s) : mDo s (fBr s (lateN s)) ∧ fsN (brk s (lateN s) (fBr s (lateN s))) (np s) < np s := by
  have := fsN_ok (c := fun m => mDo s m ∧ brkA s (lateN s) m) (n := nm s)
  unfold fBr at h ⊢
  rcases this with q | q
  · exact ⟨q.2.1.1, fs_lt.mpr q.2.1.2⟩
  · omega
theorem pc_gap {v u : Int32} (hE : x + 187 ≤ E) (hst : st_L w g) (hC : cl_L w x g) (hV : sc_V w E (x + 1) s g) (hW : wf_s s) : mu_mp w mm_X10_gap (d + 5) [.ref x, .int v, .int u] g (cPost w x E (pGap s v u) g) := by
  refine mu_mkp mk_X10_gap rfl (fun L hL Q hQ => fm_X10_gap_0 ?_)
  have hc := ws_c hW
  have hb := wc_b hc
  have hN := cl_n hC
  refine ⟨cl_T hC, by rw [cl_R0 hC]; exact sc_T hN, ?_⟩
  rw [cl_R0 hC]
  refine mu_cI (sp_X4_hasMove hN hV hc) hL ?_
  unfold pGap at hQ
  rw [cI_0]
  refine ⟨fun h => ?_, fun h => ⟨cl_T hC, by rw [cl_R0 hC]; exact sc_T hN, ?_⟩⟩
  · rw [cif_f (fun q => h q.1)] at hQ
    exact cp_0 (L := L) hC hQ rfl hV
  · replace h := Classical.not_not.mp h
    rw [cl_R0 hC]
    refine mu_cI (sp_X4_hasPerson hN hV hc) hL ?_
    rw [cI_0]
    refine ⟨fun h2 => ?_, fun h2 => ?_⟩
    · replace h2 := Classical.not_not.mp h2
      rw [cif_t ⟨h, h2⟩] at hQ
      obtain ⟨k, k1, rfl, k3, k4⟩ := ix_of h
      obtain ⟨p, p1, rfl, p3, p4⟩ := ix_of h2
      rw [k3, p3] at hQ
      have hmb := wm_b (ws_m hW) k1
      have e0 := sv_m hV (ws_m hW) k1 (show 0 < 8 by omega)
      obtain ⟨b0, hG⟩ := cl_g hC
      simp (disch := omega) only [cl_T hC, cl_R0 hC, sc_T hN, sc_R0 hN, sc_R1 hN, sc_R2 hN, sc_R3 hN, sc_R4 hN, sc_R5 hN, sc_R6 hN, sc_R7 hN, sc_R8 hN, sc_R9 hN, sc_T1 hN, sc_N1 hN, sc_RP hN, sc_T2 hN, sc_N2 hN, sc_RM hN, sc_T3 hN, sc_N3 hN, sc_T4 hN, sc_N4 hN, sc_T5 hN, sc_N5 hN, sc_T6 hN, sc_N6 hN, sc_T7 hN, sc_N7 hN, sc_T8 hN, sc_N8 hN, sc_T9 hN, sc_N9 hN, sc_T10 hN, sc_RL0 hN, sc_RL1 hN, sc_T11 hN, sc_N11 hN, sc_T12 hN, sc_N12 hN, sc_TP hN, sc_TM hN, sc_w hN, sc_wj hN, sc_wp hN, li_n, nI_add, pk_mul, nI_clamp, nI_ltI, nI_leI, nI_eq, mi_n, Nat.add_zero, true_and, and_true, true_or, or_true, false_or, or_false, not_false_eq_true, not_true_eq_false, implies_true, forall_const, ne_eq, Classical.not_not, reduceCtorEq, nor_p, cI_1n, bI_1n, cI_F, cI_T, cI_0, cI_0n, bI_0, bI_0n, cI_01, bI_01, Nat.reduceLeDiff, Nat.reduceLT, Nat.reduceEqDiff, Nat.reduceSub, Nat.reduceAdd, Nat.lt_irrefl, Nat.le_refl, false_implies, true_implies]
      refine ⟨by omega, mu_cI (sp_X1_isBlow hst (sc_TM hN (by omega)) (sv_m hV (ws_m hW) k1 (by omega)) hmb.2.1) hL ?_⟩
      simp (disch := omega) only [cl_T hC, cl_R0 hC, cl_R3 hC, sg_T hG, e0, sc_T hN, sc_R0 hN, sc_R1 hN, sc_R2 hN, sc_R3 hN, sc_R4 hN, sc_R5 hN, sc_R6 hN, sc_R7 hN, sc_R8 hN, sc_R9 hN, sc_T1 hN, sc_N1 hN, sc_RP hN, sc_T2 hN, sc_N2 hN, sc_RM hN, sc_T3 hN, sc_N3 hN, sc_T4 hN, sc_N4 hN, sc_T5 hN, sc_N5 hN, sc_T6 hN, sc_N6 hN, sc_T7 hN, sc_N7 hN, sc_T8 hN, sc_N8 hN, sc_T9 hN, sc_N9 hN, sc_T10 hN, sc_RL0 hN, sc_RL1 hN, sc_T11 hN, sc_N11 hN, sc_T12 hN, sc_N12 hN, sc_TP hN, sc_TM hN, sc_w hN, sc_wj hN, sc_wp hN, li_n, nI_add, pk_mul, nI_clamp, nI_ltI, nI_leI, nI_eq, mi_n, Nat.add_zero, true_and, and_true, true_or, or_true, false_or, or_false, not_false_eq_true, not_true_eq_false, implies_true, forall_const, ne_eq, Classical.not_not, reduceCtorEq, nor_p, cI_1n, bI_1n, cI_F, cI_T, cI_0, cI_0n, bI_0, bI_0n, cI_01, bI_01, Nat.reduceLeDiff, Nat.reduceLT, Nat.reduceEqDiff, Nat.reduceSub, Nat.reduceAdd, Nat.lt_irrefl, Nat.le_refl, false_implies, true_implies]
      refine ⟨fun h3 => ⟨fun h4 => ?_, fun h4 => ?_⟩, fun h3 => ?_⟩
      · rw [cif_t (show mBl s k from h3), cif_f h4] at hQ
        refine mu_cVp (sp_X8_look hN hV hc hG ⟨by omega, by omega⟩ hst hW) hL (fun g1 h1 _ _ => ?_)
        have K := lk_of hE hst hC hV hW hG h1
        obtain ⟨C1, V1, G1, P1, T1, st1, F1⟩ := id K
        have N1 := cl_n C1
        have hL1 := fw_fit F1 hL
        simp (disch := omega) only [cl_T C1, cl_R0 C1, cl_R3 C1, sg_T G1, sc_T N1, sc_R0 N1, sc_R1 N1, sc_R2 N1, sc_R3 N1, sc_R4 N1, sc_R5 N1, sc_R6 N1, sc_R7 N1, sc_R8 N1, sc_R9 N1, sc_T1 N1, sc_N1 N1, sc_RP N1, sc_T2 N1, sc_N2 N1, sc_RM N1, sc_T3 N1, sc_N3 N1, sc_T4 N1, sc_N4 N1, sc_T5 N1, sc_N5 N1, sc_T6 N1, sc_N6 N1, sc_T7 N1, sc_N7 N1, sc_T8 N1, sc_N8 N1, sc_T9 N1, sc_N9 N1, sc_T10 N1, sc_RL0 N1, sc_RL1 N1, sc_T11 N1, sc_N11 N1, sc_T12 N1, sc_N12 N1, sc_TP N1, sc_TM N1, sc_w N1, sc_wj N1, sc_wp N1, li_n, nI_add, pk_mul, nI_clamp, nI_ltI, nI_leI, nI_eq, mi_n, Nat.add_zero, true_and, and_true, true_or, or_true, false_or, or_false, not_false_eq_true, not_true_eq_false, implies_true, forall_const, ne_eq, Classical.not_not, reduceCtorEq, nor_p, cI_1n, bI_1n, cI_F, cI_T, cI_0, cI_0n, bI_0, bI_0n, cI_01, bI_01, Nat.reduceLeDiff, Nat.reduceLT, Nat.reduceEqDiff, Nat.reduceSub, Nat.reduceAdd, Nat.lt_irrefl, Nat.le_refl, false_implies, true_implies]
        exact mu_cI (sp_X8_gapTo N1 V1 hc G1 ⟨by omega, by omega⟩ st1 (ws_p hW) (ws_m hW) P1 T1 k1 p1) hL1 (cp_l (L := L) hQ K hc mu_fr_rf rfl)
      · rw [cif_t (show mBl s k from h3), cif_t h4] at hQ
        exact cp_0 (L := L) hC hQ rfl hV
      · rw [cif_f (show ¬ mBl s k from h3)] at hQ
        exact cp_0 (L := L) hC hQ rfl hV
    · replace h2 : ¬ (0 ≤ u.toInt ∧ u.toInt < (np s : Int)) := fun q => h2 (fun z => z q)
      rw [cif_f (fun q => h2 q.2)] at hQ
      exact cp_0 (L := L) hC hQ rfl hV
theorem pm_gap {v u : Int32} (hM : md_L w y g) (hs : mu_I g (y + 1) = s) (hc : wf_c s) (hK : md_K y g) (hW : wf_s s) (hca : caC y s g) : mu_mp w mm_X11_gap (d + 5) [.ref y, .int v, .int u] g (mPost w y (pGap s v u) g) := by
  refine mu_mkp mk_X11_gap rfl (fun L hL Q hQ => fm_X11_gap_0 ⟨md_T0 hM, mu_cI (sp_X11_isMove hM hs (wc_1 hc) (by have := wc_b hc; omega)) hL ?_⟩)
  have hb := wc_b hc
  unfold pGap at hQ
  rw [bI_0]
  refine ⟨fun h => ?_, fun h => ⟨md_T0 hM, mu_cI (sp_X11_isPersonN hM hs (wc_0 hc) (by omega)) hL ?_⟩⟩
  · rw [cif_f (fun q => h q.1)] at hQ
    exact mp_0 hQ rfl hs hca
  · replace h := Classical.not_not.mp h
    rw [bI_0]
    refine ⟨fun h2 => ⟨md_T0 hM, ?_⟩, fun h2 => ?_⟩
    · replace h2 := Classical.not_not.mp h2
      rw [cif_t ⟨h, h2⟩] at hQ
      obtain ⟨k, k1, rfl, k3, k4⟩ := ix_of h
      obtain ⟨p, p1, rfl, p3, p4⟩ := ix_of h2
      rw [k3, p3] at hQ
      have hmb := wm_b (ws_m hW) k1
      refine mu_cI (sp_X11_isBlowN hM hs hc (ws_m hW) k1) hL ?_
      rw [cI_0]
      refine ⟨fun h3 => ⟨md_T0 hM, mu_cI (sp_X11_fieldN (f := 0) hM hs hc (ws_m hW) k1 (by omega)) hL ?_⟩, fun h3 => ?_⟩
      · replace h3 := Classical.not_not.mp h3
        rw [cif_t h3] at hQ
        rw [nI_eq (by omega) (by omega)]
        refine ⟨fun h4 => ⟨md_T0 hM, mu_cVp (sp_X11_findPlaces hM hs hc (ws_p hW) (ws_m hW) (ws_a hW) hca.1) hL (fun g1 h1 _ _ => ?_)⟩, fun h4 => ?_⟩
        · rw [cif_f (fun q => h4 q.symm)] at hQ
          have K := rk_p h1
          have hM1 := md_L_fr hM (f2_T K.1)
          have hs1 := fr_s (y := y) K.1 (fun k => by unfold fW; omega) hs
          refine ⟨md_T0 hM1, mu_cVp (sp_X11_findLates hM1 hs1 hc (ws_t hW)) (f2_fit K.1 hL) (fun g2 h5 _ _ => ?_)⟩
          have K2 := rk_t K h5.1
          have hM2 := md_L_fr hM (f2_T K2.1)
          have hs2 := fr_s (y := y) K2.1 (fun k => by unfold fW; omega) hs
          have hK2 : md_K y g2 := md_K_c hK (fun k q1 q2 => f2_I K2.1 (fun j => by unfold fW; omega))
          exact ⟨md_T0 hM2, mu_cI (sp_X11_gapOf hM2 hs2 hc hK2 (ws_p hW) (ws_m hW) (ws_a hW) K2.2.2 h5.2 k1 h3 p1) (f2_fit K2.1 hL) (mp_l hQ K2 hs hca rfl)⟩
        · rw [cif_t (Classical.not_not.mp h4).symm] at hQ
          exact mp_0 hQ rfl hs hca
      · rw [cif_f (fun q => h3 (fun z => z q))] at hQ
        exact mp_0 hQ rfl hs hca
    · replace h2 : ¬ (0 ≤ u.toInt ∧ u.toInt < (np s : Int)) := fun q => h2 (fun z => z q)
      rw [cif_f (fun q => h2 q.2)] at hQ
      exact mp_0 hQ rfl hs hca
theorem pc_breach {v : Int32} (hE : x + 187 ≤ E) (hst : st_L w g) (hC : cl_L w x g) (hV : sc_V w E (x + 1) s g) (hW : wf_s s) : mu_mp w mm_X10_breach (d + 6) [.ref x, .int v] g (cPost w x E (pBreach s v) g) := by
  refine mu_mkp mk_X10_breach rfl (fun L hL Q hQ => fm_X10_breach_0 (mu_cI (sp_X10_wN (a := 0) (b := 1) rfl rfl) hL ?_))
  have hc := ws_c hW
  have hb := wc_b hc
  have hN := cl_n hC
  unfold pBreach at hQ
  rw [cI_0]
  refine ⟨fun h => ?_, fun h => ?_⟩
  · rw [cif_t (Classical.not_not.mp h)] at hQ
    obtain ⟨b0, hG⟩ := cl_g hC
    refine ⟨cl_T hC, cl_T hC, by rw [cl_R3 hC]; exact sg_T hG, ?_⟩
    rw [cl_R3 hC, cl_R0 hC]
    refine mu_cVp (sp_X8_look hN hV hc hG ⟨by omega, by omega⟩ hst hW) hL (fun g1 h1 _ _ => ?_)
    have K := lk_of hE hst hC hV hW hG h1
    obtain ⟨C1, V1, G1, P1, T1, st1, F1⟩ := id K
    have N1 := cl_n C1
    have hL1 := fw_fit F1 hL
    refine ⟨cl_T C1, by rw [cl_R3 C1]; exact sg_T G1, ?_⟩
    rw [cl_R3 C1]
    refine mu_cI (sp_X8_firstBreach N1 V1 hc G1 ⟨by omega, by omega⟩ st1 (ws_p hW) (ws_m hW) P1 T1) hL1 ?_
    by_cases hlt : fBr s (lateN s) < nm s
    · rw [if_pos hlt]
      rw [cif_t hlt] at hQ
      refine ⟨fun q => absurd q (none_n (by omega)), fun _ => ⟨fun q => ?_, fun q => ?_⟩⟩
      · rw [cif_f q] at hQ
        simp (disch := omega) only [cl_T C1, cl_R0 C1, cl_R3 C1, sg_T G1, sc_T N1, sc_R0 N1, sc_R1 N1, sc_R2 N1, sc_R3 N1, sc_R4 N1, sc_R5 N1, sc_R6 N1, sc_R7 N1, sc_R8 N1, sc_R9 N1, sc_T1 N1, sc_N1 N1, sc_RP N1, sc_T2 N1, sc_N2 N1, sc_RM N1, sc_T3 N1, sc_N3 N1, sc_T4 N1, sc_N4 N1, sc_T5 N1, sc_N5 N1, sc_T6 N1, sc_N6 N1, sc_T7 N1, sc_N7 N1, sc_T8 N1, sc_N8 N1, sc_T9 N1, sc_N9 N1, sc_T10 N1, sc_RL0 N1, sc_RL1 N1, sc_T11 N1, sc_N11 N1, sc_T12 N1, sc_N12 N1, sc_TP N1, sc_TM N1, sc_w N1, sc_wj N1, sc_wp N1, li_n, nI_add, pk_mul, nI_clamp, nI_ltI, nI_leI, nI_eq, mi_n, Nat.add_zero, true_and, and_true, true_or, or_true, false_or, or_false, not_false_eq_true, not_true_eq_false, implies_true, forall_const, ne_eq, Classical.not_not, reduceCtorEq, nor_p, cI_1n, bI_1n, cI_F, cI_T, cI_0, cI_0n, bI_0, bI_0n, cI_01, bI_01, Nat.reduceLeDiff, Nat.reduceLT, Nat.reduceEqDiff, Nat.reduceSub, Nat.reduceAdd, Nat.lt_irrefl, Nat.le_refl, false_implies, true_implies]
        refine ⟨by omega, mu_cI (sp_X8_tooNearTo N1 V1 hc G1 ⟨by omega, by omega⟩ st1 (ws_p hW) (ws_m hW) P1 T1 hlt) hL1 ?_⟩
        rw [if_pos (fb_ok hlt).2]
        exact cp_l (L := L) hQ K hc mu_fr_rf rfl
      · rw [cif_t (Classical.not_not.mp q)] at hQ
        exact cp_l (L := L) hQ K hc mu_fr_rf rfl
    · rw [if_neg hlt]
      rw [cif_f hlt] at hQ
      exact ⟨fun _ => cp_l (L := L) hQ K hc mu_fr_rf rfl, fun q => absurd rfl q⟩
  · rw [cif_f (fun q => h (fun z => z q))] at hQ
    exact cp_0 (L := L) hC hQ rfl hV
theorem pm_breach {v : Int32} (hM : md_L w y g) (hs : mu_I g (y + 1) = s) (hc : wf_c s) (hK : md_K y g) (hW : wf_s s) (hca : caC y s g) : mu_mp w mm_X11_breach (d + 6) [.ref y, .int v] g (mPost w y (pBreach s v) g) := by
  refine mu_mkp mk_X11_breach rfl (fun L hL Q hQ => fm_X11_breach_0 (mu_cI (sp_X11_iN (a := 0) (b := 1) rfl rfl) hL ?_))
  have hb := wc_b hc
  unfold pBreach at hQ
  rw [cI_0]
  refine ⟨fun h => ⟨md_T0 hM, mu_cIp (sp_X11_firstBreach hM hs hc hK (ws_p hW) (ws_m hW) (ws_a hW) (ws_t hW) hca.1) hL (fun z g1 hz _ _ => ?_)⟩, fun h => ?_⟩
  · rw [cif_t (Classical.not_not.mp h)] at hQ
    obtain ⟨rfl, f1, c1, c2, t1⟩ := hz
    have K : rkd y s g g1 := ⟨f1, c1, c2⟩
    have hM1 := md_L_fr hM (f2_T K.1)
    have hs1 := fr_s (y := y) K.1 (fun k => by unfold fW; omega) hs
    have hK1 : md_K y g1 := md_K_c hK (fun k q1 q2 => f2_I K.1 (fun j => by unfold fW; omega))
    by_cases hlt : fBr s (lateN s) < nm s
    · rw [if_pos hlt]
      rw [cif_t hlt] at hQ
      have hm := (fb_ok hlt).1
      refine ⟨fun _ => ⟨fun q => ⟨md_T0 hM1, mu_cI (sp_X11_broken hM1 hs1 hc hK1 (ws_p hW) (ws_m hW) (ws_a hW) c2 t1 hlt ⟨hm.2.1, hm.2.2⟩) (f2_fit K.1 hL) ?_⟩, fun q => ?_⟩, fun q => absurd (le0_n (by omega)) q⟩
      · rw [cif_f q] at hQ
        rw [if_pos (fb_ok hlt).2]
        exact mp_l hQ K hs hca rfl
      · rw [cif_t (Classical.not_not.mp q)] at hQ
        exact mp_l hQ K hs hca rfl
    · rw [if_neg hlt]
      rw [cif_f hlt] at hQ
      exact ⟨fun q => absurd q (by decide), fun _ => mp_l hQ K hs hca rfl⟩
  · rw [cif_f (fun q => h (fun z => z q))] at hQ
    exact mp_0 hQ rfl hs hca
end Qc
