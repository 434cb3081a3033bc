/-! CLIENTS: weapons out, wear: both public calls -/
section Px
variable {w : mu_O} {d x y E : Nat} {g : mu_H} {s : Nat → Int32}
theorem pc_out {v u : Int32} (hC : cl_L w x g) (hV : sc_V w E (x + 1) s g) (hW : wf_s s) : mu_mp w mm_X10_out (d + 2) [.ref x, .int v, .int u] g (cPost w x E (pOut s v u) g) := by
  refine mu_mkp mk_X10_out rfl (fun L hL Q hQ => fm_X10_out_0 ?_)
  have hc := ws_c hW
  have hb := wc_b hc
  have hN := cl_n hC
  refine ⟨cl_T hC, by rw [cl_R0 hC]; exact sc_T hN, ?_⟩
  rw [cl_R0 hC]
  refine mu_cI (sp_X4_hasWeapon hN hV hc) hL ?_
  unfold pOut at hQ
  simp (disch := omega) only [cl_T hC, cl_R0 hC, sc_T hN, sc_R0 hN, sc_R1 hN, sc_R2 hN, sc_R3 hN, sc_R4 hN, sc_R5 hN, sc_R6 hN, sc_R7 hN, sc_R8 hN, sc_R9 hN, sc_T1 hN, sc_N1 hN, sc_RP hN, sc_T2 hN, sc_N2 hN, sc_RM hN, sc_T3 hN, sc_N3 hN, sc_T4 hN, sc_N4 hN, sc_T5 hN, sc_N5 hN, sc_T6 hN, sc_N6 hN, sc_T7 hN, sc_N7 hN, sc_T8 hN, sc_N8 hN, sc_T9 hN, sc_N9 hN, sc_T10 hN, sc_RL0 hN, sc_RL1 hN, sc_T11 hN, sc_N11 hN, sc_T12 hN, sc_N12 hN, sc_TP hN, sc_TM hN, sc_w hN, sc_wj hN, sc_wp hN, li_n, nI_add, pk_mul, nI_clamp, nI_ltI, nI_leI, nI_eq, mi_n, Nat.add_zero, true_and, and_true, true_or, or_true, false_or, or_false, not_false_eq_true, not_true_eq_false, implies_true, forall_const, ne_eq, Classical.not_not, reduceCtorEq, nor_p, cI_1n, bI_1n, cI_F, cI_T, cI_0, cI_0n, bI_0, bI_0n, cI_01, bI_01, Nat.reduceLeDiff, Nat.reduceLT, Nat.reduceEqDiff, Nat.reduceSub, Nat.reduceAdd, Nat.lt_irrefl, Nat.le_refl, false_implies, true_implies]
  refine ⟨fun h => ?_, fun h => ?_⟩
  · rw [cif_f (fun q => h q.1)] at hQ
    exact cp_0 (L := L) hC hQ rfl hV
  · refine mu_cI (sp_X4_hasPerson hN hV hc) hL ?_
    simp (disch := omega) only [li_n, nI_add, pk_mul, nI_clamp, nI_ltI, nI_leI, nI_eq, mi_n, Nat.add_zero, true_and, and_true, true_or, or_true, false_or, or_false, not_false_eq_true, not_true_eq_false, implies_true, forall_const, ne_eq, Classical.not_not, reduceCtorEq, nor_p, cI_1n, bI_1n, cI_F, cI_T, cI_0, cI_0n, bI_0, bI_0n, cI_01, bI_01, Nat.reduceLeDiff, Nat.reduceLT, Nat.reduceEqDiff, Nat.reduceSub, Nat.reduceAdd, Nat.lt_irrefl, Nat.le_refl, false_implies, true_implies]
    refine ⟨fun h2 => ?_, fun h2 => ?_⟩
    · rw [cif_t ⟨h, h2⟩] at hQ
      obtain ⟨k, k1, rfl, k3, k4⟩ := ix_of h
      obtain ⟨p, p1, rfl, p3, p4⟩ := ix_of h2
      rw [k3, p3] at hQ
      obtain ⟨-, -, hw⟩ := (ws_w hW).1 k k1
      simp (disch := omega) only [cl_T hC, cl_R0 hC, sv_wh hV, sc_T hN, sc_R0 hN, sc_R1 hN, sc_R2 hN, sc_R3 hN, sc_R4 hN, sc_R5 hN, sc_R6 hN, sc_R7 hN, sc_R8 hN, sc_R9 hN, sc_T1 hN, sc_N1 hN, sc_RP hN, sc_T2 hN, sc_N2 hN, sc_RM hN, sc_T3 hN, sc_N3 hN, sc_T4 hN, sc_N4 hN, sc_T5 hN, sc_N5 hN, sc_T6 hN, sc_N6 hN, sc_T7 hN, sc_N7 hN, sc_T8 hN, sc_N8 hN, sc_T9 hN, sc_N9 hN, sc_T10 hN, sc_RL0 hN, sc_RL1 hN, sc_T11 hN, sc_N11 hN, sc_T12 hN, sc_N12 hN, sc_TP hN, sc_TM hN, sc_w hN, sc_wj hN, sc_wp hN, li_n, nI_add, pk_mul, nI_clamp, nI_ltI, nI_leI, nI_eq, mi_n, Nat.add_zero, true_and, and_true, true_or, or_true, false_or, or_false, not_false_eq_true, not_true_eq_false, implies_true, forall_const, ne_eq, Classical.not_not, reduceCtorEq, nor_p, cI_1n, bI_1n, cI_F, cI_T, cI_0, cI_0n, bI_0, bI_0n, cI_01, bI_01, Nat.reduceLeDiff, Nat.reduceLT, Nat.reduceEqDiff, Nat.reduceSub, Nat.reduceAdd, Nat.lt_irrefl, Nat.le_refl, false_implies, true_implies]
      refine ⟨by omega, fun q => ?_, fun q => mu_cI (sp_X4_isDull hN hV hc (ws_w hW) k1) hL ?_⟩
      · rw [cif_t (Or.inl (fun e => q (by rw [e]; rfl)))] at hQ
        exact cp_0 (L := L) hC hQ rfl hV
      · have q0 : s (270 + 2 * k + 1) = -1 := by
          rcases hw with hw | ⟨p', p1', p2', -⟩
          · exact hw
          · rw [p2', nn_n (by omega)] at q
            exact absurd q (none_n' (by omega))
        simp (disch := omega) only [cl_T hC, cl_R0 hC, sc_T hN, sc_R0 hN, sc_R1 hN, sc_R2 hN, sc_R3 hN, sc_R4 hN, sc_R5 hN, sc_R6 hN, sc_R7 hN, sc_R8 hN, sc_R9 hN, sc_T1 hN, sc_N1 hN, sc_RP hN, sc_T2 hN, sc_N2 hN, sc_RM hN, sc_T3 hN, sc_N3 hN, sc_T4 hN, sc_N4 hN, sc_T5 hN, sc_N5 hN, sc_T6 hN, sc_N6 hN, sc_T7 hN, sc_N7 hN, sc_T8 hN, sc_N8 hN, sc_T9 hN, sc_N9 hN, sc_T10 hN, sc_RL0 hN, sc_RL1 hN, sc_T11 hN, sc_N11 hN, sc_T12 hN, sc_N12 hN, sc_TP hN, sc_TM hN, sc_w hN, sc_wj hN, sc_wp hN, li_n, nI_add, pk_mul, nI_clamp, nI_ltI, nI_leI, nI_eq, mi_n, Nat.add_zero, true_and, and_true, true_or, or_true, false_or, or_false, not_false_eq_true, not_true_eq_false, implies_true, forall_const, ne_eq, Classical.not_not, reduceCtorEq, nor_p, cI_1n, bI_1n, cI_F, cI_T, cI_0, cI_0n, bI_0, bI_0n, cI_01, bI_01, Nat.reduceLeDiff, Nat.reduceLT, Nat.reduceEqDiff, Nat.reduceSub, Nat.reduceAdd, Nat.lt_irrefl, Nat.le_refl, false_implies, true_implies]
        refine ⟨fun h3 => ?_, fun h3 => mu_cI (sp_X4_weaponOf hN hV hc (ws_w hW) p1) hL ?_⟩
        · rw [cif_t (Or.inr (Or.inl h3))] at hQ
          exact cp_0 (L := L) hC hQ rfl hV
        · have hp3 := (ws_w hW).2 p p1
          refine ⟨fun q2 => ?_, fun q2 => ?_⟩
          · have q3 : s (20 + 4 * p + 3) = -1 := by
              rcases hp3 with hw | ⟨k', k1', k2', -⟩
              · exact hw
              · rw [k2', nn_n (by omega)] at q2
                exact absurd q2 (none_n (by omega))
            rw [cif_f (fun z => z.elim (fun z => z q0) (fun z => z.elim h3 (fun z => z q3)))] at hQ
            have k1' := su_Wh (v := nI p) hV hc k1
            rw [nn_n (by omega)] at k1'
            have k2' := su_P3 (v := nI k) k1' (wf_c_u hc (by omega)) (p := p) (by omega)
            simp (disch := omega) only [cl_T hC, cl_R0 hC, sc_T hN, sc_R0 hN, sc_R1 hN, sc_R2 hN, sc_R3 hN, sc_R4 hN, sc_R5 hN, sc_R6 hN, sc_R7 hN, sc_R8 hN, sc_R9 hN, sc_T1 hN, sc_N1 hN, sc_RP hN, sc_T2 hN, sc_N2 hN, sc_RM hN, sc_T3 hN, sc_N3 hN, sc_T4 hN, sc_N4 hN, sc_T5 hN, sc_N5 hN, sc_T6 hN, sc_N6 hN, sc_T7 hN, sc_N7 hN, sc_T8 hN, sc_N8 hN, sc_T9 hN, sc_N9 hN, sc_T10 hN, sc_RL0 hN, sc_RL1 hN, sc_T11 hN, sc_N11 hN, sc_T12 hN, sc_N12 hN, sc_TP hN, sc_TM hN, sc_w hN, sc_wj hN, sc_wp hN, li_n, nI_add, pk_mul, nI_clamp, nI_ltI, nI_leI, nI_eq, mi_n, Nat.add_zero, true_and, and_true, true_or, or_true, false_or, or_false, not_false_eq_true, not_true_eq_false, implies_true, forall_const, ne_eq, Classical.not_not, reduceCtorEq, nor_p, cI_1n, bI_1n, cI_F, cI_T, cI_0, cI_0n, bI_0, bI_0n, cI_01, bI_01, Nat.reduceLeDiff, Nat.reduceLT, Nat.reduceEqDiff, Nat.reduceSub, Nat.reduceAdd, Nat.lt_irrefl, Nat.le_refl, false_implies, true_implies]
            exact ⟨by omega, cp_ok (L := L) hC hQ (mu_fr_sI (A := fun a => x + 1 ≤ a ∧ a < x + 42) ⟨by omega, by omega⟩) (fun a q => Or.inl q) rfl k2'⟩
          · rw [cif_t (Or.inr (Or.inr (fun e => q2 (by rw [e]; rfl))))] at hQ
            exact cp_0 (L := L) hC hQ rfl hV
    · rw [cif_f (fun q => h2 q.2)] at hQ
      exact cp_0 (L := L) hC hQ rfl hV
theorem pc_wear {v u : Int32} (hC : cl_L w x g) (hV : sc_V w E (x + 1) s g) (hW : wf_s s) : mu_mp w mm_X10_wear (d + 2) [.ref x, .int v, .int u] g (cPost w x E (pWear s v u) g) := by
  refine mu_mkp mk_X10_wear rfl (fun L hL Q hQ => fm_X10_wear_0 ?_)
  have hc := ws_c hW
  have hb := wc_b hc
  have hN := cl_n hC
  refine ⟨cl_T hC, by rw [cl_R0 hC]; exact sc_T hN, ?_⟩
  rw [cl_R0 hC]
  refine mu_cI (sp_X4_hasWeapon hN hV hc) hL ?_
  unfold pWear at hQ
  rw [cI_0]
  refine ⟨fun h => ?_, fun h => mu_cI (sp_X10_wN (a := 0) (b := 2) rfl rfl) hL ?_⟩
  · rw [cif_f (fun q => h q.1)] at hQ
    exact cp_0 (L := L) hC hQ rfl hV
  · replace h := Classical.not_not.mp h
    rw [cI_0]
    refine ⟨fun h2 => ?_, fun h2 => ?_⟩
    · replace h2 := Classical.not_not.mp h2
      rw [cif_t ⟨h, h2⟩] at hQ
      obtain ⟨k, k1, rfl, k3, k4⟩ := ix_of h
      rw [k3] at hQ
      simp (disch := omega) only [cl_T hC, cl_R0 hC, sv_wh hV, (hV.2.2.2.2.2.2.2.2.1 k k1).1, sc_T hN, sc_R0 hN, sc_R1 hN, sc_R2 hN, sc_R3 hN, sc_R4 hN, sc_R5 hN, sc_R6 hN, sc_R7 hN, sc_R8 hN, sc_R9 hN, sc_T1 hN, sc_N1 hN, sc_RP hN, sc_T2 hN, sc_N2 hN, sc_RM hN, sc_T3 hN, sc_N3 hN, sc_T4 hN, sc_N4 hN, sc_T5 hN, sc_N5 hN, sc_T6 hN, sc_N6 hN, sc_T7 hN, sc_N7 hN, sc_T8 hN, sc_N8 hN, sc_T9 hN, sc_N9 hN, sc_T10 hN, sc_RL0 hN, sc_RL1 hN, sc_T11 hN, sc_N11 hN, sc_T12 hN, sc_N12 hN, sc_TP hN, sc_TM hN, sc_w hN, sc_wj hN, sc_wp hN, li_n, nI_add, pk_mul, nI_clamp, nI_ltI, nI_leI, nI_eq, mi_n, Nat.add_zero, true_and, and_true, true_or, or_true, false_or, or_false, not_false_eq_true, not_true_eq_false, implies_true, forall_const, ne_eq, Classical.not_not, reduceCtorEq, nor_p, cI_1n, bI_1n, cI_F, cI_T, cI_0, cI_0n, bI_0, bI_0n, cI_01, bI_01, Nat.reduceLeDiff, Nat.reduceLT, Nat.reduceEqDiff, Nat.reduceSub, Nat.reduceAdd, Nat.lt_irrefl, Nat.le_refl, false_implies, true_implies]
      refine ⟨fun q => ⟨fun q2 => ?_, fun q2 => ?_⟩, fun q => mu_cI (sp_X4_isDull hN hV hc (ws_w hW) k1) hL (mu_cI sp_X10_asInt hL ?_)⟩
      · have q1 : u = 1 := by
          apply Int32.toInt_inj.mp
          have a1 : ¬ u.toInt = 0 := fun e => q2 (Int32.toInt_inj.mp e)
          have a2 : ¬ u.toInt = 2 := fun e => q (Int32.toInt_inj.mp e)
          show u.toInt = 1
          omega
        have e0 : ¬ u = 0 := q2
        rw [cif_f e0, cif_t q1] at hQ
        exact ⟨by omega, cp_0 (L := L) hC hQ rfl hV⟩
      · have e0 : u = 0 := q2
        rw [cif_t e0] at hQ
        exact ⟨by omega, cp_0 (L := L) hC hQ rfl hV⟩
      · have e2 : u = 2 := q
        subst e2
        rw [cif_f (by decide), cif_f (by decide)] at hQ
        rw [cI_c01]
        exact cp_0 (L := L) hC hQ rfl hV
    · replace h2 : ¬ (0 ≤ u.toInt ∧ u.toInt ≤ 2) := fun q => h2 (fun z => z q)
      rw [cif_f (fun q => h2 q.2)] at hQ
      exact cp_0 (L := L) hC hQ rfl hV
theorem pm_wear {v u : Int32} (hM : md_L w y g) (hs : mu_I g (y + 1) = s) (hc : wf_c s) (hW : wf_s s) (hca : caC y s g) : mu_mp w mm_X11_wear (d + 2) [.ref y, .int v, .int u] g (mPost w y (pWear s v u) g) := by
  refine mu_mkp mk_X11_wear rfl (fun L hL Q hQ => fm_X11_wear_0 ⟨md_T0 hM, mu_cI (sp_X11_isWeapon hM hs (wc_5 hc) (by have := wc_b hc; omega)) hL ?_⟩)
  have hb := wc_b hc
  unfold pWear at hQ
  rw [bI_0]
  refine ⟨fun h => ?_, fun h => mu_cI (sp_X11_iN (a := 0) (b := 2) rfl rfl) hL ?_⟩
  · rw [cif_f (fun q => h q.1)] at hQ
    exact mp_0 hQ rfl hs hca
  · replace h := Classical.not_not.mp h
    rw [cI_0]
    refine ⟨fun h2 => ⟨md_T0 hM, mu_cI sp_X11_weaponAt hL ?_⟩, fun h2 => ?_⟩
    · replace h2 := Classical.not_not.mp h2
      rw [cif_t ⟨h, h2⟩] at hQ
      obtain ⟨k, k1, rfl, k3, k4⟩ := ix_of h
      rw [k3] at hQ
      obtain ⟨hv1, hv2, hw⟩ := (ws_w hW).1 k k1
      simp (disch := omega) only [md_T0 hM, md_R0 hM, md_T1 hM, md_N1 hM, hs, wc_0 hc, wc_1 hc, wc_2 hc, wc_3 hc, wc_4 hc, wc_5 hc, wc_6 hc, wc_7 hc, wc_9 hc, li_n, nI_add, pk_mul, nI_clamp, nI_ltI, nI_leI, nI_eq, mi_n, Nat.add_zero, true_and, and_true, true_or, or_true, false_or, or_false, not_false_eq_true, not_true_eq_false, implies_true, forall_const, ne_eq, Classical.not_not, reduceCtorEq, nor_p, cI_1n, bI_1n, cI_F, cI_T, cI_0, cI_0n, bI_0, bI_0n, cI_01, bI_01, Nat.reduceLeDiff, Nat.reduceLT, Nat.reduceEqDiff, Nat.reduceSub, Nat.reduceAdd, Nat.lt_irrefl, Nat.le_refl, false_implies, true_implies]
      refine ⟨fun q2 => ⟨fun q => ⟨by omega, ?_⟩, fun q => ⟨by omega, mu_cI sp_X11_orNone hL ?_⟩⟩, fun q => ⟨by omega, ?_⟩⟩
      · have e0 : ¬ u = 0 := q2
        have e1 : ¬ u = 1 := q
        rw [cif_f e0, cif_f e1] at hQ
        rw [hv1, nI_leI (by omega) (by omega)]
        refine ⟨fun z => mp_0 hQ ?_ hs hca, fun z => mp_0 hQ ?_ hs hca⟩
        · exact (cI_f (by omega)).symm
        · exact (cI_t (by omega)).symm
      · have e1 : u = 1 := q
        subst e1
        rw [cif_f (by decide), cif_t rfl] at hQ
        refine mp_0 hQ ?_ hs hca
        rcases hw with hw | ⟨p, p1, p2, p3⟩
        · rw [hw]; rfl
        · rw [p2, nI_toInt (by omega), if_neg (by omega)]
          exact (nn_n (by omega)).symm
      · have e0 : u = 0 := q
        rw [cif_t e0] at hQ
        exact mp_0 hQ rfl hs hca
    · replace h2 : ¬ (0 ≤ u.toInt ∧ u.toInt ≤ 2) := fun q => h2 (fun z => z q)
      rw [cif_f (fun q => h2 q.2)] at hQ
      exact mp_0 hQ rfl hs hca
theorem pm_out {v u : Int32} (hM : md_L w y g) (hs : mu_I g (y + 1) = s) (hc : wf_c s) (hW : wf_s s) (hca : caC y s g) : mu_mp w mm_X11_out (d + 2) [.ref y, .int v, .int u] g (mPost w y (pOut s v u) g) := by
  refine mu_mkp mk_X11_out rfl (fun L hL Q hQ => fm_X11_out_0 ⟨md_T0 hM, mu_cI (sp_X11_isWeapon hM hs (wc_5 hc) (by have := wc_b hc; omega)) hL ?_⟩)
  have hb := wc_b hc
  have hw1 := md_wj hM 1
  unfold pOut at hQ
  rw [bI_0]
  refine ⟨fun h => ?_, fun h => ⟨md_T0 hM, mu_cI (sp_X11_isPersonN hM hs (wc_0 hc) (by omega)) hL ?_⟩⟩
  · rw [cif_f (fun q => h q.1)] at hQ
    exact mp_0 hQ rfl hs hca
  · replace h := Classical.not_not.mp h
    rw [bI_0]
    refine ⟨fun h2 => ⟨md_T0 hM, mu_cI sp_X11_weaponAt hL ?_⟩, fun h2 => ?_⟩
    · replace h2 := Classical.not_not.mp h2
      rw [cif_t ⟨h, h2⟩] at hQ
      obtain ⟨k, k1, rfl, k3, k4⟩ := ix_of h
      obtain ⟨p, p1, rfl, p3, p4⟩ := ix_of h2
      rw [k3, p3] at hQ
      obtain ⟨hv1, hv2, hw⟩ := (ws_w hW).1 k k1
      have hp3 := (ws_w hW).2 p p1
      simp (disch := omega) only [md_T0 hM, md_R0 hM, md_T1 hM, md_N1 hM, hs, wc_0 hc, wc_1 hc, wc_2 hc, wc_3 hc, wc_4 hc, wc_5 hc, wc_6 hc, wc_7 hc, wc_9 hc, li_n, nI_add, pk_mul, nI_clamp, nI_ltI, nI_leI, nI_eq, mi_n, Nat.add_zero, true_and, and_true, true_or, or_true, false_or, or_false, not_false_eq_true, not_true_eq_false, implies_true, forall_const, ne_eq, Classical.not_not, reduceCtorEq, nor_p, cI_1n, bI_1n, cI_F, cI_T, cI_0, cI_0n, bI_0, bI_0n, cI_01, bI_01, Nat.reduceLeDiff, Nat.reduceLT, Nat.reduceEqDiff, Nat.reduceSub, Nat.reduceAdd, Nat.lt_irrefl, Nat.le_refl, false_implies, true_implies]
      rcases hw with hw | ⟨p', p1', p2', -⟩
      · rw [hw, hv1]
        refine ⟨by omega, fun q => absurd q (by decide), fun _ => ⟨by omega, fun h3 => ?_, fun h3 => mu_cI sp_X11_personAt hL ?_⟩⟩
        · rw [cif_t (Or.inr (Or.inl (by simp (disch := omega) only [li_n, nI_ltI] at h3; omega)))] at hQ
          exact mp_0 hQ rfl hs hca
        · have h3' : ¬ 20 < vW s k := by
            simp (disch := omega) only [li_n, nI_ltI] at h3
            omega
          simp (disch := omega) only [md_T0 hM, md_R0 hM, md_T1 hM, md_N1 hM, hs, wc_0 hc, wc_1 hc, wc_2 hc, wc_3 hc, wc_4 hc, wc_5 hc, wc_6 hc, wc_7 hc, wc_9 hc, li_n, nI_add, pk_mul, nI_clamp, nI_ltI, nI_leI, nI_eq, mi_n, Nat.add_zero, true_and, and_true, true_or, or_true, false_or, or_false, not_false_eq_true, not_true_eq_false, implies_true, forall_const, ne_eq, Classical.not_not, reduceCtorEq, nor_p, cI_1n, bI_1n, cI_F, cI_T, cI_0, cI_0n, bI_0, bI_0n, cI_01, bI_01, Nat.reduceLeDiff, Nat.reduceLT, Nat.reduceEqDiff, Nat.reduceSub, Nat.reduceAdd, Nat.lt_irrefl, Nat.le_refl, false_implies, true_implies]
          rcases hp3 with h4 | ⟨k', k1', k2', -⟩
          · rw [h4]
            rw [cif_f (fun z => z.elim (fun z => z hw) (fun z => z.elim h3' (fun z => z h4)))] at hQ
            refine ⟨by omega, fun _ => ⟨by omega, by omega, mu_cI sp_X11_personAt hL ?_⟩, fun q => absurd (by decide) q⟩
            simp (disch := omega) only [hw1, mu_T_sI, mu_N_sI, mu_R_sI, md_T0 hM, md_R0 hM, md_T1 hM, md_N1 hM, hs, wc_0 hc, wc_1 hc, wc_2 hc, wc_3 hc, wc_4 hc, wc_5 hc, wc_6 hc, wc_7 hc, wc_9 hc, li_n, nI_add, pk_mul, nI_clamp, nI_ltI, nI_leI, nI_eq, mi_n, Nat.add_zero, true_and, and_true, true_or, or_true, false_or, or_false, not_false_eq_true, not_true_eq_false, implies_true, forall_const, ne_eq, Classical.not_not, reduceCtorEq, nor_p, cI_1n, bI_1n, cI_F, cI_T, cI_0, cI_0n, bI_0, bI_0n, cI_01, bI_01, Nat.reduceLeDiff, Nat.reduceLT, Nat.reduceEqDiff, Nat.reduceSub, Nat.reduceAdd, Nat.lt_irrefl, Nat.le_refl, false_implies, true_implies]
            refine ⟨by omega, mp_ok hW hca hQ (mu_fr_tr (mu_fr_sI rfl) (mu_fr_sI rfl)) rfl ?_ ?_⟩
            · rw [mu_I_upd, mu_I_upd, hs]
            · exact agZ_u (agZ_u agZ_rf (by omega)) (by omega)
          · rw [k2']
            refine ⟨by omega, fun q => absurd q (by rw [nI_ltI (by omega) (by omega)]; omega), fun _ => ?_⟩
            rw [cif_t (Or.inr (Or.inr (by rw [k2']; exact m1_n (by omega))))] at hQ
            exact mp_0 hQ rfl hs hca
      · rw [p2']
        refine ⟨by omega, fun _ => ?_, fun q => absurd (by rw [nI_leI (by omega) (by omega)]; omega) q⟩
        rw [cif_t (Or.inl (by rw [p2']; exact m1_n (by omega)))] at hQ
        exact mp_0 hQ rfl hs hca
    · replace h2 : ¬ (0 ≤ u.toInt ∧ u.toInt < (np s : Int)) := fun q => h2 (fun z => z q)
      rw [cif_f (fun q => h2 q.2)] at hQ
      exact mp_0 hQ rfl hs hca
end Px
