/-! CLIENTS: choose, story: both public calls -/
/-- what a move tells -/
noncomputable def stN (s : Nat → Int32) (m : Nat) : Nat := cif (vM s m 7 = 0 ∧ (mBl s m → sSeen s m)) (kWorth (vM s m 1)) 0
noncomputable def pStory (s : Nat → Int32) : Int32 × (Nat → Int32) := (nI (sumN (stN s) (nm s)), s)
section Qg
variable {w : mu_O} {d x y E : Nat} {g g1 g2 : mu_H} {s : Nat → Int32}
theorem pc_choose {v : Int32} (hC : cl_L w x g) (hV : sc_V w E (x + 1) s g) (hW : wf_s s) : mu_mp w mm_X10_choose (d + 2) [.ref x, .int v] g (cPost w x E (pChoose s v) g) := by
  refine mu_mkp mk_X10_choose rfl (fun L hL Q hQ => fm_X10_choose_0 ?_)
  have hc := ws_c hW
  have hb := wc_b hc
  have hN := cl_n hC
  refine ⟨cl_T hC, by rw [cl_R0 hC]; exact sc_T hN, ?_⟩
  rw [cl_R0 hC]
  refine mu_cI (sp_X4_hasMove hN hV hc) hL ?_
  unfold pChoose at hQ
  rw [cI_0]
  refine ⟨fun h => ?_, fun h => ?_⟩
  · replace h := Classical.not_not.mp h
    rw [cif_t h] at hQ
    obtain ⟨k, k1, rfl, k3, k4⟩ := ix_of h
    rw [k3] at hQ
    refine ⟨cl_T hC, by rw [cl_R0 hC]; exact sc_T hN, ?_⟩
    rw [cl_R0 hC]
    refine mu_cI (sp_X4_chosenPlace hN hV hc (ws_ch hW) (by omega)) hL ?_
    by_cases hlt : fsN (fun i => vC s i = k) (nch s) < nch s
    · rw [if_pos hlt]
      rw [cif_t hlt] at hQ
      exact ⟨fun q => absurd q (none_n (by omega)), fun _ => cp_0 (L := L) hC hQ rfl hV⟩
    · rw [if_neg hlt]
      rw [cif_f hlt] at hQ
      refine ⟨fun _ => ?_, fun q => absurd rfl q⟩
      have o : ∀ z a k v, a ≠ x + 1 → mu_I (mu_sI z a k v) (x + 1) 14 = mu_I z (x + 1) 14 := fun z a k v h => I_sI_a _ _ _ _ (Ne.symm h)
      simp (disch := omega) only [cl_T hC, cl_R0 hC, o, I_sI_same, sc_T hN, sc_R0 hN, sc_R1 hN, sc_R2 hN, sc_R3 hN, sc_R4 hN, sc_R5 hN, sc_R6 hN, sc_R7 hN, sc_R8 hN, sc_R9 hN, sc_T1 hN, sc_N1 hN, sc_RP hN, sc_T2 hN, sc_N2 hN, sc_RM hN, sc_T3 hN, sc_N3 hN, sc_T4 hN, sc_N4 hN, sc_T5 hN, sc_N5 hN, sc_T6 hN, sc_N6 hN, sc_T7 hN, sc_N7 hN, sc_T8 hN, sc_N8 hN, sc_T9 hN, sc_N9 hN, sc_T10 hN, sc_RL0 hN, sc_RL1 hN, sc_T11 hN, sc_N11 hN, sc_T12 hN, sc_N12 hN, sc_TP hN, sc_TM hN, sc_w hN, sc_wj hN, sc_wp hN, sv_0 hV hc, sv_1 hV hc, sv_2 hV hc, sv_3 hV hc, sv_4 hV hc, sv_5 hV hc, sv_6 hV hc, sv_7 hV hc, sv_9 hV hc, sv_8 hV, li_n, nI_add, pk_mul, nI_clamp, nI_ltI, nI_leI, nI_eq, mi_n, Nat.add_zero, true_and, and_true, true_or, or_true, false_or, or_false, not_false_eq_true, not_true_eq_false, implies_true, forall_const, ne_eq, Classical.not_not, reduceCtorEq, nor_p, cI_1n, bI_1n, cI_F, cI_T, cI_0, cI_0n, bI_0, bI_0n, cI_01, bI_01, Nat.reduceLeDiff, Nat.reduceLT, Nat.reduceEqDiff, Nat.reduceSub, Nat.reduceAdd, Nat.lt_irrefl, Nat.le_refl, false_implies, true_implies]
      refine ⟨fun h3 => ⟨by omega, ?_⟩, fun h3 => ?_⟩
      · rw [cif_t h3] at hQ
        have k1' := sb_C (v := nI k) hV hc (i := nch s) (Nat.le_refl _) h3
        have n1 : nch (upd s (260 + nch s) (nI k)) = nch s := nch_u (by omega)
        have k3' := sm_C (v := nI (nch s + 1)) k1' (wf_c_u hc (by omega)) (by rw [n1, nI_clamp (by omega)]) (by rw [n1, I_sI_same, pk_us])
        exact cp_ok (L := L) hC hQ (mu_fr_tr (mu_fr_sI (A := fun a => x + 1 ≤ a ∧ a < x + 42) ⟨by omega, by omega⟩) (mu_fr_sI ⟨by omega, by omega⟩)) (fun a q => Or.inl q) rfl k3'
      · rw [cif_f h3] at hQ
        exact cp_0 (L := L) hC hQ rfl hV
  · rw [cif_f (fun q => h (fun z => z q))] at hQ
    exact cp_0 (L := L) hC hQ rfl hV
theorem pm_choose {v : Int32} (hM : md_L w y g) (hs : mu_I g (y + 1) = s) (hc : wf_c s) (hW : wf_s s) (hca : caC y s g) : mu_mp w mm_X11_choose (d + 2) [.ref y, .int v] g (mPost w y (pChoose s v) g) := by
  refine mu_mkp mk_X11_choose rfl (fun L hL Q hQ => fm_X11_choose_0 ⟨md_T0 hM, mu_cI (sp_X11_isMove hM hs (wc_1 hc) (by have := wc_b hc; omega)) hL ?_⟩)
  have hb := wc_b hc
  have hw1 := md_wj hM 1
  unfold pChoose at hQ
  rw [bI_0]
  refine ⟨fun h => ?_, fun h => ?_⟩
  · replace h := Classical.not_not.mp h
    rw [cif_t h] at hQ
    obtain ⟨k, k1, rfl, k3, k4⟩ := ix_of h
    rw [k3] at hQ
    refine lp (n := nch s) (P := fun i => (∀ j, j < i → ¬ vC s j = k) → mu_go w mm_X11_choose (d + 2) L Q 13 [some (.ref y), some (.int (nI k)), some (.int (nI i))] [] g) (fun hj => fm_X11_choose_13 ?_) (fun i hi ih hj => fm_X11_choose_13 ?_) (fun j hj => absurd hj (Nat.not_lt_zero j))
    · rw [fsN_no hj, cif_f (Nat.lt_irrefl _)] at hQ
      simp (disch := omega) only [md_T0 hM, md_R0 hM, md_T1 hM, md_N1 hM, hs, wc_0 hc, wc_1 hc, wc_2 hc, wc_3 hc, wc_4 hc, wc_5 hc, wc_6 hc, wc_7 hc, wc_9 hc, li_n, nI_add, pk_mul, nI_clamp, nI_ltI, nI_leI, nI_eq, mi_n, Nat.add_zero, true_and, and_true, true_or, or_true, false_or, or_false, not_false_eq_true, not_true_eq_false, implies_true, forall_const, ne_eq, Classical.not_not, reduceCtorEq, nor_p, cI_1n, bI_1n, cI_F, cI_T, cI_0, cI_0n, bI_0, bI_0n, cI_01, bI_01, Nat.reduceLeDiff, Nat.reduceLT, Nat.reduceEqDiff, Nat.reduceSub, Nat.reduceAdd, Nat.lt_irrefl, Nat.le_refl, false_implies, true_implies]
      refine ⟨fun h3 => mu_cV (sp_X11_stale hM) (f2_fit (stale_f (y := y)) hL) ?_, fun h3 => ?_⟩
      · rw [cif_t (by omega)] at hQ
        have hM1 := md_L_fr hM (f2_T (stale_f (y := y) (g := g)))
        have hs1 := stale_s hs
        simp (disch := omega) only [md_T0 hM1, md_R0 hM1, md_T1 hM1, md_N1 hM1, hs1, hw1, wc_4 hc, mu_I_upd, pk_un, pk_us, li_n, nI_add, pk_mul, nI_clamp, nI_ltI, nI_leI, nI_eq, mi_n, Nat.add_zero, true_and, and_true, true_or, or_true, false_or, or_false, not_false_eq_true, not_true_eq_false, implies_true, forall_const, ne_eq, Classical.not_not, reduceCtorEq, nor_p, cI_1n, bI_1n, cI_F, cI_T, cI_0, cI_0n, bI_0, bI_0n, cI_01, bI_01, Nat.reduceLeDiff, Nat.reduceLT, Nat.reduceEqDiff, Nat.reduceSub, Nat.reduceAdd, Nat.lt_irrefl, Nat.le_refl, false_implies, true_implies]
        refine ⟨by omega, hQ _ _ ⟨_, rfl, rfl, ?_, ?_, ?_⟩ rfl rfl⟩
        · rw [mu_I_upd, mu_I_upd, hs1]
        · exact ⟨Or.inl (by rw [I_sI_a _ _ _ _ (by omega), I_sI_a _ _ _ _ (by omega)]; exact stale_c.1), Or.inl (by rw [I_sI_a _ _ _ _ (by omega), I_sI_a _ _ _ _ (by omega)]; exact stale_c.2)⟩
        · exact f2_tr stale_f (f2_tr (f2_sI (Or.inl rfl)) (f2_sI (Or.inl rfl)))
      · rw [cif_f (by omega)] at hQ
        exact mp_0 hQ rfl hs hca
    · have hci := ((ws_ch hW) i hi)
      have hci1 := hci.1
      have hci2 := hci.2.1
      simp (disch := omega) only [Nat.not_le_of_lt hi, hci1, md_T0 hM, md_R0 hM, md_T1 hM, md_N1 hM, hs, wc_0 hc, wc_1 hc, wc_2 hc, wc_3 hc, wc_4 hc, wc_5 hc, wc_6 hc, wc_7 hc, wc_9 hc, li_n, nI_add, pk_mul, nI_clamp, nI_ltI, nI_leI, nI_eq, mi_n, Nat.add_zero, true_and, and_true, true_or, or_true, false_or, or_false, not_false_eq_true, not_true_eq_false, implies_true, forall_const, ne_eq, Classical.not_not, reduceCtorEq, nor_p, cI_1n, bI_1n, cI_F, cI_T, cI_0, cI_0n, bI_0, bI_0n, cI_01, bI_01, Nat.reduceLeDiff, Nat.reduceLT, Nat.reduceEqDiff, Nat.reduceSub, Nat.reduceAdd, Nat.lt_irrefl, Nat.le_refl, false_implies, true_implies]
      refine ⟨by omega, fun h3 => ih (fun j h2 => ?_), fun h3 => ?_⟩
      · by_cases e : j = i
        · rw [e]; exact h3
        · exact hj j (by omega)
      · rw [cif_t (fs_lt.mpr ⟨i, hi, h3⟩)] at hQ
        exact mp_0 hQ rfl hs hca
  · rw [cif_f (fun q => h (fun z => z q))] at hQ
    exact mp_0 hQ rfl hs hca
theorem pc_story (hE : x + 187 ≤ E) (hst : st_L w g) (hC : cl_L w x g) (hV : sc_V w E (x + 1) s g) (hW : wf_s s) : mu_mp w mm_X10_story (d + 5) [.ref x] g (cPost w x E (pStory s) g) := by
  refine mu_mkp mk_X10_story rfl (fun L hL Q hQ => fm_X10_story_0 ?_)
  have hc := ws_c hW
  have hb := wc_b hc
  have hN := cl_n hC
  unfold pStory at hQ
  obtain ⟨b0, hG⟩ := cl_g hC
  refine ⟨cl_T hC, cl_T hC, by rw [cl_R3 hC]; exact sg_T hG, ?_⟩
  rw [cl_R3 hC, cl_R0 hC]
  refine mu_cVp (sp_X8_look hN hV hc hG ⟨by omega, by omega⟩ hst hW) hL (fun g1 h1 _ _ => ?_)
  have K := lk_of hE hst hC hV hW hG h1
  obtain ⟨C1, V1, G1, P1, T1, st1, F1⟩ := id K
  have N1 := cl_n C1
  have hL1 := fw_fit F1 hL
  refine lp (n := nm s) (P := fun i => mu_go w mm_X10_story (d + 5) L Q 15 [some (.ref x), some (.int (nI (sumN (stN s) i))), some (.int (nI i)), none] [] g1) (fm_X10_story_15 ?_) (fun i hi ih => fm_X10_story_15 ?_)
  · simp (disch := omega) only [cl_T C1, cl_R0 C1, sc_T N1, sc_R0 N1, sc_R1 N1, sc_R2 N1, sc_R3 N1, sc_R4 N1, sc_R5 N1, sc_R6 N1, sc_R7 N1, sc_R8 N1, sc_R9 N1, sc_T1 N1, sc_N1 N1, sc_RP N1, sc_T2 N1, sc_N2 N1, sc_RM N1, sc_T3 N1, sc_N3 N1, sc_T4 N1, sc_N4 N1, sc_T5 N1, sc_N5 N1, sc_T6 N1, sc_N6 N1, sc_T7 N1, sc_N7 N1, sc_T8 N1, sc_N8 N1, sc_T9 N1, sc_N9 N1, sc_T10 N1, sc_RL0 N1, sc_RL1 N1, sc_T11 N1, sc_N11 N1, sc_T12 N1, sc_N12 N1, sc_TP N1, sc_TM N1, sc_w N1, sc_wj N1, sc_wp N1, sv_0 V1 hc, sv_1 V1 hc, sv_2 V1 hc, sv_3 V1 hc, sv_4 V1 hc, sv_5 V1 hc, sv_6 V1 hc, sv_7 V1 hc, sv_9 V1 hc, sv_8 V1, li_n, nI_add, pk_mul, nI_clamp, nI_ltI, nI_leI, nI_eq, mi_n, Nat.add_zero, true_and, and_true, true_or, or_true, false_or, or_false, not_false_eq_true, not_true_eq_false, implies_true, forall_const, ne_eq, Classical.not_not, reduceCtorEq, nor_p, cI_1n, bI_1n, cI_F, cI_T, cI_0, cI_0n, bI_0, bI_0n, cI_01, bI_01, Nat.reduceLeDiff, Nat.reduceLT, Nat.reduceEqDiff, Nat.reduceSub, Nat.reduceAdd, Nat.lt_irrefl, Nat.le_refl, false_implies, true_implies]
    exact cp_l (L := L) hQ K hc mu_fr_rf rfl
  · have hmb := wm_b (ws_m hW) hi
    have i1 : vM s i 7 = 0 ∧ (mBl s i → sSeen s i) → mu_go w mm_X10_story (d + 5) L Q 15 [some (.ref x), some (.int (nI (sumN (stN s) i + kWorth (vM s i 1)))), some (.int (nI (i + 1))), none] [] g1 := fun h => by
      have := ih
      unfold sumN at this
      unfold stN at this
      rw [cif_t h] at this
      exact this
    have i0 : ¬ (vM s i 7 = 0 ∧ (mBl s i → sSeen s i)) → mu_go w mm_X10_story (d + 5) L Q 15 [some (.ref x), some (.int (nI (sumN (stN s) i))), some (.int (nI (i + 1))), none] [] g1 := fun h => by
      have := ih
      unfold sumN at this
      unfold stN at this
      rw [cif_f h] at this
      exact this
    clear ih
    simp (disch := omega) only [Nat.not_le_of_lt hi, cl_T C1, cl_R0 C1, sv_m V1 (ws_m hW) hi (show 7 < 8 by omega), sc_T N1, sc_R0 N1, sc_R1 N1, sc_R2 N1, sc_R3 N1, sc_R4 N1, sc_R5 N1, sc_R6 N1, sc_R7 N1, sc_R8 N1, sc_R9 N1, sc_T1 N1, sc_N1 N1, sc_RP N1, sc_T2 N1, sc_N2 N1, sc_RM N1, sc_T3 N1, sc_N3 N1, sc_T4 N1, sc_N4 N1, sc_T5 N1, sc_N5 N1, sc_T6 N1, sc_N6 N1, sc_T7 N1, sc_N7 N1, sc_T8 N1, sc_N8 N1, sc_T9 N1, sc_N9 N1, sc_T10 N1, sc_RL0 N1, sc_RL1 N1, sc_T11 N1, sc_N11 N1, sc_T12 N1, sc_N12 N1, sc_TP N1, sc_TM N1, sc_w N1, sc_wj N1, sc_wp N1, sv_0 V1 hc, sv_1 V1 hc, sv_2 V1 hc, sv_3 V1 hc, sv_4 V1 hc, sv_5 V1 hc, sv_6 V1 hc, sv_7 V1 hc, sv_9 V1 hc, sv_8 V1, li_n, nI_add, pk_mul, nI_clamp, nI_ltI, nI_leI, nI_eq, mi_n, Nat.add_zero, true_and, and_true, true_or, or_true, false_or, or_false, not_false_eq_true, not_true_eq_false, implies_true, forall_const, ne_eq, Classical.not_not, reduceCtorEq, nor_p, cI_1n, bI_1n, cI_F, cI_T, cI_0, cI_0n, bI_0, bI_0n, cI_01, bI_01, Nat.reduceLeDiff, Nat.reduceLT, Nat.reduceEqDiff, Nat.reduceSub, Nat.reduceAdd, Nat.lt_irrefl, Nat.le_refl, false_implies, true_implies]
    refine ⟨by omega, fun h7 => i0 (fun q => h7 q.1), fun h7 => mu_cI (sp_X1_isBlow st1 (sc_TM N1 (by omega)) (sv_m V1 (ws_m hW) hi (by omega)) hmb.2.1) hL1 ?_⟩
    simp (disch := omega) only [cl_T C1, cl_R0 C1, cl_R3 C1, sg_T G1, sv_m V1 (ws_m hW) hi (show 1 < 8 by omega), st_T st1, st_N st1, st_2 st1, sc_T N1, sc_R0 N1, sc_R1 N1, sc_R2 N1, sc_R3 N1, sc_R4 N1, sc_R5 N1, sc_R6 N1, sc_R7 N1, sc_R8 N1, sc_R9 N1, sc_T1 N1, sc_N1 N1, sc_RP N1, sc_T2 N1, sc_N2 N1, sc_RM N1, sc_T3 N1, sc_N3 N1, sc_T4 N1, sc_N4 N1, sc_T5 N1, sc_N5 N1, sc_T6 N1, sc_N6 N1, sc_T7 N1, sc_N7 N1, sc_T8 N1, sc_N8 N1, sc_T9 N1, sc_N9 N1, sc_T10 N1, sc_RL0 N1, sc_RL1 N1, sc_T11 N1, sc_N11 N1, sc_T12 N1, sc_N12 N1, sc_TP N1, sc_TM N1, sc_w N1, sc_wj N1, sc_wp N1, li_n, nI_add, pk_mul, nI_clamp, nI_ltI, nI_leI, nI_eq, mi_n, Nat.add_zero, true_and, and_true, true_or, or_true, false_or, or_false, not_false_eq_true, not_true_eq_false, implies_true, forall_const, ne_eq, Classical.not_not, reduceCtorEq, nor_p, cI_1n, bI_1n, cI_F, cI_T, cI_0, cI_0n, bI_0, bI_0n, cI_01, bI_01, Nat.reduceLeDiff, Nat.reduceLT, Nat.reduceEqDiff, Nat.reduceSub, Nat.reduceAdd, Nat.lt_irrefl, Nat.le_refl, false_implies, true_implies]
    refine ⟨fun h2 => ⟨by omega, i1 ⟨h7, fun q => absurd q h2⟩⟩, fun h2 => mu_cI (sp_X8_isSeen N1 V1 hc G1 ⟨by omega, by omega⟩ (ws_m hW) (ws_p hW) P1 hi) hL1 ?_⟩
    simp (disch := omega) only [sv_m V1 (ws_m hW) hi (show 1 < 8 by omega), st_T st1, st_N st1, st_2 st1, sc_T N1, sc_R0 N1, sc_R1 N1, sc_R2 N1, sc_R3 N1, sc_R4 N1, sc_R5 N1, sc_R6 N1, sc_R7 N1, sc_R8 N1, sc_R9 N1, sc_T1 N1, sc_N1 N1, sc_RP N1, sc_T2 N1, sc_N2 N1, sc_RM N1, sc_T3 N1, sc_N3 N1, sc_T4 N1, sc_N4 N1, sc_T5 N1, sc_N5 N1, sc_T6 N1, sc_N6 N1, sc_T7 N1, sc_N7 N1, sc_T8 N1, sc_N8 N1, sc_T9 N1, sc_N9 N1, sc_T10 N1, sc_RL0 N1, sc_RL1 N1, sc_T11 N1, sc_N11 N1, sc_T12 N1, sc_N12 N1, sc_TP N1, sc_TM N1, sc_w N1, sc_wj N1, sc_wp N1, li_n, nI_add, pk_mul, nI_clamp, nI_ltI, nI_leI, nI_eq, mi_n, Nat.add_zero, true_and, and_true, true_or, or_true, false_or, or_false, not_false_eq_true, not_true_eq_false, implies_true, forall_const, ne_eq, Classical.not_not, reduceCtorEq, nor_p, cI_1n, bI_1n, cI_F, cI_T, cI_0, cI_0n, bI_0, bI_0n, cI_01, bI_01, Nat.reduceLeDiff, Nat.reduceLT, Nat.reduceEqDiff, Nat.reduceSub, Nat.reduceAdd, Nat.lt_irrefl, Nat.le_refl, false_implies, true_implies]
    exact ⟨fun h3 => i0 (fun q => h3 (q.2 h2)), fun h3 => ⟨by omega, i1 ⟨h7, fun _ => h3⟩⟩⟩
theorem ml_story {L : Nat × Nat} {Q : Option Value → mu_H → Prop} (hM : md_L w y g) (hs : mu_I g (y + 1) = s) (hc : wf_c s) (hK : md_K y g) (hW : wf_s s) (hC : plC y s g) (hL : mu_fit2 L g) (hQ : Q (some (.int (nI (sumN (stN s) (nm s))))) g) : mu_go w mm_X11_story (d + 4) L Q 8 [some (.ref y), some (.int (nI 0)), some (.int (nI 0)), none] [] g := by
  have hb := wc_b hc
  refine lp (n := nm s) (P := fun i => mu_go w mm_X11_story (d + 4) L Q 8 [some (.ref y), some (.int (nI (sumN (stN s) i))), some (.int (nI i)), none] [] g) (fm_X11_story_8 ?_) (fun i hi ih => fm_X11_story_8 ?_)
  · simp (disch := omega) only [md_T0 hM, md_R0 hM, md_T1 hM, md_N1 hM, hs, wc_0 hc, wc_1 hc, wc_2 hc, wc_3 hc, wc_4 hc, wc_5 hc, wc_6 hc, wc_7 hc, wc_9 hc, li_n, nI_add, pk_mul, nI_clamp, nI_ltI, nI_leI, nI_eq, mi_n, Nat.add_zero, true_and, and_true, true_or, or_true, false_or, or_false, not_false_eq_true, not_true_eq_false, implies_true, forall_const, ne_eq, Classical.not_not, reduceCtorEq, nor_p, cI_1n, bI_1n, cI_F, cI_T, cI_0, cI_0n, bI_0, bI_0n, cI_01, bI_01, Nat.reduceLeDiff, Nat.reduceLT, Nat.reduceEqDiff, Nat.reduceSub, Nat.reduceAdd, Nat.lt_irrefl, Nat.le_refl, false_implies, true_implies]
    exact hQ
  · have hmb := wm_b (ws_m hW) hi
    have i1 : vM s i 7 = 0 ∧ (mBl s i → sSeen s i) → mu_go w mm_X11_story (d + 4) L Q 8 [some (.ref y), some (.int (nI (sumN (stN s) i + kWorth (vM s i 1)))), some (.int (nI (i + 1))), none] [] g := fun h => by
      have := ih
      unfold sumN at this
      unfold stN at this
      rw [cif_t h] at this
      exact this
    have i0 : ¬ (vM s i 7 = 0 ∧ (mBl s i → sSeen s i)) → mu_go w mm_X11_story (d + 4) L Q 8 [some (.ref y), some (.int (nI (sumN (stN s) i))), some (.int (nI (i + 1))), none] [] g := fun h => by
      have := ih
      unfold sumN at this
      unfold stN at this
      rw [cif_f h] at this
      exact this
    clear ih
    have k1 := (hK (vM s i 1) (by omega)).2.1
    simp (disch := omega) only [Nat.not_le_of_lt hi, md_T0 hM, md_R0 hM, md_T1 hM, md_N1 hM, hs, wc_0 hc, wc_1 hc, wc_2 hc, wc_3 hc, wc_4 hc, wc_5 hc, wc_6 hc, wc_7 hc, wc_9 hc, li_n, nI_add, pk_mul, nI_clamp, nI_ltI, nI_leI, nI_eq, mi_n, Nat.add_zero, true_and, and_true, true_or, or_true, false_or, or_false, not_false_eq_true, not_true_eq_false, implies_true, forall_const, ne_eq, Classical.not_not, reduceCtorEq, nor_p, cI_1n, bI_1n, cI_F, cI_T, cI_0, cI_0n, bI_0, bI_0n, cI_01, bI_01, Nat.reduceLeDiff, Nat.reduceLT, Nat.reduceEqDiff, Nat.reduceSub, Nat.reduceAdd, Nat.lt_irrefl, Nat.le_refl, false_implies, true_implies]
    refine mu_cI (sp_X11_fieldN (f := 7) hM hs hc (ws_m hW) hi (by omega)) hL ?_
    simp (disch := omega) only [md_T0 hM, md_R0 hM, md_T1 hM, md_N1 hM, hs, wc_0 hc, wc_1 hc, wc_2 hc, wc_3 hc, wc_4 hc, wc_5 hc, wc_6 hc, wc_7 hc, wc_9 hc, li_n, nI_add, pk_mul, nI_clamp, nI_ltI, nI_leI, nI_eq, mi_n, Nat.add_zero, true_and, and_true, true_or, or_true, false_or, or_false, not_false_eq_true, not_true_eq_false, implies_true, forall_const, ne_eq, Classical.not_not, reduceCtorEq, nor_p, cI_1n, bI_1n, cI_F, cI_T, cI_0, cI_0n, bI_0, bI_0n, cI_01, bI_01, Nat.reduceLeDiff, Nat.reduceLT, Nat.reduceEqDiff, Nat.reduceSub, Nat.reduceAdd, Nat.lt_irrefl, Nat.le_refl, false_implies, true_implies]
    refine ⟨fun h7 => i0 (fun q => h7 q.1), fun h7 => mu_cI (sp_X11_isBlowN hM hs hc (ws_m hW) hi) hL ?_⟩
    simp (disch := omega) only [md_T0 hM, md_R0 hM, md_T1 hM, md_N1 hM, hs, wc_0 hc, wc_1 hc, wc_2 hc, wc_3 hc, wc_4 hc, wc_5 hc, wc_6 hc, wc_7 hc, wc_9 hc, li_n, nI_add, pk_mul, nI_clamp, nI_ltI, nI_leI, nI_eq, mi_n, Nat.add_zero, true_and, and_true, true_or, or_true, false_or, or_false, not_false_eq_true, not_true_eq_false, implies_true, forall_const, ne_eq, Classical.not_not, reduceCtorEq, nor_p, cI_1n, bI_1n, cI_F, cI_T, cI_0, cI_0n, bI_0, bI_0n, cI_01, bI_01, Nat.reduceLeDiff, Nat.reduceLT, Nat.reduceEqDiff, Nat.reduceSub, Nat.reduceAdd, Nat.lt_irrefl, Nat.le_refl, false_implies, true_implies]
    refine ⟨fun h2 => mu_cI (sp_X11_fieldN (f := 1) hM hs hc (ws_m hW) hi (by omega)) hL ?_, fun h2 => mu_cI (sp_X11_isSeen hM hs hc (ws_p hW) (ws_m hW) hC hi) hL ?_⟩
    · simp (disch := omega) only [md_R12 hM, md_T12 hM, md_N12 hM, k1, md_T0 hM, md_R0 hM, md_T1 hM, md_N1 hM, hs, wc_0 hc, wc_1 hc, wc_2 hc, wc_3 hc, wc_4 hc, wc_5 hc, wc_6 hc, wc_7 hc, wc_9 hc, li_n, nI_add, pk_mul, nI_clamp, nI_ltI, nI_leI, nI_eq, mi_n, Nat.add_zero, true_and, and_true, true_or, or_true, false_or, or_false, not_false_eq_true, not_true_eq_false, implies_true, forall_const, ne_eq, Classical.not_not, reduceCtorEq, nor_p, cI_1n, bI_1n, cI_F, cI_T, cI_0, cI_0n, bI_0, bI_0n, cI_01, bI_01, Nat.reduceLeDiff, Nat.reduceLT, Nat.reduceEqDiff, Nat.reduceSub, Nat.reduceAdd, Nat.lt_irrefl, Nat.le_refl, false_implies, true_implies]
      exact ⟨by omega, i1 ⟨h7, fun q => absurd q h2⟩⟩
    · simp (disch := omega) only [md_T0 hM, md_R0 hM, md_T1 hM, md_N1 hM, hs, wc_0 hc, wc_1 hc, wc_2 hc, wc_3 hc, wc_4 hc, wc_5 hc, wc_6 hc, wc_7 hc, wc_9 hc, li_n, nI_add, pk_mul, nI_clamp, nI_ltI, nI_leI, nI_eq, mi_n, Nat.add_zero, true_and, and_true, true_or, or_true, false_or, or_false, not_false_eq_true, not_true_eq_false, implies_true, forall_const, ne_eq, Classical.not_not, reduceCtorEq, nor_p, cI_1n, bI_1n, cI_F, cI_T, cI_0, cI_0n, bI_0, bI_0n, cI_01, bI_01, Nat.reduceLeDiff, Nat.reduceLT, Nat.reduceEqDiff, Nat.reduceSub, Nat.reduceAdd, Nat.lt_irrefl, Nat.le_refl, false_implies, true_implies]
      refine ⟨fun h3 => i0 (fun q => h3 (q.2 h2)), fun h3 => mu_cI (sp_X11_fieldN (f := 1) hM hs hc (ws_m hW) hi (by omega)) hL ?_⟩
      simp (disch := omega) only [md_R12 hM, md_T12 hM, md_N12 hM, k1, md_T0 hM, md_R0 hM, md_T1 hM, md_N1 hM, hs, wc_0 hc, wc_1 hc, wc_2 hc, wc_3 hc, wc_4 hc, wc_5 hc, wc_6 hc, wc_7 hc, wc_9 hc, li_n, nI_add, pk_mul, nI_clamp, nI_ltI, nI_leI, nI_eq, mi_n, Nat.add_zero, true_and, and_true, true_or, or_true, false_or, or_false, not_false_eq_true, not_true_eq_false, implies_true, forall_const, ne_eq, Classical.not_not, reduceCtorEq, nor_p, cI_1n, bI_1n, cI_F, cI_T, cI_0, cI_0n, bI_0, bI_0n, cI_01, bI_01, Nat.reduceLeDiff, Nat.reduceLT, Nat.reduceEqDiff, Nat.reduceSub, Nat.reduceAdd, Nat.lt_irrefl, Nat.le_refl, false_implies, true_implies]
      exact ⟨by omega, i1 ⟨h7, fun _ => h3⟩⟩
theorem pm_story (hM : md_L w y g) (hs : mu_I g (y + 1) = s) (hc : wf_c s) (hK : md_K y g) (hW : wf_s s) (hca : caC y s g) : mu_mp w mm_X11_story (d + 4) [.ref y] g (mPost w y (pStory s) g) := by
  refine mu_mkp mk_X11_story rfl (fun L hL Q hQ => fm_X11_story_0 ⟨md_T0 hM, mu_cVp (sp_X11_findPlaces hM hs hc (ws_p hW) (ws_m hW) (ws_a hW) hca.1) hL (fun g1 h1 _ _ => ?_)⟩)
  have K := rk_p h1
  have hM1 := md_L_fr hM (f2_T K.1)
  have hs1 := fr_s (y := y) K.1 (fun k => by unfold fW; omega) hs
  have hK1 : md_K y g1 := md_K_c hK (fun k q1 q2 => f2_I K.1 (fun j => by unfold fW; omega))
  exact ml_story hM1 hs1 hc hK1 hW K.2.2 (f2_fit K.1 hL) (mp_l hQ K hs hca rfl)
end Qg
