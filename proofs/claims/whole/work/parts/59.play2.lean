/-! CLIENTS: a show, in the class -/
section Cq
variable {w : mu_O} {d b S E : Nat} {g : mu_H} {s : Nat → Int32} {l : Nat → Nat}
/-- where play writes -/
def pyA (b S E : Nat) : Nat → Prop := fun a => (b ≤ a ∧ a < b + 41) ∨ a = S + 4 ∨ jU E a
theorem zs_u8 {v : Int32} : ∀ p, zs s p = zs s p := fun _ => rfl
theorem msM_le (s : Nat → Int32) (l : Nat → Nat) : ∀ m, (msM s l m).2 ≤ m * np s := by
  have hq : ∀ (c : Nat → Int32) (m q : Nat), (msQ s l c m q).2 ≤ q := fun c m q => by
    induction q with
    | zero => exact Nat.le_refl _
    | succ q ih =>
      unfold msQ
      split
      · show (msQ s l c m q).2 + 1 ≤ q + 1; omega
      · omega
  intro m
  induction m with
  | zero => exact Nat.zero_le _
  | succ m ih =>
    rw [Nat.succ_mul]
    unfold msM
    split
    · have := hq (msM s l m).1 m (np s)
      show (msM s l m).2 + (msQ s l (msM s l m).1 m (np s)).2 ≤ _
      omega
    · omega
theorem shC_le (hc : wf_c s) : shC s ≤ 160 := by
  have hb := wc_b hc
  have h := msM_le (s1S s) (drN s) (nm s)
  have e : np (s1S s) = np s := np_u (by omega)
  rw [e] at h
  have : nm s * np s ≤ 20 * 8 := Nat.mul_le_mul (by omega) (by omega)
  unfold shC
  omega
set_option maxHeartbeats 1000000 in
theorem sp_X8_play (hS : sc_L w b g) (hV : sc_V w E b s g) (hc : wf_c s) (hG : sg_L w S b g) (hSE : b + 41 ≤ S ∧ S + 5 ≤ E) (hst : st_L w g) (hW : wf_s s) (hP : sg_P S s g) :
    mu_mp w mm_X8_play (d + 5) [.ref S] g (fun r g' => ∃ x, r = some (.int x) ∧ (x = nI (shC s) ∧ mu_fr (pyA b S E) g g' ∧ sc_V w E b (shS s) g')) := by
  refine mu_mkp mk_X8_play rfl (fun L hL Q hQ => fm_X8_play_0 ?_)
  have hb := wc_b hc
  have hwS := sg_w hG
  have hwb := sc_w hS
  have nj : ∀ a, jU E a → E ≤ a := fun a q => q.1
  -- behind the draws
  have second : ∀ g1, mu_fr (pyA b S E) g g1 → sc_V w E b (s1S s) g1 → sg_D S s (drN s) g1 → mu_go w mm_X8_play (d + 5) L Q 71 [some (.ref S), some (.int (nI 0)), some (.int (nI 0))] [] g1 := by
    intro g1 hf1 hV1 hD1
    have ok1 : okL s (s1S s) := ok_8 hW
    have hW1 := ok_wf hW ok1
    have hx1 := agL_X ok1.1
    have e0 := ax_np hx1
    have e1 := ax_nm hx1
    have hD1' : sg_D S (s1S s) (drN s) g1 := fun p hp => hD1 p (by rw [e0] at hp; exact hp)
    have hP1 : sg_P S (s1S s) g1 := fun p hp T hT => by
      rw [e0] at hp
      rw [ax_PL hx1 (by omega) (by omega), hf1.2.2.2.2.2 _ (fun q => by rcases q with q | q | q; omega; omega; have := nj _ q; omega), hf1.2.2.2.2.2 _ (fun q => by rcases q with q | q | q; omega; omega; have := nj _ q; omega)]
      exact hP p hp T hT
    refine lp (n := nm s) (P := fun m => ∀ g', mu_fr (fun a => a = b + 10 ∨ a = b + 11) g1 g' → sc_V w E b (msM (s1S s) (drN s) m).1 g' → mu_go w mm_X8_play (d + 5) L Q 71 [some (.ref S), some (.int (nI (msM (s1S s) (drN s) m).2)), some (.int (nI m))] [] g') (fun g' hf hV' => fm_X8_play_71 ?_) (fun m hm ih g' hf hV' => fm_X8_play_71 ?_) g1 mu_fr_rf hV1
    · have okm := okL_M (l := drN s) hW1 (nm s) (by rw [e1]; exact Nat.le_refl _)
      have hWm := ok_wf hW1 okm
      have hx := agL_X okm.1
      have hfg : mu_fr (pyA b S E) g g' := mu_fr_tr hf1 (mu_fr_mono hf (fun a q => Or.inl (by omega)))
      have hS' := sc_L_fr hS hfg
      have hG' := sg_fr hG hfg
      have hL' := mu_fr_fit hfg hL
      have hc' := ws_c hWm
      have hst' := st_fr hst hfg (fun a q => by rcases q with q | q | q; omega; omega; have := nj _ q; omega)
      have en : nm (msM (s1S s) (drN s) (nm s)).1 = nm s := (ax_nm hx).trans e1
      have ep : np (msM (s1S s) (drN s) (nm s)).1 = np s := (ax_np hx).trans e0
      have esh : nsh (msM (s1S s) (drN s) (nm s)).1 = nsh s := by
        unfold nsh
        rw [okm.1 6 (by omega) (by omega) (by omega)]
        show (upd s 8 _ 6).toNatClampNeg = _
        rw [pk_un (by omega)]
      simp (disch := omega) only [en, sc_T hS', sc_R0 hS', sc_R1 hS', sc_R2 hS', sc_R3 hS', sc_R4 hS', sc_R5 hS', sc_R6 hS', sc_R7 hS', sc_R8 hS', sc_R9 hS', sc_T1 hS', sc_N1 hS', sc_RP hS', sc_T2 hS', sc_N2 hS', sc_RM hS', sc_T3 hS', sc_N3 hS', sc_T4 hS', sc_N4 hS', sc_T5 hS', sc_N5 hS', sc_T6 hS', sc_N6 hS', sc_T7 hS', sc_N7 hS', sc_T8 hS', sc_N8 hS', sc_T9 hS', sc_N9 hS', sc_T10 hS', sc_RL0 hS', sc_RL1 hS', sc_T11 hS', sc_N11 hS', sc_T12 hS', sc_N12 hS', sc_TP hS', sc_TM hS', sc_w hS', sc_wj hS', sc_wp hS', sv_0 hV' hc', sv_1 hV' hc', sv_2 hV' hc', sv_3 hV' hc', sv_4 hV' hc', sv_5 hV' hc', sv_6 hV' hc', sv_7 hV' hc', sv_9 hV' hc', sv_8 hV', sg_T hG', sg_R0 hG', sg_R1 hG', sg_R2 hG', sg_R3 hG', sg_R4 hG', sg_T1 hG', sg_N1 hG', sg_T2 hG', sg_N2 hG', sg_T3 hG', sg_N3 hG', sg_T4 hG', sg_N4 hG', sg_w1 hG', sg_w2 hG', sg_w3 hG', sg_w4 hG', li_n, nI_add, pk_mul, nI_clamp, nI_ltI, nI_leI, nI_eq, mi_n, Nat.add_zero, true_and, and_true, true_or, or_true, false_or, or_false, not_false_eq_true, not_true_eq_false, implies_true, forall_const, ne_eq, Classical.not_not, reduceCtorEq, nor_p, cI_1n, bI_1n, cI_F, cI_T, cI_0, cI_0n, bI_0, bI_0n, cI_01, bI_01, Nat.reduceLeDiff, Nat.reduceLT, Nat.reduceEqDiff, Nat.reduceSub, Nat.reduceAdd, Nat.lt_irrefl, Nat.le_refl, false_implies, true_implies]
      refine mu_cVp (sp_X4_endShow hS' hV' hc' hst' (ws_p hWm) (ws_m hWm) (ws_w hWm)) hL' (fun g3 h3 hX3 hS3 => ?_)
      obtain ⟨f3, v3⟩ := h3
      rw [ep, en, esh] at v3
      have hf3 : mu_fr (pyA b S E) g g3 := mu_fr_tr hfg (mu_fr_mono f3 (fun a q => Or.inl q))
      exact hQ _ _ ⟨_, rfl, rfl, hf3, v3⟩ hf3.2.2.2.1 hf3.2.2.2.2.1
    · have okm := okL_M (l := drN s) hW1 m (by rw [e1]; omega)
      have hWm := ok_wf hW1 okm
      have hx := agL_X okm.1
      have hfg : mu_fr (pyA b S E) g g' := mu_fr_tr hf1 (mu_fr_mono hf (fun a q => Or.inl (by omega)))
      have hS' := sc_L_fr hS hfg
      have hG' := sg_fr hG hfg
      have hL' := mu_fr_fit hfg hL
      have hc' := ws_c hWm
      have hst' := st_fr hst hfg (fun a q => by rcases q with q | q | q; omega; omega; have := nj _ q; omega)
      have en : nm (msM (s1S s) (drN s) m).1 = nm s := (ax_nm hx).trans e1
      have hmb := wm_b (ws_m hWm) (show m < nm (msM (s1S s) (drN s) m).1 by rw [en]; exact hm)
      have hP' : sg_P S (s1S s) g' := sg_P_c hP1 (hf.2.2.2.2.2 _ (by omega)) (hf.2.2.2.2.2 _ (by omega))
      have hD' : sg_D S (s1S s) (drN s) g' := fun p hp => by rw [hf.2.2.2.2.2 _ (by omega)]; exact hD1' p hp
      have hdo : mDo (msM (s1S s) (drN s) m).1 m ↔ mDo (s1S s) m := ax_mDo hx (by omega)
      have hle := msM_le (s1S s) (drN s) m
      simp (disch := omega) only [en, Nat.not_le_of_lt hm, sc_T hS', sc_R0 hS', sc_R1 hS', sc_R2 hS', sc_R3 hS', sc_R4 hS', sc_R5 hS', sc_R6 hS', sc_R7 hS', sc_R8 hS', sc_R9 hS', sc_T1 hS', sc_N1 hS', sc_RP hS', sc_T2 hS', sc_N2 hS', sc_RM hS', sc_T3 hS', sc_N3 hS', sc_T4 hS', sc_N4 hS', sc_T5 hS', sc_N5 hS', sc_T6 hS', sc_N6 hS', sc_T7 hS', sc_N7 hS', sc_T8 hS', sc_N8 hS', sc_T9 hS', sc_N9 hS', sc_T10 hS', sc_RL0 hS', sc_RL1 hS', sc_T11 hS', sc_N11 hS', sc_T12 hS', sc_N12 hS', sc_TP hS', sc_TM hS', sc_w hS', sc_wj hS', sc_wp hS', sv_0 hV' hc', sv_1 hV' hc', sv_2 hV' hc', sv_3 hV' hc', sv_4 hV' hc', sv_5 hV' hc', sv_6 hV' hc', sv_7 hV' hc', sv_9 hV' hc', sv_8 hV', sg_T hG', sg_R0 hG', sg_R1 hG', sg_R2 hG', sg_R3 hG', sg_R4 hG', sg_T1 hG', sg_N1 hG', sg_T2 hG', sg_N2 hG', sg_T3 hG', sg_N3 hG', sg_T4 hG', sg_N4 hG', sg_w1 hG', sg_w2 hG', sg_w3 hG', sg_w4 hG', li_n, nI_add, pk_mul, nI_clamp, nI_ltI, nI_leI, nI_eq, mi_n, Nat.add_zero, true_and, and_true, true_or, or_true, false_or, or_false, not_false_eq_true, not_true_eq_false, implies_true, forall_const, ne_eq, Classical.not_not, reduceCtorEq, nor_p, cI_1n, bI_1n, cI_F, cI_T, cI_0, cI_0n, bI_0, bI_0n, cI_01, bI_01, Nat.reduceLeDiff, Nat.reduceLT, Nat.reduceEqDiff, Nat.reduceSub, Nat.reduceAdd, Nat.lt_irrefl, Nat.le_refl, false_implies, true_implies]
      refine ⟨by omega, mu_cI (sp_X1_isBlowToDo hst' (sc_TM hS' (by omega)) (sv_m hV' (ws_m hWm) (by rw [en]; exact hm) (by omega)) hmb.2.1 (sv_m hV' (ws_m hWm) (by rw [en]; exact hm) (by omega)) hmb.2.2.2.2.2.2.2.2.2.2) hL' ?_⟩
      have hdo' : (vM (msM (s1S s) (drN s) m).1 m 7 = 0 ∧ 2 ≤ vM (msM (s1S s) (drN s) m).1 m 1 ∧ vM (msM (s1S s) (drN s) m).1 m 1 ≤ 4) ↔ mDo (s1S s) m := hdo
      rw [cI_c hdo']
      simp (disch := omega) only [sg_T hG', sg_R0 hG', sg_R1 hG', sg_R2 hG', sg_R3 hG', sg_R4 hG', sg_T1 hG', sg_N1 hG', sg_T2 hG', sg_N2 hG', sg_T3 hG', sg_N3 hG', sg_T4 hG', sg_N4 hG', sg_w1 hG', sg_w2 hG', sg_w3 hG', sg_w4 hG', li_n, nI_add, pk_mul, nI_clamp, nI_ltI, nI_leI, nI_eq, mi_n, Nat.add_zero, true_and, and_true, true_or, or_true, false_or, or_false, not_false_eq_true, not_true_eq_false, implies_true, forall_const, ne_eq, Classical.not_not, reduceCtorEq, nor_p, cI_1n, bI_1n, cI_F, cI_T, cI_0, cI_0n, bI_0, bI_0n, cI_01, bI_01, Nat.reduceLeDiff, Nat.reduceLT, Nat.reduceEqDiff, Nat.reduceSub, Nat.reduceAdd, Nat.lt_irrefl, Nat.le_refl, false_implies, true_implies]
      refine ⟨fun h => ?_, fun h => ?_⟩
      · have := ih g' hf
        rw [msM, if_neg h] at this
        exact this hV'
      · refine mu_cIp (sp_X8_missesOf hS' hV' okm hW1 hG' hSE hst' hP' hD' (by rw [e1]; exact hm)) hL' (fun x g3 hx3 hX3 hS3 => ?_)
        rw [hx3.1, nI_add]
        have := ih g3 (mu_fr_tr hf hx3.2.1)
        rw [msM, if_pos h] at this
        exact this hx3.2.2
  refine lp (n := np s) (P := fun p => ∀ g', mu_fr (pyA b S E) g g' → sc_V w E b (upd s 8 (zs s p)) g' → (∀ q, q < p → mu_I g' (S + 4) q = nI (drN s q)) → mu_go w mm_X8_play (d + 5) L Q 2 [some (.ref S), some (.int (nI p)), none] [] g') (fun g' hf hV' hj => fm_X8_play_2 ?_) (fun p hp ih g' hf hV' hj => fm_X8_play_2 ?_) g mu_fr_rf (by rw [upd_same (show s 8 = zs s 0 from rfl)]; exact hV) (fun q hq => absurd hq (Nat.not_lt_zero _))
  · have hS' := sc_L_fr hS hf
    have hG' := sg_fr hG hf
    have hc' := ws_c (ok_wf hW (ok_8 (v := zs s (np s)) hW))
    have e0 : np (upd s 8 (zs s (np s))) = np s := np_u (by omega)
    simp (disch := omega) only [e0, sc_T hS', sc_R0 hS', sc_R1 hS', sc_R2 hS', sc_R3 hS', sc_R4 hS', sc_R5 hS', sc_R6 hS', sc_R7 hS', sc_R8 hS', sc_R9 hS', sc_T1 hS', sc_N1 hS', sc_RP hS', sc_T2 hS', sc_N2 hS', sc_RM hS', sc_T3 hS', sc_N3 hS', sc_T4 hS', sc_N4 hS', sc_T5 hS', sc_N5 hS', sc_T6 hS', sc_N6 hS', sc_T7 hS', sc_N7 hS', sc_T8 hS', sc_N8 hS', sc_T9 hS', sc_N9 hS', sc_T10 hS', sc_RL0 hS', sc_RL1 hS', sc_T11 hS', sc_N11 hS', sc_T12 hS', sc_N12 hS', sc_TP hS', sc_TM hS', sc_w hS', sc_wj hS', sc_wp hS', sv_0 hV' hc', sv_1 hV' hc', sv_2 hV' hc', sv_3 hV' hc', sv_4 hV' hc', sv_5 hV' hc', sv_6 hV' hc', sv_7 hV' hc', sv_9 hV' hc', sv_8 hV', sg_T hG', sg_R0 hG', sg_R1 hG', sg_R2 hG', sg_R3 hG', sg_R4 hG', sg_T1 hG', sg_N1 hG', sg_T2 hG', sg_N2 hG', sg_T3 hG', sg_N3 hG', sg_T4 hG', sg_N4 hG', sg_w1 hG', sg_w2 hG', sg_w3 hG', sg_w4 hG', li_n, nI_add, pk_mul, nI_clamp, nI_ltI, nI_leI, nI_eq, mi_n, Nat.add_zero, true_and, and_true, true_or, or_true, false_or, or_false, not_false_eq_true, not_true_eq_false, implies_true, forall_const, ne_eq, Classical.not_not, reduceCtorEq, nor_p, cI_1n, bI_1n, cI_F, cI_T, cI_0, cI_0n, bI_0, bI_0n, cI_01, bI_01, Nat.reduceLeDiff, Nat.reduceLT, Nat.reduceEqDiff, Nat.reduceSub, Nat.reduceAdd, Nat.lt_irrefl, Nat.le_refl, false_implies, true_implies]
    exact second g' hf hV' (fun q hq => ⟨(drN_ok s q).2, hj q hq⟩)
  · have hS' := sc_L_fr hS hf
    have hG' := sg_fr hG hf
    have hWp := ok_wf hW (ok_8 (v := zs s p) hW)
    have hc' := ws_c hWp
    have e0 : np (upd s 8 (zs s p)) = np s := np_u (by omega)
    have ez : (upd s 8 (zs s p)) 8 = zs s p := pk_us
    have hV2 := su_8 (v := zs s (p + 1)) hV' hc'
    rw [upd_upd] at hV2
    have hf2 : mu_fr (pyA b S E) g (mu_sI g' b 18 (zs s (p + 1))) := mu_fr_tr hf (mu_fr_sI (Or.inl ⟨by omega, by omega⟩))
    have hS2 := sc_L_fr hS hf2
    have hW2 := ok_wf hW (ok_8 (v := zs s (p + 1)) hW)
    have ezs : zs s p * nI 1103515245 + nI 12345 = zs s (p + 1) := rfl
    simp (disch := omega) only [e0, ez, ezs, I_sI_same, Nat.not_le_of_lt hp, sc_T hS', sc_R0 hS', sc_R1 hS', sc_R2 hS', sc_R3 hS', sc_R4 hS', sc_R5 hS', sc_R6 hS', sc_R7 hS', sc_R8 hS', sc_R9 hS', sc_T1 hS', sc_N1 hS', sc_RP hS', sc_T2 hS', sc_N2 hS', sc_RM hS', sc_T3 hS', sc_N3 hS', sc_T4 hS', sc_N4 hS', sc_T5 hS', sc_N5 hS', sc_T6 hS', sc_N6 hS', sc_T7 hS', sc_N7 hS', sc_T8 hS', sc_N8 hS', sc_T9 hS', sc_N9 hS', sc_T10 hS', sc_RL0 hS', sc_RL1 hS', sc_T11 hS', sc_N11 hS', sc_T12 hS', sc_N12 hS', sc_TP hS', sc_TM hS', sc_w hS', sc_wj hS', sc_wp hS', sv_0 hV' hc', sv_1 hV' hc', sv_2 hV' hc', sv_3 hV' hc', sv_4 hV' hc', sv_5 hV' hc', sv_6 hV' hc', sv_7 hV' hc', sv_9 hV' hc', sv_8 hV', sg_T hG', sg_R0 hG', sg_R1 hG', sg_R2 hG', sg_R3 hG', sg_R4 hG', sg_T1 hG', sg_N1 hG', sg_T2 hG', sg_N2 hG', sg_T3 hG', sg_N3 hG', sg_T4 hG', sg_N4 hG', sg_w1 hG', sg_w2 hG', sg_w3 hG', sg_w4 hG', li_n, nI_add, pk_mul, nI_clamp, nI_ltI, nI_leI, nI_eq, mi_n, Nat.add_zero, true_and, and_true, true_or, or_true, false_or, or_false, not_false_eq_true, not_true_eq_false, implies_true, forall_const, ne_eq, Classical.not_not, reduceCtorEq, nor_p, cI_1n, bI_1n, cI_F, cI_T, cI_0, cI_0n, bI_0, bI_0n, cI_01, bI_01, Nat.reduceLeDiff, Nat.reduceLT, Nat.reduceEqDiff, Nat.reduceSub, Nat.reduceAdd, Nat.lt_irrefl, Nat.le_refl, false_implies, true_implies]
    refine mu_cIp (sp_X4_lateOf hS2 hV2 (ws_c hW2) (ws_p hW2) (ws_t hW2) (by rw [np_u (by omega)]; exact hp)) (mu_fr_fit hf2 hL) (fun x g3 hx hX3 hS3 => ?_)
    have hf3 : mu_fr (pyA b S E) g g3 := mu_fr_tr hf2 (mu_fr_mono hx.2 (fun a q => Or.inr (Or.inr q)))
    have hG3 := sg_fr hG hf3
    have ex : x = sLate s p := by rw [hx.1]; exact sLate_u (by omega) (by omega) (by omega) (by omega) (by omega)
    obtain ⟨el, el3⟩ := lateN_ok s p
    have hne : ¬ nI (lateN s p) + nI 1 = nI 0 := by rw [nI_add, nI_eq (by omega) (by omega)]; omega
    have edr : mu_ushr (zs s (p + 1)) (nI 8) % (nI (lateN s p) + nI 1) = nI (drN s p) := by
      have := (drN_ok s p).1
      unfold drI at this
      rw [el] at this
      exact this
    rw [ex, el, edr]
    refine ⟨hne, ?_⟩
    simp (disch := omega) only [sg_T hG3, sg_R0 hG3, sg_R1 hG3, sg_R2 hG3, sg_R3 hG3, sg_R4 hG3, sg_T1 hG3, sg_N1 hG3, sg_T2 hG3, sg_N2 hG3, sg_T3 hG3, sg_N3 hG3, sg_T4 hG3, sg_N4 hG3, sg_w1 hG3, sg_w2 hG3, sg_w3 hG3, sg_w4 hG3, li_n, nI_add, pk_mul, nI_clamp, nI_ltI, nI_leI, nI_eq, mi_n, Nat.add_zero, true_and, and_true, true_or, or_true, false_or, or_false, not_false_eq_true, not_true_eq_false, implies_true, forall_const, ne_eq, Classical.not_not, reduceCtorEq, nor_p, cI_1n, bI_1n, cI_F, cI_T, cI_0, cI_0n, bI_0, bI_0n, cI_01, bI_01, Nat.reduceLeDiff, Nat.reduceLT, Nat.reduceEqDiff, Nat.reduceSub, Nat.reduceAdd, Nat.lt_irrefl, Nat.le_refl, false_implies, true_implies]
    have hf4 : mu_fr (pyA b S E) g (mu_sI g3 (S + 4) p (nI (drN s p))) := mu_fr_tr hf3 (mu_fr_sI (Or.inr (Or.inl rfl)))
    refine ⟨by omega, ih _ hf4 ?_ (fun q hq => ?_)⟩
    · exact sv_fr' (sv_fr hV2 (ws_c hW2) hx.2) (ws_c hW2) (mu_fr_sI (A := fun a => a = S + 4) rfl) (fun a q => by omega)
    · by_cases e : q = p
      · rw [e, I_sI_same]
      · rw [I_sI_k _ _ _ (by omega), hx.2.2.2.2.2.2 _ (fun q => by have := nj _ q; omega), I_sI_a _ _ _ _ (by omega)]
        exact hj q (by omega)
end Cq
