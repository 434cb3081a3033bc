/-! CLIENTS: one show of the reference -/
/-- where a show of the reference writes -/
def oW (y : Nat) : Nat → Nat → Prop := fun a k => a = y + 1 ∨ a = y + 15 ∨ a = y + 16 ∨ a = y + 17 ∨ a = y + 19 ∨ a = y + 20 ∨ (a = y ∧ (k = 17 ∨ k = 18))
theorem bd4 {a b : Nat} (ha : a ≤ 3) (hb : b ≤ 3) : -4 < ((a : Int) - b) ∧ ((a : Int) - b) < 4 := by omega
section Rt
variable {w : mu_O} {d y : Nat} {g : mu_H} {s : Nat → Int32} {l : Nat → Nat}
theorem plC_ag {c : Nat → Int32} (h : plC y s g) (hx : agX s c) (hn : nm s ≤ 20) (hp : np s ≤ 8) : plC y c g := fun p hpp T hT => by
  rw [ax_np hx] at hpp
  rw [ax_PL hx hn (by omega)]
  exact h p hpp T hT
set_option maxHeartbeats 2000000 in
theorem sp_X11_oneShow (hM : md_L w y g) (hs : mu_I g (y + 1) = s) (hc : wf_c s) (hK : md_K y g) (hW : wf_s s) (h17 : mu_I g y 17 = 0 ∨ (mu_I g y 17 = 1 ∧ plC y s g)) :
    mu_mp w mm_X11_oneShow (d + 4) [.ref y] g (fun r g' => ∃ x, r = some (.int x) ∧ (x = nI (shC s) ∧ mu_f2 (oW y) g g' ∧ mu_I g' (y + 1) = shS s ∧ mu_I g' y 17 = 0 ∧ mu_I g' y 18 = 0)) := by
  refine mu_mkp mk_X11_oneShow rfl (fun L hL Q hQ => fm_X11_oneShow_0 ?_)
  have hb := wc_b hc
  have hw1 := md_wj hM 1
  have hw17 := md_wj hM 17
  -- misses
  have second : ∀ g1, mu_f2 (oW y) g g1 → mu_I g1 (y + 1) = s1S s → plC y (s1S s) g1 → (∀ p, p < np s → mu_I g1 (y + 17) p = nI (drN s p)) → mu_go w mm_X11_oneShow (d + 4) L Q 72 [some (.ref y), some (.int (nI 0)), some (.int (nI 0)), none] [] g1 := by
    intro g1 hf1 hs1 hC1 hD1
    have ok1 : okL s (s1S s) := ok_8 hW
    have hW1 := ok_wf hW ok1
    have hx1 := agL_X ok1.1
    have e0 := ax_np hx1
    have e1 := ax_nm hx1
    have hK1 : md_K y g1 := md_K_c hK (fun k q1 q2 => f2_I hf1 (fun j => by unfold oW; omega))
    refine lp (n := nm s) (P := fun m => ∀ g', mu_fr (fun a => a = y + 1) g1 g' → mu_I g' (y + 1) = (msM (s1S s) (drN s) m).1 → mu_go w mm_X11_oneShow (d + 4) L Q 72 [some (.ref y), some (.int (nI (msM (s1S s) (drN s) m).2)), some (.int (nI m)), none] [] g') (fun g' hf hs' => fm_X11_oneShow_72 ?_) (fun m hm ih g' hf hs' => fm_X11_oneShow_72 ?_) g1 mu_fr_rf hs1
    · have okm := okL_M (l := drN s) hW1 (nm s) (by rw [e1]; exact Nat.le_refl _)
      have hWm := ok_wf hW1 okm
      have hx := agL_X okm.1
      have hfg : mu_f2 (oW y) g g' := f2_tr hf1 (f2_of hf (fun a k q => Or.inl q))
      have hM' := md_L_fr hM (f2_T hfg)
      have hL' := f2_fit hfg hL
      have hc' := ws_c hWm
      have en : nm (msM (s1S s) (drN s) (nm s)).1 = nm s := (ax_nm hx).trans e1
      have ep : np (msM (s1S s) (drN s) (nm s)).1 = np s := (ax_np hx).trans e0
      have esh : nsh (msM (s1S s) (drN s) (nm s)).1 = nsh s := by
        unfold nsh
        rw [okm.1 6 (by omega) (by omega) (by omega)]
        show (upd s 8 _ 6).toNatClampNeg = _
        rw [pk_un (by omega)]
      have hK' : md_K y g' := md_K_c hK1 (fun k q1 q2 => hf.2.2.2.2.2 _ (by omega))
      simp (disch := omega) only [md_T0 hM', md_R0 hM', md_T1 hM', md_N1 hM', hs', wc_1 hc', en, li_n, nI_add, pk_mul, nI_clamp, nI_ltI, nI_leI, nI_eq, mi_n, Nat.add_zero, true_and, and_true, true_or, or_true, false_or, or_false, not_false_eq_true, not_true_eq_false, implies_true, forall_const, ne_eq, Classical.not_not, reduceCtorEq, nor_p, cI_1n, bI_1n, cI_F, cI_T, cI_0, cI_0n, bI_0, bI_0n, cI_01, bI_01, Nat.reduceLeDiff, Nat.reduceLT, Nat.reduceEqDiff, Nat.reduceSub, Nat.reduceAdd, Nat.lt_irrefl, Nat.le_refl, false_implies, true_implies]
      refine mu_cVp (sp_X11_tire hM' hs' hc' hK' (ws_p hWm) (ws_m hWm) (ws_w hWm)) hL' (fun g3 h3 hX3 hS3 => ?_)
      obtain ⟨f3, v3⟩ := h3
      rw [ep, en] at v3
      have hf3 : mu_f2 (oW y) g g3 := f2_tr hfg (f2_of f3 (fun a k q => Or.inl q))
      have hM3 := md_L_fr hM (f2_T hf3)
      have hf4 : mu_f2 (oW y) g (md_stale y g3) := f2_tr (f2_tr hf3 (f2_sI (by unfold oW; omega))) (f2_sI (by unfold oW; omega))
      refine ⟨md_T0 hM3, mu_cV (sp_X11_stale hM3) (f2_fit hf4 hL) ?_⟩
      have hM4 := md_L_fr hM (f2_T hf4)
      have v4 : mu_I (md_stale y g3) (y + 1) = tC (msM (s1S s) (drN s) (nm s)).1 (np s) (nm s) := by
        unfold md_stale
        rw [mu_I_off _ _ _ (by omega), mu_I_off _ _ _ (by omega)]
        exact v3
      have hc4 := tC_c (n := nm s) hc' (show np s ≤ 8 by omega)
      have e6 : nsh (tC (msM (s1S s) (drN s) (nm s)).1 (np s) (nm s)) = nsh s := (tC_nsh (by omega) (by have := wc_b hc'; omega)).trans esh
      simp (disch := omega) only [md_T0 hM4, md_R0 hM4, md_T1 hM4, md_N1 hM4, v4, hw1, wc_6 hc4, e6, li_n, nI_add, pk_mul, nI_clamp, nI_ltI, nI_leI, nI_eq, mi_n, Nat.add_zero, true_and, and_true, true_or, or_true, false_or, or_false, not_false_eq_true, not_true_eq_false, implies_true, forall_const, ne_eq, Classical.not_not, reduceCtorEq, nor_p, cI_1n, bI_1n, cI_F, cI_T, cI_0, cI_0n, bI_0, bI_0n, cI_01, bI_01, Nat.reduceLeDiff, Nat.reduceLT, Nat.reduceEqDiff, Nat.reduceSub, Nat.reduceAdd, Nat.lt_irrefl, Nat.le_refl, false_implies, true_implies]
      refine hQ _ _ ⟨_, rfl, rfl, f2_tr hf4 (f2_sI (Or.inl rfl)), ?_, ?_, ?_⟩ hf4.2.2.2.1 hf4.2.2.2.2.1
      · rw [mu_I_upd, v4]; rfl
      · rw [I_sI_a _ _ _ _ (by omega)]; unfold md_stale; rw [I_sI_k _ _ _ (by omega), I_sI_same]
      · rw [I_sI_a _ _ _ _ (by omega)]; unfold md_stale; rw [I_sI_same]
    · have okm := okL_M (l := drN s) hW1 m (by rw [e1]; omega)
      have hWm := ok_wf hW1 okm
      have hx := agL_X okm.1
      have hfg : mu_f2 (oW y) g g' := f2_tr hf1 (f2_of hf (fun a k q => Or.inl q))
      have hM' := md_L_fr hM (f2_T hfg)
      have hc' := ws_c hWm
      have en : nm (msM (s1S s) (drN s) m).1 = nm s := (ax_nm hx).trans e1
      have hle := msM_le (s1S s) (drN s) m
      rw [e0] at hle
      have hle2 : m * np s ≤ 20 * 8 := Nat.mul_le_mul (by omega) (by omega)
      simp (disch := omega) only [md_T0 hM', md_R0 hM', md_T1 hM', md_N1 hM', hs', wc_1 hc', en, Nat.not_le_of_lt hm, li_n, nI_add, pk_mul, nI_clamp, nI_ltI, nI_leI, nI_eq, mi_n, Nat.add_zero, true_and, and_true, true_or, or_true, false_or, or_false, not_false_eq_true, not_true_eq_false, implies_true, forall_const, ne_eq, Classical.not_not, reduceCtorEq, nor_p, cI_1n, bI_1n, cI_F, cI_T, cI_0, cI_0n, bI_0, bI_0n, cI_01, bI_01, Nat.reduceLeDiff, Nat.reduceLT, Nat.reduceEqDiff, Nat.reduceSub, Nat.reduceAdd, Nat.lt_irrefl, Nat.le_refl, false_implies, true_implies]
      have hmb := wm_b (ws_m hW1) (show m < nm (s1S s) by rw [e1]; exact hm)
      by_cases hdo : mDo (s1S s) m
      · rw [msM, if_pos hdo] at ih
        have hbl : mBl (s1S s) m := ⟨hdo.2.1, hdo.2.2⟩
        have hkr : kReach (vM (s1S s) m 1) ≤ 3 := by unfold kReach; split <;> omega
        have inner : ∀ k q g2, q + k = np s → mu_fr (fun a => a = y + 1) g1 g2 → mu_I g2 (y + 1) = (msQ (s1S s) (drN s) (msM (s1S s) (drN s) m).1 m q).1 → mu_go w mm_X11_oneShow (d + 4) L Q 84 [some (.ref y), some (.int (nI ((msM (s1S s) (drN s) m).2 + (msQ (s1S s) (drN s) (msM (s1S s) (drN s) m).1 m q).2))), some (.int (nI m)), some (.int (nI q))] [] g2 := by
          intro k
          induction k with
          | zero =>
            intro q g2 hqk hf2 hs2
            have okq := okL_Q (l := drN s) hW1 (show m < nm (s1S s) by rw [e1]; exact hm) okm q (by rw [e0]; omega)
            have hWq := ok_wf hW1 okq
            have hM2 := md_L_fr hM (f2_T (f2_tr hf1 (f2_of (A := oW y) hf2 (fun a k q => Or.inl q))))
            have e0q : np (msQ (s1S s) (drN s) (msM (s1S s) (drN s) m).1 m q).1 = np s := (ax_np (agL_X okq.1)).trans e0
            refine fm_X11_oneShow_84 ?_
            rw [show q = np s by omega] at hs2 e0q hWq ⊢
            simp (disch := omega) only [md_T0 hM2, md_R0 hM2, md_T1 hM2, md_N1 hM2, hs2, wc_0 (ws_c hWq), e0q, li_n, nI_add, pk_mul, nI_clamp, nI_ltI, nI_leI, nI_eq, mi_n, Nat.add_zero, true_and, and_true, true_or, or_true, false_or, or_false, not_false_eq_true, not_true_eq_false, implies_true, forall_const, ne_eq, Classical.not_not, reduceCtorEq, nor_p, cI_1n, bI_1n, cI_F, cI_T, cI_0, cI_0n, bI_0, bI_0n, cI_01, bI_01, Nat.reduceLeDiff, Nat.reduceLT, Nat.reduceEqDiff, Nat.reduceSub, Nat.reduceAdd, Nat.lt_irrefl, Nat.le_refl, false_implies, true_implies]
            rw [e0] at ih
            exact ih g2 hf2 hs2
          | succ k ihq =>
            intro q g2 hqk hf2 hs2
            have hq : q < np s := by omega
            have okq := okL_Q (l := drN s) hW1 (show m < nm (s1S s) by rw [e1]; exact hm) okm q (by rw [e0]; omega)
            have hWq := ok_wf hW1 okq
            have hxq := agL_X okq.1
            have hfg2 : mu_f2 (oW y) g g2 := f2_tr hf1 (f2_of hf2 (fun a k q => Or.inl q))
            have hM2 := md_L_fr hM (f2_T hfg2)
            have hL2 := f2_fit hfg2 hL
            have hc2 := ws_c hWq
            have e0q : np (msQ (s1S s) (drN s) (msM (s1S s) (drN s) m).1 m q).1 = np s := (ax_np hxq).trans e0
            have e1q : nm (msQ (s1S s) (drN s) (msM (s1S s) (drN s) m).1 m q).1 = nm s := (ax_nm hxq).trans e1
            have hmq : m < nm (msQ (s1S s) (drN s) (msM (s1S s) (drN s) m).1 m q).1 := by rw [e1q]; exact hm
            have eV : ∀ f, f < 8 → vM (msQ (s1S s) (drN s) (msM (s1S s) (drN s) m).1 m q).1 m f = vM (s1S s) m f := fun f hf => ax_vM hxq (by omega) hf
            have hdq : mDo (msQ (s1S s) (drN s) (msM (s1S s) (drN s) m).1 m q).1 m := (ax_mDo hxq (by omega)).mpr hdo
            have hK2 : md_K y g2 := md_K_c hK1 (fun k q1 q2 => hf2.2.2.2.2.2 _ (by omega))
            have hC2 : plC y (msQ (s1S s) (drN s) (msM (s1S s) (drN s) m).1 m q).1 g2 := plC_ag (plC_c hC1 (hf2.2.2.2.2.2 _ (by omega))) hxq (by omega) (by omega)
            have esh : nsh (msQ (s1S s) (drN s) (msM (s1S s) (drN s) m).1 m q).1 = nsh (s1S s) := by unfold nsh; rw [okq.1 6 (by omega) (by omega) (by omega)]
            obtain ⟨d1, d2⟩ := drN_ok s q
            obtain ⟨d3, d4⟩ := drN_ok s (vM (s1S s) m 0)
            have dq : mu_I g2 (y + 17) q = nI (drN s q) := by rw [hf2.2.2.2.2.2 _ (by omega)]; exact hD1 q hq
            have dw : mu_I g2 (y + 17) (vM (s1S s) m 0) = nI (drN s (vM (s1S s) m 0)) := by rw [hf2.2.2.2.2.2 _ (by omega)]; exact hD1 _ (by omega)
            have hcq : ∀ q, (msQ (s1S s) (drN s) (msM (s1S s) (drN s) m).1 m q).2 ≤ q := fun q => by
              induction q with
              | zero => exact Nat.le_refl _
              | succ q ih =>
                unfold msQ
                split
                · show (msQ (s1S s) (drN s) (msM (s1S s) (drN s) m).1 m q).2 + 1 ≤ q + 1; omega
                · omega
            have hcq := hcq q
            have i1 : mss (s1S s) (drN s) m q → ∀ g3, mu_fr (fun a => a = y + 1) g1 g3 → mu_I g3 (y + 1) = lgA (msQ (s1S s) (drN s) (msM (s1S s) (drN s) m).1 m q).1 (nI (nsh (s1S s))) (nI m) (nI q) → mu_go w mm_X11_oneShow (d + 4) L Q 84 [some (.ref y), some (.int (nI ((msM (s1S s) (drN s) m).2 + (msQ (s1S s) (drN s) (msM (s1S s) (drN s) m).1 m q).2 + 1))), some (.int (nI m)), some (.int (nI (q + 1)))] [] g3 := fun h g3 hf3 hs3 => by
              have := ihq (q + 1) g3 (by omega) hf3
              unfold msQ at this
              rw [if_pos h] at this
              exact this hs3
            have i0 : ¬ mss (s1S s) (drN s) m q → mu_go w mm_X11_oneShow (d + 4) L Q 84 [some (.ref y), some (.int (nI ((msM (s1S s) (drN s) m).2 + (msQ (s1S s) (drN s) (msM (s1S s) (drN s) m).1 m q).2))), some (.int (nI m)), some (.int (nI (q + 1)))] [] g2 := fun h => by
              have := ihq (q + 1) g2 (by omega) hf2
              rw [msQ, if_neg h] at this
              exact this hs2
            clear ihq
            refine fm_X11_oneShow_84 ?_
            simp (disch := omega) only [md_T0 hM2, md_R0 hM2, md_T1 hM2, md_N1 hM2, hs2, wc_0 hc2, e0q, Nat.not_le_of_lt hq, li_n, nI_add, pk_mul, nI_clamp, nI_ltI, nI_leI, nI_eq, mi_n, Nat.add_zero, true_and, and_true, true_or, or_true, false_or, or_false, not_false_eq_true, not_true_eq_false, implies_true, forall_const, ne_eq, Classical.not_not, reduceCtorEq, nor_p, cI_1n, bI_1n, cI_F, cI_T, cI_0, cI_0n, bI_0, bI_0n, cI_01, bI_01, Nat.reduceLeDiff, Nat.reduceLT, Nat.reduceEqDiff, Nat.reduceSub, Nat.reduceAdd, Nat.lt_irrefl, Nat.le_refl, false_implies, true_implies]
            refine mu_cI (sp_X11_isDoneN hM2 hs2 hc2 (ws_m hWq) hmq) hL2 ?_
            rw [cI_t hdq]
            refine ⟨fun h => absurd h (by decide), fun _ => ⟨md_T0 hM2, mu_cI (sp_X11_fieldN (f := 0) hM2 hs2 hc2 (ws_m hWq) hmq (by omega)) hL2 ?_⟩⟩
            rw [eV 0 (by omega)]
            simp (disch := omega) only [md_T0 hM2, li_n, nI_add, pk_mul, nI_clamp, nI_ltI, nI_leI, nI_eq, mi_n, Nat.add_zero, true_and, and_true, true_or, or_true, false_or, or_false, not_false_eq_true, not_true_eq_false, implies_true, forall_const, ne_eq, Classical.not_not, reduceCtorEq, nor_p, cI_1n, bI_1n, cI_F, cI_T, cI_0, cI_0n, bI_0, bI_0n, cI_01, bI_01, Nat.reduceLeDiff, Nat.reduceLT, Nat.reduceEqDiff, Nat.reduceSub, Nat.reduceAdd, Nat.lt_irrefl, Nat.le_refl, false_implies, true_implies]
            refine ⟨fun h => i0 (fun z => z.1 h), fun h => mu_cI (sp_X11_fieldN (f := 0) hM2 hs2 hc2 (ws_m hWq) hmq (by omega)) hL2 ?_⟩
            rw [eV 0 (by omega)]
            simp (disch := omega) only [md_T0 hM2, md_R19 hM2, md_T17 hM2, md_N17 hM2, dq, dw, li_n, nI_add, pk_mul, nI_clamp, nI_ltI, nI_leI, nI_eq, mi_n, Nat.add_zero, true_and, and_true, true_or, or_true, false_or, or_false, not_false_eq_true, not_true_eq_false, implies_true, forall_const, ne_eq, Classical.not_not, reduceCtorEq, nor_p, cI_1n, bI_1n, cI_F, cI_T, cI_0, cI_0n, bI_0, bI_0n, cI_01, bI_01, Nat.reduceLeDiff, Nat.reduceLT, Nat.reduceEqDiff, Nat.reduceSub, Nat.reduceAdd, Nat.lt_irrefl, Nat.le_refl, false_implies, true_implies]
            have t1 : (nI (drN s (vM (s1S s) m 0)) - nI (drN s q)).toInt = (drN s (vM (s1S s) m 0) : Int) - drN s q := pk_sub_toInt (by omega) (by omega)
            have hblq : mBl (msQ (s1S s) (drN s) (msM (s1S s) (drN s) m).1 m q).1 m := by unfold mBl; rw [eV 1 (by omega)]; exact hbl
            have hqq : q < np (msQ (s1S s) (drN s) (msM (s1S s) (drN s) m).1 m q).1 := by rw [e0q]; exact hq
            have hvv : -4 < (nI (drN s (vM (s1S s) m 0)) - nI (drN s q)).toInt ∧ (nI (drN s (vM (s1S s) m 0)) - nI (drN s q)).toInt < 4 := by rw [t1]; exact bd4 d4 d2
            refine ⟨by omega, by omega, mu_cI (sp_X11_near hM2 hs2 hc2 hK2 (ws_p hWq) (ws_m hWq) (ws_a hWq) hC2 hmq hblq hqq hvv) hL2 ⟨md_T0 hM2, mu_cI (sp_X11_wantedN hM2 hs2 hc2 (ws_m hWq) hmq (by omega)) hL2 ?_⟩⟩
            rw [t1, eV 1 (by omega), eV 2 (by omega), eV 3 (by omega), ax_want hxq (by omega), ax_gpV hxq (by omega) (by omega) (by omega) (by omega)]
            have hwt : want (s1S s) m q ≤ 9 := by unfold want; split <;> omega
            have hgp := gpV_le (s := s1S s) (m := m) (q := q) (lo := (vM (s1S s) m 2 : Int) + ((drN s (vM (s1S s) m 0) : Int) - drN s q)) (n := vM (s1S s) m 3)
            rw [le_sub_n (by omega) (by omega) (by omega)]
            refine ⟨fun h2 => i0 (fun z => by have := z.2; omega), fun h2 => ⟨md_T0 hM2, mu_cVp (sp_X11_logs hM2 hs2 hc2) hL2 (fun g3 h3 hX3 hS3 => ?_)⟩⟩
            rw [esh] at h3
            exact i1 ⟨h, by omega⟩ g3 (mu_fr_tr hf2 h3.1) h3.2
        exact inner (np s) 0 g' (by omega) hf hs'
      · rw [msM, if_neg hdo] at ih
        refine fm_X11_oneShow_84 ?_
        have ep : np (msM (s1S s) (drN s) m).1 = np s := (ax_np hx).trans e0
        have hdm : ¬ mDo (msM (s1S s) (drN s) m).1 m := fun h => hdo ((ax_mDo hx (by omega)).mp h)
        simp (disch := omega) only [md_T0 hM', md_R0 hM', md_T1 hM', md_N1 hM', hs', wc_0 hc', ep, li_n, nI_add, pk_mul, nI_clamp, nI_ltI, nI_leI, nI_eq, mi_n, Nat.add_zero, true_and, and_true, true_or, or_true, false_or, or_false, not_false_eq_true, not_true_eq_false, implies_true, forall_const, ne_eq, Classical.not_not, reduceCtorEq, nor_p, cI_1n, bI_1n, cI_F, cI_T, cI_0, cI_0n, bI_0, bI_0n, cI_01, bI_01, Nat.reduceLeDiff, Nat.reduceLT, Nat.reduceEqDiff, Nat.reduceSub, Nat.reduceAdd, Nat.lt_irrefl, Nat.le_refl, false_implies, true_implies]
        refine ⟨fun _ => ih g' hf hs', fun _ => mu_cI (sp_X11_isDoneN hM' hs' hc' (ws_m hWm) (by rw [en]; exact hm)) (f2_fit hfg hL) ?_⟩
        rw [cI_f hdm]
        exact ⟨fun _ => ih g' hf hs', fun h => absurd rfl h⟩
  -- draws
  refine lp (n := np s) (P := fun p => ∀ g', mu_f2 (oW y) g g' → mu_I g' (y + 1) = upd s 8 (zs s p) → (mu_I g' y 17 = 0 ∨ (mu_I g' y 17 = 1 ∧ plC y s g')) → (∀ q, q < p → mu_I g' (y + 17) q = nI (drN s q)) → mu_go w mm_X11_oneShow (d + 4) L Q 2 [some (.ref y), some (.int (nI p)), none, none] [] g') (fun g' hf hs' h17' hj => fm_X11_oneShow_2 ?_) (fun p hp ih g' hf hs' h17' hj => fm_X11_oneShow_2 ?_) g f2_rf (by rw [upd_same (show s 8 = zs s 0 from rfl)]; exact hs) h17 (fun q hq => absurd hq (Nat.not_lt_zero _))
  · have hM' := md_L_fr hM (f2_T hf)
    have ok1 : okL s (upd s 8 (zs s (np s))) := ok_8 hW
    have hW1 := ok_wf hW ok1
    have hc' := ws_c hW1
    have e0 : np (upd s 8 (zs s (np s))) = np s := np_u (by omega)
    simp (disch := omega) only [md_T0 hM', md_R0 hM', md_T1 hM', md_N1 hM', hs', wc_0 hc', e0, li_n, nI_add, pk_mul, nI_clamp, nI_ltI, nI_leI, nI_eq, mi_n, Nat.add_zero, true_and, and_true, true_or, or_true, false_or, or_false, not_false_eq_true, not_true_eq_false, implies_true, forall_const, ne_eq, Classical.not_not, reduceCtorEq, nor_p, cI_1n, bI_1n, cI_F, cI_T, cI_0, cI_0n, bI_0, bI_0n, cI_01, bI_01, Nat.reduceLeDiff, Nat.reduceLT, Nat.reduceEqDiff, Nat.reduceSub, Nat.reduceAdd, Nat.lt_irrefl, Nat.le_refl, false_implies, true_implies]
    refine mu_cVp (sp_X11_findPlaces hM' hs' hc' (ws_p hW1) (ws_m hW1) (ws_a hW1) (h17'.imp id (fun h => ⟨h.1, plC_ag h.2 (agL_X ok1.1) (by omega) (by omega)⟩))) (f2_fit hf hL) (fun g1 h1 hX1 hS1 => ?_)
    obtain ⟨f1, p1, c1⟩ := h1
    refine second g1 (f2_tr hf (f2_mono f1 (fun a k q => by unfold plW at q; unfold oW; omega))) ?_ c1 (fun p hp => ?_)
    · rw [f2_I f1 (fun k => by unfold plW; omega)]; exact hs'
    · rw [f2_I f1 (fun k => by unfold plW; omega)]; exact hj p hp
  · have hM' := md_L_fr hM (f2_T hf)
    have hWp := ok_wf hW (ok_8 (v := zs s p) hW)
    have hc' := ws_c hWp
    have e0 : np (upd s 8 (zs s p)) = np s := np_u (by omega)
    have ez : (upd s 8 (zs s p)) 8 = zs s p := pk_us
    have ezs : zs s p * nI 1103515245 + nI 12345 = zs s (p + 1) := rfl
    have hf2 : mu_f2 (oW y) g (mu_sI g' (y + 1) 8 (zs s (p + 1))) := f2_tr hf (f2_sI (Or.inl rfl))
    have hs2 : mu_I (mu_sI g' (y + 1) 8 (zs s (p + 1))) (y + 1) = upd s 8 (zs s (p + 1)) := by rw [mu_I_upd, hs', upd_upd]
    have hM2 := md_L_fr hM (f2_T hf2)
    have hW2 := ok_wf hW (ok_8 (v := zs s (p + 1)) hW)
    simp (disch := omega) only [md_T0 hM', md_R0 hM', md_T1 hM', md_N1 hM', md_R19 hM', hs', wc_0 hc', e0, ez, ezs, I_sI_same, hw1, hw17, Nat.not_le_of_lt hp, li_n, nI_add, pk_mul, nI_clamp, nI_ltI, nI_leI, nI_eq, mi_n, Nat.add_zero, true_and, and_true, true_or, or_true, false_or, or_false, not_false_eq_true, not_true_eq_false, implies_true, forall_const, ne_eq, Classical.not_not, reduceCtorEq, nor_p, cI_1n, bI_1n, cI_F, cI_T, cI_0, cI_0n, bI_0, bI_0n, cI_01, bI_01, Nat.reduceLeDiff, Nat.reduceLT, Nat.reduceEqDiff, Nat.reduceSub, Nat.reduceAdd, Nat.lt_irrefl, Nat.le_refl, false_implies, true_implies]
    refine mu_cIp (sp_X11_late hM2 hs2 (ws_c hW2) (ws_t hW2) (by rw [np_u (by omega)]; exact hp)) (f2_fit hf2 hL) (fun x g3 hx hX3 hS3 => ?_)
    have hf3 : mu_f2 (oW y) g g3 := f2_tr hf2 (f2_of hx.2 (fun a k q => by unfold rJ at q; unfold oW; omega))
    have hM3 := md_L_fr hM (f2_T hf3)
    have ex : x = sLate s p := by rw [hx.1]; exact sLate_u (by omega) (by omega) (by omega) (by omega) (by omega)
    obtain ⟨el, el3⟩ := lateN_ok s p
    have hne : ¬ nI (lateN s p) + nI 1 = nI 0 := by rw [nI_add, nI_eq (by omega) (by omega)]; omega
    have edr : mu_ushr (zs s (p + 1)) (nI 8) % (nI (lateN s p) + nI 1) = nI (drN s p) := by
      have := (drN_ok s p).1
      unfold drI at this
      rw [el] at this
      exact this
    rw [ex, el, edr]
    refine ⟨hne, ?_⟩
    simp (disch := omega) only [md_T17 hM3, md_N17 hM3, li_n, nI_add, pk_mul, nI_clamp, nI_ltI, nI_leI, nI_eq, mi_n, Nat.add_zero, true_and, and_true, true_or, or_true, false_or, or_false, not_false_eq_true, not_true_eq_false, implies_true, forall_const, ne_eq, Classical.not_not, reduceCtorEq, nor_p, cI_1n, bI_1n, cI_F, cI_T, cI_0, cI_0n, bI_0, bI_0n, cI_01, bI_01, Nat.reduceLeDiff, Nat.reduceLT, Nat.reduceEqDiff, Nat.reduceSub, Nat.reduceAdd, Nat.lt_irrefl, Nat.le_refl, false_implies, true_implies]
    have o : ∀ a k, a ≠ y + 1 → a ≠ y + 17 → ¬ rJ y a → mu_I (mu_sI g3 (y + 17) p (nI (drN s p))) a k = mu_I g' a k := fun a k h1 h2 h3 => by
      rw [I_sI_a _ _ _ _ h2, hx.2.2.2.2.2.2 a h3, I_sI_a _ _ _ _ h1]
    refine ⟨by omega, ih _ (f2_tr hf3 (f2_sI (by unfold oW; omega))) ?_ ?_ (fun q hq => ?_)⟩
    · rw [mu_I_off _ _ _ (by omega), hx.2.2.2.2.2.2 _ (by unfold rJ; omega)]; exact hs2
    · rw [o y 17 (by omega) (by omega) (by unfold rJ; omega)]
      refine h17'.imp id (fun h => ⟨h.1, fun p2 hp2 T hT => ?_⟩)
      rw [o (y + 15) _ (by omega) (by omega) (by unfold rJ; omega)]
      exact h.2 p2 hp2 T hT
    · by_cases e : q = p
      · rw [e, I_sI_same]
      · rw [I_sI_k _ _ _ (by omega), hx.2.2.2.2.2.2 _ (by unfold rJ; omega), I_sI_a _ _ _ _ (by omega)]
        exact hj q (by omega)
end Rt
