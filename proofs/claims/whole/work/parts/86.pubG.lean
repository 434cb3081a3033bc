/-! CLIENTS: a rest for all: both public calls -/
/-- the row after the first n have rested -/
def rsR (s : Nat → Int32) : Nat → Nat → Int32
  | 0 => s
  | n + 1 => upd (rsR s n) (20 + 4 * n + 2) (nI (vP s n 2 - 10))
noncomputable def pRest (s : Nat → Int32) : Int32 × (Nat → Int32) := (nI (sumN (fun p => cN (10 < vP s p 2)) (np s)), rsR s (np s))
section Qj
variable {w : mu_O} {d x y E : Nat} {g g1 g2 : mu_H} {s : Nat → Int32}
theorem rs_o {K : Nat} : ∀ {n : Nat}, (∀ j, j < n → K ≠ 20 + 4 * j + 2) → rsR s n K = s K
  | 0, _ => rfl
  | n + 1, h => by
    unfold rsR
    rw [pk_un (h n (by omega))]
    exact rs_o (fun j hj => h j (by omega))
theorem rs_np {n : Nat} : np (rsR s n) = np s := by unfold np; rw [rs_o (fun j _ => by omega)]
theorem rs_c (hc : wf_c s) : ∀ n, wf_c (rsR s n)
  | 0 => hc
  | n + 1 => by
    unfold rsR
    exact wf_c_u (rs_c hc n) (by omega)
theorem em_all : ∀ t : Fin 100, mu_max (nI 0) (nI t.1 - nI 10) = nI (t.1 - 10) := by decide +kernel
theorem em_n {t : Nat} (h : t < 100) : mu_max (nI 0) (nI t - nI 10) = nI (t - 10) := em_all ⟨t, h⟩
theorem eh_all : ∀ t : Fin 100, (if (nI t.1 - nI 10).toInt < 0 then (0 : Int32) else if (nI 99).toInt < (nI t.1 - nI 10).toInt then nI 99 else nI t.1 - nI 10) = nI (t.1 - 10) := by decide +kernel
theorem eh_n {t : Nat} (h : t < 100) : mu_met w mm_X11_heldIn d [.int (nI t - nI 10), .int (nI 99)] g (some (.int (nI (t - 10)))) g := by
  have := sp_X11_heldIn (w := w) (d := d) (g := g) (v := nI t - nI 10) (m := nI 99)
  rw [eh_all ⟨t, h⟩] at this
  exact this
theorem pc_restAll (hC : cl_L w x g) (hV : sc_V w E (x + 1) s g) (hW : wf_s s) : mu_mp w mm_X10_restAll (d + 1) [.ref x] g (cPost w x E (pRest s) g) := by
  refine mu_mkp mk_X10_restAll rfl (fun L hL Q hQ => fm_X10_restAll_0 ?_)
  have hc := ws_c hW
  have hb := wc_b hc
  unfold pRest at hQ
  refine lp (n := np s) (P := fun i => ∀ gi, sc_V w E (x + 1) (rsR s i) gi → mu_fr (fun a => x + 1 ≤ a ∧ a < x + 42) g gi → mu_go w mm_X10_restAll (d + 1) L Q 4 [some (.ref x), some (.int (nI (sumN (fun p => cN (10 < vP s p 2)) i))), some (.int (nI i)), none] [] gi) (fun gi Vi fi => fm_X10_restAll_4 ?_) (fun i hi ih gi Vi fi => fm_X10_restAll_4 ?_) g hV mu_fr_rf
  · have Ci := cl_fr hC fi
    have Ni := cl_n Ci
    have hci := rs_c hc (np s)
    have e0 : mu_I gi (x + 1) 10 = nI (np s) := by rw [sv_0 Vi hci, rs_np]
    simp (disch := omega) only [cl_T Ci, cl_R0 Ci, e0, sc_T Ni, li_n, nI_add, pk_mul, nI_clamp, nI_ltI, nI_leI, nI_eq, mi_n, Nat.add_zero, true_and, and_true, true_or, or_true, false_or, or_false, not_false_eq_true, not_true_eq_false, implies_true, forall_const, ne_eq, Classical.not_not, reduceCtorEq, nor_p, cI_1n, bI_1n, cI_F, cI_T, cI_0, cI_0n, bI_0, bI_0n, cI_01, bI_01, Nat.reduceLeDiff, Nat.reduceLT, Nat.reduceEqDiff, Nat.reduceSub, Nat.reduceAdd, Nat.lt_irrefl, Nat.le_refl, false_implies, true_implies]
    exact cp_ok (L := L) hC hQ fi (fun a q => Or.inl q) rfl Vi
  · have Ci := cl_fr hC fi
    have Ni := cl_n Ci
    have hci := rs_c hc i
    have hLi := mu_fr_fit fi hL
    have e0 : mu_I gi (x + 1) 10 = nI (np s) := by rw [sv_0 Vi hci, rs_np]
    have hpb := wp_b (ws_p hW) hi
    have e2 : mu_I gi (x + 1 + 13 + i) 2 = nI (vP s i 2) := by
      rw [Vi.2.2.1 i 2 (by rw [rs_np]; exact hi) (by omega), rs_o (fun j hj => by omega)]
      exact wp_v (ws_p hW) hi (by omega)
    have V2 : sc_V w E (x + 1) (rsR s (i + 1)) (mu_sI gi (x + 1 + 13 + i) 2 (nI (vP s i 2 - 10))) := su_P Vi hci (by rw [rs_np]; exact hi) (by omega)
    have f2 : mu_fr (fun a => x + 1 ≤ a ∧ a < x + 42) g (mu_sI gi (x + 1 + 13 + i) 2 (nI (vP s i 2 - 10))) := mu_fr_tr fi (mu_fr_sI ⟨by omega, by omega⟩)
    have ih2 := ih _ V2 f2
    unfold sumN at ih2
    have hL2 := mu_fr_fit f2 hL
    clear ih
    simp (disch := omega) only [Nat.not_le_of_lt hi, cl_T Ci, cl_R0 Ci, e0, e2, em_n (show vP s i 2 < 100 by omega), I_sI_same, sc_T Ni, sc_R0 Ni, sc_R1 Ni, sc_R2 Ni, sc_R3 Ni, sc_R4 Ni, sc_R5 Ni, sc_R6 Ni, sc_R7 Ni, sc_R8 Ni, sc_R9 Ni, sc_T1 Ni, sc_N1 Ni, sc_RP Ni, sc_T2 Ni, sc_N2 Ni, sc_RM Ni, sc_T3 Ni, sc_N3 Ni, sc_T4 Ni, sc_N4 Ni, sc_T5 Ni, sc_N5 Ni, sc_T6 Ni, sc_N6 Ni, sc_T7 Ni, sc_N7 Ni, sc_T8 Ni, sc_N8 Ni, sc_T9 Ni, sc_N9 Ni, sc_T10 Ni, sc_RL0 Ni, sc_RL1 Ni, sc_T11 Ni, sc_N11 Ni, sc_T12 Ni, sc_N12 Ni, sc_TP Ni, sc_TM Ni, sc_w Ni, sc_wj Ni, sc_wp Ni, li_n, nI_add, pk_mul, nI_clamp, nI_ltI, nI_leI, nI_eq, mi_n, Nat.add_zero, true_and, and_true, true_or, or_true, false_or, or_false, not_false_eq_true, not_true_eq_false, implies_true, forall_const, ne_eq, Classical.not_not, reduceCtorEq, nor_p, cI_1n, bI_1n, cI_F, cI_T, cI_0, cI_0n, bI_0, bI_0n, cI_01, bI_01, Nat.reduceLeDiff, Nat.reduceLT, Nat.reduceEqDiff, Nat.reduceSub, Nat.reduceAdd, Nat.lt_irrefl, Nat.le_refl, false_implies, true_implies]
    refine ⟨by omega, fun h => mu_cI sp_X10_asInt hL2 ?_, fun h => mu_cI sp_X10_asInt hL2 ?_⟩
    · rw [cI_nn (by omega), nI_add]
      rw [cN_f (by omega)] at ih2
      exact ih2
    · rw [cI_nn (by omega), nI_add]
      rw [cN_t (by omega)] at ih2
      exact ih2
theorem pm_restAll (hM : md_L w y g) (hs : mu_I g (y + 1) = s) (hc : wf_c s) (hW : wf_s s) : mu_mp w mm_X11_restAll (d + 2) [.ref y] g (mPost w y (pRest s) g) := by
  refine mu_mkp mk_X11_restAll rfl (fun L hL Q hQ => fm_X11_restAll_0 ?_)
  have hb := wc_b hc
  have hw1 := md_wj hM 1
  unfold pRest at hQ
  refine lp (n := np s) (P := fun i => ∀ gi, mu_I gi (y + 1) = rsR s i → mu_fr (fun a => a = y + 1) g gi → mu_go w mm_X11_restAll (d + 2) L Q 4 [some (.ref y), some (.int (nI (sumN (fun p => cN (10 < vP s p 2)) i))), some (.int (nI i)), none] [] gi) (fun gi si fi => fm_X11_restAll_4 ?_) (fun i hi ih gi si fi => fm_X11_restAll_4 ?_) g hs mu_fr_rf
  · have Mi := md_L_fr hM fi
    have e0 : rsR s (np s) 0 = nI (np s) := (rs_o (fun j _ => by omega)).trans (wc_0 hc)
    simp (disch := omega) only [md_T0 Mi, md_R0 Mi, md_T1 Mi, md_N1 Mi, si, e0, li_n, nI_add, pk_mul, nI_clamp, nI_ltI, nI_leI, nI_eq, mi_n, Nat.add_zero, true_and, and_true, true_or, or_true, false_or, or_false, not_false_eq_true, not_true_eq_false, implies_true, forall_const, ne_eq, Classical.not_not, reduceCtorEq, nor_p, cI_1n, bI_1n, cI_F, cI_T, cI_0, cI_0n, bI_0, bI_0n, cI_01, bI_01, Nat.reduceLeDiff, Nat.reduceLT, Nat.reduceEqDiff, Nat.reduceSub, Nat.reduceAdd, Nat.lt_irrefl, Nat.le_refl, false_implies, true_implies]
    have ff : mu_f2 (rfW y) g (md_stale y gi) := f2_tr (f2_of fi (fun a k q => Or.inl q)) stale_f
    exact mu_cV (sp_X11_stale Mi) (f2_fit ff hL) (hQ _ _ ⟨_, rfl, rfl, stale_s si, ⟨Or.inl stale_c.1, Or.inl stale_c.2⟩, ff⟩ ff.2.2.2.1 ff.2.2.2.2.1)
  · have Mi := md_L_fr hM fi
    have hLi := mu_fr_fit fi hL
    have e0 : rsR s i 0 = nI (np s) := (rs_o (fun j _ => by omega)).trans (wc_0 hc)
    have hpb := wp_b (ws_p hW) hi
    have e2 : rsR s i (20 + 4 * i + 2) = nI (vP s i 2) := (rs_o (fun j hj => by omega)).trans (wp_v (ws_p hW) hi (by omega))
    have ih2 := ih (mu_sI gi (y + 1) (20 + 4 * i + 2) (nI (vP s i 2 - 10))) (by rw [mu_I_upd, si]; rfl) (mu_fr_tr fi (mu_fr_sI rfl))
    unfold sumN at ih2
    clear ih
    simp (disch := omega) only [Nat.not_le_of_lt hi, md_T0 Mi, md_R0 Mi, md_T1 Mi, md_N1 Mi, si, e0, li_n, nI_add, pk_mul, nI_clamp, nI_ltI, nI_leI, nI_eq, mi_n, Nat.add_zero, true_and, and_true, true_or, or_true, false_or, or_false, not_false_eq_true, not_true_eq_false, implies_true, forall_const, ne_eq, Classical.not_not, reduceCtorEq, nor_p, cI_1n, bI_1n, cI_F, cI_T, cI_0, cI_0n, bI_0, bI_0n, cI_01, bI_01, Nat.reduceLeDiff, Nat.reduceLT, Nat.reduceEqDiff, Nat.reduceSub, Nat.reduceAdd, Nat.lt_irrefl, Nat.le_refl, false_implies, true_implies]
    refine mu_cI sp_X11_personAt hLi ?_
    simp (disch := omega) only [md_T0 Mi, md_R0 Mi, md_T1 Mi, md_N1 Mi, si, e2, li_n, nI_add, pk_mul, nI_clamp, nI_ltI, nI_leI, nI_eq, mi_n, Nat.add_zero, true_and, and_true, true_or, or_true, false_or, or_false, not_false_eq_true, not_true_eq_false, implies_true, forall_const, ne_eq, Classical.not_not, reduceCtorEq, nor_p, cI_1n, bI_1n, cI_F, cI_T, cI_0, cI_0n, bI_0, bI_0n, cI_01, bI_01, Nat.reduceLeDiff, Nat.reduceLT, Nat.reduceEqDiff, Nat.reduceSub, Nat.reduceAdd, Nat.lt_irrefl, Nat.le_refl, false_implies, true_implies]
    refine ⟨by omega, mu_cI (eh_n (by omega)) hLi ?_⟩
    simp (disch := omega) only [md_T0 Mi, md_R0 Mi, md_T1 Mi, md_N1 Mi, hw1, I_sI_same, li_n, nI_add, pk_mul, nI_clamp, nI_ltI, nI_leI, nI_eq, mi_n, Nat.add_zero, true_and, and_true, true_or, or_true, false_or, or_false, not_false_eq_true, not_true_eq_false, implies_true, forall_const, ne_eq, Classical.not_not, reduceCtorEq, nor_p, cI_1n, bI_1n, cI_F, cI_T, cI_0, cI_0n, bI_0, bI_0n, cI_01, bI_01, Nat.reduceLeDiff, Nat.reduceLT, Nat.reduceEqDiff, Nat.reduceSub, Nat.reduceAdd, Nat.lt_irrefl, Nat.le_refl, false_implies, true_implies]
    refine ⟨by omega, by omega, fun h => ?_, fun h => ?_⟩
    · rw [cN_f (by omega)] at ih2
      exact ih2
    · rw [cN_t (by omega)] at ih2
      exact ih2
end Qj
