/-! CLIENTS: the shift done: the class -/
section Qp
variable {w : mu_O} {d x y b b0 H S E : Nat} {g g1 g2 : mu_H} {s : Nat → Int32} {r : Nat → Nat}
theorem sp_X6_moveOn (hN : sc_L w b0 g) (hV : sc_V w E b0 s g) (hH : sh_L w H S b g) (hW : wf_s s) (h3 : mu_I g H 3 = nI (nK s)) (hr : ∀ k, k < nK s → mu_I g (H + 2) k = nI (r k)) (hA : b0 + 41 ≤ H) :
    mu_mp w mm_X6_moveOn d [.ref H, .ref b0] g (fun z g' => z = none ∧ (mu_fr (fun a => b0 ≤ a ∧ a < b0 + 41) g g' ∧ sc_V w E b0 (shR s r (nK s)) g')) := by
  refine mu_mkp mk_X6_moveOn rfl (fun L hL Q hQ => fm_X6_moveOn_0 ?_)
  have hc := ws_c hW
  have hb := wc_b hc
  have hk : nK s ≤ 3 ∧ nK s ≤ nch s := by unfold nK; omega
  refine lp (n := nK s) (P := fun i => ∀ gi, mu_fr (fun a => b0 ≤ a ∧ a < b0 + 41) g gi → sc_V w E b0 (shR s r i) gi → mu_go w mm_X6_moveOn d L Q 2 [some (.ref H), some (.ref b0), some (.int (nI i))] [] gi) (fun gi fi Vi => fm_X6_moveOn_2 ?_) (fun i hi ih gi fi Vi => fm_X6_moveOn_2 ?_) g mu_fr_rf hV
  · have Hi := sh_fr hH fi
    have e3 : mu_I gi H 3 = nI (nK s) := by rw [fi.2.2.2.2.2 _ (by omega)]; exact h3
    simp (disch := omega) only [Hi.2.1, e3, li_n, nI_add, pk_mul, nI_clamp, nI_ltI, nI_leI, nI_eq, mi_n, Nat.add_zero, true_and, and_true, true_or, or_true, false_or, or_false, not_false_eq_true, not_true_eq_false, implies_true, forall_const, ne_eq, Classical.not_not, reduceCtorEq, nor_p, cI_1n, bI_1n, cI_F, cI_T, cI_0, cI_0n, bI_0, bI_0n, cI_01, bI_01, Nat.reduceLeDiff, Nat.reduceLT, Nat.reduceEqDiff, Nat.reduceSub, Nat.reduceAdd, Nat.lt_irrefl, Nat.le_refl, false_implies, true_implies]
    exact hQ _ _ ⟨rfl, fi, Vi⟩ fi.2.2.2.1 fi.2.2.2.2.1
  · have Hi := sh_fr hH fi
    have Ni := sc_L_fr hN fi
    have ag : agB s (shR s r i) := shR_ag hW (by omega)
    have hci := ab_c ag hc
    have e3 : mu_I gi H 3 = nI (nK s) := by rw [fi.2.2.2.2.2 _ (by omega)]; exact h3
    have er : mu_I gi (H + 2) i = nI (r i) := by rw [fi.2.2.2.2.2 _ (by omega)]; exact hr i hi
    have hch := (ws_ch hW) i (by omega)
    have hv1 := hch.2.1
    have ec : mu_I gi (b0 + 7) i = nI (vC s i) := by
      rw [Vi.2.2.2.2.2.2.2.1 i (by rw [ab_nch ag]; omega), ag _ (by omega)]
      exact hch.1
    have em : mu_I gi (b0 + 21 + vC s i) 2 = nI (vM s (vC s i) 2) := by
      rw [Vi.2.2.2.1 (vC s i) 2 (by rw [ab_nm ag]; exact hv1) (by omega)]
      have e : shR s r i (bI' s i) = s (bI' s i) := shR_o (fun k hk2 e => by
        unfold bI' at e
        have := hch.2.2 k (by omega) (by omega)
        omega)
      exact e.trans (wm_v (ws_m hW) hv1 (by omega))
    have V2 : sc_V w E b0 (shR s r (i + 1)) (mu_sI gi (b0 + 21 + vC s i) 2 (nI (vM s (vC s i) 2 + r i))) := su_M (f := 2) Vi hci (by rw [ab_nm ag]; exact hv1) (by omega)
    have f2 := ih _ (mu_fr_tr fi (mu_fr_sI (A := fun a => b0 ≤ a ∧ a < b0 + 41) ⟨by omega, by omega⟩)) V2
    simp (disch := omega) only [Nat.not_le_of_lt hi, Hi.2.1, Hi.2.2.2.2.2.1, Hi.2.2.2.2.2.2.2.1, Hi.2.2.2.2.2.2.2.2, e3, er, ec, em, sc_T Ni, sc_R0 Ni, sc_R1 Ni, sc_R2 Ni, sc_R3 Ni, sc_R4 Ni, sc_R5 Ni, sc_R6 Ni, sc_R7 Ni, sc_R8 Ni, sc_R9 Ni, sc_T1 Ni, sc_N1 Ni, sc_RP Ni, sc_T2 Ni, sc_N2 Ni, sc_RM Ni, sc_T3 Ni, sc_N3 Ni, sc_T4 Ni, sc_N4 Ni, sc_T5 Ni, sc_N5 Ni, sc_T6 Ni, sc_N6 Ni, sc_T7 Ni, sc_N7 Ni, sc_T8 Ni, sc_N8 Ni, sc_T9 Ni, sc_N9 Ni, sc_T10 Ni, sc_RL0 Ni, sc_RL1 Ni, sc_T11 Ni, sc_N11 Ni, sc_T12 Ni, sc_N12 Ni, sc_TP Ni, sc_TM Ni, sc_w Ni, sc_wj Ni, sc_wp Ni, li_n, nI_add, pk_mul, nI_clamp, nI_ltI, nI_leI, nI_eq, mi_n, Nat.add_zero, true_and, and_true, true_or, or_true, false_or, or_false, not_false_eq_true, not_true_eq_false, implies_true, forall_const, ne_eq, Classical.not_not, reduceCtorEq, nor_p, cI_1n, bI_1n, cI_F, cI_T, cI_0, cI_0n, bI_0, bI_0n, cI_01, bI_01, Nat.reduceLeDiff, Nat.reduceLT, Nat.reduceEqDiff, Nat.reduceSub, Nat.reduceAdd, Nat.lt_irrefl, Nat.le_refl, false_implies, true_implies]
    exact ⟨by omega, by omega, by omega, f2⟩
end Qp
