/-! CLIENTS: the shift done: the reference's public call -/
section Qr
variable {w : mu_O} {d x y E : Nat} {g g1 g2 : mu_H} {s : Nat → Int32}
theorem pm_shift (hM : md_L w y g) (hs : mu_I g (y + 1) = s) (hc : wf_c s) (hK : md_K y g) (hW : wf_s s) (hca : caC y s g) : mu_mp w mm_X11_shift (d + 8) [.ref y] g (mPost w y (pShift s) g) := by
  refine mu_mkp mk_X11_shift rfl (fun L hL Q hQ => fm_X11_shift_0 ⟨md_T0 hM, mu_cVp (sp_X11_findShifts hM hs hc hW hK hca.1 hca.2) hL (fun g1 h1 _ _ => ?_)⟩)
  have hb := wc_b hc
  have hk : nK s ≤ 3 ∧ nK s ≤ nch s := by unfold nK; omega
  have hw1 := md_wj hM 1
  obtain ⟨F, hs1, h18, hR, h17⟩ := h1
  have hM1 := md_L_fr hM (f2_T F)
  unfold pShift at hQ
  rcases hR with ⟨f, u, t, hm, e34, i0⟩ | ⟨hno, e34⟩
  · have hvd := hm.1.1
    unfold vd at hvd
    rw [cif_t ⟨f, u, t, hm.1⟩, sft_of hm] at hQ
    refine lp (n := nK s) (P := fun i => ∀ gi, mu_fr (fun a => a = y + 1) g1 gi → mu_I gi (y + 1) = shR s (tri f u t) i → mu_go w mm_X11_shift (d + 8) L Q 6 [some (.ref y), some (.int (nI i))] [] gi) (fun gi fi si => fm_X11_shift_6 ?_) (fun i hi ih gi fi si => fm_X11_shift_6 ?_) g1 mu_fr_rf hs1
    · have Mi := md_L_fr hM1 fi
      have ag : agB s (shR s (tri f u t) (nK s)) := shR_ag hW (by omega)
      have eK : nK (shR s (tri f u t) (nK s)) = nK s := show min 3 (nch (shR s (tri f u t) (nK s))) = min 3 (nch s) by rw [ab_nch ag]
      have ff : mu_f2 (rfW y) g gi := f2_tr F (f2_of fi (fun a k q => Or.inl q))
      have f3 : mu_f2 (rfW y) g (md_stale y gi) := f2_tr ff stale_f
      have hLi := f2_fit ff hL
      have e34' : mu_I gi y 34 = nI (f + u + t) := by rw [fi.2.2.2.2.2 y (by omega)]; exact e34
      refine ⟨md_T0 Mi, mu_cI (sp_X11_shiftable Mi si (ab_c ag hc)) hLi ?_⟩
      rw [eK, e34']
      refine ⟨fun _ => ⟨md_T0 Mi, mu_cI sp_X11_orNone hLi ⟨md_T0 Mi, mu_cV (sp_X11_stale Mi) (f2_fit f3 hL) (hQ _ _ ⟨_, rfl, ?_, stale_s si, ⟨Or.inl stale_c.1, Or.inl stale_c.2⟩, f3⟩ f3.2.2.2.1 f3.2.2.2.2.1)⟩⟩, fun q => absurd (by rw [nI_leI (by omega) (by omega)]; exact Nat.le_refl _) q⟩
      rw [nI_toInt (by omega), if_neg (by omega)]
    · have Mi := md_L_fr hM1 fi
      have ag : agB s (shR s (tri f u t) i) := shR_ag hW (by omega)
      have eK : nK (shR s (tri f u t) i) = nK s := by unfold nK; rw [ab_nch ag]
      have ff : mu_f2 (rfW y) g gi := f2_tr F (f2_of fi (fun a k q => Or.inl q))
      have hLi := f2_fit ff hL
      have e34' : mu_I gi y 34 = nI (f + u + t) := by rw [fi.2.2.2.2.2 y (by omega)]; exact e34
      have hch := (ws_ch hW) i (by omega)
      have hv1 := hch.2.1
      have ec : shR s (tri f u t) i (260 + i) = nI (vC s i) := (ag _ (by omega)).trans hch.1
      have em : shR s (tri f u t) i (60 + 8 * vC s i + 2) = nI (vM s (vC s i) 2) := by
        have e : shR s (tri f u t) i (bI' s i) = s (bI' s i) := shR_o (fun k hk2 e => by
          unfold bI' at e
          have := hch.2.2 k (by omega) (by omega)
          omega)
        exact e.trans (wm_v (ws_m hW) hv1 (by omega))
      have er : mu_I gi (y + 21) i = nI (tri f u t i) := by rw [fi.2.2.2.2.2 _ (by omega)]; exact i0 i hi
      have f2 := ih (mu_sI gi (y + 1) (60 + 8 * vC s i + 2) (nI (vM s (vC s i) 2 + tri f u t i))) (mu_fr_tr fi (mu_fr_sI rfl)) (by rw [mu_I_upd, si]; rfl)
      refine ⟨md_T0 Mi, mu_cI (sp_X11_shiftable Mi si (ab_c ag hc)) hLi ?_⟩
      rw [eK]
      have hneg : ¬ nI (f + u + t) < nI 0 := by rw [nI_ltI (by omega) (by omega)]; omega
      simp (disch := omega) only [Nat.not_le_of_lt hi, md_T0 Mi, md_R0 Mi, md_T1 Mi, md_N1 Mi, si, ec, e34', hneg, li_n, nI_add, pk_mul, nI_clamp, nI_ltI, nI_leI, nI_eq, mi_n, Nat.add_zero, true_and, and_true, true_or, or_true, false_or, or_false, not_false_eq_true, not_true_eq_false, implies_true, forall_const, ne_eq, Classical.not_not, reduceCtorEq, nor_p, cI_1n, bI_1n, cI_F, cI_T, cI_0, cI_0n, bI_0, bI_0n, cI_01, bI_01, Nat.reduceLeDiff, Nat.reduceLT, Nat.reduceEqDiff, Nat.reduceSub, Nat.reduceAdd, Nat.lt_irrefl, Nat.le_refl, false_implies, true_implies]
      refine ⟨by omega, mu_cI sp_X11_moveAt hLi ?_⟩
      simp (disch := omega) only [md_T0 Mi, md_R0 Mi, md_T1 Mi, md_N1 Mi, md_R35 Mi, md_T21 Mi, md_N21 Mi, si, em, er, hw1, li_n, nI_add, pk_mul, nI_clamp, nI_ltI, nI_leI, nI_eq, mi_n, Nat.add_zero, true_and, and_true, true_or, or_true, false_or, or_false, not_false_eq_true, not_true_eq_false, implies_true, forall_const, ne_eq, Classical.not_not, reduceCtorEq, nor_p, cI_1n, bI_1n, cI_F, cI_T, cI_0, cI_0n, bI_0, bI_0n, cI_01, bI_01, Nat.reduceLeDiff, Nat.reduceLT, Nat.reduceEqDiff, Nat.reduceSub, Nat.reduceAdd, Nat.lt_irrefl, Nat.le_refl, false_implies, true_implies]
      exact ⟨by omega, by omega, by omega, f2⟩
  · rw [cif_f (fun ⟨f, u, t, q⟩ => hno f u t q)] at hQ
    have hL1 := f2_fit F hL
    have f3 : mu_f2 (rfW y) g (md_stale y g1) := f2_tr F stale_f
    have fin : mu_callI w mm_X11_orNone (d + 7) L [.int (mu_I g1 y 34)] g1 (fun x4 g3 => mu_T g3 y = 12 ∧ mu_callV w mm_X11_stale (d + 7) L [.ref y] g3 (fun g5 => Q (some (.int x4)) g5)) := mu_cI sp_X11_orNone hL1 (And.intro (md_T0 hM1) (mu_cV (sp_X11_stale hM1) (f2_fit f3 hL) (hQ _ _ ⟨_, rfl, by rw [e34]; rfl, stale_s hs1, ⟨Or.inl stale_c.1, Or.inl stale_c.2⟩, f3⟩ f3.2.2.2.1 f3.2.2.2.2.1)))
    refine fm_X11_shift_6 ⟨md_T0 hM1, mu_cI (sp_X11_shiftable hM1 hs1 hc) hL1 ?_⟩
    exact ⟨fun _ => ⟨md_T0 hM1, fin⟩, fun _ => ⟨md_T0 hM1, fun _ => ⟨md_T0 hM1, fin⟩, fun q => absurd (by rw [e34]; decide) q⟩⟩
end Qr
