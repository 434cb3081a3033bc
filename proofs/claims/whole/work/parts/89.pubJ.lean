/-! CLIENTS: a person more: the reference's public call -/
section Qm
variable {w : mu_O} {d x y b E : Nat} {g g1 g2 : mu_H} {s : Nat → Int32}
theorem pl_iff {v : Int32} : ((0 ≤ v.toInt ∧ v.toInt ≤ 117) ∧ v % 10 < 8) ↔ isPl v := by
  by_cases h : 0 ≤ v.toInt
  · obtain ⟨e, k1⟩ := li_get h
    generalize v.toNatClampNeg = k at e k1
    subst e
    rw [isPl_n k1, nI_toInt k1]
    have e2 : nI k % 10 = nI (k % 10) := rm_n (b := 10) k1 (by decide)
    rw [e2]
    have e3 : nI (k % 10) < 8 ↔ k % 10 < 8 := nI_ltI (b := 8) (by omega) (by decide)
    rw [e3]
    omega
  · exact ⟨fun q => absurd q.1.1 h, fun q => absurd q (isPl_neg (by omega))⟩
theorem sp_X11_pl {v : Int32} : mu_met w mm_X11_isPlace (d + 1) [.int v] g (some (.int (cI (isPl v)))) g := by
  have h := sp_X11_isPlace (w := w) (d := d) (g := g) (v := v)
  rw [bI_cI, cI_c pl_iff] at h
  exact h
theorem pm_person {v u : Int32} (hM : md_L w y g) (hs : mu_I g (y + 1) = s) (hc : wf_c s) (hW : wf_s s) (hca : caC y s g) : mu_mp w mm_X11_person (d + 2) [.ref y, .int v, .int u] g (mPost w y (pPerson s v u) g) := by
  refine mu_mkp mk_X11_person rfl (fun L hL Q hQ => fm_X11_person_0 (mu_cI sp_X11_pl hL ?_))
  have hb := wc_b hc
  have hw1 := md_wj hM 1
  unfold pPerson at hQ
  rw [cI_0]
  refine ⟨fun h => ?_, fun h => mu_cI (sp_X11_iN (a := 0) (b := 9) rfl rfl) hL ?_⟩
  · rw [cif_f (fun q => h q.1)] at hQ
    exact mp_0 hQ rfl hs hca
  · replace h := Classical.not_not.mp h
    rw [cI_0]
    refine ⟨fun h2 => ?_, fun h2 => ?_⟩
    · rw [cif_t ⟨h, Classical.not_not.mp h2⟩] at hQ
      simp (disch := omega) only [md_T0 hM, md_R0 hM, md_T1 hM, md_N1 hM, hs, wc_0 hc, wc_1 hc, wc_2 hc, wc_3 hc, wc_4 hc, wc_5 hc, wc_6 hc, wc_7 hc, wc_9 hc, li_n, nI_add, pk_mul, nI_clamp, nI_ltI, nI_leI, nI_eq, mi_n, Nat.add_zero, true_and, and_true, true_or, or_true, false_or, or_false, not_false_eq_true, not_true_eq_false, implies_true, forall_const, ne_eq, Classical.not_not, reduceCtorEq, nor_p, cI_1n, bI_1n, cI_F, cI_T, cI_0, cI_0n, bI_0, bI_0n, cI_01, bI_01, Nat.reduceLeDiff, Nat.reduceLT, Nat.reduceEqDiff, Nat.reduceSub, Nat.reduceAdd, Nat.lt_irrefl, Nat.le_refl, false_implies, true_implies]
      refine ⟨fun h3 => mu_cI sp_X11_personAt hL ?_, fun h3 => ?_⟩
      · have h8 : np s < 8 := by omega
        rw [cif_t h8] at hQ
        simp (disch := omega) only [hw1, mu_I_upd, pk_un, pk_us, md_T0 hM, md_R0 hM, md_T1 hM, md_N1 hM, hs, wc_0 hc, wc_1 hc, wc_2 hc, wc_3 hc, wc_4 hc, wc_5 hc, wc_6 hc, wc_7 hc, wc_9 hc, li_n, nI_add, pk_mul, nI_clamp, nI_ltI, nI_leI, nI_eq, mi_n, Nat.add_zero, true_and, and_true, true_or, or_true, false_or, or_false, not_false_eq_true, not_true_eq_false, implies_true, forall_const, ne_eq, Classical.not_not, reduceCtorEq, nor_p, cI_1n, bI_1n, cI_F, cI_T, cI_0, cI_0n, bI_0, bI_0n, cI_01, bI_01, Nat.reduceLeDiff, Nat.reduceLT, Nat.reduceEqDiff, Nat.reduceSub, Nat.reduceAdd, Nat.lt_irrefl, Nat.le_refl, false_implies, true_implies]
        generalize hG : mu_sI (mu_sI (mu_sI (mu_sI (mu_sI g (y + 1) (20 + 4 * np s) v) (y + 1) (20 + 4 * np s + 1) u) (y + 1) (20 + 4 * np s + 2) (nI 0)) (y + 1) (20 + 4 * np s + 3) (-nI 1)) (y + 1) 0 (nI (np s + 1)) = G
        have hf : mu_fr (fun a => a = y + 1) g G := by
          rw [← hG]
          exact mu_fr_tr (mu_fr_tr (mu_fr_tr (mu_fr_tr (mu_fr_sI rfl) (mu_fr_sI rfl)) (mu_fr_sI rfl)) (mu_fr_sI rfl)) (mu_fr_sI rfl)
        have hsG : mu_I G (y + 1) = psR s v u := by
          rw [← hG, mu_I_upd, mu_I_upd, mu_I_upd, mu_I_upd, mu_I_upd, hs]
          rfl
        have MG := md_L_fr hM hf
        have ff : mu_f2 (rfW y) g (md_stale y G) := f2_tr (f2_of hf (fun a k q => Or.inl q)) stale_f
        have MS := md_L_fr MG (f2_T (stale_f (y := y) (g := G)))
        have hsS : mu_I (md_stale y G) (y + 1) = psR s v u := stale_s hsG
        have e0 : psR s v u 0 = nI (np s + 1) := pk_us
        have e1 : nI (np s + 1) - nI 1 = nI (np s) := nI_pred _
        refine ⟨by omega, by omega, by omega, by omega, mu_cV (sp_X11_stale MG) (f2_fit ff hL) ?_⟩
        simp (disch := omega) only [md_T0 MS, md_R0 MS, md_T1 MS, md_N1 MS, hsS, e0, e1, li_n, nI_add, pk_mul, nI_clamp, nI_ltI, nI_leI, nI_eq, mi_n, Nat.add_zero, true_and, and_true, true_or, or_true, false_or, or_false, not_false_eq_true, not_true_eq_false, implies_true, forall_const, ne_eq, Classical.not_not, reduceCtorEq, nor_p, cI_1n, bI_1n, cI_F, cI_T, cI_0, cI_0n, bI_0, bI_0n, cI_01, bI_01, Nat.reduceLeDiff, Nat.reduceLT, Nat.reduceEqDiff, Nat.reduceSub, Nat.reduceAdd, Nat.lt_irrefl, Nat.le_refl, false_implies, true_implies]
        exact hQ _ _ ⟨_, rfl, rfl, hsS, ⟨Or.inl stale_c.1, Or.inl stale_c.2⟩, ff⟩ ff.2.2.2.1 ff.2.2.2.2.1
      · rw [cif_f (by omega)] at hQ
        exact mp_0 hQ rfl hs hca
    · rw [cif_f (fun q => h2 (fun z => z q.2))] at hQ
      exact mp_0 hQ rfl hs hca
end Qm
