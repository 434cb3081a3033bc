/-! CLIENTS: a move more: the reference's public call -/
section Qu
variable {w : mu_O} {d x y b E : Nat} {g g1 g2 : mu_H} {s : Nat → Int32} {v1 v2 v3 v4 v5 : Int32}
theorem mv_bad {L : Nat × Nat} {Q : Option Value → mu_H → Prop} {Z : mu_H → Prop} (hM : md_L w y g) (hs : mu_I g (y + 1) = s) (hc : wf_c s) (hL : mu_fit2 L g) (hQ : Q (some (.int (-1000000001))) g) : mu_callI w mm_X11_isPerson (d + 1) L [.ref y, .int v1] g (fun x4 g3 => (x4 = 0 → Q (some (.int (-1000000001))) g3) ∧ (¬ (x4 = 0) → (mu_callI w mm_X11_isIn (d + 1) L [.long v2.toInt64, .long (0 : Int64), .long (5 : Int64)] g3 (fun x6 g5 => (x6 = 0 → Q (some (.int (-1000000001))) g5) ∧ (¬ (x6 = 0) → (((0 : Int32) = 0 → Q (some (.int (-1000000001))) g5) ∧ (¬ ((0 : Int32) = 0) → Z g5))))))) :=
  mu_cI (sp_X11_isPersonN hM hs (wc_0 hc) (by have := wc_b hc; omega)) hL ⟨fun _ => hQ, fun _ => mu_cI (sp_X11_iN (a := 0) (b := 5) rfl rfl) hL ⟨fun _ => hQ, fun _ => ⟨fun _ => hQ, fun q => absurd rfl q⟩⟩⟩
theorem tm_iff {v : Int32} : ((0 ≤ v.toInt ∧ v.toInt ≤ 909) ∧ (1 ≤ (v % 10).toInt ∧ (v % 10).toInt ≤ 4) ∧ ¬ 90 < v / 10) ↔ isTm v := by
  by_cases h : 0 ≤ v.toInt
  · obtain ⟨e, k1⟩ := li_get h
    generalize v.toNatClampNeg = k at e k1
    subst e
    rw [isTm_n k1, nI_toInt k1]
    have e2 : nI k % 10 = nI (k % 10) := rm_n (b := 10) k1 (by decide)
    have e3 : nI k / 10 = nI (k / 10) := dv_n (b := 10) k1 (by decide) (by decide)
    rw [e2, e3, nI_toInt (by omega)]
    have e4 : (90 : Int32) < nI (k / 10) ↔ 90 < k / 10 := nI_ltI (a := 90) (by decide) (by omega)
    rw [e4]
    omega
  · exact ⟨fun q => absurd q.1.1 h, fun q => absurd q (isTm_neg (by omega))⟩
theorem mv_go {L : Nat × Nat} {Q : Option Value → mu_H → Prop} (hM : md_L w y g) (hs : mu_I g (y + 1) = s) (hc : wf_c s) (hW : wf_s s) (hca : caC y s g) (hL : mu_fit2 L g) (hok : mvOK s v1 v2 v3 v4 v5) (h8 : nm s < 20) (hQ : ∀ r g', mPost w y (pMove s v1 v2 v3 v4 v5) g r g' → mu_X g' = mu_X g → mu_S g' = mu_S g → Q r g') :
    mu_go w mm_X11_move (d + 2) L Q 122 [some (.ref y), some (.int v1), some (.int v2), some (.int v3), some (.int v4), some (.int v5), none, some (.int 0)] [] g := by
  have hb := wc_b hc
  have hw1 := md_wj hM 1
  have hm := ws_m hW
  obtain ⟨q1, q2, ⟨t, e3, ht1, ht2, ht3⟩, q4, q5, q6, q7⟩ := id hok
  obtain ⟨k1, hk1, e1, ek1, hk2⟩ := ix_of q1
  have ek3 : v3.toNatClampNeg = t := by rw [e3, nI_clamp (by omega)]
  unfold pMove at hQ
  rw [cif_t hok, cif_t h8] at hQ
  refine lp (n := nm s) (P := fun i => (∀ j, j < i → ¬ mvMt s v1 v3 j) → mu_go w mm_X11_move (d + 2) L Q 122 [some (.ref y), some (.int v1), some (.int v2), some (.int v3), some (.int v4), some (.int v5), none, some (.int (nI i))] [] g) (fun hj => fm_X11_move_122 ?_) (fun i hi ih hj => fm_X11_move_122 ?_) (fun j hj => absurd hj (Nat.not_lt_zero j))
  · rw [cif_f (fun ⟨i, i1, i2⟩ => hj i i1 i2)] at hQ
    simp (disch := omega) only [md_T0 hM, md_R0 hM, md_T1 hM, md_N1 hM, hs, wc_0 hc, wc_1 hc, wc_2 hc, wc_3 hc, wc_4 hc, wc_5 hc, wc_6 hc, wc_7 hc, wc_9 hc, li_n, nI_add, pk_mul, nI_clamp, nI_ltI, nI_leI, nI_eq, mi_n, Nat.add_zero, true_and, and_true, true_or, or_true, false_or, or_false, not_false_eq_true, not_true_eq_false, implies_true, forall_const, ne_eq, Classical.not_not, reduceCtorEq, nor_p, cI_1n, bI_1n, cI_F, cI_T, cI_0, cI_0n, bI_0, bI_0n, cI_01, bI_01, Nat.reduceLeDiff, Nat.reduceLT, Nat.reduceEqDiff, Nat.reduceSub, Nat.reduceAdd, Nat.lt_irrefl, Nat.le_refl, false_implies, true_implies]
    refine mu_cI sp_X11_moveAt hL ?_
    simp (disch := omega) only [hw1, mu_I_upd, pk_un, pk_us, md_T0 hM, md_R0 hM, md_T1 hM, md_N1 hM, hs, wc_0 hc, wc_1 hc, wc_2 hc, wc_3 hc, wc_4 hc, wc_5 hc, wc_6 hc, wc_7 hc, wc_9 hc, li_n, nI_add, pk_mul, nI_clamp, nI_ltI, nI_leI, nI_eq, mi_n, Nat.add_zero, true_and, and_true, true_or, or_true, false_or, or_false, not_false_eq_true, not_true_eq_false, implies_true, forall_const, ne_eq, Classical.not_not, reduceCtorEq, nor_p, cI_1n, bI_1n, cI_F, cI_T, cI_0, cI_0n, bI_0, bI_0n, cI_01, bI_01, Nat.reduceLeDiff, Nat.reduceLT, Nat.reduceEqDiff, Nat.reduceSub, Nat.reduceAdd, Nat.lt_irrefl, Nat.le_refl, false_implies, true_implies]
    generalize hG : mu_sI (mu_sI (mu_sI (mu_sI (mu_sI (mu_sI (mu_sI (mu_sI (mu_sI g (y + 1) (60 + 8 * nm s) v1) (y + 1) (60 + 8 * nm s + 1) v2) (y + 1) (60 + 8 * nm s + 2) (v3 / nI 10)) (y + 1) (60 + 8 * nm s + 3) (v3 % nI 10)) (y + 1) (60 + 8 * nm s + 4) v4) (y + 1) (60 + 8 * nm s + 5) (v5 / nI 10)) (y + 1) (60 + 8 * nm s + 6) (v5 % nI 10)) (y + 1) (60 + 8 * nm s + 7) (nI 0)) (y + 1) 1 (nI (nm s + 1)) = G
    have hf : mu_fr (fun a => a = y + 1) g G := by
      rw [← hG]
      exact mu_fr_tr (mu_fr_tr (mu_fr_tr (mu_fr_tr (mu_fr_tr (mu_fr_tr (mu_fr_tr (mu_fr_tr (mu_fr_sI rfl) (mu_fr_sI rfl)) (mu_fr_sI rfl)) (mu_fr_sI rfl)) (mu_fr_sI rfl)) (mu_fr_sI rfl)) (mu_fr_sI rfl)) (mu_fr_sI rfl)) (mu_fr_sI rfl)
    have hsG : mu_I G (y + 1) = mvR s v1 v2 v3 v4 v5 := by
      rw [← hG, mu_I_upd, mu_I_upd, mu_I_upd, mu_I_upd, mu_I_upd, mu_I_upd, mu_I_upd, mu_I_upd, mu_I_upd, hs]
      rfl
    have MG := md_L_fr hM hf
    have ff : mu_f2 (rfW y) g (md_stale y G) := f2_tr (f2_of hf (fun a k q => Or.inl q)) stale_f
    have MS := md_L_fr MG (f2_T (stale_f (y := y) (g := G)))
    have hsS : mu_I (md_stale y G) (y + 1) = mvR s v1 v2 v3 v4 v5 := stale_s hsG
    have e0 : mvR s v1 v2 v3 v4 v5 1 = nI (nm s + 1) := pk_us
    have e1 : nI (nm s + 1) - nI 1 = nI (nm s) := nI_pred _
    refine ⟨by omega, by omega, by omega, by omega, by omega, by omega, by omega, by omega, mu_cV (sp_X11_stale MG) (f2_fit ff hL) ?_⟩
    simp (disch := omega) only [md_T0 MS, md_R0 MS, md_T1 MS, md_N1 MS, hsS, e0, e1, li_n, nI_add, pk_mul, nI_clamp, nI_ltI, nI_leI, nI_eq, mi_n, Nat.add_zero, true_and, and_true, true_or, or_true, false_or, or_false, not_false_eq_true, not_true_eq_false, implies_true, forall_const, ne_eq, Classical.not_not, reduceCtorEq, nor_p, cI_1n, bI_1n, cI_F, cI_T, cI_0, cI_0n, bI_0, bI_0n, cI_01, bI_01, Nat.reduceLeDiff, Nat.reduceLT, Nat.reduceEqDiff, Nat.reduceSub, Nat.reduceAdd, Nat.lt_irrefl, Nat.le_refl, false_implies, true_implies]
    exact hQ _ _ ⟨_, rfl, rfl, hsS, ⟨Or.inl stale_c.1, Or.inl stale_c.2⟩, ff⟩ ff.2.2.2.1 ff.2.2.2.2.1
  · have go : ¬ mvMt s v1 v3 i → mu_go w mm_X11_move (d + 2) L Q 122 [some (.ref y), some (.int v1), some (.int v2), some (.int v3), some (.int v4), some (.int v5), none, some (.int (nI (i + 1)))] [] g := fun q => ih (fun j hj2 => by
      by_cases e : j = i
      · rw [e]; exact q
      · exact hj j (by omega))
    have hmb := wm_b hm hi
    simp (disch := omega) only [Nat.not_le_of_lt hi, md_T0 hM, md_R0 hM, md_T1 hM, md_N1 hM, hs, wc_0 hc, wc_1 hc, wc_2 hc, wc_3 hc, wc_4 hc, wc_5 hc, wc_6 hc, wc_7 hc, wc_9 hc, li_n, nI_add, pk_mul, nI_clamp, nI_ltI, nI_leI, nI_eq, mi_n, Nat.add_zero, true_and, and_true, true_or, or_true, false_or, or_false, not_false_eq_true, not_true_eq_false, implies_true, forall_const, ne_eq, Classical.not_not, reduceCtorEq, nor_p, cI_1n, bI_1n, cI_F, cI_T, cI_0, cI_0n, bI_0, bI_0n, cI_01, bI_01, Nat.reduceLeDiff, Nat.reduceLT, Nat.reduceEqDiff, Nat.reduceSub, Nat.reduceAdd, Nat.lt_irrefl, Nat.le_refl, false_implies, true_implies]
    refine mu_cI (sp_X11_fieldN (f := 0) hM hs hc hm hi (by omega)) hL ⟨fun h => go (fun q => h ?_), fun h => ?_⟩
    · rw [q.1, ek1, e1]
    · rw [e1, nI_eq (by omega) (by omega)] at h
      refine ⟨md_T0 hM, mu_cI (sp_X11_fieldN (f := 2) hM hs hc hm hi (by omega)) hL ⟨md_T0 hM, mu_cI (sp_X11_fieldN (f := 3) hM hs hc hm hi (by omega)) hL ?_⟩⟩
      refine mu_cI sp_X11_meet hL ?_
      have e4 : v3 / nI 10 = nI (t / 10) := by rw [e3]; exact dv_n (by omega) (by omega) (by omega)
      have e5 : v3 % nI 10 = nI (t % 10) := by rw [e3]; exact rm_n (by omega) (by omega)
      rw [e4, e5, bI_0n, nI_add, nI_add, nI_ltI (by omega) (by omega), nI_ltI (by omega) (by omega)]
      have em : (vM s i 2 < t / 10 + t % 10 ∧ t / 10 < vM s i 2 + vM s i 3) ↔ mvMt s v1 v3 i := by
        unfold mvMt
        rw [ek1, ek3]
        exact ⟨fun q => ⟨h, q⟩, fun q => q.2⟩
      rw [em]
      refine ⟨go, fun q => ?_⟩
      rw [cif_t ⟨i, hi, Classical.not_not.mp q⟩] at hQ
      exact mp_0 hQ rfl hs hca
theorem pm_move (hM : md_L w y g) (hs : mu_I g (y + 1) = s) (hc : wf_c s) (hW : wf_s s) (hca : caC y s g) : mu_mp w mm_X11_move (d + 3) [.ref y, .int v1, .int v2, .int v3, .int v4, .int v5] g (mPost w y (pMove s v1 v2 v3 v4 v5) g) := by
  refine mu_mkp mk_X11_move rfl (fun L hL Q hQ => fm_X11_move_0 (mu_cI (sp_X11_iN (a := 0) (b := 909) rfl rfl) hL ?_))
  have hb := wc_b hc
  have bad : ¬ mvOK s v1 v2 v3 v4 v5 → Q (some (.int (-1000000001))) g := fun h => by
    unfold pMove at hQ
    rw [cif_f h] at hQ
    exact mp_0 hQ rfl hs hca
  have nt : ∀ {p : Prop}, ¬ p → (mvOK s v1 v2 v3 v4 v5 → p) → Q (some (.int (-1000000001))) g := fun h k => bad (fun q => h (k q))
  have nlt : v5 < 0 ↔ v5.toInt < 0 := li_lt
  rw [cI_0]
  refine ⟨fun h => ⟨md_T0 hM, mv_bad hM hs hc hL (nt h (fun q => (tm_iff.mpr q.2.2.1).1))⟩, fun h => ⟨by decide, mu_cI (sp_X11_iN (a := 1) (b := 4) rfl rfl) hL ?_⟩⟩
  rw [cI_0]
  refine ⟨fun h2 => ⟨md_T0 hM, mv_bad hM hs hc hL (nt h2 (fun q => (tm_iff.mpr q.2.2.1).2.1))⟩, fun h2 => ⟨by decide, fun h3 => ⟨md_T0 hM, mv_bad hM hs hc hL (bad (fun q => (tm_iff.mpr q.2.2.1).2.2 h3))⟩, fun h3 => ?_⟩⟩
  have htm : isTm v3 := tm_iff.mp ⟨Classical.not_not.mp h, Classical.not_not.mp h2, h3⟩
  refine ⟨md_T0 hM, mu_cI (sp_X11_isPersonN hM hs (wc_0 hc) (by omega)) hL ?_⟩
  rw [bI_0]
  refine ⟨fun h4 => nt h4 (fun q => q.1), fun h4 => mu_cI (sp_X11_iN (a := 0) (b := 5) rfl rfl) hL ?_⟩
  rw [cI_0]
  refine ⟨fun h5 => nt h5 (fun q => q.2.1), fun h5 => ⟨fun q => absurd q (by decide), fun _ => mu_cI sp_X11_pl hL ?_⟩⟩
  rw [cI_0]
  refine ⟨fun h6 => nt h6 (fun q => q.2.2.2.1), fun h6 => ⟨fun h7 => bad (fun q => by have := q.2.2.2.2.1; rw [nlt] at h7; omega), fun h7 => ⟨by decide, md_T0 hM, mu_cI (sp_X11_isPersonN hM hs (wc_0 hc) (by omega)) hL ?_⟩⟩⟩
  rw [bI_0]
  refine ⟨fun h8 => nt h8 (fun q => q.2.2.2.2.2.1), fun h8 => ⟨by decide, fun h9 => ?_, fun h9 => bad (fun q => h9 q.2.2.2.2.2.2)⟩⟩
  rw [nlt] at h7
  have hok : mvOK s v1 v2 v3 v4 v5 := ⟨Classical.not_not.mp h4, Classical.not_not.mp h5, htm, Classical.not_not.mp h6, by omega, Classical.not_not.mp h8, h9⟩
  simp (disch := omega) only [md_T0 hM, md_R0 hM, md_T1 hM, md_N1 hM, hs, wc_0 hc, wc_1 hc, wc_2 hc, wc_3 hc, wc_4 hc, wc_5 hc, wc_6 hc, wc_7 hc, wc_9 hc, li_n, nI_add, pk_mul, nI_clamp, nI_ltI, nI_leI, nI_eq, mi_n, Nat.add_zero, true_and, and_true, true_or, or_true, false_or, or_false, not_false_eq_true, not_true_eq_false, implies_true, forall_const, ne_eq, Classical.not_not, reduceCtorEq, nor_p, cI_1n, bI_1n, cI_F, cI_T, cI_0, cI_0n, bI_0, bI_0n, cI_01, bI_01, Nat.reduceLeDiff, Nat.reduceLT, Nat.reduceEqDiff, Nat.reduceSub, Nat.reduceAdd, Nat.lt_irrefl, Nat.le_refl, false_implies, true_implies]
  refine ⟨fun h10 => mv_go hM hs hc hW hca hL hok (by omega) hQ, fun h10 => ?_⟩
  unfold pMove at hQ
  rw [cif_t hok, cif_f (by omega)] at hQ
  exact mp_0 hQ rfl hs hca
end Qu
