/-! CLIENTS: slots laid: the reference's public call -/
section ShA
variable {w : mu_O} {d x y E : Nat} {g g1 : mu_H} {s A4 A5 A6 B7 B8 B9 B10 B7' B8' B9' B10' : Nat → Int32} {v1 v2 v3 : Int32}
theorem pm_lay (hM : md_L w y g) (hs : mu_I g (y + 1) = s) (hc : wf_c s) (hW : wf_s s) (h4 : mu_I g (y + 4) = A4) (h5 : mu_I g (y + 5) = A5) (h6 : mu_I g (y + 6) = A6) (h7 : mu_I g (y + 7) = B7) (h8 : mu_I g (y + 8) = B8) (h9 : mu_I g (y + 9) = B9) (h10 : mu_I g (y + 10) = B10) (hwS : sd_wS A4 A5) : mu_mp w mm_X11_lay (d + 2) [.ref y, .int v1, .int v2, .int v3] g (mSl y (pLay s A4 A5 A6 B7 B8 B9 B10 v1 v2 v3) g) := by
  refine mu_mkp mk_X11_lay rfl (fun L hL Q hQ => fm_X11_lay_0 ?_)
  have hb := wc_b hc
  have hw7 := md_wj hM 7
  have hw8 := md_wj hM 8
  have hw9 := md_wj hM 9
  have hw10 := md_wj hM 10
  have bad : ¬ lyOK s v1 v2 v3 → Q (some (.int (-nI 1000000001))) g := fun h => by
    unfold pLay at hQ
    rw [cif_f h] at hQ
    exact sl_1 hQ rfl h7 h8 h9 h10
  have o7 : ∀ z a k v, a ≠ y + 7 → mu_I (mu_sI z a k v) (y + 7) = mu_I z (y + 7) := fun z a k v h => mu_I_off _ _ _ (Ne.symm h)
  unfold pLay at hQ
  by_cases hv : 0 ≤ v2.toInt ∧ v2.toInt ≤ 3
  · rcases v03 hv with rfl | rfl | rfl | rfl
    · simp (disch := omega) only [li_n, nI_add, pk_mul, nI_clamp, nI_ltI, nI_leI, nI_eq, mi_n, Nat.add_zero, true_and, and_true, true_or, or_true, false_or, or_false, not_false_eq_true, not_true_eq_false, implies_true, forall_const, ne_eq, Classical.not_not, reduceCtorEq, nor_p, cI_1n, bI_1n, cI_F, cI_T, cI_0, cI_0n, bI_0, bI_0n, cI_01, bI_01, Nat.reduceLeDiff, Nat.reduceLT, Nat.reduceEqDiff, Nat.reduceSub, Nat.reduceAdd, Nat.lt_irrefl, Nat.le_refl, false_implies, true_implies]
      refine mu_cI sp_X11_isSlotN hL ?_
      simp (disch := omega) only [md_T0 hM, md_R7 hM, md_T7 hM, md_N7 hM, md_R8 hM, md_T8 hM, md_N8 hM, hw7, hw8, li_n, nI_add, pk_mul, nI_clamp, nI_ltI, nI_leI, nI_eq, mi_n, Nat.add_zero, true_and, and_true, true_or, or_true, false_or, or_false, not_false_eq_true, not_true_eq_false, implies_true, forall_const, ne_eq, Classical.not_not, reduceCtorEq, nor_p, cI_1n, bI_1n, cI_F, cI_T, cI_0, cI_0n, bI_0, bI_0n, cI_01, bI_01, Nat.reduceLeDiff, Nat.reduceLT, Nat.reduceEqDiff, Nat.reduceSub, Nat.reduceAdd, Nat.lt_irrefl, Nat.le_refl, false_implies, true_implies]
      refine ⟨fun h => bad (fun q => h q.1), fun h => ?_⟩
      obtain ⟨i, i1, rfl, i3, i2⟩ := ix_of (v := v1) (n := 5) ⟨h.1, by omega⟩
      rw [cif_t ⟨h, Or.inl rfl⟩, cif_f (fun q => absurd q.1 (by decide)), cif_f (by decide), cif_f (by decide), cif_f (by decide), i3] at hQ
      simp (disch := omega) only [h7, li_n, nI_add, pk_mul, nI_clamp, nI_ltI, nI_leI, nI_eq, mi_n, Nat.add_zero, true_and, and_true, true_or, or_true, false_or, or_false, not_false_eq_true, not_true_eq_false, implies_true, forall_const, ne_eq, Classical.not_not, reduceCtorEq, nor_p, cI_1n, bI_1n, cI_F, cI_T, cI_0, cI_0n, bI_0, bI_0n, cI_01, bI_01, Nat.reduceLeDiff, Nat.reduceLT, Nat.reduceEqDiff, Nat.reduceSub, Nat.reduceAdd, Nat.lt_irrefl, Nat.le_refl, false_implies, true_implies]
      have f1 : mu_fr (mSlW y) g (mu_sI (mu_sI g (y + 7) i (nI 0)) (y + 8) i v3) := mu_fr_tr (mu_fr_sI (Or.inl rfl)) (mu_fr_sI (Or.inr (Or.inl rfl)))
      refine ⟨i1, i1, i1, hQ _ _ ⟨_, rfl, rfl, ⟨?_, ?_, ?_, ?_⟩, f1⟩ rfl rfl⟩
      · rw [mu_I_off _ _ _ (by omega), mu_I_upd, h7]
      · rw [mu_I_upd, mu_I_off _ _ _ (by omega), h8]
      · rw [mu_I_off _ _ _ (by omega), mu_I_off _ _ _ (by omega), h9]
      · rw [mu_I_off _ _ _ (by omega), mu_I_off _ _ _ (by omega), h10]
    · simp (disch := omega) only [md_T0 hM, li_n, nI_add, pk_mul, nI_clamp, nI_ltI, nI_leI, nI_eq, mi_n, Nat.add_zero, true_and, and_true, true_or, or_true, false_or, or_false, not_false_eq_true, not_true_eq_false, implies_true, forall_const, ne_eq, Classical.not_not, reduceCtorEq, nor_p, cI_1n, bI_1n, cI_F, cI_T, cI_0, cI_0n, bI_0, bI_0n, cI_01, bI_01, Nat.reduceLeDiff, Nat.reduceLT, Nat.reduceEqDiff, Nat.reduceSub, Nat.reduceAdd, Nat.lt_irrefl, Nat.le_refl, false_implies, true_implies]
      refine mu_cI (sp_X11_isMove hM hs (wc_1 hc) (by omega)) hL ?_
      simp (disch := omega) only [li_n, nI_add, pk_mul, nI_clamp, nI_ltI, nI_leI, nI_eq, mi_n, Nat.add_zero, true_and, and_true, true_or, or_true, false_or, or_false, not_false_eq_true, not_true_eq_false, implies_true, forall_const, ne_eq, Classical.not_not, reduceCtorEq, nor_p, cI_1n, bI_1n, cI_F, cI_T, cI_0, cI_0n, bI_0, bI_0n, cI_01, bI_01, Nat.reduceLeDiff, Nat.reduceLT, Nat.reduceEqDiff, Nat.reduceSub, Nat.reduceAdd, Nat.lt_irrefl, Nat.le_refl, false_implies, true_implies]
      refine ⟨fun h3 => mu_cI sp_X11_isSlotN hL ?_, fun h3 => mu_cI sp_X11_isSlotN hL ?_⟩
      · simp (disch := omega) only [md_T0 hM, md_R7 hM, md_T7 hM, md_N7 hM, md_R8 hM, md_T8 hM, md_N8 hM, hw7, hw8, li_n, nI_add, pk_mul, nI_clamp, nI_ltI, nI_leI, nI_eq, mi_n, Nat.add_zero, true_and, and_true, true_or, or_true, false_or, or_false, not_false_eq_true, not_true_eq_false, implies_true, forall_const, ne_eq, Classical.not_not, reduceCtorEq, nor_p, cI_1n, bI_1n, cI_F, cI_T, cI_0, cI_0n, bI_0, bI_0n, cI_01, bI_01, Nat.reduceLeDiff, Nat.reduceLT, Nat.reduceEqDiff, Nat.reduceSub, Nat.reduceAdd, Nat.lt_irrefl, Nat.le_refl, false_implies, true_implies]
        refine ⟨fun h => bad (fun q => h q.1), fun h => ?_⟩
        obtain ⟨i, i1, rfl, i3, i2⟩ := ix_of (v := v1) (n := 5) ⟨h.1, by omega⟩
        rw [cif_t ⟨h, Or.inr (Or.inr (Or.inl ⟨rfl, h3⟩))⟩, cif_f (fun q => absurd q.1 (by decide)), cif_t (show nI 1 = 1 from rfl), cif_f (by decide), cif_f (by decide), i3] at hQ
        obtain ⟨k, k1, rfl, k3, k2⟩ := ix_of h3
        rw [k3] at hQ
        simp (disch := omega) only [h7, li_n, nI_add, pk_mul, nI_clamp, nI_ltI, nI_leI, nI_eq, mi_n, Nat.add_zero, true_and, and_true, true_or, or_true, false_or, or_false, not_false_eq_true, not_true_eq_false, implies_true, forall_const, ne_eq, Classical.not_not, reduceCtorEq, nor_p, cI_1n, bI_1n, cI_F, cI_T, cI_0, cI_0n, bI_0, bI_0n, cI_01, bI_01, Nat.reduceLeDiff, Nat.reduceLT, Nat.reduceEqDiff, Nat.reduceSub, Nat.reduceAdd, Nat.lt_irrefl, Nat.le_refl, false_implies, true_implies]
        have f0 : mu_fr (mSlW y) g (mu_sI g (y + 7) i (nI 1)) := mu_fr_sI (Or.inl rfl)
        have M0 := md_L_fr hM f0
        have s0 : mu_I (mu_sI g (y + 7) i (nI 1)) (y + 1) = s := by rw [mu_I_off _ _ _ (by omega)]; exact hs
        refine ⟨i1, i1, mu_cI (sp_X11_field (k := 1) M0 s0 (by omega)) (mu_fr_fit f0 hL) ?_⟩
        simp (disch := omega) only [md_T8 M0, md_N8 M0, li_n, nI_add, pk_mul, nI_clamp, nI_ltI, nI_leI, nI_eq, mi_n, Nat.add_zero, true_and, and_true, true_or, or_true, false_or, or_false, not_false_eq_true, not_true_eq_false, implies_true, forall_const, ne_eq, Classical.not_not, reduceCtorEq, nor_p, cI_1n, bI_1n, cI_F, cI_T, cI_0, cI_0n, bI_0, bI_0n, cI_01, bI_01, Nat.reduceLeDiff, Nat.reduceLT, Nat.reduceEqDiff, Nat.reduceSub, Nat.reduceAdd, Nat.lt_irrefl, Nat.le_refl, false_implies, true_implies]
        have f1 : mu_fr (mSlW y) g (mu_sI (mu_sI g (y + 7) i (nI 1)) (y + 8) i (s (60 + 8 * k + 1))) := mu_fr_tr f0 (mu_fr_sI (Or.inr (Or.inl rfl)))
        refine ⟨i1, hQ _ _ ⟨_, rfl, rfl, ⟨?_, ?_, ?_, ?_⟩, f1⟩ rfl rfl⟩
        · rw [mu_I_off _ _ _ (by omega), mu_I_upd, h7]
        · rw [mu_I_upd, mu_I_off _ _ _ (by omega), h8]
        · rw [mu_I_off _ _ _ (by omega), mu_I_off _ _ _ (by omega), h9]
        · rw [mu_I_off _ _ _ (by omega), mu_I_off _ _ _ (by omega), h10]
      · simp (disch := omega) only [li_n, nI_add, pk_mul, nI_clamp, nI_ltI, nI_leI, nI_eq, mi_n, Nat.add_zero, true_and, and_true, true_or, or_true, false_or, or_false, not_false_eq_true, not_true_eq_false, implies_true, forall_const, ne_eq, Classical.not_not, reduceCtorEq, nor_p, cI_1n, bI_1n, cI_F, cI_T, cI_0, cI_0n, bI_0, bI_0n, cI_01, bI_01, Nat.reduceLeDiff, Nat.reduceLT, Nat.reduceEqDiff, Nat.reduceSub, Nat.reduceAdd, Nat.lt_irrefl, Nat.le_refl, false_implies, true_implies]
        first
          | exact ⟨fun _ => bad (ly_1 h3), fun _ => bad (ly_1 h3)⟩
          | exact bad (ly_1 h3)
          | exact fun _ => bad (ly_1 h3)
    · simp (disch := omega) only [li_n, nI_add, pk_mul, nI_clamp, nI_ltI, nI_leI, nI_eq, mi_n, Nat.add_zero, true_and, and_true, true_or, or_true, false_or, or_false, not_false_eq_true, not_true_eq_false, implies_true, forall_const, ne_eq, Classical.not_not, reduceCtorEq, nor_p, cI_1n, bI_1n, cI_F, cI_T, cI_0, cI_0n, bI_0, bI_0n, cI_01, bI_01, Nat.reduceLeDiff, Nat.reduceLT, Nat.reduceEqDiff, Nat.reduceSub, Nat.reduceAdd, Nat.lt_irrefl, Nat.le_refl, false_implies, true_implies]
      refine mu_cI sp_X11_isSheetN hL ?_
      simp (disch := omega) only [li_n, nI_add, pk_mul, nI_clamp, nI_ltI, nI_leI, nI_eq, mi_n, Nat.add_zero, true_and, and_true, true_or, or_true, false_or, or_false, not_false_eq_true, not_true_eq_false, implies_true, forall_const, ne_eq, Classical.not_not, reduceCtorEq, nor_p, cI_1n, bI_1n, cI_F, cI_T, cI_0, cI_0n, bI_0, bI_0n, cI_01, bI_01, Nat.reduceLeDiff, Nat.reduceLT, Nat.reduceEqDiff, Nat.reduceSub, Nat.reduceAdd, Nat.lt_irrefl, Nat.le_refl, false_implies, true_implies]
      refine ⟨fun h3 => mu_cI sp_X11_isSlotN hL ?_, fun h3 => mu_cI sp_X11_isSlotN hL ?_⟩
      · simp (disch := omega) only [li_n, nI_add, pk_mul, nI_clamp, nI_ltI, nI_leI, nI_eq, mi_n, Nat.add_zero, true_and, and_true, true_or, or_true, false_or, or_false, not_false_eq_true, not_true_eq_false, implies_true, forall_const, ne_eq, Classical.not_not, reduceCtorEq, nor_p, cI_1n, bI_1n, cI_F, cI_T, cI_0, cI_0n, bI_0, bI_0n, cI_01, bI_01, Nat.reduceLeDiff, Nat.reduceLT, Nat.reduceEqDiff, Nat.reduceSub, Nat.reduceAdd, Nat.lt_irrefl, Nat.le_refl, false_implies, true_implies]
        first
          | exact ⟨fun _ => bad (ly_2 h3), fun _ => bad (ly_2 h3)⟩
          | exact bad (ly_2 h3)
          | exact fun _ => bad (ly_2 h3)
      · simp (disch := omega) only [md_T0 hM, md_R4 hM, md_T4 hM, md_N4 hM, md_R5 hM, md_T5 hM, md_N5 hM, md_R7 hM, md_T7 hM, md_N7 hM, md_R8 hM, md_T8 hM, md_N8 hM, md_R9 hM, md_T9 hM, md_N9 hM, hw7, hw8, hw9, li_n, nI_add, pk_mul, nI_clamp, nI_ltI, nI_leI, nI_eq, mi_n, Nat.add_zero, true_and, and_true, true_or, or_true, false_or, or_false, not_false_eq_true, not_true_eq_false, implies_true, forall_const, ne_eq, Classical.not_not, reduceCtorEq, nor_p, cI_1n, bI_1n, cI_F, cI_T, cI_0, cI_0n, bI_0, bI_0n, cI_01, bI_01, Nat.reduceLeDiff, Nat.reduceLT, Nat.reduceEqDiff, Nat.reduceSub, Nat.reduceAdd, Nat.lt_irrefl, Nat.le_refl, false_implies, true_implies]
        refine ⟨fun h => bad (fun q => h q.1), fun h => ?_⟩
        obtain ⟨i, i1, rfl, i3, i2⟩ := ix_of (v := v1) (n := 5) ⟨h.1, by omega⟩
        obtain ⟨j, j1, rfl, j3, j2⟩ := ix_of (v := v3) (n := 4) ⟨h3.1, by omega⟩
        rw [cif_t ⟨h, Or.inr (Or.inr (Or.inr ⟨rfl, h3⟩))⟩, j3, i3] at hQ
        obtain ⟨hsj, -⟩ := hwS j j1
        have mj : nI 0 ≤ A4 j ↔ ¬ A4 j = -1 := by rcases hsj with e | e | e <;> rw [e] <;> decide
        simp (disch := omega) only [h4, h7, mj, li_n, nI_add, pk_mul, nI_clamp, nI_ltI, nI_leI, nI_eq, mi_n, Nat.add_zero, true_and, and_true, true_or, or_true, false_or, or_false, not_false_eq_true, not_true_eq_false, implies_true, forall_const, ne_eq, Classical.not_not, reduceCtorEq, nor_p, cI_1n, bI_1n, cI_F, cI_T, cI_0, cI_0n, bI_0, bI_0n, cI_01, bI_01, Nat.reduceLeDiff, Nat.reduceLT, Nat.reduceEqDiff, Nat.reduceSub, Nat.reduceAdd, Nat.lt_irrefl, Nat.le_refl, false_implies, true_implies]
        refine ⟨j1, fun e => ⟨i1, i1, i1, j1, i1, ?_⟩, fun e => ?_⟩
        · rw [cif_f (fun q => e q.2), cif_f (show ¬ (nI 2 = 1) by decide), cif_t (show nI 2 = 2 from rfl), cif_t (show nI 2 = 2 from rfl)] at hQ
          have e5 : mu_I (mu_sI (mu_sI g (y + 7) i (nI 2)) (y + 8) i (nI j)) (y + 5) j = A5 j := by rw [mu_I_off _ _ _ (by omega), mu_I_off _ _ _ (by omega), h5]
          rw [e5]
          refine lp (n := 24) (P := fun k => ∀ gi, mu_fr (mSlW y) g gi → mu_I gi (y + 7) = upd B7 i (nI 2) → mu_I gi (y + 8) = upd B8 i (nI j) → mu_I gi (y + 9) = upd B9 i (A5 j) → mu_I gi (y + 10) = cpy B10 (24 * i) A6 (24 * j) k → mu_go w mm_X11_lay (d + 2) L Q 130 [some (.ref y), some (.int (nI i)), none, some (.int (nI j)), none, some (.int (B7 i)), some (.int (nI k))] [] gi) (fun gi fi i7 i8 i9 i10 => fm_X11_lay_130 ⟨fun _ => hQ _ _ ⟨_, rfl, rfl, ⟨i7, i8, i9, i10⟩, fi⟩ fi.2.2.2.1 fi.2.2.2.2.1, fun q => absurd (Int32.le_refl _) q⟩) (fun k hk ih gi fi i7 i8 i9 i10 => fm_X11_lay_130 ?_) _ (mu_fr_tr (mu_fr_tr (mu_fr_sI (Or.inl rfl)) (mu_fr_sI (Or.inr (Or.inl rfl)))) (mu_fr_sI (Or.inr (Or.inr (Or.inl rfl))))) ?_ ?_ ?_ ?_
          · have Mi := md_L_fr hM fi
            have e6 : mu_I gi (y + 6) = A6 := by rw [fi.2.2.2.2.2 _ (by unfold mSlW; omega)]; exact h6
            simp (disch := omega) only [md_T0 Mi, md_R6 Mi, md_T6 Mi, md_N6 Mi, md_R10 Mi, md_T10 Mi, md_N10 Mi, e6, hw10, li_n, nI_add, pk_mul, nI_clamp, nI_ltI, nI_leI, nI_eq, mi_n, Nat.add_zero, true_and, and_true, true_or, or_true, false_or, or_false, not_false_eq_true, not_true_eq_false, implies_true, forall_const, ne_eq, Classical.not_not, reduceCtorEq, nor_p, cI_1n, bI_1n, cI_F, cI_T, cI_0, cI_0n, bI_0, bI_0n, cI_01, bI_01, Nat.reduceLeDiff, Nat.reduceLT, Nat.reduceEqDiff, Nat.reduceSub, Nat.reduceAdd, Nat.lt_irrefl, Nat.le_refl, false_implies, true_implies]
            refine ⟨fun q => absurd q (by omega), fun _ => ⟨by omega, by omega, ih _ (mu_fr_tr fi (mu_fr_sI (Or.inr (Or.inr (Or.inr rfl))))) ?_ ?_ ?_ ?_⟩⟩
            · rw [mu_I_off _ _ _ (by omega)]; exact i7
            · rw [mu_I_off _ _ _ (by omega)]; exact i8
            · rw [mu_I_off _ _ _ (by omega)]; exact i9
            · rw [mu_I_upd, i10]; exact cpy_s
          · rw [mu_I_off _ _ _ (by omega), mu_I_off _ _ _ (by omega), mu_I_upd, h7]
          · rw [mu_I_off _ _ _ (by omega), mu_I_upd, mu_I_off _ _ _ (by omega), h8]
          · rw [mu_I_upd, mu_I_off _ _ _ (by omega), mu_I_off _ _ _ (by omega), h9]
          · rw [mu_I_off _ _ _ (by omega), mu_I_off _ _ _ (by omega), mu_I_off _ _ _ (by omega), h10, cpy_0]
        · rw [cif_t (show nI 2 = 2 ∧ A4 j = -1 from ⟨rfl, e⟩)] at hQ
          exact sl_1 hQ rfl h7 h8 h9 h10
    · simp (disch := omega) only [li_n, nI_add, pk_mul, nI_clamp, nI_ltI, nI_leI, nI_eq, mi_n, Nat.add_zero, true_and, and_true, true_or, or_true, false_or, or_false, not_false_eq_true, not_true_eq_false, implies_true, forall_const, ne_eq, Classical.not_not, reduceCtorEq, nor_p, cI_1n, bI_1n, cI_F, cI_T, cI_0, cI_0n, bI_0, bI_0n, cI_01, bI_01, Nat.reduceLeDiff, Nat.reduceLT, Nat.reduceEqDiff, Nat.reduceSub, Nat.reduceAdd, Nat.lt_irrefl, Nat.le_refl, false_implies, true_implies]
      refine mu_cI sp_X11_isSlotN hL ?_
      simp (disch := omega) only [md_T0 hM, md_R7 hM, md_T7 hM, md_N7 hM, md_R8 hM, md_T8 hM, md_N8 hM, hw7, hw8, li_n, nI_add, pk_mul, nI_clamp, nI_ltI, nI_leI, nI_eq, mi_n, Nat.add_zero, true_and, and_true, true_or, or_true, false_or, or_false, not_false_eq_true, not_true_eq_false, implies_true, forall_const, ne_eq, Classical.not_not, reduceCtorEq, nor_p, cI_1n, bI_1n, cI_F, cI_T, cI_0, cI_0n, bI_0, bI_0n, cI_01, bI_01, Nat.reduceLeDiff, Nat.reduceLT, Nat.reduceEqDiff, Nat.reduceSub, Nat.reduceAdd, Nat.lt_irrefl, Nat.le_refl, false_implies, true_implies]
      refine ⟨fun h => bad (fun q => h q.1), fun h => ?_⟩
      obtain ⟨i, i1, rfl, i3, i2⟩ := ix_of (v := v1) (n := 5) ⟨h.1, by omega⟩
      rw [cif_t ⟨h, Or.inr (Or.inl rfl)⟩, cif_f (fun q => absurd q.1 (by decide)), cif_f (by decide), cif_f (by decide), cif_f (by decide), i3] at hQ
      simp (disch := omega) only [h7, li_n, nI_add, pk_mul, nI_clamp, nI_ltI, nI_leI, nI_eq, mi_n, Nat.add_zero, true_and, and_true, true_or, or_true, false_or, or_false, not_false_eq_true, not_true_eq_false, implies_true, forall_const, ne_eq, Classical.not_not, reduceCtorEq, nor_p, cI_1n, bI_1n, cI_F, cI_T, cI_0, cI_0n, bI_0, bI_0n, cI_01, bI_01, Nat.reduceLeDiff, Nat.reduceLT, Nat.reduceEqDiff, Nat.reduceSub, Nat.reduceAdd, Nat.lt_irrefl, Nat.le_refl, false_implies, true_implies]
      have f1 : mu_fr (mSlW y) g (mu_sI (mu_sI g (y + 7) i (nI 3)) (y + 8) i v3) := mu_fr_tr (mu_fr_sI (Or.inl rfl)) (mu_fr_sI (Or.inr (Or.inl rfl)))
      refine ⟨i1, i1, i1, hQ _ _ ⟨_, rfl, rfl, ⟨?_, ?_, ?_, ?_⟩, f1⟩ rfl rfl⟩
      · rw [mu_I_off _ _ _ (by omega), mu_I_upd, h7]
      · rw [mu_I_upd, mu_I_off _ _ _ (by omega), h8]
      · rw [mu_I_off _ _ _ (by omega), mu_I_off _ _ _ (by omega), h9]
      · rw [mu_I_off _ _ _ (by omega), mu_I_off _ _ _ (by omega), h10]
  · obtain ⟨a0, a1, a2, a3⟩ := v03' hv
    have hbd := bad (ly_x hv)
    simp (disch := omega) only [a0, a1, a2, a3, not_false_eq_true, true_implies, false_implies, and_true, true_and, not_true_eq_false, implies_true]
    refine mu_cI sp_X11_isSlotN hL ?_
    simp (disch := omega) only [li_n, nI_add, pk_mul, nI_clamp, nI_ltI, nI_leI, nI_eq, mi_n, Nat.add_zero, true_and, and_true, true_or, or_true, false_or, or_false, not_false_eq_true, not_true_eq_false, implies_true, forall_const, ne_eq, Classical.not_not, reduceCtorEq, nor_p, cI_1n, bI_1n, cI_F, cI_T, cI_0, cI_0n, bI_0, bI_0n, cI_01, bI_01, Nat.reduceLeDiff, Nat.reduceLT, Nat.reduceEqDiff, Nat.reduceSub, Nat.reduceAdd, Nat.lt_irrefl, Nat.le_refl, false_implies, true_implies]
    first
      | exact ⟨fun _ => hbd, fun _ => hbd⟩
      | exact hbd
      | exact fun _ => hbd
theorem wH_lay (hW : wf_s s) (hwS : sd_wS A4 A5) (hwH : sd_wH B7 B8 B9) : sd_wH (pLay s A4 A5 A6 B7 B8 B9 B10 v1 v2 v3).2.1 (pLay s A4 A5 A6 B7 B8 B9 B10 v1 v2 v3).2.2.1 (pLay s A4 A5 A6 B7 B8 B9 B10 v1 v2 v3).2.2.2.1 := by
  unfold pLay
  by_cases h : lyOK s v1 v2 v3
  · rw [cif_t h]
    by_cases h2 : v2 = 2 ∧ A4 v3.toNatClampNeg = -1
    · rw [cif_t h2]; exact hwH
    · rw [cif_f h2]
      dsimp only
      intro i hi
      have hv2 : v2 = 0 ∨ v2 = 1 ∨ v2 = 2 ∨ v2 = 3 := by
        rcases h.2 with q | q | q | q
        · exact Or.inl q
        · exact Or.inr (Or.inr (Or.inr q))
        · exact Or.inr (Or.inl q.1)
        · exact Or.inr (Or.inr (Or.inl q.1))
      have e9 : ∀ j, j ≠ v1.toNatClampNeg → (cif (v2 = 2) (upd B9 v1.toNatClampNeg (A5 v3.toNatClampNeg)) B9) j = B9 j := fun j hj => by
        by_cases e : v2 = 2
        · rw [cif_t e, pk_un hj]
        · rw [cif_f e]
      by_cases e : i = v1.toNatClampNeg
      · rw [e, pk_us, pk_us]
        refine ⟨hv2, fun e1 => ?_, fun e2 => ?_⟩
        · rw [cif_t e1]
          rcases h.2 with q | q | q | q
          · rw [e1] at q; exact absurd q (by decide)
          · rw [e1] at q; exact absurd q (by decide)
          · obtain ⟨k, k1, k2, k3, -⟩ := ix_of q.2
            rw [k3]
            exact ⟨_, (wm_b (ws_m hW) k1).2.1, wm_v (ws_m hW) k1 (by omega)⟩
          · have := q.1; rw [e1] at this; exact absurd this (by decide)
        · rw [cif_t e2, pk_us]
          rcases h.2 with q | q | q | q
          · rw [e2] at q; exact absurd q (by decide)
          · rw [e2] at q; exact absurd q (by decide)
          · have := q.1; rw [e2] at this; exact absurd this (by decide)
          · obtain ⟨k, k1, k2, k3, -⟩ := ix_of (v := v3) (n := 4) ⟨q.2.1, by have := q.2.2; omega⟩
            rw [k3]
            exact (hwS k k1).2
      · rw [pk_un e, pk_un e, e9 i e]
        exact hwH i hi
  · rw [cif_f h]; exact hwH
end ShA
