/-! CLIENTS: moves cut by a sheet: both public calls -/
noncomputable def ctV (f : Nat → Int32) (m : Nat) : Int32 := cI (¬ f m = 0)
/-- the row after the first n moves were cut, or not, by f -/
noncomputable def ctR (s f : Nat → Int32) : Nat → Nat → Int32
  | 0 => s
  | m + 1 => upd (ctR s f m) (60 + 8 * m + 7) (ctV f m)
noncomputable def ctN (s f : Nat → Int32) (n : Nat) : Nat := sumN (fun m => cN (¬ s (60 + 8 * m + 7) = ctV f m)) n
noncomputable def ctQ (s A4 A5 A6 : Nat → Int32) (i : Nat) : Int32 × (Nat → Int32) := cif (A4 i = -1) (-1000000011, s) (nI (ctN s (fun k => A6 (24 * i + k)) (min (nm s) (A5 i).toNatClampNeg)), ctR s (fun k => A6 (24 * i + k)) (min (nm s) (A5 i).toNatClampNeg))
noncomputable def pCuts (s A4 A5 A6 : Nat → Int32) (v1 : Int32) : Int32 × (Nat → Int32) := cif (0 ≤ v1.toInt ∧ v1.toInt ≤ 3) (ctQ s A4 A5 A6 v1.toNatClampNeg) (-1000000001, s)
section ShB
variable {w : mu_O} {d x y E : Nat} {g g1 : mu_H} {s f A4 A5 A6 : Nat → Int32} {v1 : Int32}
theorem ctV_01 (f : Nat → Int32) (m : Nat) : ctV f m = 0 ∨ ctV f m = 1 := cI_01 _
theorem ct_o {K : Nat} : ∀ {n : Nat}, (∀ j, j < n → K ≠ 60 + 8 * j + 7) → ctR s f n K = s K
  | 0, _ => rfl
  | n + 1, h => by
    unfold ctR
    rw [pk_un (h n (by omega))]
    exact ct_o (fun j hj => h j (by omega))
theorem ct_w (hw : wf_s s) : ∀ {n : Nat}, n ≤ nm s → wf_s (ctR s f n) ∧ nm (ctR s f n) = nm s
  | 0, _ => ⟨hw, rfl⟩
  | n + 1, h => by
    obtain ⟨q1, q2⟩ := ct_w hw (n := n) (by omega)
    refine ⟨wr_mcut q1 (by omega) (ctV_01 f n), ?_⟩
    unfold nm
    rw [ct_o (fun j _ => by omega)]
theorem wr_cuts (hw : wf_s s) : wf_s (pCuts s A4 A5 A6 v1).2 := by
  unfold pCuts ctQ
  by_cases h : 0 ≤ v1.toInt ∧ v1.toInt ≤ 3
  · rw [cif_t h]
    by_cases h2 : A4 v1.toNatClampNeg = -1
    · rw [cif_t h2]; exact hw
    · rw [cif_f h2]; exact (ct_w hw (Nat.min_le_left _ _)).1
  · rw [cif_f h]; exact hw
theorem ctN_s (s f : Nat → Int32) (n : Nat) : (nI (ctN s f n) : Int32) + cI (¬ s (60 + 8 * n + 7) = ctV f n) = nI (ctN s f (n + 1)) := by
  rw [cI_n, nI_add]
  rfl
theorem pc_cuts (hC : cl_L w x g) (hV : sc_V w E (x + 1) s g) (hW : wf_s s) (hS : sd_S x A4 A5 A6 g) (hwS : sd_wS A4 A5) : mu_mp w mm_X10_cuts (d + 2) [.ref x, .int v1] g (cPost w x E (pCuts s A4 A5 A6 v1) g) := by
  refine mu_mkp mk_X10_cuts rfl (fun L hL Q hQ => fm_X10_cuts_0 (mu_cI sp_X10_isSheet hL ?_))
  have hc := ws_c hW
  have hb := wc_b hc
  unfold pCuts ctQ at hQ
  rw [cI_0]
  refine ⟨fun h => ?_, fun h => ?_⟩
  · replace h := Classical.not_not.mp h
    rw [cif_t h] at hQ
    obtain ⟨i, i1, rfl, i3, i2⟩ := ix_of (v := v1) (n := 4) ⟨h.1, by omega⟩
    rw [i3] at hQ
    obtain ⟨s1, s2, s3⟩ := hS i i1
    obtain ⟨-, n, n1, n2⟩ := hwS i i1
    rw [n2, nI_clamp (by omega)] at hQ
    have hin : mu_in (nI i) 4 := mu_in_n i1 (by omega)
    rw [cl_T hC, cl_R8 hC, cl_T8 hC, cl_N8 hC, i3, cl_RS hC i1, cl_S1 hC i1]
    refine ⟨rfl, ⟨by decide, by decide⟩, hin, rfl, mu_cI (sp_X5_isMissing (cl_S1 hC i1)) hL ?_⟩
    rw [cI_0, s1]
    refine ⟨fun h2 => ?_, fun h2 => ?_⟩
    · rw [cif_f h2] at hQ
      generalize hf : (fun k => A6 (24 * i + k)) = f at hQ
      refine lp (n := min (nm s) n) (P := fun m => ∀ gi, mu_fr (fun a => x + 1 ≤ a ∧ a < x + 42) g gi → sc_V w E (x + 1) (ctR s f m) gi → mu_go w mm_X10_cuts (d + 2) L Q 33 [some (.ref x), none, some (.ref (x + 138 + 2 * i)), some (.int (nI (ctN s f m))), some (.int (nI m))] [] gi) (fun gi fi Vi => fm_X10_cuts_33 ?_) (fun m hm ih gi fi Vi => fm_X10_cuts_33 ?_) g mu_fr_rf hV
      · obtain ⟨wi, ni⟩ := ct_w (f := f) hW (n := min (nm s) n) (Nat.min_le_left _ _)
        have Ci := cl_fr hC fi
        have e2 : mu_I gi (x + 138 + 2 * i) 2 = nI n := by rw [fi.2.2.2.2.2 _ (by omega)]; exact s2.trans n2
        have fin := cp_ok (L := L) hC hQ fi (fun a q => Or.inl q) rfl Vi
        refine ⟨cl_S1 Ci i1, fun _ => fin, fun q => ⟨cl_T Ci, by rw [cl_R0 Ci]; exact sc_T (cl_n Ci), fun _ => fin, fun q2 => ?_⟩⟩
        rw [e2, nI_leI (by omega) (by omega)] at q
        rw [cl_R0 Ci, sv_1 Vi (ws_c wi), ni, nI_leI (by omega) (by omega)] at q2
        omega
      · have hm2 : m < nm s ∧ m < n := by omega
        obtain ⟨wi, ni⟩ := ct_w (f := f) hW (n := m) (by omega)
        have Ci := cl_fr hC fi
        have Ni := cl_n Ci
        have e2 : mu_I gi (x + 138 + 2 * i) 2 = nI n := by rw [fi.2.2.2.2.2 _ (by omega)]; exact s2.trans n2
        have e6 : mu_I gi (x + 139 + 2 * i) m = f m := by rw [fi.2.2.2.2.2 _ (by omega), ← hf]; exact s3 m (by omega)
        have e11 : mu_I gi (x + 1) 11 = nI (nm s) := by rw [sv_1 Vi (ws_c wi), ni]
        have e7 : mu_I gi (x + 1 + 21 + m) 7 = s (60 + 8 * m + 7) := by
          rw [Vi.2.2.2.1 m 7 (by rw [ni]; omega) (by omega)]
          exact ct_o (fun j hj => by omega)
        have go : ∀ u, u = ctV f m → mu_callI w mm_X1_becomeCut (d + 1) L [.ref (x + 1 + 21 + m), .int u] gi (fun x6 g5 => mu_callI w mm_X10_asInt (d + 1) L [.int x6] g5 (fun x8 g7 => mu_go w mm_X10_cuts (d + 2) L Q 33 [some (.ref x), none, some (.ref (x + 138 + 2 * i)), some (.int (nI (ctN s f m) + x8)), some (.int (nI (m + 1)))] [] g7)) := fun u hu => by
          rw [hu]
          have hLi := mu_fr_fit fi hL
          refine mu_cI (sp_X1_becomeCut (sc_TM Ni (by omega)) (ctV_01 f m)) hLi (mu_cI sp_X10_asInt hLi ?_)
          rw [cI_c01, e7, ctN_s]
          exact ih _ (mu_fr_tr fi (mu_fr_sI ⟨by omega, by omega⟩)) (su_M Vi (ws_c wi) (by rw [ni]; omega) (by omega))
        simp (disch := omega) only [cl_S1 Ci, cl_S2 Ci, cl_S3 Ci, cl_S4 Ci, cl_T Ci, cl_R0 Ci, e2, e6, e11, sc_T Ni, sc_R0 Ni, sc_R1 Ni, sc_R2 Ni, sc_R3 Ni, sc_R4 Ni, sc_R5 Ni, sc_R6 Ni, sc_R7 Ni, sc_R8 Ni, sc_R9 Ni, sc_T1 Ni, sc_N1 Ni, sc_RP Ni, sc_T2 Ni, sc_N2 Ni, sc_RM Ni, sc_T3 Ni, sc_N3 Ni, sc_T4 Ni, sc_N4 Ni, sc_T5 Ni, sc_N5 Ni, sc_T6 Ni, sc_N6 Ni, sc_T7 Ni, sc_N7 Ni, sc_T8 Ni, sc_N8 Ni, sc_T9 Ni, sc_N9 Ni, sc_T10 Ni, sc_RL0 Ni, sc_RL1 Ni, sc_T11 Ni, sc_N11 Ni, sc_T12 Ni, sc_N12 Ni, sc_TP Ni, sc_TM Ni, sc_w Ni, sc_wj Ni, sc_wp Ni, li_n, nI_add, pk_mul, nI_clamp, nI_ltI, nI_leI, nI_eq, mi_n, Nat.add_zero, true_and, and_true, true_or, or_true, false_or, or_false, not_false_eq_true, not_true_eq_false, implies_true, forall_const, ne_eq, Classical.not_not, reduceCtorEq, nor_p, cI_1n, bI_1n, cI_F, cI_T, cI_0, cI_0n, bI_0, bI_0n, cI_01, bI_01, Nat.reduceLeDiff, Nat.reduceLT, Nat.reduceEqDiff, Nat.reduceSub, Nat.reduceAdd, Nat.lt_irrefl, Nat.le_refl, false_implies, true_implies]
        refine ⟨fun q => absurd q (by omega), fun _ => ⟨fun q => absurd q (by omega), fun _ => ⟨by omega, by omega, fun q => go _ (cI_f (fun z => z q)).symm, fun q => go _ (cI_t q).symm⟩⟩⟩
    · rw [cif_t (Classical.not_not.mp h2)] at hQ
      exact cp_0 (L := L) hC hQ rfl hV
  · rw [cif_f (fun q => h (fun z => z q))] at hQ
    exact cp_0 (L := L) hC hQ rfl hV
theorem pm_cuts (hM : md_L w y g) (hs : mu_I g (y + 1) = s) (hc : wf_c s) (hW : wf_s s) (hca : caC y s g) (h4 : mu_I g (y + 4) = A4) (h5 : mu_I g (y + 5) = A5) (h6 : mu_I g (y + 6) = A6) (hwS : sd_wS A4 A5) : mu_mp w mm_X11_cuts (d + 3) [.ref y, .int v1] g (mPost w y (pCuts s A4 A5 A6 v1) g) := by
  refine mu_mkp mk_X11_cuts rfl (fun L hL Q hQ => fm_X11_cuts_0 (mu_cI sp_X11_isSheetN hL ?_))
  have hb := wc_b hc
  unfold pCuts ctQ at hQ
  rw [cI_0]
  refine ⟨fun h => ?_, fun h => ?_⟩
  · replace h := Classical.not_not.mp h
    rw [cif_t h] at hQ
    obtain ⟨i, i1, rfl, i3, i2⟩ := ix_of (v := v1) (n := 4) ⟨h.1, by omega⟩
    rw [i3] at hQ
    obtain ⟨hsi, n, n1, n2⟩ := hwS i i1
    rw [n2, nI_clamp (by omega)] at hQ
    have hin : mu_in (nI i) 4 := mu_in_n i1 (by omega)
    have m1 : 0 ≤ A4 i ↔ ¬ A4 i = -1 := by rcases hsi with e | e | e <;> rw [e] <;> decide
    rw [md_T0 hM, md_R4 hM, md_T4 hM, md_N4 hM, h4, i3, m1]
    refine ⟨rfl, rfl, hin, fun h2 => ?_, fun h2 => ?_⟩
    · rw [cif_f h2] at hQ
      generalize hf : (fun k => A6 (24 * i + k)) = f at hQ
      refine lp (n := min (nm s) n) (P := fun m => ∀ gi, mu_f2 (rfW y) g gi → mu_I gi (y + 1) = ctR s f m → caC y (ctR s f m) gi → mu_go w mm_X11_cuts (d + 3) L Q 27 [some (.ref y), some (.int (nI i)), some (.int (nI (ctN s f m))), some (.int (nI m)), none] [] gi) (fun gi fi si ci => fm_X11_cuts_27 ?_) (fun m hm ih gi fi si ci => fm_X11_cuts_27 ?_) g f2_rf hs hca
      · obtain ⟨wi, ni⟩ := ct_w (f := f) hW (n := min (nm s) n) (Nat.min_le_left _ _)
        have Mi := md_L_fr hM (f2_T fi)
        have e5 : mu_I gi (y + 5) i = nI n := by rw [f2_I fi (fun k => by unfold rfW; omega), h5]; exact n2
        have hci := ws_c wi
        have e1 : ctR s f (min (nm s) n) 1 = nI (nm s) := by rw [wc_1 hci, ni]
        simp (disch := omega) only [md_T0 Mi, md_R0 Mi, md_T1 Mi, md_N1 Mi, md_R5 Mi, md_T5 Mi, md_N5 Mi, si, e1, e5, li_n, nI_add, pk_mul, nI_clamp, nI_ltI, nI_leI, nI_eq, mi_n, Nat.add_zero, true_and, and_true, true_or, or_true, false_or, or_false, not_false_eq_true, not_true_eq_false, implies_true, forall_const, ne_eq, Classical.not_not, reduceCtorEq, nor_p, cI_1n, bI_1n, cI_F, cI_T, cI_0, cI_0n, bI_0, bI_0n, cI_01, bI_01, Nat.reduceLeDiff, Nat.reduceLT, Nat.reduceEqDiff, Nat.reduceSub, Nat.reduceAdd, Nat.lt_irrefl, Nat.le_refl, false_implies, true_implies]
        refine ⟨i1, mu_cI sp_X11_least (f2_fit fi hL) ?_⟩
        rw [nI_toInt (by omega), nI_toInt (by omega)]
        have el : (if ((nm s : Nat) : Int) < ((n : Nat) : Int) then nI (nm s) else nI n) = nI (min (nm s) n) := by
          split <;> congr 1 <;> omega
        rw [el]
        exact ⟨fun _ => hQ _ _ ⟨_, rfl, rfl, si, ci, fi⟩ fi.2.2.2.1 fi.2.2.2.2.1, fun q => absurd (Int32.le_refl _) q⟩
      · have hm2 : m < nm s ∧ m < n := by omega
        obtain ⟨wi, ni⟩ := ct_w (f := f) hW (n := m) (by omega)
        have Mi := md_L_fr hM (f2_T fi)
        have e5 : mu_I gi (y + 5) i = nI n := by rw [f2_I fi (fun k => by unfold rfW; omega), h5]; exact n2
        have e6 : mu_I gi (y + 6) (24 * i + m) = f m := by rw [f2_I fi (fun k => by unfold rfW; omega), h6, ← hf]
        have hci := ws_c wi
        have e1 : ctR s f m 1 = nI (nm s) := by rw [wc_1 hci, ni]
        have e7 : ctR s f m (60 + 8 * m + 7) = s (60 + 8 * m + 7) := ct_o (fun j hj => by omega)
        simp (disch := omega) only [md_T0 Mi, md_R0 Mi, md_T1 Mi, md_N1 Mi, md_R5 Mi, md_T5 Mi, md_N5 Mi, si, e1, e5, li_n, nI_add, pk_mul, nI_clamp, nI_ltI, nI_leI, nI_eq, mi_n, Nat.add_zero, true_and, and_true, true_or, or_true, false_or, or_false, not_false_eq_true, not_true_eq_false, implies_true, forall_const, ne_eq, Classical.not_not, reduceCtorEq, nor_p, cI_1n, bI_1n, cI_F, cI_T, cI_0, cI_0n, bI_0, bI_0n, cI_01, bI_01, Nat.reduceLeDiff, Nat.reduceLT, Nat.reduceEqDiff, Nat.reduceSub, Nat.reduceAdd, Nat.lt_irrefl, Nat.le_refl, false_implies, true_implies]
        refine ⟨i1, mu_cI sp_X11_least (f2_fit fi hL) ?_⟩
        rw [nI_toInt (by omega), nI_toInt (by omega)]
        have el : (if ((nm s : Nat) : Int) < ((n : Nat) : Int) then nI (nm s) else nI n) = nI (min (nm s) n) := by
          split <;> congr 1 <;> omega
        rw [el]
        have nx : ∀ u, u = ctV f m → mu_go w mm_X11_cuts (d + 3) L Q 27 [some (.ref y), some (.int (nI i)), some (.int (nI (ctN s f m) + cI (¬ s (60 + 8 * m + 7) = u))), some (.int (nI (m + 1))), none] [] (becG y gi (60 + 8 * m + 7) u) := fun u hu => by
          rw [hu, ctN_s]
          exact ih _ (f2_tr fi bec_f) (bec_s si) bec_c
        simp (disch := omega) only [md_T0 Mi, md_R6 Mi, md_T6 Mi, md_N6 Mi, e6, li_n, nI_add, pk_mul, nI_clamp, nI_ltI, nI_leI, nI_eq, mi_n, Nat.add_zero, true_and, and_true, true_or, or_true, false_or, or_false, not_false_eq_true, not_true_eq_false, implies_true, forall_const, ne_eq, Classical.not_not, reduceCtorEq, nor_p, cI_1n, bI_1n, cI_F, cI_T, cI_0, cI_0n, bI_0, bI_0n, cI_01, bI_01, Nat.reduceLeDiff, Nat.reduceLT, Nat.reduceEqDiff, Nat.reduceSub, Nat.reduceAdd, Nat.lt_irrefl, Nat.le_refl, false_implies, true_implies]
        refine ⟨fun q => absurd q (by omega), fun _ => ⟨by omega, fun q => mu_cI sp_X11_moveAt (f2_fit fi hL) ?_, fun q => mu_cI sp_X11_moveAt (f2_fit fi hL) ?_⟩⟩
        · simp (disch := omega) only [md_T0 Mi, li_n, nI_add, pk_mul, nI_clamp, nI_ltI, nI_leI, nI_eq, mi_n, Nat.add_zero, true_and, and_true, true_or, or_true, false_or, or_false, not_false_eq_true, not_true_eq_false, implies_true, forall_const, ne_eq, Classical.not_not, reduceCtorEq, nor_p, cI_1n, bI_1n, cI_F, cI_T, cI_0, cI_0n, bI_0, bI_0n, cI_01, bI_01, Nat.reduceLeDiff, Nat.reduceLT, Nat.reduceEqDiff, Nat.reduceSub, Nat.reduceAdd, Nat.lt_irrefl, Nat.le_refl, false_implies, true_implies]
          have hLi := f2_fit fi hL
          refine mu_cI (sp_X11_becomesN Mi si (by omega)) hLi ?_
          rw [e7]
          have n0 := nx (nI 0) (cI_f (fun z => z q)).symm
          refine ⟨fun q2 => ?_, fun q2 => ?_⟩
          · rw [cI_t q2, show (nI (ctN s f m) : Int32) + 1 = nI (ctN s f m + 1) from nI_add _ 1] at n0; exact n0
          · rw [cI_f (fun z => z q2), show (nI (ctN s f m) : Int32) + 0 = nI (ctN s f m) from nI_add _ 0] at n0; exact n0
        · simp (disch := omega) only [md_T0 Mi, li_n, nI_add, pk_mul, nI_clamp, nI_ltI, nI_leI, nI_eq, mi_n, Nat.add_zero, true_and, and_true, true_or, or_true, false_or, or_false, not_false_eq_true, not_true_eq_false, implies_true, forall_const, ne_eq, Classical.not_not, reduceCtorEq, nor_p, cI_1n, bI_1n, cI_F, cI_T, cI_0, cI_0n, bI_0, bI_0n, cI_01, bI_01, Nat.reduceLeDiff, Nat.reduceLT, Nat.reduceEqDiff, Nat.reduceSub, Nat.reduceAdd, Nat.lt_irrefl, Nat.le_refl, false_implies, true_implies]
          have hLi := f2_fit fi hL
          refine mu_cI (sp_X11_becomesN Mi si (by omega)) hLi ?_
          rw [e7]
          have n0 := nx (nI 1) (cI_t q).symm
          refine ⟨fun q2 => ?_, fun q2 => ?_⟩
          · rw [cI_t q2, show (nI (ctN s f m) : Int32) + 1 = nI (ctN s f m + 1) from nI_add _ 1] at n0; exact n0
          · rw [cI_f (fun z => z q2), show (nI (ctN s f m) : Int32) + 0 = nI (ctN s f m) from nI_add _ 0] at n0; exact n0
    · rw [cif_t (Classical.not_not.mp h2)] at hQ
      exact mp_0 hQ rfl hs hca
  · rw [cif_f (fun q => h (fun z => z q))] at hQ
    exact mp_0 hQ rfl hs hca
end ShB
