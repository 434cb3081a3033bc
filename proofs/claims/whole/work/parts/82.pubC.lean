/-! CLIENTS: told, as, choose: both public calls -/
noncomputable def pChoose (s : Nat → Int32) (v : Int32) : Int32 × (Nat → Int32) := cif (0 ≤ v.toInt ∧ v.toInt < (nm s : Int)) (cif (fsN (fun i => vC s i = v.toNatClampNeg) (nch s) < nch s) (-1000000002, s) (cif (nch s < 6) (nI (nch s + 1), upd (upd s (260 + nch s) v) 4 (nI (nch s + 1))) (-1000000003, s))) (-1000000001, s)
section Qf
variable {w : mu_O} {d x y E : Nat} {g g1 g2 : mu_H} {s : Nat → Int32}
theorem pc_told {v u : Int32} (hC : cl_L w x g) (hV : sc_V w E (x + 1) s g) (hW : wf_s s) : mu_mp w mm_X10_told (d + 4) [.ref x, .int v, .int u] g (cPost w x E (pTold s v u) g) := by
  refine mu_mkp mk_X10_told rfl (fun L hL Q hQ => fm_X10_told_0 ?_)
  have hc := ws_c hW
  have hb := wc_b hc
  have hN := cl_n hC
  refine ⟨cl_T hC, by rw [cl_R0 hC]; exact sc_T hN, ?_⟩
  rw [cl_R0 hC]
  refine mu_cI (sp_X4_hasPerson hN hV hc) hL ?_
  unfold pTold at hQ
  rw [cI_0]
  refine ⟨fun h => ?_, fun h => mu_cI (sp_X10_wN (a := 0) (b := 4) rfl rfl) hL ?_⟩
  · rw [cif_f (fun q => h q.1)] at hQ
    exact cp_0 (L := L) hC hQ rfl hV
  · replace h := Classical.not_not.mp h
    rw [cI_0]
    refine ⟨fun h2 => ?_, fun h2 => ?_⟩
    · replace h2 := Classical.not_not.mp h2
      rw [cif_t ⟨h, h2⟩] at hQ
      obtain ⟨k, k1, rfl, k3, k4⟩ := ix_of h
      obtain ⟨n, n1, en, n3, n4⟩ := ix_of (v := u) (n := 5) ⟨by omega, by omega⟩
      have hu : u.toInt = (n : Int) := by rw [en, nI_toInt n4]
      rw [k3, n3] at hQ
      have hP : ∀ f, f < 3 → mu_I g (x + 1 + 13 + k) f = s (20 + 4 * k + f) := fun f hf => hV.2.2.1 k f k1 hf
      simp (disch := omega) only [cl_T hC, cl_R0 hC, sc_T hN, sc_R0 hN, sc_R1 hN, sc_R2 hN, sc_R3 hN, sc_R4 hN, sc_R5 hN, sc_R6 hN, sc_R7 hN, sc_R8 hN, sc_R9 hN, sc_T1 hN, sc_N1 hN, sc_RP hN, sc_T2 hN, sc_N2 hN, sc_RM hN, sc_T3 hN, sc_N3 hN, sc_T4 hN, sc_N4 hN, sc_T5 hN, sc_N5 hN, sc_T6 hN, sc_N6 hN, sc_T7 hN, sc_N7 hN, sc_T8 hN, sc_N8 hN, sc_T9 hN, sc_N9 hN, sc_T10 hN, sc_RL0 hN, sc_RL1 hN, sc_T11 hN, sc_N11 hN, sc_T12 hN, sc_N12 hN, sc_TP hN, sc_TM hN, sc_w hN, sc_wj hN, sc_wp hN, li_n, nI_add, pk_mul, nI_clamp, nI_ltI, nI_leI, nI_eq, mi_n, Nat.add_zero, true_and, and_true, true_or, or_true, false_or, or_false, not_false_eq_true, not_true_eq_false, implies_true, forall_const, ne_eq, Classical.not_not, reduceCtorEq, nor_p, cI_1n, bI_1n, cI_F, cI_T, cI_0, cI_0n, bI_0, bI_0n, cI_01, bI_01, Nat.reduceLeDiff, Nat.reduceLT, Nat.reduceEqDiff, Nat.reduceSub, Nat.reduceAdd, Nat.lt_irrefl, Nat.le_refl, false_implies, true_implies]
      refine ⟨by omega, fun q => ?_, fun q => ?_, fun q => ?_, fun q => ?_, fun q => ?_⟩
      · have e4 : n = 4 := by omega
        subst e4
        rw [cif_t (show u = 4 from en)] at hQ
        exact mu_cIp (sp_X4_lateOf hN hV hc (ws_p hW) (ws_t hW) k1) hL (fun z g1 hz _ _ => cp_j (L := L) hC hQ hz.2 hz.1 hV hc)
      · have e4 : n = 0 := by omega
        subst e4
        rw [cif_f (by rw [en]; decide), cif_f (by rw [en]; decide)] at hQ
        rw [hP 0 (by omega)]
        exact cp_0 (L := L) hC hQ rfl hV
      · have e4 : n = 1 := by omega
        subst e4
        rw [cif_f (by rw [en]; decide), cif_f (by rw [en]; decide)] at hQ
        rw [hP 1 (by omega)]
        exact cp_0 (L := L) hC hQ rfl hV
      · have e4 : n = 2 := by omega
        subst e4
        rw [cif_f (by rw [en]; decide), cif_f (by rw [en]; decide)] at hQ
        rw [hP 2 (by omega)]
        exact cp_0 (L := L) hC hQ rfl hV
      · have e4 : n = 3 := by omega
        subst e4
        rw [cif_f (by rw [en]; decide), cif_t (show u = 3 from en)] at hQ
        exact mu_cI (sp_X4_weaponOf hN hV hc (ws_w hW) k1) hL (cp_0 (L := L) hC hQ rfl hV)
    · rw [cif_f (fun q => h2 (fun z => z q.2))] at hQ
      exact cp_0 (L := L) hC hQ rfl hV
theorem pm_told {v u : Int32} (hM : md_L w y g) (hs : mu_I g (y + 1) = s) (hc : wf_c s) (hW : wf_s s) (hca : caC y s g) : mu_mp w mm_X11_told (d + 3) [.ref y, .int v, .int u] g (mPost w y (pTold s v u) g) := by
  refine mu_mkp mk_X11_told rfl (fun L hL Q hQ => fm_X11_told_0 ⟨md_T0 hM, mu_cI (sp_X11_isPersonN hM hs (wc_0 hc) (by have := wc_b hc; omega)) hL ?_⟩)
  have hb := wc_b hc
  unfold pTold at hQ
  rw [bI_0]
  refine ⟨fun h => ?_, fun h => mu_cI (sp_X11_iN (a := 0) (b := 4) rfl rfl) hL ?_⟩
  · rw [cif_f (fun q => h q.1)] at hQ
    exact mp_0 hQ rfl hs hca
  · replace h := Classical.not_not.mp h
    rw [cI_0]
    refine ⟨fun h2 => ⟨fun h4 => ⟨fun h3 => ⟨md_T0 hM, md_T0 hM, mu_cI sp_X11_personAt hL ?_⟩, fun h3 => ⟨md_T0 hM, md_T0 hM, mu_cI sp_X11_personAt hL ?_⟩⟩, fun h4 => ⟨md_T0 hM, ?_⟩⟩, fun h2 => ?_⟩
    · replace h2 := Classical.not_not.mp h2
      rw [cif_t ⟨h, h2⟩, cif_f h4, cif_f h3] at hQ
      obtain ⟨k, k1, rfl, k3, k4⟩ := ix_of h
      obtain ⟨n, n1, rfl, n3, n4⟩ := ix_of (v := u) (n := 5) ⟨by omega, by omega⟩
      rw [k3, n3] at hQ
      simp (disch := omega) only [md_T0 hM, md_R0 hM, md_T1 hM, md_N1 hM, hs, wc_0 hc, wc_1 hc, wc_2 hc, wc_3 hc, wc_4 hc, wc_5 hc, wc_6 hc, wc_7 hc, wc_9 hc, li_n, nI_add, pk_mul, nI_clamp, nI_ltI, nI_leI, nI_eq, mi_n, Nat.add_zero, true_and, and_true, true_or, or_true, false_or, or_false, not_false_eq_true, not_true_eq_false, implies_true, forall_const, ne_eq, Classical.not_not, reduceCtorEq, nor_p, cI_1n, bI_1n, cI_F, cI_T, cI_0, cI_0n, bI_0, bI_0n, cI_01, bI_01, Nat.reduceLeDiff, Nat.reduceLT, Nat.reduceEqDiff, Nat.reduceSub, Nat.reduceAdd, Nat.lt_irrefl, Nat.le_refl, false_implies, true_implies]
      exact ⟨by omega, mp_0 hQ rfl hs hca⟩
    · replace h2 := Classical.not_not.mp h2
      replace h3 := Classical.not_not.mp h3
      rw [cif_t ⟨h, h2⟩, cif_f h4, cif_t h3] at hQ
      obtain ⟨k, k1, rfl, k3, k4⟩ := ix_of h
      subst h3
      rw [k3] at hQ
      simp (disch := omega) only [md_T0 hM, md_R0 hM, md_T1 hM, md_N1 hM, hs, wc_0 hc, wc_1 hc, wc_2 hc, wc_3 hc, wc_4 hc, wc_5 hc, wc_6 hc, wc_7 hc, wc_9 hc, li_n, nI_add, pk_mul, nI_clamp, nI_ltI, nI_leI, nI_eq, mi_n, Nat.add_zero, true_and, and_true, true_or, or_true, false_or, or_false, not_false_eq_true, not_true_eq_false, implies_true, forall_const, ne_eq, Classical.not_not, reduceCtorEq, nor_p, cI_1n, bI_1n, cI_F, cI_T, cI_0, cI_0n, bI_0, bI_0n, cI_01, bI_01, Nat.reduceLeDiff, Nat.reduceLT, Nat.reduceEqDiff, Nat.reduceSub, Nat.reduceAdd, Nat.lt_irrefl, Nat.le_refl, false_implies, true_implies]
      refine ⟨by omega, mu_cI sp_X11_orNone hL (mp_0 hQ ?_ hs hca)⟩
      rcases (ws_w hW).2 k k1 with hw | ⟨j, p1, p2, p3⟩
      · rw [hw]; rfl
      · rw [p2, nI_toInt (by omega), if_neg (by omega)]
        exact (nn_n (by omega)).symm
    · replace h2 := Classical.not_not.mp h2
      rw [cif_t ⟨h, h2⟩, cif_t (Classical.not_not.mp h4)] at hQ
      obtain ⟨k, k1, rfl, k3, k4⟩ := ix_of h
      rw [k3] at hQ
      exact mu_cIp (sp_X11_late hM hs hc (ws_t hW) k1) hL (fun z g1 hz _ _ => mp_j hW hQ hz.2 hz.1 hs hca)
    · rw [cif_f (fun q => h2 (fun z => z q.2))] at hQ
      exact mp_0 hQ rfl hs hca
theorem pc_as {v u : Int32} (hst : st_L w g) (hC : cl_L w x g) (hV : sc_V w E (x + 1) s g) (hW : wf_s s) : mu_mp w mm_X10_as (d + 2) [.ref x, .int v, .int u] g (cPost w x E (pAs s v u) g) := by
  refine mu_mkp mk_X10_as rfl (fun L hL Q hQ => fm_X10_as_0 ?_)
  have hc := ws_c hW
  have hb := wc_b hc
  have hN := cl_n hC
  refine ⟨cl_T hC, by rw [cl_R0 hC]; exact sc_T hN, ?_⟩
  rw [cl_R0 hC]
  refine mu_cI (sp_X4_hasMove hN hV hc) hL ?_
  unfold pAs at hQ
  rw [cI_0]
  refine ⟨fun h => ?_, fun h => mu_cI sp_X10_isKind hL ?_⟩
  · rw [cif_f (fun q => h q.1)] at hQ
    exact cp_0 (L := L) hC hQ rfl hV
  · replace h := Classical.not_not.mp h
    rw [cI_0]
    refine ⟨fun h2 => ?_, fun h2 => ?_⟩
    · replace h2 := Classical.not_not.mp h2
      rw [cif_t ⟨h, h2⟩] at hQ
      obtain ⟨k, k1, rfl, k3, k4⟩ := ix_of h
      obtain ⟨n, n1, rfl, n3, n4⟩ := ix_of (v := u) (n := 6) ⟨by omega, by omega⟩
      rw [k3, n3] at hQ
      simp (disch := omega) only [cl_T hC, cl_R0 hC, sv_m hV (ws_m hW) k1 (show 1 < 8 by omega), sc_T hN, sc_R0 hN, sc_R1 hN, sc_R2 hN, sc_R3 hN, sc_R4 hN, sc_R5 hN, sc_R6 hN, sc_R7 hN, sc_R8 hN, sc_R9 hN, sc_T1 hN, sc_N1 hN, sc_RP hN, sc_T2 hN, sc_N2 hN, sc_RM hN, sc_T3 hN, sc_N3 hN, sc_T4 hN, sc_N4 hN, sc_T5 hN, sc_N5 hN, sc_T6 hN, sc_N6 hN, sc_T7 hN, sc_N7 hN, sc_T8 hN, sc_N8 hN, sc_T9 hN, sc_N9 hN, sc_T10 hN, sc_RL0 hN, sc_RL1 hN, sc_T11 hN, sc_N11 hN, sc_T12 hN, sc_N12 hN, sc_TP hN, sc_TM hN, sc_w hN, sc_wj hN, sc_wp hN, li_n, nI_add, pk_mul, nI_clamp, nI_ltI, nI_leI, nI_eq, mi_n, Nat.add_zero, true_and, and_true, true_or, or_true, false_or, or_false, not_false_eq_true, not_true_eq_false, implies_true, forall_const, ne_eq, Classical.not_not, reduceCtorEq, nor_p, cI_1n, bI_1n, cI_F, cI_T, cI_0, cI_0n, bI_0, bI_0n, cI_01, bI_01, Nat.reduceLeDiff, Nat.reduceLT, Nat.reduceEqDiff, Nat.reduceSub, Nat.reduceAdd, Nat.lt_irrefl, Nat.le_refl, false_implies, true_implies]
      refine ⟨by omega, mu_cI (sp_X10_isOfKind hst (wm_b (ws_m hW) k1).2.1 (by omega)) hL ?_⟩
      simp (disch := omega) only [hV.2.2.2.1 k 6 k1 (by omega), sc_T hN, sc_R0 hN, sc_R1 hN, sc_R2 hN, sc_R3 hN, sc_R4 hN, sc_R5 hN, sc_R6 hN, sc_R7 hN, sc_R8 hN, sc_R9 hN, sc_T1 hN, sc_N1 hN, sc_RP hN, sc_T2 hN, sc_N2 hN, sc_RM hN, sc_T3 hN, sc_N3 hN, sc_T4 hN, sc_N4 hN, sc_T5 hN, sc_N5 hN, sc_T6 hN, sc_N6 hN, sc_T7 hN, sc_N7 hN, sc_T8 hN, sc_N8 hN, sc_T9 hN, sc_N9 hN, sc_T10 hN, sc_RL0 hN, sc_RL1 hN, sc_T11 hN, sc_N11 hN, sc_T12 hN, sc_N12 hN, sc_TP hN, sc_TM hN, sc_w hN, sc_wj hN, sc_wp hN, li_n, nI_add, pk_mul, nI_clamp, nI_ltI, nI_leI, nI_eq, mi_n, Nat.add_zero, true_and, and_true, true_or, or_true, false_or, or_false, not_false_eq_true, not_true_eq_false, implies_true, forall_const, ne_eq, Classical.not_not, reduceCtorEq, nor_p, cI_1n, bI_1n, cI_F, cI_T, cI_0, cI_0n, bI_0, bI_0n, cI_01, bI_01, Nat.reduceLeDiff, Nat.reduceLT, Nat.reduceEqDiff, Nat.reduceSub, Nat.reduceAdd, Nat.lt_irrefl, Nat.le_refl, false_implies, true_implies]
      refine ⟨fun h3 => ?_, fun h3 => ?_⟩
      · rw [cif_f h3] at hQ
        exact cp_0 (L := L) hC hQ rfl hV
      · rw [cif_t h3] at hQ
        exact cp_0 (L := L) hC hQ rfl hV
    · rw [cif_f (fun q => h2 (fun z => z q.2))] at hQ
      exact cp_0 (L := L) hC hQ rfl hV
theorem isOf_n {a o : Nat} (ha : a < 2 ^ 31) (ho : o < 2 ^ 31) : mu_met w mm_X11_isOf (d + 2) [.int (nI a), .int (nI o)] g (some (.int (cI (isOf a o)))) g := by
  have h := sp_X11_isOf (w := w) (d := d) (g := g) (a := nI a) (k := nI o)
  rw [bI_cI, nI_toInt ha] at h
  have e : (nI o = 0 ∨ nI a = nI o ∨ (nI o = 2 ∧ 2 ≤ ((a : Nat) : Int) ∧ ((a : Nat) : Int) ≤ 4)) ↔ isOf a o := by
    unfold isOf
    simp (disch := omega) only [li_n, nI_eq]
    omega
  rw [cI_c e] at h
  exact h
theorem pm_as {v u : Int32} (hM : md_L w y g) (hs : mu_I g (y + 1) = s) (hc : wf_c s) (hW : wf_s s) (hca : caC y s g) : mu_mp w mm_X11_as (d + 3) [.ref y, .int v, .int u] g (mPost w y (pAs s v u) g) := by
  refine mu_mkp mk_X11_as rfl (fun L hL Q hQ => fm_X11_as_0 ⟨md_T0 hM, mu_cI (sp_X11_isMove hM hs (wc_1 hc) (by have := wc_b hc; omega)) hL ?_⟩)
  have hb := wc_b hc
  unfold pAs at hQ
  rw [bI_0]
  refine ⟨fun h => ?_, fun h => mu_cI (sp_X11_iN (a := 0) (b := 5) rfl rfl) hL ?_⟩
  · rw [cif_f (fun q => h q.1)] at hQ
    exact mp_0 hQ rfl hs hca
  · replace h := Classical.not_not.mp h
    rw [cI_0]
    refine ⟨fun h2 => ⟨md_T0 hM, ?_⟩, fun h2 => ?_⟩
    · replace h2 := Classical.not_not.mp h2
      rw [cif_t ⟨h, h2⟩] at hQ
      obtain ⟨k, k1, rfl, k3, k4⟩ := ix_of h
      obtain ⟨n, n1, rfl, n3, n4⟩ := ix_of (v := u) (n := 6) ⟨by omega, by omega⟩
      rw [k3, n3] at hQ
      have h5 := (wm_b (ws_m hW) k1).2.1
      refine mu_cI (sp_X11_fieldN (f := 1) hM hs hc (ws_m hW) k1 (by omega)) hL (mu_cI (isOf_n (by omega) n4) hL ?_)
      rw [cI_0]
      refine ⟨fun h3 => ?_, fun h3 => ⟨md_T0 hM, mu_cI (sp_X11_field (k := 6) hM hs (by omega)) hL ?_⟩⟩
      · rw [cif_f h3] at hQ
        exact mp_0 hQ rfl hs hca
      · rw [cif_t (Classical.not_not.mp h3)] at hQ
        exact mp_0 hQ rfl hs hca
    · rw [cif_f (fun q => h2 (fun z => z q.2))] at hQ
      exact mp_0 hQ rfl hs hca
end Qf
