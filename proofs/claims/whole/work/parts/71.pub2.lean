/-! CLIENTS: weapons, cuts, settings: public calls -/
noncomputable def pWeapon (s : Nat → Int32) : Int32 × (Nat → Int32) := cif (nwp s < 6) (nI (nwp s), upd (upd (upd s (270 + 2 * nwp s) 0) (270 + 2 * nwp s + 1) (-1)) 5 (nI (nwp s + 1))) (-1000000003, s)
noncomputable def pIn (s : Nat → Int32) (v : Int32) : Int32 × (Nat → Int32) := cif (0 ≤ v.toInt ∧ v.toInt < (nwp s : Int)) (cif (s (270 + 2 * v.toNatClampNeg + 1) = -1) (-1000000002, s) (s (270 + 2 * v.toNatClampNeg + 1), upd (upd s (270 + 2 * v.toNatClampNeg + 1) (-1)) (20 + 4 * (s (270 + 2 * v.toNatClampNeg + 1)).toNatClampNeg + 3) (-1))) (-1000000001, s)
noncomputable def pOut (s : Nat → Int32) (v u : Int32) : Int32 × (Nat → Int32) := cif ((0 ≤ v.toInt ∧ v.toInt < (nwp s : Int)) ∧ 0 ≤ u.toInt ∧ u.toInt < (np s : Int)) (cif (¬ s (270 + 2 * v.toNatClampNeg + 1) = -1 ∨ 20 < vW s v.toNatClampNeg ∨ ¬ s (20 + 4 * u.toNatClampNeg + 3) = -1) (-1000000002, s) (1, upd (upd s (270 + 2 * v.toNatClampNeg + 1) u) (20 + 4 * u.toNatClampNeg + 3) v)) (-1000000001, s)
noncomputable def pWear (s : Nat → Int32) (v u : Int32) : Int32 × (Nat → Int32) := cif ((0 ≤ v.toInt ∧ v.toInt < (nwp s : Int)) ∧ 0 ≤ u.toInt ∧ u.toInt ≤ 2) (cif (u = 0) (s (270 + 2 * v.toNatClampNeg)) (cif (u = 1) (nn (s (270 + 2 * v.toNatClampNeg + 1))) (cI (20 < vW s v.toNatClampNeg))), s) (-1000000001, s)
noncomputable def pCut (s : Nat → Int32) (v u : Int32) : Int32 × (Nat → Int32) := cif (0 ≤ v.toInt ∧ v.toInt < (nm s : Int)) (cI (¬ s (60 + 8 * v.toNatClampNeg + 7) = u), upd s (60 + 8 * v.toNatClampNeg + 7) u) (-1000000001, s)
section Pv
variable {w : mu_O} {d x y E : Nat} {g : mu_H} {s : Nat → Int32}
theorem cp_0 {L : Nat × Nat} {Q : Option Value → mu_H → Prop} {q : Int32 × (Nat → Int32)} {v : Int32} (hC : cl_L w x g) (hQ : ∀ r g', cPost w x E q g r g' → mu_X g' = mu_X g → mu_S g' = mu_S g → Q r g') (hv : v = q.1) (hV : sc_V w E (x + 1) q.2 g) : Q (some (.int v)) g := cp_ok (L := L) hC hQ (mu_fr_rf (A := fun _ => False)) (fun a q => q.elim) hv hV
theorem mp_0 {Q : Option Value → mu_H → Prop} {q : Int32 × (Nat → Int32)} {v : Int32} (hQ : ∀ r g', mPost w y q g r g' → mu_X g' = mu_X g → mu_S g' = mu_S g → Q r g') (hv : v = q.1) (hs : mu_I g (y + 1) = q.2) (hca : caC y q.2 g) : Q (some (.int v)) g := hQ _ _ ⟨_, rfl, hv, hs, hca, f2_rf⟩ rfl rfl
theorem pc_weapon (hC : cl_L w x g) (hV : sc_V w E (x + 1) s g) (hW : wf_s s) : mu_mp w mm_X10_weapon d [.ref x] g (cPost w x E (pWeapon s) g) := by
  refine mu_mkp mk_X10_weapon rfl (fun L hL Q hQ => fm_X10_weapon_0 ?_)
  have hc := ws_c hW
  have hb := wc_b hc
  have hN := cl_n hC
  have o : ∀ z a k v, a ≠ x + 1 → mu_I (mu_sI z a k v) (x + 1) 15 = mu_I z (x + 1) 15 := fun z a k v h => I_sI_a _ _ _ _ (Ne.symm h)
  have e1 : nI (nwp s + 1) - nI 1 = nI (nwp s) := nI_pred _
  unfold pWeapon at hQ
  simp (disch := omega) only [cl_T hC, cl_R0 hC, o, I_sI_same, e1, sc_T hN, sc_R0 hN, sc_R1 hN, sc_R2 hN, sc_R3 hN, sc_R4 hN, sc_R5 hN, sc_R6 hN, sc_R7 hN, sc_R8 hN, sc_R9 hN, sc_T1 hN, sc_N1 hN, sc_RP hN, sc_T2 hN, sc_N2 hN, sc_RM hN, sc_T3 hN, sc_N3 hN, sc_T4 hN, sc_N4 hN, sc_T5 hN, sc_N5 hN, sc_T6 hN, sc_N6 hN, sc_T7 hN, sc_N7 hN, sc_T8 hN, sc_N8 hN, sc_T9 hN, sc_N9 hN, sc_T10 hN, sc_RL0 hN, sc_RL1 hN, sc_T11 hN, sc_N11 hN, sc_T12 hN, sc_N12 hN, sc_TP hN, sc_TM hN, sc_w hN, sc_wj hN, sc_wp hN, sv_0 hV hc, sv_1 hV hc, sv_2 hV hc, sv_3 hV hc, sv_4 hV hc, sv_5 hV hc, sv_6 hV hc, sv_7 hV hc, sv_9 hV hc, sv_8 hV, li_n, nI_add, pk_mul, nI_clamp, nI_ltI, nI_leI, nI_eq, mi_n, Nat.add_zero, true_and, and_true, true_or, or_true, false_or, or_false, not_false_eq_true, not_true_eq_false, implies_true, forall_const, ne_eq, Classical.not_not, reduceCtorEq, nor_p, cI_1n, bI_1n, cI_F, cI_T, cI_0, cI_0n, bI_0, bI_0n, cI_01, bI_01, Nat.reduceLeDiff, Nat.reduceLT, Nat.reduceEqDiff, Nat.reduceSub, Nat.reduceAdd, Nat.lt_irrefl, Nat.le_refl, false_implies, true_implies]
  refine ⟨fun h => ⟨by omega, by omega, ?_⟩, fun h => ?_⟩
  · rw [cif_t h] at hQ
    have k1 := sb_W (v := 0) hV hc (i := nwp s) (Nat.le_refl _) h
    have n1 : nwp (upd s (270 + 2 * nwp s) 0) = nwp s := nwp_u (by omega)
    have k2 := sb_Wh (v := -1) k1 (wf_c_u hc (by omega)) (i := nwp s) (by rw [n1]; exact Nat.le_refl _) h
    have n2 : nwp (upd (upd s (270 + 2 * nwp s) 0) (270 + 2 * nwp s + 1) (-1)) = nwp s := (nwp_u (by omega)).trans n1
    have k3 := sm_W (v := nI (nwp s + 1)) k2 (wf_c_u (wf_c_u hc (by omega)) (by omega)) (by rw [n2, nI_clamp (by omega)]) (by
      rw [n2]
      refine ⟨?_, ?_⟩
      · rw [I_sI_a _ _ _ _ (by omega), I_sI_same, pk_un (by omega), pk_us]
      · rw [I_sI_same, pk_us])
    exact cp_ok (L := L) hC hQ (mu_fr_tr (mu_fr_tr (mu_fr_sI (A := fun a => x + 1 ≤ a ∧ a < x + 42) ⟨by omega, by omega⟩) (mu_fr_sI ⟨by omega, by omega⟩)) (mu_fr_sI ⟨by omega, by omega⟩)) (fun a q => Or.inl q) rfl k3
  · rw [cif_f h] at hQ
    exact cp_0 (L := L) hC hQ rfl hV
theorem pc_in {v : Int32} (hC : cl_L w x g) (hV : sc_V w E (x + 1) s g) (hW : wf_s s) : mu_mp w mm_X10_in (d + 2) [.ref x, .int v] g (cPost w x E (pIn s v) g) := by
  refine mu_mkp mk_X10_in rfl (fun L hL Q hQ => fm_X10_in_0 ?_)
  have hc := ws_c hW
  have hb := wc_b hc
  have hN := cl_n hC
  refine ⟨cl_T hC, by rw [cl_R0 hC]; exact sc_T hN, ?_⟩
  rw [cl_R0 hC]
  refine mu_cI (sp_X4_hasWeapon hN hV hc) hL ?_
  unfold pIn at hQ
  simp (disch := omega) only [cl_T hC, cl_R0 hC, sc_T hN, sc_R0 hN, sc_R1 hN, sc_R2 hN, sc_R3 hN, sc_R4 hN, sc_R5 hN, sc_R6 hN, sc_R7 hN, sc_R8 hN, sc_R9 hN, sc_T1 hN, sc_N1 hN, sc_RP hN, sc_T2 hN, sc_N2 hN, sc_RM hN, sc_T3 hN, sc_N3 hN, sc_T4 hN, sc_N4 hN, sc_T5 hN, sc_N5 hN, sc_T6 hN, sc_N6 hN, sc_T7 hN, sc_N7 hN, sc_T8 hN, sc_N8 hN, sc_T9 hN, sc_N9 hN, sc_T10 hN, sc_RL0 hN, sc_RL1 hN, sc_T11 hN, sc_N11 hN, sc_T12 hN, sc_N12 hN, sc_TP hN, sc_TM hN, sc_w hN, sc_wj hN, sc_wp hN, li_n, nI_add, pk_mul, nI_clamp, nI_ltI, nI_leI, nI_eq, mi_n, Nat.add_zero, true_and, and_true, true_or, or_true, false_or, or_false, not_false_eq_true, not_true_eq_false, implies_true, forall_const, ne_eq, Classical.not_not, reduceCtorEq, nor_p, cI_1n, bI_1n, cI_F, cI_T, cI_0, cI_0n, bI_0, bI_0n, cI_01, bI_01, Nat.reduceLeDiff, Nat.reduceLT, Nat.reduceEqDiff, Nat.reduceSub, Nat.reduceAdd, Nat.lt_irrefl, Nat.le_refl, false_implies, true_implies]
  refine ⟨fun h => ?_, fun h => ?_⟩
  · rw [cif_t h] at hQ
    obtain ⟨k, k1, rfl, k3, k4⟩ := ix_of h
    rw [k3] at hQ
    obtain ⟨-, -, hw⟩ := (ws_w hW).1 k k1
    simp (disch := omega) only [sv_wh hV, li_n, nI_add, pk_mul, nI_clamp, nI_ltI, nI_leI, nI_eq, mi_n, Nat.add_zero, true_and, and_true, true_or, or_true, false_or, or_false, not_false_eq_true, not_true_eq_false, implies_true, forall_const, ne_eq, Classical.not_not, reduceCtorEq, nor_p, cI_1n, bI_1n, cI_F, cI_T, cI_0, cI_0n, bI_0, bI_0n, cI_01, bI_01, Nat.reduceLeDiff, Nat.reduceLT, Nat.reduceEqDiff, Nat.reduceSub, Nat.reduceAdd, Nat.lt_irrefl, Nat.le_refl, false_implies, true_implies]
    rcases hw with hw | ⟨p, p1, p2, p3⟩
    · rw [cif_t hw] at hQ
      rw [hw]
      exact ⟨by omega, fun q => absurd rfl q, fun _ => cp_0 (L := L) hC hQ rfl hV⟩
    · rw [p2, cif_f (m1_n (by omega)), nI_clamp (by omega)] at hQ
      rw [p2, nn_n (by omega)]
      refine ⟨by omega, fun _ => ⟨by omega, ?_⟩, fun q => absurd q (none_n' (by omega))⟩
      have k1' := su_Wh (v := -1) hV hc k1
      have k2' := su_P3 (v := -1) k1' (wf_c_u hc (by omega)) (p := p) (by omega)
      exact cp_ok (L := L) hC hQ (mu_fr_sI (A := fun a => x + 1 ≤ a ∧ a < x + 42) ⟨by omega, by omega⟩) (fun a q => Or.inl q) rfl k2'
  · rw [cif_f h] at hQ
    exact cp_0 (L := L) hC hQ rfl hV
theorem pc_cut {v u : Int32} (hC : cl_L w x g) (hV : sc_V w E (x + 1) s g) (hW : wf_s s) (hu : u = 0 ∨ u = 1) : mu_mp w mm_X10_cut (d + 2) [.ref x, .int v, .int u] g (cPost w x E (pCut s v u) g) := by
  refine mu_mkp mk_X10_cut rfl (fun L hL Q hQ => fm_X10_cut_0 ?_)
  have hc := ws_c hW
  have hb := wc_b hc
  have hN := cl_n hC
  refine ⟨cl_T hC, by rw [cl_R0 hC]; exact sc_T hN, ?_⟩
  rw [cl_R0 hC]
  refine mu_cI (sp_X4_hasMove hN hV hc) hL ?_
  unfold pCut at hQ
  simp (disch := omega) only [cl_T hC, cl_R0 hC, sc_T hN, sc_R0 hN, sc_R1 hN, sc_R2 hN, sc_R3 hN, sc_R4 hN, sc_R5 hN, sc_R6 hN, sc_R7 hN, sc_R8 hN, sc_R9 hN, sc_T1 hN, sc_N1 hN, sc_RP hN, sc_T2 hN, sc_N2 hN, sc_RM hN, sc_T3 hN, sc_N3 hN, sc_T4 hN, sc_N4 hN, sc_T5 hN, sc_N5 hN, sc_T6 hN, sc_N6 hN, sc_T7 hN, sc_N7 hN, sc_T8 hN, sc_N8 hN, sc_T9 hN, sc_N9 hN, sc_T10 hN, sc_RL0 hN, sc_RL1 hN, sc_T11 hN, sc_N11 hN, sc_T12 hN, sc_N12 hN, sc_TP hN, sc_TM hN, sc_w hN, sc_wj hN, sc_wp hN, li_n, nI_add, pk_mul, nI_clamp, nI_ltI, nI_leI, nI_eq, mi_n, Nat.add_zero, true_and, and_true, true_or, or_true, false_or, or_false, not_false_eq_true, not_true_eq_false, implies_true, forall_const, ne_eq, Classical.not_not, reduceCtorEq, nor_p, cI_1n, bI_1n, cI_F, cI_T, cI_0, cI_0n, bI_0, bI_0n, cI_01, bI_01, Nat.reduceLeDiff, Nat.reduceLT, Nat.reduceEqDiff, Nat.reduceSub, Nat.reduceAdd, Nat.lt_irrefl, Nat.le_refl, false_implies, true_implies]
  refine ⟨fun h => ?_, fun h => ?_⟩
  · rw [cif_t h] at hQ
    obtain ⟨k, k1, rfl, k3, k4⟩ := ix_of h
    rw [k3] at hQ
    simp (disch := omega) only [sc_T hN, sc_R0 hN, sc_R1 hN, sc_R2 hN, sc_R3 hN, sc_R4 hN, sc_R5 hN, sc_R6 hN, sc_R7 hN, sc_R8 hN, sc_R9 hN, sc_T1 hN, sc_N1 hN, sc_RP hN, sc_T2 hN, sc_N2 hN, sc_RM hN, sc_T3 hN, sc_N3 hN, sc_T4 hN, sc_N4 hN, sc_T5 hN, sc_N5 hN, sc_T6 hN, sc_N6 hN, sc_T7 hN, sc_N7 hN, sc_T8 hN, sc_N8 hN, sc_T9 hN, sc_N9 hN, sc_T10 hN, sc_RL0 hN, sc_RL1 hN, sc_T11 hN, sc_N11 hN, sc_T12 hN, sc_N12 hN, sc_TP hN, sc_TM hN, sc_w hN, sc_wj hN, sc_wp hN, li_n, nI_add, pk_mul, nI_clamp, nI_ltI, nI_leI, nI_eq, mi_n, Nat.add_zero, true_and, and_true, true_or, or_true, false_or, or_false, not_false_eq_true, not_true_eq_false, implies_true, forall_const, ne_eq, Classical.not_not, reduceCtorEq, nor_p, cI_1n, bI_1n, cI_F, cI_T, cI_0, cI_0n, bI_0, bI_0n, cI_01, bI_01, Nat.reduceLeDiff, Nat.reduceLT, Nat.reduceEqDiff, Nat.reduceSub, Nat.reduceAdd, Nat.lt_irrefl, Nat.le_refl, false_implies, true_implies]
    refine ⟨by omega, mu_cI (sp_X1_becomeCut (sc_TM hN (by omega)) hu) hL (mu_cI sp_X10_asInt hL ?_)⟩
    rw [cI_c01, hV.2.2.2.1 k 7 k1 (by omega)]
    exact cp_ok (L := L) hC hQ (mu_fr_sI (A := fun a => x + 1 ≤ a ∧ a < x + 42) ⟨by omega, by omega⟩) (fun a q => Or.inl q) rfl (su_M hV hc k1 (by omega))
  · rw [cif_f h] at hQ
    exact cp_0 (L := L) hC hQ rfl hV
end Pv
