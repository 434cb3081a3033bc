/-! CLIENTS: a scene's own questions -/
theorem lp {P : Nat → Prop} {n : Nat} (he : P n) (hs : ∀ i, i < n → P (i + 1) → P i) : P 0 := by
  have : ∀ k i, i + k = n → P i := by
    intro k
    induction k with
    | zero => intro i hi; rw [show i = n by omega]; exact he
    | succ k ih => intro i hi; exact hs i (by omega) (ih (i + 1) (by omega))
  exact this n 0 (by omega)
theorem cI_c01 {p : Prop} : cI (¬ cI p = 0) = cI p := cI_c (by rw [cI_0, Classical.not_not])
theorem cI_nn {n : Nat} (h : n ≤ 1) : cI (¬ nI n = 0) = nI n := by
  rcases (show n = 0 ∨ n = 1 by omega) with rfl | rfl
  · exact cI_f (fun q => q rfl)
  · exact cI_t (by decide)
/-- a blow of the row s -/
def mBl (s : Nat → Int32) (m : Nat) : Prop := 2 ≤ vM s m 1 ∧ vM s m 1 ≤ 4
/-- a blow that is not cut -/
def mDo (s : Nat → Int32) (m : Nat) : Prop := vM s m 7 = 0 ∧ 2 ≤ vM s m 1 ∧ vM s m 1 ≤ 4
/-- a move that goes -/
def mGo (s : Nat → Int32) (m : Nat) : Prop := vM s m 7 = 0 ∧ kGoes (vM s m 1) = 1
/-- nobody has told to be ready for it -/
def mUn (s : Nat → Int32) (m : Nat) : Prop := ¬ ∃ i, i < nsg s ∧ vG s i 0 = vM s m 5 ∧ vG s i 1 + 1 ≤ vM s m 2 ∧ vM s m 2 ≤ vG s i 1 + 3
section Cs
variable {w : mu_O} {d b : Nat} {g : mu_H} {s : Nat → Int32} {E : Nat} {B : Nat}
theorem sp_X4_hasPerson {v : Int32} (hS : sc_L w b g) (hV : sc_V w E b s g) (hc : wf_c s) : mu_met w mm_X4_hasPerson (d + 1) [.ref b, .int v] g (some (.int (cI (0 ≤ v.toInt ∧ v.toInt < (np s : Int))))) g := by
  refine mu_mk mk_X4_hasPerson rfl rfl rfl (fun L hL Q hQ => fm_X4_hasPerson_0 ⟨sc_T hS, mu_cI sp_X10_isWithin hL ⟨bI_01 _, ?_⟩⟩)
  have hb := wc_b hc
  rw [bI_cI, sv_0 hV hc, li_cnt (by omega), cI_c (show _ ↔ (0 ≤ v.toInt ∧ v.toInt < (np s : Int)) by simp; omega)]
  exact hQ
theorem sp_X4_hasMove {v : Int32} (hS : sc_L w b g) (hV : sc_V w E b s g) (hc : wf_c s) : mu_met w mm_X4_hasMove (d + 1) [.ref b, .int v] g (some (.int (cI (0 ≤ v.toInt ∧ v.toInt < (nm s : Int))))) g := by
  refine mu_mk mk_X4_hasMove rfl rfl rfl (fun L hL Q hQ => fm_X4_hasMove_0 ⟨sc_T hS, mu_cI sp_X10_isWithin hL ⟨bI_01 _, ?_⟩⟩)
  have hb := wc_b hc
  rw [bI_cI, sv_1 hV hc, li_cnt (by omega), cI_c (show _ ↔ (0 ≤ v.toInt ∧ v.toInt < (nm s : Int)) by simp; omega)]
  exact hQ
theorem sp_X4_hasWeapon {v : Int32} (hS : sc_L w b g) (hV : sc_V w E b s g) (hc : wf_c s) : mu_met w mm_X4_hasWeapon (d + 1) [.ref b, .int v] g (some (.int (cI (0 ≤ v.toInt ∧ v.toInt < (nwp s : Int))))) g := by
  refine mu_mk mk_X4_hasWeapon rfl rfl rfl (fun L hL Q hQ => fm_X4_hasWeapon_0 ⟨sc_T hS, mu_cI sp_X10_isWithin hL ⟨bI_01 _, ?_⟩⟩)
  have hb := wc_b hc
  rw [bI_cI, sv_5 hV hc, li_cnt (by omega), cI_c (show _ ↔ (0 ≤ v.toInt ∧ v.toInt < (nwp s : Int)) by simp; omega)]
  exact hQ
theorem sp_X4_areTwo {u v : Int32} (hS : sc_L w b g) (hV : sc_V w E b s g) (hc : wf_c s) : mu_met w mm_X4_areTwo (d + 2) [.ref b, .int u, .int v] g (some (.int (cI ((0 ≤ u.toInt ∧ u.toInt < (np s : Int)) ∧ (0 ≤ v.toInt ∧ v.toInt < (np s : Int)) ∧ u ≠ v)))) g := by
  refine mu_mk mk_X4_areTwo rfl rfl rfl (fun L hL Q hQ => fm_X4_areTwo_0 ⟨sc_T hS, mu_cI (sp_X4_hasPerson hS hV hc) hL ?_⟩)
  have h0 := cq' hQ
  clear hQ
  simp (disch := omega) only [sc_T hS, sc_R0 hS, sc_R1 hS, sc_R2 hS, sc_R3 hS, sc_R4 hS, sc_R5 hS, sc_R6 hS, sc_R7 hS, sc_R8 hS, sc_R9 hS, sc_T1 hS, sc_N1 hS, sc_RP hS, sc_T2 hS, sc_N2 hS, sc_RM hS, sc_T3 hS, sc_N3 hS, sc_T4 hS, sc_N4 hS, sc_T5 hS, sc_N5 hS, sc_T6 hS, sc_N6 hS, sc_T7 hS, sc_N7 hS, sc_T8 hS, sc_N8 hS, sc_T9 hS, sc_N9 hS, sc_T10 hS, sc_RL0 hS, sc_RL1 hS, sc_T11 hS, sc_N11 hS, sc_T12 hS, sc_N12 hS, sc_TP hS, sc_TM hS, sc_w hS, sc_wj hS, sc_wp hS, sv_0 hV hc, sv_1 hV hc, sv_2 hV hc, sv_3 hV hc, sv_4 hV hc, sv_5 hV hc, sv_6 hV hc, sv_7 hV hc, sv_9 hV hc, sv_8 hV, li_n, nI_add, pk_mul, nI_clamp, nI_ltI, nI_leI, nI_eq, mi_n, Nat.add_zero, true_and, and_true, true_or, or_true, false_or, or_false, not_false_eq_true, not_true_eq_false, implies_true, forall_const, ne_eq, Classical.not_not, reduceCtorEq, nor_p, cI_1n, bI_1n, cI_F, cI_T, cI_0, cI_0n, bI_0, bI_0n, cI_01, bI_01, Nat.reduceLeDiff, Nat.reduceLT, Nat.reduceEqDiff, Nat.reduceSub, Nat.reduceAdd, Nat.lt_irrefl, Nat.le_refl, false_implies, true_implies]
  refine ⟨fun h1 => h0.2 (fun q => h1 q.1), fun h1 => mu_cI (sp_X4_hasPerson hS hV hc) hL ?_⟩
  simp (disch := omega) only [sc_T hS, sc_R0 hS, sc_R1 hS, sc_R2 hS, sc_R3 hS, sc_R4 hS, sc_R5 hS, sc_R6 hS, sc_R7 hS, sc_R8 hS, sc_R9 hS, sc_T1 hS, sc_N1 hS, sc_RP hS, sc_T2 hS, sc_N2 hS, sc_RM hS, sc_T3 hS, sc_N3 hS, sc_T4 hS, sc_N4 hS, sc_T5 hS, sc_N5 hS, sc_T6 hS, sc_N6 hS, sc_T7 hS, sc_N7 hS, sc_T8 hS, sc_N8 hS, sc_T9 hS, sc_N9 hS, sc_T10 hS, sc_RL0 hS, sc_RL1 hS, sc_T11 hS, sc_N11 hS, sc_T12 hS, sc_N12 hS, sc_TP hS, sc_TM hS, sc_w hS, sc_wj hS, sc_wp hS, sv_0 hV hc, sv_1 hV hc, sv_2 hV hc, sv_3 hV hc, sv_4 hV hc, sv_5 hV hc, sv_6 hV hc, sv_7 hV hc, sv_9 hV hc, sv_8 hV, li_n, nI_add, pk_mul, nI_clamp, nI_ltI, nI_leI, nI_eq, mi_n, Nat.add_zero, true_and, and_true, true_or, or_true, false_or, or_false, not_false_eq_true, not_true_eq_false, implies_true, forall_const, ne_eq, Classical.not_not, reduceCtorEq, nor_p, cI_1n, bI_1n, cI_F, cI_T, cI_0, cI_0n, bI_0, bI_0n, cI_01, bI_01, Nat.reduceLeDiff, Nat.reduceLT, Nat.reduceEqDiff, Nat.reduceSub, Nat.reduceAdd, Nat.lt_irrefl, Nat.le_refl, false_implies, true_implies]
  exact ⟨fun h2 => h0.2 (fun q => h2 q.2.1), fun h2 => ⟨fun h3 => h0.2 (fun q => q.2.2 h3), fun h3 => h0.1 ⟨h1, h2, h3⟩⟩⟩
theorem sp_X4_tiredTogether (hS : sc_L w b g) (hV : sc_V w E b s g) (hc : wf_c s) (hp : wf_p s) : mu_met w mm_X4_tiredTogether d [.ref b] g (some (.int (nI (sumN (fun p => vP s p 2) (np s))))) g := by
  refine mu_mk mk_X4_tiredTogether rfl rfl rfl (fun L hL Q hQ => fm_X4_tiredTogether_0 ?_)
  have hb := wc_b hc
  refine lp (n := np s) (P := fun i => mu_go w mm_X4_tiredTogether d L Q 4 [some (.ref b), some (.int (nI (sumN (fun p => vP s p 2) i))), some (.int (nI i))] [] g) (fm_X4_tiredTogether_4 ?_) (fun i hi ih => fm_X4_tiredTogether_4 ?_)
  · simp (disch := omega) only [sc_T hS, sc_R0 hS, sc_R1 hS, sc_R2 hS, sc_R3 hS, sc_R4 hS, sc_R5 hS, sc_R6 hS, sc_R7 hS, sc_R8 hS, sc_R9 hS, sc_T1 hS, sc_N1 hS, sc_RP hS, sc_T2 hS, sc_N2 hS, sc_RM hS, sc_T3 hS, sc_N3 hS, sc_T4 hS, sc_N4 hS, sc_T5 hS, sc_N5 hS, sc_T6 hS, sc_N6 hS, sc_T7 hS, sc_N7 hS, sc_T8 hS, sc_N8 hS, sc_T9 hS, sc_N9 hS, sc_T10 hS, sc_RL0 hS, sc_RL1 hS, sc_T11 hS, sc_N11 hS, sc_T12 hS, sc_N12 hS, sc_TP hS, sc_TM hS, sc_w hS, sc_wj hS, sc_wp hS, sv_0 hV hc, sv_1 hV hc, sv_2 hV hc, sv_3 hV hc, sv_4 hV hc, sv_5 hV hc, sv_6 hV hc, sv_7 hV hc, sv_9 hV hc, sv_8 hV, li_n, nI_add, pk_mul, nI_clamp, nI_ltI, nI_leI, nI_eq, mi_n, Nat.add_zero, true_and, and_true, true_or, or_true, false_or, or_false, not_false_eq_true, not_true_eq_false, implies_true, forall_const, ne_eq, Classical.not_not, reduceCtorEq, nor_p, cI_1n, bI_1n, cI_F, cI_T, cI_0, cI_0n, bI_0, bI_0n, cI_01, bI_01, Nat.reduceLeDiff, Nat.reduceLT, Nat.reduceEqDiff, Nat.reduceSub, Nat.reduceAdd, Nat.lt_irrefl, Nat.le_refl, false_implies, true_implies]
    exact hQ
  · simp (disch := omega) only [Nat.not_le_of_lt hi, sv_p hV hp, sc_T hS, sc_R0 hS, sc_R1 hS, sc_R2 hS, sc_R3 hS, sc_R4 hS, sc_R5 hS, sc_R6 hS, sc_R7 hS, sc_R8 hS, sc_R9 hS, sc_T1 hS, sc_N1 hS, sc_RP hS, sc_T2 hS, sc_N2 hS, sc_RM hS, sc_T3 hS, sc_N3 hS, sc_T4 hS, sc_N4 hS, sc_T5 hS, sc_N5 hS, sc_T6 hS, sc_N6 hS, sc_T7 hS, sc_N7 hS, sc_T8 hS, sc_N8 hS, sc_T9 hS, sc_N9 hS, sc_T10 hS, sc_RL0 hS, sc_RL1 hS, sc_T11 hS, sc_N11 hS, sc_T12 hS, sc_N12 hS, sc_TP hS, sc_TM hS, sc_w hS, sc_wj hS, sc_wp hS, sv_0 hV hc, sv_1 hV hc, sv_2 hV hc, sv_3 hV hc, sv_4 hV hc, sv_5 hV hc, sv_6 hV hc, sv_7 hV hc, sv_9 hV hc, sv_8 hV, li_n, nI_add, pk_mul, nI_clamp, nI_ltI, nI_leI, nI_eq, mi_n, Nat.add_zero, true_and, and_true, true_or, or_true, false_or, or_false, not_false_eq_true, not_true_eq_false, implies_true, forall_const, ne_eq, Classical.not_not, reduceCtorEq, nor_p, cI_1n, bI_1n, cI_F, cI_T, cI_0, cI_0n, bI_0, bI_0n, cI_01, bI_01, Nat.reduceLeDiff, Nat.reduceLT, Nat.reduceEqDiff, Nat.reduceSub, Nat.reduceAdd, Nat.lt_irrefl, Nat.le_refl, false_implies, true_implies]
    exact ⟨by omega, ih⟩
theorem sp_X4_cutMoves (hS : sc_L w b g) (hV : sc_V w E b s g) (hc : wf_c s) (hm : wf_m B s) : mu_met w mm_X4_cutMoves (d + 1) [.ref b] g (some (.int (nI (sumN (fun m => vM s m 7) (nm s))))) g := by
  refine mu_mk mk_X4_cutMoves rfl rfl rfl (fun L hL Q hQ => fm_X4_cutMoves_0 ?_)
  have hb := wc_b hc
  refine lp (n := nm s) (P := fun i => mu_go w mm_X4_cutMoves (d + 1) L Q 4 [some (.ref b), some (.int (nI (sumN (fun p => vM s p 7) i))), some (.int (nI i))] [] g) (fm_X4_cutMoves_4 ?_) (fun i hi ih => fm_X4_cutMoves_4 ?_)
  · simp (disch := omega) only [sc_T hS, sc_R0 hS, sc_R1 hS, sc_R2 hS, sc_R3 hS, sc_R4 hS, sc_R5 hS, sc_R6 hS, sc_R7 hS, sc_R8 hS, sc_R9 hS, sc_T1 hS, sc_N1 hS, sc_RP hS, sc_T2 hS, sc_N2 hS, sc_RM hS, sc_T3 hS, sc_N3 hS, sc_T4 hS, sc_N4 hS, sc_T5 hS, sc_N5 hS, sc_T6 hS, sc_N6 hS, sc_T7 hS, sc_N7 hS, sc_T8 hS, sc_N8 hS, sc_T9 hS, sc_N9 hS, sc_T10 hS, sc_RL0 hS, sc_RL1 hS, sc_T11 hS, sc_N11 hS, sc_T12 hS, sc_N12 hS, sc_TP hS, sc_TM hS, sc_w hS, sc_wj hS, sc_wp hS, sv_0 hV hc, sv_1 hV hc, sv_2 hV hc, sv_3 hV hc, sv_4 hV hc, sv_5 hV hc, sv_6 hV hc, sv_7 hV hc, sv_9 hV hc, sv_8 hV, li_n, nI_add, pk_mul, nI_clamp, nI_ltI, nI_leI, nI_eq, mi_n, Nat.add_zero, true_and, and_true, true_or, or_true, false_or, or_false, not_false_eq_true, not_true_eq_false, implies_true, forall_const, ne_eq, Classical.not_not, reduceCtorEq, nor_p, cI_1n, bI_1n, cI_F, cI_T, cI_0, cI_0n, bI_0, bI_0n, cI_01, bI_01, Nat.reduceLeDiff, Nat.reduceLT, Nat.reduceEqDiff, Nat.reduceSub, Nat.reduceAdd, Nat.lt_irrefl, Nat.le_refl, false_implies, true_implies]
    exact hQ
  · simp (disch := omega) only [Nat.not_le_of_lt hi, sv_m hV hm, sc_T hS, sc_R0 hS, sc_R1 hS, sc_R2 hS, sc_R3 hS, sc_R4 hS, sc_R5 hS, sc_R6 hS, sc_R7 hS, sc_R8 hS, sc_R9 hS, sc_T1 hS, sc_N1 hS, sc_RP hS, sc_T2 hS, sc_N2 hS, sc_RM hS, sc_T3 hS, sc_N3 hS, sc_T4 hS, sc_N4 hS, sc_T5 hS, sc_N5 hS, sc_T6 hS, sc_N6 hS, sc_T7 hS, sc_N7 hS, sc_T8 hS, sc_N8 hS, sc_T9 hS, sc_N9 hS, sc_T10 hS, sc_RL0 hS, sc_RL1 hS, sc_T11 hS, sc_N11 hS, sc_T12 hS, sc_N12 hS, sc_TP hS, sc_TM hS, sc_w hS, sc_wj hS, sc_wp hS, sv_0 hV hc, sv_1 hV hc, sv_2 hV hc, sv_3 hV hc, sv_4 hV hc, sv_5 hV hc, sv_6 hV hc, sv_7 hV hc, sv_9 hV hc, sv_8 hV, li_n, nI_add, pk_mul, nI_clamp, nI_ltI, nI_leI, nI_eq, mi_n, Nat.add_zero, true_and, and_true, true_or, or_true, false_or, or_false, not_false_eq_true, not_true_eq_false, implies_true, forall_const, ne_eq, Classical.not_not, reduceCtorEq, nor_p, cI_1n, bI_1n, cI_F, cI_T, cI_0, cI_0n, bI_0, bI_0n, cI_01, bI_01, Nat.reduceLeDiff, Nat.reduceLT, Nat.reduceEqDiff, Nat.reduceSub, Nat.reduceAdd, Nat.lt_irrefl, Nat.le_refl, false_implies, true_implies]
    refine ⟨by omega, mu_cI sp_X10_asInt hL ?_⟩
    rw [cI_nn (wm_b hm hi).2.2.2.2.2.2.2.2.2.2]
    simp (disch := omega) only [li_n, nI_add, pk_mul, nI_clamp, nI_ltI, nI_leI, nI_eq, mi_n, Nat.add_zero, true_and, and_true, true_or, or_true, false_or, or_false, not_false_eq_true, not_true_eq_false, implies_true, forall_const, ne_eq, Classical.not_not, reduceCtorEq, nor_p, cI_1n, bI_1n, cI_F, cI_T, cI_0, cI_0n, bI_0, bI_0n, cI_01, bI_01, Nat.reduceLeDiff, Nat.reduceLT, Nat.reduceEqDiff, Nat.reduceSub, Nat.reduceAdd, Nat.lt_irrefl, Nat.le_refl, false_implies, true_implies]
    exact ih
theorem sp_X4_blows (hS : sc_L w b g) (hV : sc_V w E b s g) (hc : wf_c s) (hs : st_L w g) (hm : wf_m B s) : mu_met w mm_X4_blows (d + 2) [.ref b] g (some (.int (nI (sumN (fun m => cN (mBl s m)) (nm s))))) g := by
  refine mu_mk mk_X4_blows rfl rfl rfl (fun L hL Q hQ => fm_X4_blows_0 ?_)
  have hb := wc_b hc
  refine lp (n := nm s) (P := fun i => mu_go w mm_X4_blows (d + 2) L Q 4 [some (.ref b), some (.int (nI (sumN (fun m => cN (mBl s m)) i))), some (.int (nI i))] [] g) (fm_X4_blows_4 ?_) (fun i hi ih => fm_X4_blows_4 ?_)
  · simp (disch := omega) only [sc_T hS, sc_R0 hS, sc_R1 hS, sc_R2 hS, sc_R3 hS, sc_R4 hS, sc_R5 hS, sc_R6 hS, sc_R7 hS, sc_R8 hS, sc_R9 hS, sc_T1 hS, sc_N1 hS, sc_RP hS, sc_T2 hS, sc_N2 hS, sc_RM hS, sc_T3 hS, sc_N3 hS, sc_T4 hS, sc_N4 hS, sc_T5 hS, sc_N5 hS, sc_T6 hS, sc_N6 hS, sc_T7 hS, sc_N7 hS, sc_T8 hS, sc_N8 hS, sc_T9 hS, sc_N9 hS, sc_T10 hS, sc_RL0 hS, sc_RL1 hS, sc_T11 hS, sc_N11 hS, sc_T12 hS, sc_N12 hS, sc_TP hS, sc_TM hS, sc_w hS, sc_wj hS, sc_wp hS, sv_0 hV hc, sv_1 hV hc, sv_2 hV hc, sv_3 hV hc, sv_4 hV hc, sv_5 hV hc, sv_6 hV hc, sv_7 hV hc, sv_9 hV hc, sv_8 hV, li_n, nI_add, pk_mul, nI_clamp, nI_ltI, nI_leI, nI_eq, mi_n, Nat.add_zero, true_and, and_true, true_or, or_true, false_or, or_false, not_false_eq_true, not_true_eq_false, implies_true, forall_const, ne_eq, Classical.not_not, reduceCtorEq, nor_p, cI_1n, bI_1n, cI_F, cI_T, cI_0, cI_0n, bI_0, bI_0n, cI_01, bI_01, Nat.reduceLeDiff, Nat.reduceLT, Nat.reduceEqDiff, Nat.reduceSub, Nat.reduceAdd, Nat.lt_irrefl, Nat.le_refl, false_implies, true_implies]
    exact hQ
  · simp (disch := omega) only [Nat.not_le_of_lt hi, sv_m hV hm, sc_T hS, sc_R0 hS, sc_R1 hS, sc_R2 hS, sc_R3 hS, sc_R4 hS, sc_R5 hS, sc_R6 hS, sc_R7 hS, sc_R8 hS, sc_R9 hS, sc_T1 hS, sc_N1 hS, sc_RP hS, sc_T2 hS, sc_N2 hS, sc_RM hS, sc_T3 hS, sc_N3 hS, sc_T4 hS, sc_N4 hS, sc_T5 hS, sc_N5 hS, sc_T6 hS, sc_N6 hS, sc_T7 hS, sc_N7 hS, sc_T8 hS, sc_N8 hS, sc_T9 hS, sc_N9 hS, sc_T10 hS, sc_RL0 hS, sc_RL1 hS, sc_T11 hS, sc_N11 hS, sc_T12 hS, sc_N12 hS, sc_TP hS, sc_TM hS, sc_w hS, sc_wj hS, sc_wp hS, sv_0 hV hc, sv_1 hV hc, sv_2 hV hc, sv_3 hV hc, sv_4 hV hc, sv_5 hV hc, sv_6 hV hc, sv_7 hV hc, sv_9 hV hc, sv_8 hV, li_n, nI_add, pk_mul, nI_clamp, nI_ltI, nI_leI, nI_eq, mi_n, Nat.add_zero, true_and, and_true, true_or, or_true, false_or, or_false, not_false_eq_true, not_true_eq_false, implies_true, forall_const, ne_eq, Classical.not_not, reduceCtorEq, nor_p, cI_1n, bI_1n, cI_F, cI_T, cI_0, cI_0n, bI_0, bI_0n, cI_01, bI_01, Nat.reduceLeDiff, Nat.reduceLT, Nat.reduceEqDiff, Nat.reduceSub, Nat.reduceAdd, Nat.lt_irrefl, Nat.le_refl, false_implies, true_implies]
    refine ⟨by omega, mu_cI (sp_X1_isBlow hs (sc_TM hS (by omega)) (sv_m hV hm hi (by omega)) (wm_b hm hi).2.1) hL (mu_cI sp_X10_asInt hL ?_)⟩
    rw [cI_c01, cI_n, nI_add]
    exact ih
theorem sp_X4_isUnready {m : Nat} (hS : sc_L w b g) (hV : sc_V w E b s g) (hc : wf_c s) (hm : wf_m B s) (hB : B ≤ 95) (hg : wf_g s) (hi : m < nm s) : mu_met w mm_X4_isUnready (d + 1) [.ref b, .ref (b + 21 + m)] g (some (.int (cI (mUn s m)))) g := by
  refine mu_mk mk_X4_isUnready rfl rfl rfl (fun L hL Q hQ => fm_X4_isUnready_0 ?_)
  have h0 := cq' hQ
  clear hQ
  have hb := wc_b hc
  have hmb := wm_b hm hi
  refine lp (n := nsg s) (P := fun i => (∀ j, j < i → ¬ (vG s j 0 = vM s m 5 ∧ vG s j 1 + 1 ≤ vM s m 2 ∧ vM s m 2 ≤ vG s j 1 + 3)) → mu_go w mm_X4_isUnready (d + 1) L Q 2 [some (.ref b), some (.ref (b + 21 + m)), some (.int (nI i))] [] g) (fun hj => fm_X4_isUnready_2 ?_) (fun i hi ih hj => fm_X4_isUnready_2 ?_) (fun j hj => absurd hj (Nat.not_lt_zero j))
  · simp (disch := omega) only [sc_T hS, sc_R0 hS, sc_R1 hS, sc_R2 hS, sc_R3 hS, sc_R4 hS, sc_R5 hS, sc_R6 hS, sc_R7 hS, sc_R8 hS, sc_R9 hS, sc_T1 hS, sc_N1 hS, sc_RP hS, sc_T2 hS, sc_N2 hS, sc_RM hS, sc_T3 hS, sc_N3 hS, sc_T4 hS, sc_N4 hS, sc_T5 hS, sc_N5 hS, sc_T6 hS, sc_N6 hS, sc_T7 hS, sc_N7 hS, sc_T8 hS, sc_N8 hS, sc_T9 hS, sc_N9 hS, sc_T10 hS, sc_RL0 hS, sc_RL1 hS, sc_T11 hS, sc_N11 hS, sc_T12 hS, sc_N12 hS, sc_TP hS, sc_TM hS, sc_w hS, sc_wj hS, sc_wp hS, sv_0 hV hc, sv_1 hV hc, sv_2 hV hc, sv_3 hV hc, sv_4 hV hc, sv_5 hV hc, sv_6 hV hc, sv_7 hV hc, sv_9 hV hc, sv_8 hV, li_n, nI_add, pk_mul, nI_clamp, nI_ltI, nI_leI, nI_eq, mi_n, Nat.add_zero, true_and, and_true, true_or, or_true, false_or, or_false, not_false_eq_true, not_true_eq_false, implies_true, forall_const, ne_eq, Classical.not_not, reduceCtorEq, nor_p, cI_1n, bI_1n, cI_F, cI_T, cI_0, cI_0n, bI_0, bI_0n, cI_01, bI_01, Nat.reduceLeDiff, Nat.reduceLT, Nat.reduceEqDiff, Nat.reduceSub, Nat.reduceAdd, Nat.lt_irrefl, Nat.le_refl, false_implies, true_implies]
    exact h0.1 (fun ⟨i, h1, h2⟩ => hj i h1 h2)
  · have hgb := hg i hi
    have ih2 : ¬ (vG s i 0 = vM s m 5 ∧ vG s i 1 + 1 ≤ vM s m 2 ∧ vM s m 2 ≤ vG s i 1 + 3) → mu_go w mm_X4_isUnready (d + 1) L Q 2 [some (.ref b), some (.ref (b + 21 + m)), some (.int (nI (i + 1)))] [] g := fun h => ih (fun j h2 => by
      by_cases e : j = i
      · rw [e]; exact h
      · exact hj j (by omega))
    simp (disch := omega) only [Nat.not_le_of_lt hi, sv_m hV hm, sv_g0 hV hg, sv_g1 hV hg, sc_T hS, sc_R0 hS, sc_R1 hS, sc_R2 hS, sc_R3 hS, sc_R4 hS, sc_R5 hS, sc_R6 hS, sc_R7 hS, sc_R8 hS, sc_R9 hS, sc_T1 hS, sc_N1 hS, sc_RP hS, sc_T2 hS, sc_N2 hS, sc_RM hS, sc_T3 hS, sc_N3 hS, sc_T4 hS, sc_N4 hS, sc_T5 hS, sc_N5 hS, sc_T6 hS, sc_N6 hS, sc_T7 hS, sc_N7 hS, sc_T8 hS, sc_N8 hS, sc_T9 hS, sc_N9 hS, sc_T10 hS, sc_RL0 hS, sc_RL1 hS, sc_T11 hS, sc_N11 hS, sc_T12 hS, sc_N12 hS, sc_TP hS, sc_TM hS, sc_w hS, sc_wj hS, sc_wp hS, sv_0 hV hc, sv_1 hV hc, sv_2 hV hc, sv_3 hV hc, sv_4 hV hc, sv_5 hV hc, sv_6 hV hc, sv_7 hV hc, sv_9 hV hc, sv_8 hV, li_n, nI_add, pk_mul, nI_clamp, nI_ltI, nI_leI, nI_eq, mi_n, Nat.add_zero, true_and, and_true, true_or, or_true, false_or, or_false, not_false_eq_true, not_true_eq_false, implies_true, forall_const, ne_eq, Classical.not_not, reduceCtorEq, nor_p, cI_1n, bI_1n, cI_F, cI_T, cI_0, cI_0n, bI_0, bI_0n, cI_01, bI_01, Nat.reduceLeDiff, Nat.reduceLT, Nat.reduceEqDiff, Nat.reduceSub, Nat.reduceAdd, Nat.lt_irrefl, Nat.le_refl, false_implies, true_implies]
    refine ⟨by omega, fun h => ih2 (fun q => h q.1), fun h => ⟨by omega, mu_cI sp_X10_isWithin hL ?_⟩⟩
    simp (disch := omega) only [pk_sub_toInt, nI_toInt, li_n, nI_add, pk_mul, nI_clamp, nI_ltI, nI_leI, nI_eq, mi_n, Nat.add_zero, true_and, and_true, true_or, or_true, false_or, or_false, not_false_eq_true, not_true_eq_false, implies_true, forall_const, ne_eq, Classical.not_not, reduceCtorEq, nor_p, cI_1n, bI_1n, cI_F, cI_T, cI_0, cI_0n, bI_0, bI_0n, cI_01, bI_01, Nat.reduceLeDiff, Nat.reduceLT, Nat.reduceEqDiff, Nat.reduceSub, Nat.reduceAdd, Nat.lt_irrefl, Nat.le_refl, false_implies, true_implies]
    exact ⟨fun h2 => ih2 (by omega), fun h2 => h0.2 (fun q => q ⟨i, hi, by omega⟩)⟩
theorem sp_X4_unreadyBlows (hS : sc_L w b g) (hV : sc_V w E b s g) (hc : wf_c s) (hs : st_L w g) (hm : wf_m B s) (hB : B ≤ 95) (hg : wf_g s) : mu_met w mm_X4_unreadyBlows (d + 3) [.ref b] g (some (.int (nI (sumN (fun m => cN (mDo s m ∧ mUn s m)) (nm s))))) g := by
  refine mu_mk mk_X4_unreadyBlows rfl rfl rfl (fun L hL Q hQ => fm_X4_unreadyBlows_0 ?_)
  have hb := wc_b hc
  refine lp (n := nm s) (P := fun i => mu_go w mm_X4_unreadyBlows (d + 3) L Q 4 [some (.ref b), some (.int (nI (sumN (fun m => cN (mDo s m ∧ mUn s m)) i))), some (.int (nI i)), none] [] g) (fm_X4_unreadyBlows_4 ?_) (fun i hi ih => fm_X4_unreadyBlows_4 ?_)
  · simp (disch := omega) only [sc_T hS, sc_R0 hS, sc_R1 hS, sc_R2 hS, sc_R3 hS, sc_R4 hS, sc_R5 hS, sc_R6 hS, sc_R7 hS, sc_R8 hS, sc_R9 hS, sc_T1 hS, sc_N1 hS, sc_RP hS, sc_T2 hS, sc_N2 hS, sc_RM hS, sc_T3 hS, sc_N3 hS, sc_T4 hS, sc_N4 hS, sc_T5 hS, sc_N5 hS, sc_T6 hS, sc_N6 hS, sc_T7 hS, sc_N7 hS, sc_T8 hS, sc_N8 hS, sc_T9 hS, sc_N9 hS, sc_T10 hS, sc_RL0 hS, sc_RL1 hS, sc_T11 hS, sc_N11 hS, sc_T12 hS, sc_N12 hS, sc_TP hS, sc_TM hS, sc_w hS, sc_wj hS, sc_wp hS, sv_0 hV hc, sv_1 hV hc, sv_2 hV hc, sv_3 hV hc, sv_4 hV hc, sv_5 hV hc, sv_6 hV hc, sv_7 hV hc, sv_9 hV hc, sv_8 hV, li_n, nI_add, pk_mul, nI_clamp, nI_ltI, nI_leI, nI_eq, mi_n, Nat.add_zero, true_and, and_true, true_or, or_true, false_or, or_false, not_false_eq_true, not_true_eq_false, implies_true, forall_const, ne_eq, Classical.not_not, reduceCtorEq, nor_p, cI_1n, bI_1n, cI_F, cI_T, cI_0, cI_0n, bI_0, bI_0n, cI_01, bI_01, Nat.reduceLeDiff, Nat.reduceLT, Nat.reduceEqDiff, Nat.reduceSub, Nat.reduceAdd, Nat.lt_irrefl, Nat.le_refl, false_implies, true_implies]
    exact hQ
  · have hmb := wm_b hm hi
    have i1 : mDo s i ∧ mUn s i → mu_go w mm_X4_unreadyBlows (d + 3) L Q 4 [some (.ref b), some (.int (nI (sumN (fun m => cN (mDo s m ∧ mUn s m)) i + 1))), some (.int (nI (i + 1))), none] [] g := fun h => by
      have := ih
      unfold sumN at this
      rw [cN_t h] at this
      exact this
    have i0 : ¬ (mDo s i ∧ mUn s i) → mu_go w mm_X4_unreadyBlows (d + 3) L Q 4 [some (.ref b), some (.int (nI (sumN (fun m => cN (mDo s m ∧ mUn s m)) i + 0))), some (.int (nI (i + 1))), none] [] g := fun h => by
      have := ih
      unfold sumN at this
      rw [cN_f h] at this
      exact this
    clear ih
    simp (disch := omega) only [Nat.not_le_of_lt hi, sc_T hS, sc_R0 hS, sc_R1 hS, sc_R2 hS, sc_R3 hS, sc_R4 hS, sc_R5 hS, sc_R6 hS, sc_R7 hS, sc_R8 hS, sc_R9 hS, sc_T1 hS, sc_N1 hS, sc_RP hS, sc_T2 hS, sc_N2 hS, sc_RM hS, sc_T3 hS, sc_N3 hS, sc_T4 hS, sc_N4 hS, sc_T5 hS, sc_N5 hS, sc_T6 hS, sc_N6 hS, sc_T7 hS, sc_N7 hS, sc_T8 hS, sc_N8 hS, sc_T9 hS, sc_N9 hS, sc_T10 hS, sc_RL0 hS, sc_RL1 hS, sc_T11 hS, sc_N11 hS, sc_T12 hS, sc_N12 hS, sc_TP hS, sc_TM hS, sc_w hS, sc_wj hS, sc_wp hS, sv_0 hV hc, sv_1 hV hc, sv_2 hV hc, sv_3 hV hc, sv_4 hV hc, sv_5 hV hc, sv_6 hV hc, sv_7 hV hc, sv_9 hV hc, sv_8 hV, li_n, nI_add, pk_mul, nI_clamp, nI_ltI, nI_leI, nI_eq, mi_n, Nat.add_zero, true_and, and_true, true_or, or_true, false_or, or_false, not_false_eq_true, not_true_eq_false, implies_true, forall_const, ne_eq, Classical.not_not, reduceCtorEq, nor_p, cI_1n, bI_1n, cI_F, cI_T, cI_0, cI_0n, bI_0, bI_0n, cI_01, bI_01, Nat.reduceLeDiff, Nat.reduceLT, Nat.reduceEqDiff, Nat.reduceSub, Nat.reduceAdd, Nat.lt_irrefl, Nat.le_refl, false_implies, true_implies]
    refine ⟨by omega, mu_cI (sp_X1_isBlowToDo hs (sc_TM hS (by omega)) (sv_m hV hm hi (by omega)) hmb.2.1 (sv_m hV hm hi (by omega)) hmb.2.2.2.2.2.2.2.2.2.2) hL ?_⟩
    simp (disch := omega) only [sc_T hS, sc_R0 hS, sc_R1 hS, sc_R2 hS, sc_R3 hS, sc_R4 hS, sc_R5 hS, sc_R6 hS, sc_R7 hS, sc_R8 hS, sc_R9 hS, sc_T1 hS, sc_N1 hS, sc_RP hS, sc_T2 hS, sc_N2 hS, sc_RM hS, sc_T3 hS, sc_N3 hS, sc_T4 hS, sc_N4 hS, sc_T5 hS, sc_N5 hS, sc_T6 hS, sc_N6 hS, sc_T7 hS, sc_N7 hS, sc_T8 hS, sc_N8 hS, sc_T9 hS, sc_N9 hS, sc_T10 hS, sc_RL0 hS, sc_RL1 hS, sc_T11 hS, sc_N11 hS, sc_T12 hS, sc_N12 hS, sc_TP hS, sc_TM hS, sc_w hS, sc_wj hS, sc_wp hS, sv_0 hV hc, sv_1 hV hc, sv_2 hV hc, sv_3 hV hc, sv_4 hV hc, sv_5 hV hc, sv_6 hV hc, sv_7 hV hc, sv_9 hV hc, sv_8 hV, li_n, nI_add, pk_mul, nI_clamp, nI_ltI, nI_leI, nI_eq, mi_n, Nat.add_zero, true_and, and_true, true_or, or_true, false_or, or_false, not_false_eq_true, not_true_eq_false, implies_true, forall_const, ne_eq, Classical.not_not, reduceCtorEq, nor_p, cI_1n, bI_1n, cI_F, cI_T, cI_0, cI_0n, bI_0, bI_0n, cI_01, bI_01, Nat.reduceLeDiff, Nat.reduceLT, Nat.reduceEqDiff, Nat.reduceSub, Nat.reduceAdd, Nat.lt_irrefl, Nat.le_refl, false_implies, true_implies]
    refine ⟨fun h => mu_cI sp_X10_asInt hL ?_, fun h => mu_cI (sp_X4_isUnready hS hV hc hm hB hg hi) hL ?_⟩
    · rw [cI_nn (by omega), nI_add]
      exact i0 (fun q => h q.1)
    · simp (disch := omega) only [sc_T hS, sc_R0 hS, sc_R1 hS, sc_R2 hS, sc_R3 hS, sc_R4 hS, sc_R5 hS, sc_R6 hS, sc_R7 hS, sc_R8 hS, sc_R9 hS, sc_T1 hS, sc_N1 hS, sc_RP hS, sc_T2 hS, sc_N2 hS, sc_RM hS, sc_T3 hS, sc_N3 hS, sc_T4 hS, sc_N4 hS, sc_T5 hS, sc_N5 hS, sc_T6 hS, sc_N6 hS, sc_T7 hS, sc_N7 hS, sc_T8 hS, sc_N8 hS, sc_T9 hS, sc_N9 hS, sc_T10 hS, sc_RL0 hS, sc_RL1 hS, sc_T11 hS, sc_N11 hS, sc_T12 hS, sc_N12 hS, sc_TP hS, sc_TM hS, sc_w hS, sc_wj hS, sc_wp hS, sv_0 hV hc, sv_1 hV hc, sv_2 hV hc, sv_3 hV hc, sv_4 hV hc, sv_5 hV hc, sv_6 hV hc, sv_7 hV hc, sv_9 hV hc, sv_8 hV, li_n, nI_add, pk_mul, nI_clamp, nI_ltI, nI_leI, nI_eq, mi_n, Nat.add_zero, true_and, and_true, true_or, or_true, false_or, or_false, not_false_eq_true, not_true_eq_false, implies_true, forall_const, ne_eq, Classical.not_not, reduceCtorEq, nor_p, cI_1n, bI_1n, cI_F, cI_T, cI_0, cI_0n, bI_0, bI_0n, cI_01, bI_01, Nat.reduceLeDiff, Nat.reduceLT, Nat.reduceEqDiff, Nat.reduceSub, Nat.reduceAdd, Nat.lt_irrefl, Nat.le_refl, false_implies, true_implies]
      refine ⟨fun h2 => mu_cI sp_X10_asInt hL ?_, fun h2 => mu_cI sp_X10_asInt hL ?_⟩
      · rw [cI_nn (by omega), nI_add]
        exact i0 (fun q => h2 q.2)
      · rw [cI_nn (by omega), nI_add]
        exact i1 ⟨h, h2⟩
theorem sp_X4_meetsAnother {v p e l : Nat} (hS : sc_L w b g) (hV : sc_V w E b s g) (hc : wf_c s) (hm : wf_m B s) (hB : B ≤ 95) (hv : v < 20) (h1 : mu_I g (b + 21 + v) 0 = nI p) (h2 : mu_I g (b + 21 + v) 2 = nI e) (h3 : mu_I g (b + 21 + v) 3 = nI l) (hp : p < 100) (he : e < 100) (hl : l < 100) :
    mu_met w mm_X4_meetsAnother (d + 1) [.ref b, .int (nI v)] g (some (.int (cI (∃ i, i < nm s ∧ i ≠ v ∧ vM s i 0 = p ∧ vM s i 2 < e + l ∧ e < vM s i 2 + vM s i 3)))) g := by
  refine mu_mk mk_X4_meetsAnother rfl rfl rfl (fun L hL Q hQ => fm_X4_meetsAnother_0 ?_)
  have h0 := cq' hQ
  clear hQ
  have hb := wc_b hc
  refine lp (n := nm s) (P := fun i => (∀ j, j < i → ¬ (j ≠ v ∧ vM s j 0 = p ∧ vM s j 2 < e + l ∧ e < vM s j 2 + vM s j 3)) → mu_go w mm_X4_meetsAnother (d + 1) L Q 2 [some (.ref b), some (.int (nI v)), some (.int (nI i))] [] g) (fun hj => fm_X4_meetsAnother_2 ?_) (fun i hi ih hj => fm_X4_meetsAnother_2 ?_) (fun j hj => absurd hj (Nat.not_lt_zero j))
  · simp (disch := omega) only [sc_T hS, sc_R0 hS, sc_R1 hS, sc_R2 hS, sc_R3 hS, sc_R4 hS, sc_R5 hS, sc_R6 hS, sc_R7 hS, sc_R8 hS, sc_R9 hS, sc_T1 hS, sc_N1 hS, sc_RP hS, sc_T2 hS, sc_N2 hS, sc_RM hS, sc_T3 hS, sc_N3 hS, sc_T4 hS, sc_N4 hS, sc_T5 hS, sc_N5 hS, sc_T6 hS, sc_N6 hS, sc_T7 hS, sc_N7 hS, sc_T8 hS, sc_N8 hS, sc_T9 hS, sc_N9 hS, sc_T10 hS, sc_RL0 hS, sc_RL1 hS, sc_T11 hS, sc_N11 hS, sc_T12 hS, sc_N12 hS, sc_TP hS, sc_TM hS, sc_w hS, sc_wj hS, sc_wp hS, sv_0 hV hc, sv_1 hV hc, sv_2 hV hc, sv_3 hV hc, sv_4 hV hc, sv_5 hV hc, sv_6 hV hc, sv_7 hV hc, sv_9 hV hc, sv_8 hV, li_n, nI_add, pk_mul, nI_clamp, nI_ltI, nI_leI, nI_eq, mi_n, Nat.add_zero, true_and, and_true, true_or, or_true, false_or, or_false, not_false_eq_true, not_true_eq_false, implies_true, forall_const, ne_eq, Classical.not_not, reduceCtorEq, nor_p, cI_1n, bI_1n, cI_F, cI_T, cI_0, cI_0n, bI_0, bI_0n, cI_01, bI_01, Nat.reduceLeDiff, Nat.reduceLT, Nat.reduceEqDiff, Nat.reduceSub, Nat.reduceAdd, Nat.lt_irrefl, Nat.le_refl, false_implies, true_implies]
    exact h0.2 (fun ⟨i, h1, h2⟩ => hj i h1 h2)
  · have hmb := wm_b hm hi
    have ih2 : ¬ (i ≠ v ∧ vM s i 0 = p ∧ vM s i 2 < e + l ∧ e < vM s i 2 + vM s i 3) → mu_go w mm_X4_meetsAnother (d + 1) L Q 2 [some (.ref b), some (.int (nI v)), some (.int (nI (i + 1)))] [] g := fun h => ih (fun j h2 => by
      by_cases e : j = i
      · rw [e]; exact h
      · exact hj j (by omega))
    simp (disch := omega) only [Nat.not_le_of_lt hi, sv_m hV hm, sc_T hS, sc_R0 hS, sc_R1 hS, sc_R2 hS, sc_R3 hS, sc_R4 hS, sc_R5 hS, sc_R6 hS, sc_R7 hS, sc_R8 hS, sc_R9 hS, sc_T1 hS, sc_N1 hS, sc_RP hS, sc_T2 hS, sc_N2 hS, sc_RM hS, sc_T3 hS, sc_N3 hS, sc_T4 hS, sc_N4 hS, sc_T5 hS, sc_N5 hS, sc_T6 hS, sc_N6 hS, sc_T7 hS, sc_N7 hS, sc_T8 hS, sc_N8 hS, sc_T9 hS, sc_N9 hS, sc_T10 hS, sc_RL0 hS, sc_RL1 hS, sc_T11 hS, sc_N11 hS, sc_T12 hS, sc_N12 hS, sc_TP hS, sc_TM hS, sc_w hS, sc_wj hS, sc_wp hS, sv_0 hV hc, sv_1 hV hc, sv_2 hV hc, sv_3 hV hc, sv_4 hV hc, sv_5 hV hc, sv_6 hV hc, sv_7 hV hc, sv_9 hV hc, sv_8 hV, li_n, nI_add, pk_mul, nI_clamp, nI_ltI, nI_leI, nI_eq, mi_n, Nat.add_zero, true_and, and_true, true_or, or_true, false_or, or_false, not_false_eq_true, not_true_eq_false, implies_true, forall_const, ne_eq, Classical.not_not, reduceCtorEq, nor_p, cI_1n, bI_1n, cI_F, cI_T, cI_0, cI_0n, bI_0, bI_0n, cI_01, bI_01, Nat.reduceLeDiff, Nat.reduceLT, Nat.reduceEqDiff, Nat.reduceSub, Nat.reduceAdd, Nat.lt_irrefl, Nat.le_refl, false_implies, true_implies]
    refine ⟨fun h => ih2 (fun q => q.1 h), fun h => ⟨by omega, by omega, mu_cI (sp_X1_sharesBeat (sc_TM hS (by omega)) (sc_TM hS (by omega)) (sv_m hV hm hi (by omega)) (sv_m hV hm hi (by omega)) (sv_m hV hm hi (by omega)) h1 h2 h3 (by omega)) hL ?_⟩⟩
    simp (disch := omega) only [li_n, nI_add, pk_mul, nI_clamp, nI_ltI, nI_leI, nI_eq, mi_n, Nat.add_zero, true_and, and_true, true_or, or_true, false_or, or_false, not_false_eq_true, not_true_eq_false, implies_true, forall_const, ne_eq, Classical.not_not, reduceCtorEq, nor_p, cI_1n, bI_1n, cI_F, cI_T, cI_0, cI_0n, bI_0, bI_0n, cI_01, bI_01, Nat.reduceLeDiff, Nat.reduceLT, Nat.reduceEqDiff, Nat.reduceSub, Nat.reduceAdd, Nat.lt_irrefl, Nat.le_refl, false_implies, true_implies]
    exact ⟨fun h2 => ih2 (fun q => h2 q.2), fun h2 => h0.1 ⟨i, hi, h, h2⟩⟩
theorem sp_X4_chosenPlace {m : Nat} (hS : sc_L w b g) (hV : sc_V w E b s g) (hc : wf_c s) (hh : wf_ch s) (hm : m < 100) : mu_met w mm_X4_chosenPlace d [.ref b, .int (nI m)] g (some (.int (if fsN (fun i => vC s i = m) (nch s) < nch s then nI (fsN (fun i => vC s i = m) (nch s)) else -1000000005))) g := by
  refine mu_mk mk_X4_chosenPlace rfl rfl rfl (fun L hL Q hQ => fm_X4_chosenPlace_0 ?_)
  have hb := wc_b hc
  refine lp (n := nch s) (P := fun i => (∀ j, j < i → ¬ vC s j = m) → mu_go w mm_X4_chosenPlace d L Q 2 [some (.ref b), some (.int (nI m)), some (.int (nI i))] [] g) (fun hj => fm_X4_chosenPlace_2 ?_) (fun i hi ih hj => fm_X4_chosenPlace_2 ?_) (fun j hj => absurd hj (Nat.not_lt_zero j))
  · simp (disch := omega) only [sc_T hS, sc_R0 hS, sc_R1 hS, sc_R2 hS, sc_R3 hS, sc_R4 hS, sc_R5 hS, sc_R6 hS, sc_R7 hS, sc_R8 hS, sc_R9 hS, sc_T1 hS, sc_N1 hS, sc_RP hS, sc_T2 hS, sc_N2 hS, sc_RM hS, sc_T3 hS, sc_N3 hS, sc_T4 hS, sc_N4 hS, sc_T5 hS, sc_N5 hS, sc_T6 hS, sc_N6 hS, sc_T7 hS, sc_N7 hS, sc_T8 hS, sc_N8 hS, sc_T9 hS, sc_N9 hS, sc_T10 hS, sc_RL0 hS, sc_RL1 hS, sc_T11 hS, sc_N11 hS, sc_T12 hS, sc_N12 hS, sc_TP hS, sc_TM hS, sc_w hS, sc_wj hS, sc_wp hS, sv_0 hV hc, sv_1 hV hc, sv_2 hV hc, sv_3 hV hc, sv_4 hV hc, sv_5 hV hc, sv_6 hV hc, sv_7 hV hc, sv_9 hV hc, sv_8 hV, li_n, nI_add, pk_mul, nI_clamp, nI_ltI, nI_leI, nI_eq, mi_n, Nat.add_zero, true_and, and_true, true_or, or_true, false_or, or_false, not_false_eq_true, not_true_eq_false, implies_true, forall_const, ne_eq, Classical.not_not, reduceCtorEq, nor_p, cI_1n, bI_1n, cI_F, cI_T, cI_0, cI_0n, bI_0, bI_0n, cI_01, bI_01, Nat.reduceLeDiff, Nat.reduceLT, Nat.reduceEqDiff, Nat.reduceSub, Nat.reduceAdd, Nat.lt_irrefl, Nat.le_refl, false_implies, true_implies]
    rw [fsN_no hj, if_neg (Nat.lt_irrefl _)] at hQ
    exact hQ
  · have hcb := hh i hi
    have hbm := wc_b hc
    simp (disch := omega) only [Nat.not_le_of_lt hi, sv_c hV hh, sc_T hS, sc_R0 hS, sc_R1 hS, sc_R2 hS, sc_R3 hS, sc_R4 hS, sc_R5 hS, sc_R6 hS, sc_R7 hS, sc_R8 hS, sc_R9 hS, sc_T1 hS, sc_N1 hS, sc_RP hS, sc_T2 hS, sc_N2 hS, sc_RM hS, sc_T3 hS, sc_N3 hS, sc_T4 hS, sc_N4 hS, sc_T5 hS, sc_N5 hS, sc_T6 hS, sc_N6 hS, sc_T7 hS, sc_N7 hS, sc_T8 hS, sc_N8 hS, sc_T9 hS, sc_N9 hS, sc_T10 hS, sc_RL0 hS, sc_RL1 hS, sc_T11 hS, sc_N11 hS, sc_T12 hS, sc_N12 hS, sc_TP hS, sc_TM hS, sc_w hS, sc_wj hS, sc_wp hS, sv_0 hV hc, sv_1 hV hc, sv_2 hV hc, sv_3 hV hc, sv_4 hV hc, sv_5 hV hc, sv_6 hV hc, sv_7 hV hc, sv_9 hV hc, sv_8 hV, li_n, nI_add, pk_mul, nI_clamp, nI_ltI, nI_leI, nI_eq, mi_n, Nat.add_zero, true_and, and_true, true_or, or_true, false_or, or_false, not_false_eq_true, not_true_eq_false, implies_true, forall_const, ne_eq, Classical.not_not, reduceCtorEq, nor_p, cI_1n, bI_1n, cI_F, cI_T, cI_0, cI_0n, bI_0, bI_0n, cI_01, bI_01, Nat.reduceLeDiff, Nat.reduceLT, Nat.reduceEqDiff, Nat.reduceSub, Nat.reduceAdd, Nat.lt_irrefl, Nat.le_refl, false_implies, true_implies]
    refine ⟨by omega, fun h => ih (fun j h2 => ?_), fun h => ?_⟩
    · by_cases e : j = i
      · rw [e]; exact h
      · exact hj j (by omega)
    · rw [fsN_at (c := fun i => vC s i = m) h hj hi, if_pos hi] at hQ
      exact hQ
theorem sp_X4_isDull {k : Nat} (hS : sc_L w b g) (hV : sc_V w E b s g) (hc : wf_c s) (hw : wf_w s) (hk : k < nwp s) : mu_met w mm_X4_isDull d [.ref b, .int (nI k)] g (some (.int (cI (20 < vW s k)))) g := by
  refine mu_mk mk_X4_isDull rfl rfl rfl (fun L hL Q hQ => fm_X4_isDull_0 ?_)
  have h0 := cq' hQ
  clear hQ
  have hb := wc_b hc
  have := (hw.1 k hk).2.1
  simp (disch := omega) only [sv_w hV hw, sc_T hS, sc_R0 hS, sc_R1 hS, sc_R2 hS, sc_R3 hS, sc_R4 hS, sc_R5 hS, sc_R6 hS, sc_R7 hS, sc_R8 hS, sc_R9 hS, sc_T1 hS, sc_N1 hS, sc_RP hS, sc_T2 hS, sc_N2 hS, sc_RM hS, sc_T3 hS, sc_N3 hS, sc_T4 hS, sc_N4 hS, sc_T5 hS, sc_N5 hS, sc_T6 hS, sc_N6 hS, sc_T7 hS, sc_N7 hS, sc_T8 hS, sc_N8 hS, sc_T9 hS, sc_N9 hS, sc_T10 hS, sc_RL0 hS, sc_RL1 hS, sc_T11 hS, sc_N11 hS, sc_T12 hS, sc_N12 hS, sc_TP hS, sc_TM hS, sc_w hS, sc_wj hS, sc_wp hS, sv_0 hV hc, sv_1 hV hc, sv_2 hV hc, sv_3 hV hc, sv_4 hV hc, sv_5 hV hc, sv_6 hV hc, sv_7 hV hc, sv_9 hV hc, sv_8 hV, li_n, nI_add, pk_mul, nI_clamp, nI_ltI, nI_leI, nI_eq, mi_n, Nat.add_zero, true_and, and_true, true_or, or_true, false_or, or_false, not_false_eq_true, not_true_eq_false, implies_true, forall_const, ne_eq, Classical.not_not, reduceCtorEq, nor_p, cI_1n, bI_1n, cI_F, cI_T, cI_0, cI_0n, bI_0, bI_0n, cI_01, bI_01, Nat.reduceLeDiff, Nat.reduceLT, Nat.reduceEqDiff, Nat.reduceSub, Nat.reduceAdd, Nat.lt_irrefl, Nat.le_refl, false_implies, true_implies]
  exact ⟨by omega, fun h => h0.2 (by omega), fun h => h0.1 (by omega)⟩
end Cs
