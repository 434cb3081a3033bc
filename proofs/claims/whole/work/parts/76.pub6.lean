/-! CLIENTS: practice, settings: both public calls -/
noncomputable def pSet (s : Nat → Int32) (v f n : Int32) : Int32 × (Nat → Int32) := cif ((0 ≤ v.toInt ∧ v.toInt < (np s : Int)) ∧ ((f = 1 ∧ 0 ≤ n.toInt ∧ n.toInt ≤ 9) ∨ (f = 2 ∧ 0 ≤ n.toInt ∧ n.toInt ≤ 99))) (s (20 + 4 * v.toNatClampNeg + f.toNatClampNeg), upd s (20 + 4 * v.toNatClampNeg + f.toNatClampNeg) n) (-1000000001, s)
section Pz
variable {w : mu_O} {d x y E : Nat} {g : mu_H} {s : Nat → Int32}
theorem least_n {a b : Nat} (ha : a < 2 ^ 31) (hb : b < 2 ^ 31) : mu_met w mm_X11_least d [.int (nI a), .int (nI b)] g (some (.int (nI (min a b)))) g := by
  have h := sp_X11_least (w := w) (d := d) (g := g) (a := nI a) (b := nI b)
  rw [nI_toInt ha, nI_toInt hb] at h
  have e : (if ((a : Nat) : Int) < ((b : Nat) : Int) then nI a else nI b) = nI (min a b) := by
    split
    · rw [Nat.min_eq_left (by omega)]
    · rw [Nat.min_eq_right (by omega)]
  rw [e] at h
  exact h
theorem pc_practise {v u k : Int32} (hC : cl_L w x g) (hV : sc_V w E (x + 1) s g) (hW : wf_s s) : mu_mp w mm_X10_practise (d + 3) [.ref x, .int v, .int u, .int k] g (cPost w x E (pPractise s v u k) g) := by
  refine mu_mkp mk_X10_practise rfl (fun L hL Q hQ => fm_X10_practise_0 ?_)
  have hc := ws_c hW
  have hb := wc_b hc
  have hN := cl_n hC
  refine ⟨cl_T hC, by rw [cl_R0 hC]; exact sc_T hN, ?_⟩
  rw [cl_R0 hC]
  refine mu_cI (sp_X4_areTwo hN hV hc) hL ?_
  unfold pPractise at hQ
  rw [cI_0]
  refine ⟨fun h => ?_, fun h => mu_cI (sp_X10_wN (a := 1) (b := 99) rfl rfl) hL ?_⟩
  · rw [cif_f (fun q => h q.1)] at hQ
    exact cp_0 (L := L) hC hQ rfl hV
  · replace h := Classical.not_not.mp h
    rw [cI_0]
    refine ⟨fun h2 => ?_, fun h2 => ?_⟩
    · replace h2 := Classical.not_not.mp h2
      rw [cif_t ⟨h, h2⟩] at hQ
      obtain ⟨a, a1, rfl, a3, a4⟩ := ix_of h.1
      obtain ⟨c, c1, rfl, c3, c4⟩ := ix_of h.2.1
      obtain ⟨n, n1, rfl, n3, n4⟩ := ix_of (v := k) (n := 100) ⟨by omega, by omega⟩
      unfold prN at hQ
      rw [a3, c3, n3, Nat.add_assoc 290, Nat.add_assoc 290] at hQ
      have e1 : a * 8 = 8 * a := Nat.mul_comm _ _
      have e2 : c * 8 = 8 * c := Nat.mul_comm _ _
      have hh := ((ws_h hW).1 (8 * a + c) (by omega)).2
      simp (disch := omega) only [cl_T hC, cl_R0 hC, sv_h hV (ws_h hW), mn_n, e1, e2, sc_T hN, sc_R0 hN, sc_R1 hN, sc_R2 hN, sc_R3 hN, sc_R4 hN, sc_R5 hN, sc_R6 hN, sc_R7 hN, sc_R8 hN, sc_R9 hN, sc_T1 hN, sc_N1 hN, sc_RP hN, sc_T2 hN, sc_N2 hN, sc_RM hN, sc_T3 hN, sc_N3 hN, sc_T4 hN, sc_N4 hN, sc_T5 hN, sc_N5 hN, sc_T6 hN, sc_N6 hN, sc_T7 hN, sc_N7 hN, sc_T8 hN, sc_N8 hN, sc_T9 hN, sc_N9 hN, sc_T10 hN, sc_RL0 hN, sc_RL1 hN, sc_T11 hN, sc_N11 hN, sc_T12 hN, sc_N12 hN, sc_TP hN, sc_TM hN, sc_w hN, sc_wj hN, sc_wp hN, li_n, nI_add, pk_mul, nI_clamp, nI_ltI, nI_leI, nI_eq, mi_n, Nat.add_zero, true_and, and_true, true_or, or_true, false_or, or_false, not_false_eq_true, not_true_eq_false, implies_true, forall_const, ne_eq, Classical.not_not, reduceCtorEq, nor_p, cI_1n, bI_1n, cI_F, cI_T, cI_0, cI_0n, bI_0, bI_0n, cI_01, bI_01, Nat.reduceLeDiff, Nat.reduceLT, Nat.reduceEqDiff, Nat.reduceSub, Nat.reduceAdd, Nat.lt_irrefl, Nat.le_refl, false_implies, true_implies]
      have k1 := su_H (v := nI (min 99 (vH s (8 * a + c) + n))) hV hc (k := 8 * a + c) (by omega)
      have k2 := su_H (v := nI (min 99 (vH s (8 * a + c) + n))) k1 (wf_c_u hc (by omega)) (k := 8 * c + a) (by omega)
      exact ⟨by omega, by omega, by omega, cp_ok (L := L) hC hQ (mu_fr_tr (mu_fr_sI (A := fun a => x + 1 ≤ a ∧ a < x + 42) ⟨by omega, by omega⟩) (mu_fr_sI ⟨by omega, by omega⟩)) (fun a q => Or.inl q) rfl k2⟩
    · replace h2 : ¬ (1 ≤ k.toInt ∧ k.toInt ≤ 99) := fun q => h2 (fun z => z q)
      rw [cif_f (fun q => h2 q.2)] at hQ
      exact cp_0 (L := L) hC hQ rfl hV
theorem pm_practise {v u k : Int32} (hM : md_L w y g) (hs : mu_I g (y + 1) = s) (hc : wf_c s) (hW : wf_s s) (hca : caC y s g) : mu_mp w mm_X11_practise (d + 3) [.ref y, .int v, .int u, .int k] g (mPost w y (pPractise s v u k) g) := by
  refine mu_mkp mk_X11_practise rfl (fun L hL Q hQ => fm_X11_practise_0 ⟨md_T0 hM, mu_cI (sp_X11_isTwo hM hs (wc_0 hc) (by have := wc_b hc; omega)) hL ?_⟩)
  have hb := wc_b hc
  have hw1 := md_wj hM 1
  unfold pPractise at hQ
  rw [bI_0]
  refine ⟨fun h => ?_, fun h => mu_cI (sp_X11_iN (a := 1) (b := 99) rfl rfl) hL ?_⟩
  · rw [cif_f (fun q => h q.1)] at hQ
    exact mp_0 hQ rfl hs hca
  · replace h := Classical.not_not.mp h
    rw [cI_0]
    refine ⟨fun h2 => ?_, fun h2 => ?_⟩
    · replace h2 := Classical.not_not.mp h2
      rw [cif_t ⟨h, h2⟩] at hQ
      obtain ⟨a, a1, rfl, a3, a4⟩ := ix_of h.1
      obtain ⟨c, c1, rfl, c3, c4⟩ := ix_of h.2.1
      obtain ⟨n, n1, rfl, n3, n4⟩ := ix_of (v := k) (n := 100) ⟨by omega, by omega⟩
      unfold prN at hQ
      rw [a3, c3, n3] at hQ
      have hh := (ws_h hW).1 (8 * a + c) (by omega)
      have e1 : s (290 + 8 * a + c) = nI (vH s (8 * a + c)) := by rw [Nat.add_assoc]; exact hh.1
      have hh2 := hh.2
      simp (disch := omega) only [e1, md_T0 hM, md_R0 hM, md_T1 hM, md_N1 hM, hs, wc_0 hc, wc_1 hc, wc_2 hc, wc_3 hc, wc_4 hc, wc_5 hc, wc_6 hc, wc_7 hc, wc_9 hc, li_n, nI_add, pk_mul, nI_clamp, nI_ltI, nI_leI, nI_eq, mi_n, Nat.add_zero, true_and, and_true, true_or, or_true, false_or, or_false, not_false_eq_true, not_true_eq_false, implies_true, forall_const, ne_eq, Classical.not_not, reduceCtorEq, nor_p, cI_1n, bI_1n, cI_F, cI_T, cI_0, cI_0n, bI_0, bI_0n, cI_01, bI_01, Nat.reduceLeDiff, Nat.reduceLT, Nat.reduceEqDiff, Nat.reduceSub, Nat.reduceAdd, Nat.lt_irrefl, Nat.le_refl, false_implies, true_implies]
      refine ⟨by omega, mu_cI (least_n (by omega) (by omega)) hL ?_⟩
      simp (disch := omega) only [hw1, md_T0 hM, md_R0 hM, md_T1 hM, md_N1 hM, hs, wc_0 hc, wc_1 hc, wc_2 hc, wc_3 hc, wc_4 hc, wc_5 hc, wc_6 hc, wc_7 hc, wc_9 hc, li_n, nI_add, pk_mul, nI_clamp, nI_ltI, nI_leI, nI_eq, mi_n, Nat.add_zero, true_and, and_true, true_or, or_true, false_or, or_false, not_false_eq_true, not_true_eq_false, implies_true, forall_const, ne_eq, Classical.not_not, reduceCtorEq, nor_p, cI_1n, bI_1n, cI_F, cI_T, cI_0, cI_0n, bI_0, bI_0n, cI_01, bI_01, Nat.reduceLeDiff, Nat.reduceLT, Nat.reduceEqDiff, Nat.reduceSub, Nat.reduceAdd, Nat.lt_irrefl, Nat.le_refl, false_implies, true_implies]
      refine ⟨by omega, by omega, mp_ok hW hca hQ (mu_fr_tr (mu_fr_sI rfl) (mu_fr_sI rfl)) rfl ?_ ?_⟩
      · rw [mu_I_upd, mu_I_upd, hs]
      · exact agZ_u (agZ_u agZ_rf (by omega)) (by omega)
    · replace h2 : ¬ (1 ≤ k.toInt ∧ k.toInt ≤ 99) := fun q => h2 (fun z => z q)
      rw [cif_f (fun q => h2 q.2)] at hQ
      exact mp_0 hQ rfl hs hca
theorem pc_set {v f n : Int32} (hC : cl_L w x g) (hV : sc_V w E (x + 1) s g) (hW : wf_s s) : mu_mp w mm_X10_set (d + 2) [.ref x, .int v, .int f, .int n] g (cPost w x E (pSet s v f n) g) := by
  refine mu_mkp mk_X10_set rfl (fun L hL Q hQ => fm_X10_set_0 ?_)
  have hc := ws_c hW
  have hb := wc_b hc
  have hN := cl_n hC
  refine ⟨cl_T hC, by rw [cl_R0 hC]; exact sc_T hN, ?_⟩
  rw [cl_R0 hC]
  refine mu_cI (sp_X4_hasPerson hN hV hc) hL ?_
  unfold pSet at hQ
  rw [cI_0]
  refine ⟨fun h => ?_, fun h => mu_cI (sp_X10_wN (a := 1) (b := 2) rfl rfl) hL ?_⟩
  · rw [cif_f (fun q => h q.1)] at hQ
    exact cp_0 (L := L) hC hQ rfl hV
  · replace h := Classical.not_not.mp h
    obtain ⟨k, k1, rfl, k3, k4⟩ := ix_of h
    rw [cI_0]
    by_cases f1 : f = 1
    · subst f1
      refine ⟨fun _ => ⟨fun q => absurd rfl q, fun _ => mu_cI (sp_X10_wN (a := 0) (b := 9) rfl rfl) hL ?_⟩, fun q => absurd (fun z => z (by decide)) q⟩
      simp (disch := omega) only [cl_T hC, cl_R0 hC, sc_T hN, sc_R0 hN, sc_R1 hN, sc_R2 hN, sc_R3 hN, sc_R4 hN, sc_R5 hN, sc_R6 hN, sc_R7 hN, sc_R8 hN, sc_R9 hN, sc_T1 hN, sc_N1 hN, sc_RP hN, sc_T2 hN, sc_N2 hN, sc_RM hN, sc_T3 hN, sc_N3 hN, sc_T4 hN, sc_N4 hN, sc_T5 hN, sc_N5 hN, sc_T6 hN, sc_N6 hN, sc_T7 hN, sc_N7 hN, sc_T8 hN, sc_N8 hN, sc_T9 hN, sc_N9 hN, sc_T10 hN, sc_RL0 hN, sc_RL1 hN, sc_T11 hN, sc_N11 hN, sc_T12 hN, sc_N12 hN, sc_TP hN, sc_TM hN, sc_w hN, sc_wj hN, sc_wp hN, li_n, nI_add, pk_mul, nI_clamp, nI_ltI, nI_leI, nI_eq, mi_n, Nat.add_zero, true_and, and_true, true_or, or_true, false_or, or_false, not_false_eq_true, not_true_eq_false, implies_true, forall_const, ne_eq, Classical.not_not, reduceCtorEq, nor_p, cI_1n, bI_1n, cI_F, cI_T, cI_0, cI_0n, bI_0, bI_0n, cI_01, bI_01, Nat.reduceLeDiff, Nat.reduceLT, Nat.reduceEqDiff, Nat.reduceSub, Nat.reduceAdd, Nat.lt_irrefl, Nat.le_refl, false_implies, true_implies]
      refine ⟨fun h2 => ⟨by omega, ?_⟩, fun h2 => ?_⟩
      · rw [cif_t ⟨h, Or.inl ⟨rfl, h2⟩⟩, k3] at hQ
        rw [hV.2.2.1 k 1 k1 (by omega)]
        exact cp_ok (L := L) hC hQ (mu_fr_sI (A := fun a => x + 1 ≤ a ∧ a < x + 42) ⟨by omega, by omega⟩) (fun a q => Or.inl q) rfl (su_P (f := 1) hV hc k1 (by omega))
      · rw [cif_f (fun q => q.2.elim (fun z => h2 z.2) (fun z => absurd z.1 (by decide)))] at hQ
        exact cp_0 (L := L) hC hQ rfl hV
    · by_cases f2 : f = 2
      · subst f2
        refine ⟨fun _ => ⟨fun _ => mu_cI (sp_X10_wN (a := 0) (b := 99) rfl rfl) hL ?_, fun q => absurd f1 q⟩, fun q => absurd (fun z => z (by decide)) q⟩
        simp (disch := omega) only [cl_T hC, cl_R0 hC, sc_T hN, sc_R0 hN, sc_R1 hN, sc_R2 hN, sc_R3 hN, sc_R4 hN, sc_R5 hN, sc_R6 hN, sc_R7 hN, sc_R8 hN, sc_R9 hN, sc_T1 hN, sc_N1 hN, sc_RP hN, sc_T2 hN, sc_N2 hN, sc_RM hN, sc_T3 hN, sc_N3 hN, sc_T4 hN, sc_N4 hN, sc_T5 hN, sc_N5 hN, sc_T6 hN, sc_N6 hN, sc_T7 hN, sc_N7 hN, sc_T8 hN, sc_N8 hN, sc_T9 hN, sc_N9 hN, sc_T10 hN, sc_RL0 hN, sc_RL1 hN, sc_T11 hN, sc_N11 hN, sc_T12 hN, sc_N12 hN, sc_TP hN, sc_TM hN, sc_w hN, sc_wj hN, sc_wp hN, li_n, nI_add, pk_mul, nI_clamp, nI_ltI, nI_leI, nI_eq, mi_n, Nat.add_zero, true_and, and_true, true_or, or_true, false_or, or_false, not_false_eq_true, not_true_eq_false, implies_true, forall_const, ne_eq, Classical.not_not, reduceCtorEq, nor_p, cI_1n, bI_1n, cI_F, cI_T, cI_0, cI_0n, bI_0, bI_0n, cI_01, bI_01, Nat.reduceLeDiff, Nat.reduceLT, Nat.reduceEqDiff, Nat.reduceSub, Nat.reduceAdd, Nat.lt_irrefl, Nat.le_refl, false_implies, true_implies]
        refine ⟨fun h2 => ⟨by omega, ?_⟩, fun h2 => ?_⟩
        · rw [cif_t ⟨h, Or.inr ⟨rfl, h2⟩⟩, k3] at hQ
          rw [hV.2.2.1 k 2 k1 (by omega)]
          exact cp_ok (L := L) hC hQ (mu_fr_sI (A := fun a => x + 1 ≤ a ∧ a < x + 42) ⟨by omega, by omega⟩) (fun a q => Or.inl q) rfl (su_P (f := 2) hV hc k1 (by omega))
        · rw [cif_f (fun q => q.2.elim (fun z => absurd z.1 (by decide)) (fun z => h2 z.2))] at hQ
          exact cp_0 (L := L) hC hQ rfl hV
      · have a1 : ¬ f.toInt = 1 := fun e => f1 (Int32.toInt_inj.mp e)
        have a2 : ¬ f.toInt = 2 := fun e => f2 (Int32.toInt_inj.mp e)
        refine ⟨fun q => absurd (by omega) q, fun _ => ?_⟩
        rw [cif_f (fun q => q.2.elim (fun z => f1 z.1) (fun z => f2 z.1))] at hQ
        exact cp_0 (L := L) hC hQ rfl hV
theorem pm_set {v f n : Int32} (hM : md_L w y g) (hs : mu_I g (y + 1) = s) (hc : wf_c s) (hW : wf_s s) (hca : caC y s g) : mu_mp w mm_X11_set (d + 2) [.ref y, .int v, .int f, .int n] g (mPost w y (pSet s v f n) g) := by
  refine mu_mkp mk_X11_set rfl (fun L hL Q hQ => fm_X11_set_0 ?_)
  have hb := wc_b hc
  have hper := sp_X11_isPersonN (d := d) (v := v) hM hs (wc_0 hc) (by omega)
  unfold pSet at hQ
  by_cases f1 : f = 1
  · subst f1
    refine ⟨fun q => absurd rfl q, fun _ => mu_cI (sp_X11_iN (a := 0) (b := 9) rfl rfl) hL ⟨md_T0 hM, mu_cI hper hL ?_⟩⟩
    rw [bI_0, cI_0]
    refine ⟨fun h => ?_, fun h => ⟨fun h2 => ?_, fun h2 => ⟨md_T0 hM, mu_cI sp_X11_personAt hL ?_⟩⟩⟩
    · rw [cif_f (fun q => h q.1)] at hQ
      exact mp_0 hQ rfl hs hca
    · rw [cif_f (fun q => q.2.elim (fun z => h2 z.2) (fun z => absurd z.1 (by decide)))] at hQ
      exact mp_0 hQ rfl hs hca
    · replace h := Classical.not_not.mp h
      rw [cif_t ⟨h, Or.inl ⟨rfl, Classical.not_not.mp h2⟩⟩] at hQ
      obtain ⟨k, k1, rfl, k3, k4⟩ := ix_of h
      rw [k3] at hQ
      simp (disch := omega) only [md_T0 hM, md_R0 hM, md_T1 hM, md_N1 hM, hs, wc_0 hc, wc_1 hc, wc_2 hc, wc_3 hc, wc_4 hc, wc_5 hc, wc_6 hc, wc_7 hc, wc_9 hc, li_n, nI_add, pk_mul, nI_clamp, nI_ltI, nI_leI, nI_eq, mi_n, Nat.add_zero, true_and, and_true, true_or, or_true, false_or, or_false, not_false_eq_true, not_true_eq_false, implies_true, forall_const, ne_eq, Classical.not_not, reduceCtorEq, nor_p, cI_1n, bI_1n, cI_F, cI_T, cI_0, cI_0n, bI_0, bI_0n, cI_01, bI_01, Nat.reduceLeDiff, Nat.reduceLT, Nat.reduceEqDiff, Nat.reduceSub, Nat.reduceAdd, Nat.lt_irrefl, Nat.le_refl, false_implies, true_implies]
      exact mu_cI (sp_X11_becomesN hM hs (by omega)) hL (hQ _ _ ⟨_, rfl, rfl, bec_s hs, bec_c, bec_f⟩ rfl rfl)
  · refine ⟨fun _ => ?_, fun q => absurd f1 q⟩
    by_cases f2 : f = 2
    · subst f2
      refine ⟨fun q => absurd rfl q, fun _ => mu_cI (sp_X11_iN (a := 0) (b := 99) rfl rfl) hL ?_⟩
      rw [cI_0]
      refine ⟨fun h2 => ⟨md_T0 hM, mu_cI hper hL ?_⟩, fun h2 => ⟨md_T0 hM, mu_cI hper hL ?_⟩⟩
      · rw [cif_f (fun q => q.2.elim (fun z => absurd z.1 (by decide)) (fun z => h2 z.2))] at hQ
        exact ⟨fun _ => mp_0 hQ rfl hs hca, fun _ => ⟨fun _ => mp_0 hQ rfl hs hca, fun q => absurd rfl q⟩⟩
      · rw [bI_0]
        refine ⟨fun h => ?_, fun h => ⟨fun q => absurd q (by decide), fun _ => ⟨md_T0 hM, mu_cI sp_X11_personAt hL ?_⟩⟩⟩
        · rw [cif_f (fun q => h q.1)] at hQ
          exact mp_0 hQ rfl hs hca
        · replace h := Classical.not_not.mp h
          rw [cif_t ⟨h, Or.inr ⟨rfl, Classical.not_not.mp h2⟩⟩] at hQ
          obtain ⟨k, k1, rfl, k3, k4⟩ := ix_of h
          rw [k3] at hQ
          simp (disch := omega) only [md_T0 hM, md_R0 hM, md_T1 hM, md_N1 hM, hs, wc_0 hc, wc_1 hc, wc_2 hc, wc_3 hc, wc_4 hc, wc_5 hc, wc_6 hc, wc_7 hc, wc_9 hc, li_n, nI_add, pk_mul, nI_clamp, nI_ltI, nI_leI, nI_eq, mi_n, Nat.add_zero, true_and, and_true, true_or, or_true, false_or, or_false, not_false_eq_true, not_true_eq_false, implies_true, forall_const, ne_eq, Classical.not_not, reduceCtorEq, nor_p, cI_1n, bI_1n, cI_F, cI_T, cI_0, cI_0n, bI_0, bI_0n, cI_01, bI_01, Nat.reduceLeDiff, Nat.reduceLT, Nat.reduceEqDiff, Nat.reduceSub, Nat.reduceAdd, Nat.lt_irrefl, Nat.le_refl, false_implies, true_implies]
          exact mu_cI (sp_X11_becomesN hM hs (by omega)) hL (hQ _ _ ⟨_, rfl, rfl, bec_s hs, bec_c, bec_f⟩ rfl rfl)
    · refine ⟨fun _ => ⟨md_T0 hM, mu_cI hper hL ?_⟩, fun q => absurd f2 q⟩
      rw [cif_f (fun q => q.2.elim (fun z => f1 z.1) (fun z => f2 z.1))] at hQ
      exact ⟨fun _ => mp_0 hQ rfl hs hca, fun _ => ⟨fun _ => mp_0 hQ rfl hs hca, fun q => absurd rfl q⟩⟩
end Pz
