/-! CLIENTS: of, count: both public calls (gen84) -/
noncomputable def ofV (s : Nat → Int32) (k n : Nat) : Int32 := if n < 8 then s (60 + 8 * k + n) else if n = 8 then nI (kReach (vM s k 1)) else if n = 9 then nI (kWorth (vM s k 1)) else if n = 10 then nI (kTires (vM s k 1)) else if n = 11 then nI (kWears (vM s k 1)) else cI (sBar s k)
noncomputable def pOf (s : Nat → Int32) (v u : Int32) : Int32 × (Nat → Int32) := (cif ((0 ≤ v.toInt ∧ v.toInt < (nm s : Int)) ∧ 0 ≤ u.toInt ∧ u.toInt ≤ 12) (ofV s v.toNatClampNeg u.toNatClampNeg) (-1000000001), s)
/-- one of the counts; a and b are the lengths beside the scene -/
noncomputable def cntV (s : Nat → Int32) (a b : Int32) : Nat → Int32
  | 0 => s 0
  | 1 => s 1
  | 2 => nI (sumN (fun m => vM s m 7) (nm s))
  | 3 => nI (sumN (fun m => cN (mBl s m)) (nm s))
  | 4 => s 2
  | 5 => s 3
  | 6 => s 4
  | 7 => s 5
  | 8 => nI (sumN (fun i => cN (¬ s (270 + 2 * i + 1) = -1)) (nwp s))
  | 9 => s 6
  | 10 => s 7
  | 11 => a
  | 12 => b
  | _ => s 8
noncomputable def pCount (s : Nat → Int32) (a b v : Int32) : Int32 × (Nat → Int32) := (cif (0 ≤ v.toInt ∧ v.toInt ≤ 13) (cntV s a b v.toNatClampNeg) (-1000000001), s)
section Qh
variable {w : mu_O} {d x y E : Nat} {g g1 g2 : mu_H} {s : Nat → Int32}
theorem pc_of {v u : Int32} (hst : st_L w g) (hC : cl_L w x g) (hV : sc_V w E (x + 1) s g) (hW : wf_s s) : mu_mp w mm_X10_of (d + 4) [.ref x, .int v, .int u] g (cPost w x E (pOf s v u) g) := by
  refine mu_mkp mk_X10_of rfl (fun L hL Q hQ => fm_X10_of_0 ?_)
  have hc := ws_c hW
  have hb := wc_b hc
  have hN := cl_n hC
  refine ⟨cl_T hC, by rw [cl_R0 hC]; exact sc_T hN, ?_⟩
  rw [cl_R0 hC]
  refine mu_cI (sp_X4_hasMove hN hV hc) hL ?_
  unfold pOf at hQ
  rw [cI_0]
  refine ⟨fun h => ?_, fun h => mu_cI (sp_X10_wN (a := 0) (b := 12) rfl rfl) hL ?_⟩
  · rw [cif_f (fun q => h q.1)] at hQ
    exact cp_0 (L := L) hC hQ rfl hV
  · replace h := Classical.not_not.mp h
    rw [cI_0]
    refine ⟨fun h2 => ?_, fun h2 => ?_⟩
    · replace h2 := Classical.not_not.mp h2
      rw [cif_t ⟨h, h2⟩] at hQ
      obtain ⟨k, k1, rfl, k3, k4⟩ := ix_of h
      obtain ⟨n, n1, en, n3, n4⟩ := ix_of (v := u) (n := 13) ⟨by omega, by omega⟩
      have hu : u.toInt = (n : Int) := by rw [en, nI_toInt n4]
      rw [k3, n3] at hQ
      have hmb := wm_b (ws_m hW) k1
      have e1 := sv_m hV (ws_m hW) k1 (show 1 < 8 by omega)
      have e7 : mu_I g (x + 1 + 21 + k) 7 = 0 ∨ mu_I g (x + 1 + 21 + k) 7 = 1 := by
        rw [sv_m hV (ws_m hW) k1 (show 7 < 8 by omega)]
        rcases (show vM s k 7 = 0 ∨ vM s k 7 = 1 by omega) with q | q
        · rw [q]; exact Or.inl rfl
        · rw [q]; exact Or.inr rfl
      simp (disch := omega) only [cl_T hC, cl_R0 hC, e1, st_T hst, st_N hst, st_1 hst, st_2 hst, st_3 hst, st_4 hst, sc_T hN, sc_R0 hN, sc_R1 hN, sc_R2 hN, sc_R3 hN, sc_R4 hN, sc_R5 hN, sc_R6 hN, sc_R7 hN, sc_R8 hN, sc_R9 hN, sc_T1 hN, sc_N1 hN, sc_RP hN, sc_T2 hN, sc_N2 hN, sc_RM hN, sc_T3 hN, sc_N3 hN, sc_T4 hN, sc_N4 hN, sc_T5 hN, sc_N5 hN, sc_T6 hN, sc_N6 hN, sc_T7 hN, sc_N7 hN, sc_T8 hN, sc_N8 hN, sc_T9 hN, sc_N9 hN, sc_T10 hN, sc_RL0 hN, sc_RL1 hN, sc_T11 hN, sc_N11 hN, sc_T12 hN, sc_N12 hN, sc_TP hN, sc_TM hN, sc_w hN, sc_wj hN, sc_wp hN, li_n, nI_add, pk_mul, nI_clamp, nI_ltI, nI_leI, nI_eq, mi_n, Nat.add_zero, true_and, and_true, true_or, or_true, false_or, or_false, not_false_eq_true, not_true_eq_false, implies_true, forall_const, ne_eq, Classical.not_not, reduceCtorEq, nor_p, cI_1n, bI_1n, cI_F, cI_T, cI_0, cI_0n, bI_0, bI_0n, cI_01, bI_01, Nat.reduceLeDiff, Nat.reduceLT, Nat.reduceEqDiff, Nat.reduceSub, Nat.reduceAdd, Nat.lt_irrefl, Nat.le_refl, false_implies, true_implies]
      refine ⟨by omega, fun q => ?_, fun q => ⟨by omega, ?_⟩, fun q => ⟨by omega, ?_⟩, fun q => ⟨by omega, ?_⟩, fun q => ⟨by omega, ?_⟩, fun q => ?_⟩
      · have n8 : n < 8 := by omega
        unfold ofV at hQ
        rw [if_pos n8] at hQ
        rw [en]
        refine mu_cI (sp_X1_part (sc_TM hN (by omega)) n8 e7) hL ?_
        rw [hV.2.2.2.1 k n k1 n8]
        exact cp_0 (L := L) hC hQ rfl hV
      · have e4 : n = 8 := by omega
        subst e4
        exact cp_0 (L := L) hC hQ rfl hV
      · have e4 : n = 9 := by omega
        subst e4
        exact cp_0 (L := L) hC hQ rfl hV
      · have e4 : n = 10 := by omega
        subst e4
        exact cp_0 (L := L) hC hQ rfl hV
      · have e4 : n = 11 := by omega
        subst e4
        exact cp_0 (L := L) hC hQ rfl hV
      · have e4 : n = 12 := by omega
        subst e4
        refine mu_cIp (sp_X4_isBarred hN hV hc (ws_p hW) (ws_m hW) (ws_t hW) k1) hL (fun z g1 hz _ _ => mu_cI sp_X10_asInt (mu_fr_fit hz.2 hL) ?_)
        rw [hz.1, cI_c01]
        exact cp_j (L := L) hC hQ hz.2 rfl hV hc
    · rw [cif_f (fun q => h2 (fun z => z q.2))] at hQ
      exact cp_0 (L := L) hC hQ rfl hV
theorem pm_of {v u : Int32} (hM : md_L w y g) (hs : mu_I g (y + 1) = s) (hc : wf_c s) (hK : md_K y g) (hW : wf_s s) (hca : caC y s g) : mu_mp w mm_X11_of (d + 3) [.ref y, .int v, .int u] g (mPost w y (pOf s v u) g) := by
  refine mu_mkp mk_X11_of rfl (fun L hL Q hQ => fm_X11_of_0 ⟨md_T0 hM, mu_cI (sp_X11_isMove hM hs (wc_1 hc) (by have := wc_b hc; omega)) hL ?_⟩)
  have hb := wc_b hc
  unfold pOf at hQ
  rw [bI_0]
  refine ⟨fun h => ⟨md_T0 hM, ?_⟩, fun h => ?_⟩
  · replace h := Classical.not_not.mp h
    obtain ⟨k, k1, rfl, k3, k4⟩ := ix_of h
    have h5 := (wm_b (ws_m hW) k1).2.1
    have hk := hK (vM s k 1) (by omega)
    refine mu_cI (sp_X11_fieldN (f := 1) hM hs hc (ws_m hW) k1 (by omega)) hL ?_
    by_cases h2 : 0 ≤ u.toInt ∧ u.toInt ≤ 12
    · rw [cif_t ⟨h, h2⟩] at hQ
      obtain ⟨n, n1, en, n3, n4⟩ := ix_of (v := u) (n := 13) ⟨by omega, by omega⟩
      have hu : u.toInt = (n : Int) := by rw [en, nI_toInt n4]
      rw [k3, n3] at hQ
      refine ⟨fun q => absurd q (by omega), fun q => ⟨md_T0 hM, ?_⟩, fun q => ⟨md_T0 hM, ?_⟩, fun q => ⟨md_T0 hM, ?_⟩, fun q => ⟨md_T0 hM, ?_⟩, fun q => ⟨md_T0 hM, ?_⟩, fun q => ⟨md_T0 hM, ?_⟩, fun q => ⟨md_T0 hM, ?_⟩, fun q => ⟨md_T0 hM, ?_⟩, fun q => ⟨md_T0 hM, ?_⟩, fun q => ⟨md_T0 hM, ?_⟩, fun q => ⟨md_T0 hM, ?_⟩, fun q => ⟨md_T0 hM, ?_⟩, fun q => ⟨md_T0 hM, ?_⟩, trivial⟩
      · have e4 : n = 0 := by omega
        subst e4
        rw [en]
        exact mu_cI (sp_X11_field (k := 0) hM hs (by omega)) hL (mp_0 hQ rfl hs hca)
      · have e4 : n = 1 := by omega
        subst e4
        rw [en]
        exact mu_cI (sp_X11_field (k := 1) hM hs (by omega)) hL (mp_0 hQ rfl hs hca)
      · have e4 : n = 2 := by omega
        subst e4
        rw [en]
        exact mu_cI (sp_X11_field (k := 2) hM hs (by omega)) hL (mp_0 hQ rfl hs hca)
      · have e4 : n = 3 := by omega
        subst e4
        rw [en]
        exact mu_cI (sp_X11_field (k := 3) hM hs (by omega)) hL (mp_0 hQ rfl hs hca)
      · have e4 : n = 4 := by omega
        subst e4
        rw [en]
        exact mu_cI (sp_X11_field (k := 4) hM hs (by omega)) hL (mp_0 hQ rfl hs hca)
      · have e4 : n = 5 := by omega
        subst e4
        rw [en]
        exact mu_cI (sp_X11_field (k := 5) hM hs (by omega)) hL (mp_0 hQ rfl hs hca)
      · have e4 : n = 6 := by omega
        subst e4
        rw [en]
        exact mu_cI (sp_X11_field (k := 6) hM hs (by omega)) hL (mp_0 hQ rfl hs hca)
      · have e4 : n = 7 := by omega
        subst e4
        rw [en]
        exact mu_cI (sp_X11_field (k := 7) hM hs (by omega)) hL (mp_0 hQ rfl hs hca)
      · have e4 : n = 8 := by omega
        subst e4
        simp (disch := omega) only [md_R11 hM, md_T11 hM, md_N11 hM, hk.1, md_T0 hM, md_R0 hM, md_T1 hM, md_N1 hM, hs, wc_0 hc, wc_1 hc, wc_2 hc, wc_3 hc, wc_4 hc, wc_5 hc, wc_6 hc, wc_7 hc, wc_9 hc, li_n, nI_add, pk_mul, nI_clamp, nI_ltI, nI_leI, nI_eq, mi_n, Nat.add_zero, true_and, and_true, true_or, or_true, false_or, or_false, not_false_eq_true, not_true_eq_false, implies_true, forall_const, ne_eq, Classical.not_not, reduceCtorEq, nor_p, cI_1n, bI_1n, cI_F, cI_T, cI_0, cI_0n, bI_0, bI_0n, cI_01, bI_01, Nat.reduceLeDiff, Nat.reduceLT, Nat.reduceEqDiff, Nat.reduceSub, Nat.reduceAdd, Nat.lt_irrefl, Nat.le_refl, false_implies, true_implies]
        exact ⟨by omega, mp_0 hQ rfl hs hca⟩
      · have e4 : n = 9 := by omega
        subst e4
        simp (disch := omega) only [md_R12 hM, md_T12 hM, md_N12 hM, hk.2.1, md_T0 hM, md_R0 hM, md_T1 hM, md_N1 hM, hs, wc_0 hc, wc_1 hc, wc_2 hc, wc_3 hc, wc_4 hc, wc_5 hc, wc_6 hc, wc_7 hc, wc_9 hc, li_n, nI_add, pk_mul, nI_clamp, nI_ltI, nI_leI, nI_eq, mi_n, Nat.add_zero, true_and, and_true, true_or, or_true, false_or, or_false, not_false_eq_true, not_true_eq_false, implies_true, forall_const, ne_eq, Classical.not_not, reduceCtorEq, nor_p, cI_1n, bI_1n, cI_F, cI_T, cI_0, cI_0n, bI_0, bI_0n, cI_01, bI_01, Nat.reduceLeDiff, Nat.reduceLT, Nat.reduceEqDiff, Nat.reduceSub, Nat.reduceAdd, Nat.lt_irrefl, Nat.le_refl, false_implies, true_implies]
        exact ⟨by omega, mp_0 hQ rfl hs hca⟩
      · have e4 : n = 10 := by omega
        subst e4
        simp (disch := omega) only [md_R13 hM, md_T13 hM, md_N13 hM, hk.2.2.1, md_T0 hM, md_R0 hM, md_T1 hM, md_N1 hM, hs, wc_0 hc, wc_1 hc, wc_2 hc, wc_3 hc, wc_4 hc, wc_5 hc, wc_6 hc, wc_7 hc, wc_9 hc, li_n, nI_add, pk_mul, nI_clamp, nI_ltI, nI_leI, nI_eq, mi_n, Nat.add_zero, true_and, and_true, true_or, or_true, false_or, or_false, not_false_eq_true, not_true_eq_false, implies_true, forall_const, ne_eq, Classical.not_not, reduceCtorEq, nor_p, cI_1n, bI_1n, cI_F, cI_T, cI_0, cI_0n, bI_0, bI_0n, cI_01, bI_01, Nat.reduceLeDiff, Nat.reduceLT, Nat.reduceEqDiff, Nat.reduceSub, Nat.reduceAdd, Nat.lt_irrefl, Nat.le_refl, false_implies, true_implies]
        exact ⟨by omega, mp_0 hQ rfl hs hca⟩
      · have e4 : n = 11 := by omega
        subst e4
        simp (disch := omega) only [md_R14 hM, md_T14 hM, md_N14 hM, hk.2.2.2, md_T0 hM, md_R0 hM, md_T1 hM, md_N1 hM, hs, wc_0 hc, wc_1 hc, wc_2 hc, wc_3 hc, wc_4 hc, wc_5 hc, wc_6 hc, wc_7 hc, wc_9 hc, li_n, nI_add, pk_mul, nI_clamp, nI_ltI, nI_leI, nI_eq, mi_n, Nat.add_zero, true_and, and_true, true_or, or_true, false_or, or_false, not_false_eq_true, not_true_eq_false, implies_true, forall_const, ne_eq, Classical.not_not, reduceCtorEq, nor_p, cI_1n, bI_1n, cI_F, cI_T, cI_0, cI_0n, bI_0, bI_0n, cI_01, bI_01, Nat.reduceLeDiff, Nat.reduceLT, Nat.reduceEqDiff, Nat.reduceSub, Nat.reduceAdd, Nat.lt_irrefl, Nat.le_refl, false_implies, true_implies]
        exact ⟨by omega, mp_0 hQ rfl hs hca⟩
      · have e4 : n = 12 := by omega
        subst e4
        refine mu_cIp (sp_X11_barred hM hs hc (ws_m hW) (ws_t hW) k1) hL (fun z g1 hz _ _ => ?_)
        rw [hz.1, cI_0]
        exact ⟨fun q => mp_j hW hQ hz.2 (cI_f q).symm hs hca, fun q => mp_j hW hQ hz.2 (cI_t (Classical.not_not.mp q)).symm hs hca⟩
    · rw [cif_f (fun q => h2 q.2)] at hQ
      refine ⟨fun q => mp_0 hQ rfl hs hca, fun q => absurd (by omega) h2, fun q => absurd (by omega) h2, fun q => absurd (by omega) h2, fun q => absurd (by omega) h2, fun q => absurd (by omega) h2, fun q => absurd (by omega) h2, fun q => absurd (by omega) h2, fun q => absurd (by omega) h2, fun q => absurd (by omega) h2, fun q => absurd (by omega) h2, fun q => absurd (by omega) h2, fun q => absurd (by omega) h2, fun q => absurd (by omega) h2, trivial⟩
  · rw [cif_f (fun q => h (fun z => z q.1))] at hQ
    exact mp_0 hQ rfl hs hca
end Qh
