/-! CLIENTS: understudies: both public calls -/
def udX (s : Nat → Int32) (l : Nat → Nat) (m : Nat) : Prop := mDo s m ∧ fsN (brk s l m) (np s) < np s
noncomputable def udC (s : Nat → Int32) (m : Nat) : Nat := fsN (fun i => vC s i = m) (nch s)
noncomputable def usB (s : Nat → Int32) (l : Nat → Nat) : Nat → Int32
  | 0 => 0
  | m + 1 => cif (udX s l m) (usB s l m ||| ((1 : Int32) <<< (nI (udC s m) &&& 31))) (usB s l m)
noncomputable def usW (s : Nat → Int32) (l : Nat → Nat) : Nat → Nat
  | 0 => 0
  | m + 1 => cif (udX s l m) (usW s l m + kWorth (vM s m 1)) (usW s l m)
noncomputable def usL (s : Nat → Int32) (p : Nat) (v : Int32) : Nat → Nat := lateN (upd s (20 + 4 * p + 1) v)
noncomputable def pUnder (s : Nat → Int32) (v1 v2 v3 : Int32) : Int32 × (Nat → Int32) := (cif ((0 ≤ v1.toInt ∧ v1.toInt < (np s : Int)) ∧ (0 ≤ v2.toInt ∧ v2.toInt ≤ 9) ∧ 0 ≤ v3.toInt ∧ v3.toInt ≤ 1) (cif (∃ m, m < nm s ∧ udX s (usL s v1.toNatClampNeg v2) m ∧ ¬ udC s m < nch s) (-1000000005) (cif (v3 = 0) (usB s (usL s v1.toNatClampNeg v2) (nm s)) (nI (usW s (usL s v1.toNatClampNeg v2) (nm s))))) (-1000000001), s)
section Qw
variable {w : mu_O} {d x y b S E : Nat} {g g1 g2 : mu_H} {s c : Nat → Int32} {l : Nat → Nat} {v1 v2 v3 : Int32}
theorem us_PL {p q t : Nat} {v : Int32} (hc : wf_c s) (hp : p < 8) (hq : q < 8) : PL (upd s (20 + 4 * p + 1) v) q t = PL s q t := by
  have hb := wc_b hc
  have e1 : nm (upd s (20 + 4 * p + 1) v) = nm s := nm_u (by omega)
  refine PL_c (vP_u (by omega)) e1 (fun m hm => ?_) t
  rw [e1] at hm
  have eM : ∀ f, vM (upd s (20 + 4 * p + 1) v) m f = vM s m f := fun f => vM_u (by omega)
  unfold mGo
  rw [eM, eM, eM, eM, eM, eM]
  exact ⟨Iff.rfl, fun _ _ => ⟨rfl, rfl, rfl⟩⟩
theorem us_X {p m : Nat} {v : Int32} (hW : wf_s s) (hp : p < np s) (hm : m < nm s) : udX (upd s (20 + 4 * p + 1) v) l m ↔ udX s l m := by
  have hc := ws_c hW
  have hb := wc_b hc
  have hmb := wm_b (ws_m hW) hm
  have eM : ∀ f, vM (upd s (20 + 4 * p + 1) v) m f = vM s m f := fun f => vM_u (by omega)
  have e0 : np (upd s (20 + 4 * p + 1) v) = np s := np_u (by omega)
  have eb : fsN (brk (upd s (20 + 4 * p + 1) v) l m) (np s) = fsN (brk s l m) (np s) := fsN_c (fun q hq => by
    unfold brk want gpV
    rw [eM, eM, eM, eM, eM, eM]
    rw [mnF_c (fun i _ => by rw [us_PL hc (by omega) (by omega), us_PL hc (by omega) (by omega)])])
  unfold udX mDo
  rw [eM, eM, e0, eb]
theorem us_C {p m : Nat} {v : Int32} (hp : p < 8) : udC (upd s (20 + 4 * p + 1) v) m = udC s m := by
  unfold udC
  rw [nch_u (by omega)]
  exact fsN_c (fun i _ => by rw [vC_u (by omega)])
theorem pc_understudy (hE : x + 187 ≤ E) (hst : st_L w g) (hC : cl_L w x g) (hV : sc_V w E (x + 1) s g) (hW : wf_s s) : mu_mp w mm_X10_understudy (d + 5) [.ref x, .int v1, .int v2, .int v3] g (cPost w x E (pUnder s v1 v2 v3) g) := by
  refine mu_mkp mk_X10_understudy rfl (fun L hL Q hQ => fm_X10_understudy_0 ?_)
  have hc := ws_c hW
  have hb := wc_b hc
  have hN := cl_n hC
  have hw := cl_w hC
  refine ⟨cl_T hC, by rw [cl_R0 hC]; exact sc_T hN, ?_⟩
  rw [cl_R0 hC]
  have bad : ¬ ((0 ≤ v1.toInt ∧ v1.toInt < (np s : Int)) ∧ (0 ≤ v2.toInt ∧ v2.toInt ≤ 9) ∧ 0 ≤ v3.toInt ∧ v3.toInt ≤ 1) → Q (some (.int (-1000000001))) g := fun h => by
    unfold pUnder at hQ
    rw [cif_f h] at hQ
    exact cp_0 (L := L) hC hQ rfl hV
  refine mu_cI (sp_X4_hasPerson hN hV hc) hL ?_
  rw [cI_0]
  refine ⟨fun h => bad (fun q => h q.1), fun h => mu_cI (sp_X10_wN (a := 0) (b := 9) rfl rfl) hL ?_⟩
  rw [cI_0]
  refine ⟨fun h2 => bad (fun q => h2 q.2.1), fun h2 => mu_cI (sp_X10_wN (a := 0) (b := 1) rfl rfl) hL ?_⟩
  rw [cI_0]
  refine ⟨fun h3 => ?_, fun h3 => bad (fun q => h3 (fun z => z q.2.2))⟩
  replace h := Classical.not_not.mp h
  replace h2 := Classical.not_not.mp h2
  replace h3 := Classical.not_not.mp h3
  unfold pUnder at hQ
  rw [cif_t ⟨h, h2, h3⟩] at hQ
  obtain ⟨p, p1, rfl, p3, p2⟩ := ix_of h
  rw [p3] at hQ
  refine ⟨cl_T hC, cl_T hC, by rw [cl_R2 hC]; exact sc_T (cl_t hC), ?_⟩
  rw [cl_R2 hC, cl_R0 hC]
  refine mu_cVp (sp_X4_takeFrom (cl_t hC) hN hV hW (by omega) (by omega)) hL (fun g1 hz _ _ => ?_)
  obtain ⟨fq, L1, V1⟩ := hz
  obtain ⟨b0, hG⟩ := cl_g hC
  have F1 : mu_fw (nwA x E) (nwB x) g g1 := fw_mono (fw_fq (B := fun a => a = x + 83 + 5) fq rfl) (fun a q => Or.inr (Or.inl ⟨q.1, by omega⟩)) (fun a q => Or.inl (by omega))
  have G1 : sg_L w (x + 124) b0 g1 := by
    unfold sg_L
    rw [fq.1, fq.2.1, fq.2.2.1 _ (by omega)]
    exact hG
  have C1 : cl_L w x g1 := cl_fw hC F1 (fun a q => q) L1 ⟨_, G1⟩
  have N1 : sc_V w E (x + 1) s g1 := sc_V_fw hV hc (fw_fq (B := fun a => a = x + 83 + 5) fq rfl) (fun a q => Or.inl (by omega)) (fun a q => by omega)
  simp (disch := omega) only [cl_T C1, cl_R2 C1, cl_R3 C1, sg_T G1, sc_T L1, sc_R0 L1, sc_R1 L1, sc_R2 L1, sc_R3 L1, sc_R4 L1, sc_R5 L1, sc_R6 L1, sc_R7 L1, sc_R8 L1, sc_R9 L1, sc_T1 L1, sc_N1 L1, sc_RP L1, sc_T2 L1, sc_N2 L1, sc_RM L1, sc_T3 L1, sc_N3 L1, sc_T4 L1, sc_N4 L1, sc_T5 L1, sc_N5 L1, sc_T6 L1, sc_N6 L1, sc_T7 L1, sc_N7 L1, sc_T8 L1, sc_N8 L1, sc_T9 L1, sc_N9 L1, sc_T10 L1, sc_RL0 L1, sc_RL1 L1, sc_T11 L1, sc_N11 L1, sc_T12 L1, sc_N12 L1, sc_TP L1, sc_TM L1, sc_w L1, sc_wj L1, sc_wp L1, li_n, nI_add, pk_mul, nI_clamp, nI_ltI, nI_leI, nI_eq, mi_n, Nat.add_zero, true_and, and_true, true_or, or_true, false_or, or_false, not_false_eq_true, not_true_eq_false, implies_true, forall_const, ne_eq, Classical.not_not, reduceCtorEq, nor_p, cI_1n, bI_1n, cI_F, cI_T, cI_0, cI_0n, bI_0, bI_0n, cI_01, bI_01, Nat.reduceLeDiff, Nat.reduceLT, Nat.reduceEqDiff, Nat.reduceSub, Nat.reduceAdd, Nat.lt_irrefl, Nat.le_refl, false_implies, true_implies]
  refine ⟨by omega, ?_⟩
  have V2 : sc_V w E (x + 83) (upd s (20 + 4 * p + 1) v2) (mu_sI g1 (x + 83 + 13 + p) 1 v2) := su_P V1 hc p1 (by omega)
  have wu : wf_s (upd s (20 + 4 * p + 1) v2) := wr_pset hW p1 (Or.inl ⟨rfl, h2⟩)
  have f2 : mu_fr (fun a => a = x + 83 + 13 + p) g1 (mu_sI g1 (x + 83 + 13 + p) 1 v2) := mu_fr_sI rfl
  have C2 := cl_fr C1 f2
  have G2 := sg_fr G1 f2
  have N2 : sc_V w E (x + 1) s (mu_sI g1 (x + 83 + 13 + p) 1 v2) := sv_fr' N1 hc f2 (fun a q => Or.inl (by omega))
  have F2 : mu_fw (nwA x E) (nwB x) g (mu_sI g1 (x + 83 + 13 + p) 1 v2) := fw_tr F1 (fw_fr (mu_fr_mono f2 (fun a q => Or.inr (Or.inl (by omega)))))
  have st2 : st_L w (mu_sI g1 (x + 83 + 13 + p) 1 v2) := st_fw hst F2 (fun a q => by unfold nwA jU at q; omega)
  generalize mu_sI g1 (x + 83 + 13 + p) 1 v2 = gg at *
  refine mu_cVp (sp_X8_look (cl_t C2) V2 (ws_c wu) G2 ⟨by omega, by omega⟩ st2 wu) (fw_fit F2 hL) (fun g3 hz _ _ => ?_)
  obtain ⟨f3, P3, T3⟩ := hz
  have F3' : mu_fw (lkA (x + 124) E) (fun a => a = x + 124) gg g3 := fw_tr (fw_sR rfl) (fw_fr f3)
  have hlk : ∀ a, lkA (x + 124) E a → ((a < x + 83 ∨ x + 124 ≤ a) ∧ a < E) ∨ jU E a := fun a q => by
    unfold lkA at q
    rcases q with q | q | q | q
    · exact Or.inl (by omega)
    · exact Or.inl (by omega)
    · exact Or.inl (by omega)
    · exact Or.inr q
  have F3 : mu_fw (nwA x E) (nwB x) g g3 := fw_tr F2 (fw_mono F3' (fun a q => by
    unfold lkA at q
    unfold nwA
    rcases q with q | q | q | q
    · exact Or.inr (Or.inl (by omega))
    · exact Or.inr (Or.inl (by omega))
    · exact Or.inr (Or.inl (by omega))
    · exact Or.inr (Or.inr q)) (fun a q => Or.inr q))
  have G3 : sg_L w (x + 124) (x + 83) g3 := sg_fr (sg_sR G2) f3
  have L3 : sc_L w (x + 83) g3 := sc_L_fw (cl_t C2) F3' (fun a q => by omega)
  have C3 : cl_L w x g3 := cl_fw C2 F3' (fun a q => Or.inr q) L3 ⟨_, G3⟩
  have N3 : sc_V w E (x + 1) s g3 := sc_V_fw N2 hc F3' (fun a q => by
    rcases hlk a q with q2 | q2
    · unfold lkA jU at q
      exact Or.inl (by omega)
    · exact Or.inr q2) (fun a q => by omega)
  have V3 : sc_V w E (x + 83) (upd s (20 + 4 * p + 1) v2) g3 := sc_V_fw V2 (ws_c wu) F3' hlk (fun a q => by omega)
  have st3 : st_L w g3 := st_fw hst F3 (fun a q => by unfold nwA jU at q; omega)
  have fin : ∀ v, v = (cif (∃ m, m < nm s ∧ udX s (usL s p v2) m ∧ ¬ udC s m < nch s) (-1000000005) (cif (v3 = 0) (usB s (usL s p v2) (nm s)) (nI (usW s (usL s p v2) (nm s))))) → Q (some (.int v)) g3 := fun v e => hQ _ _ ⟨_, rfl, e, C3, N3, F3⟩ F3.2.2.2.1 F3.2.2.2.2.1
  have en : nm (upd s (20 + 4 * p + 1) v2) = nm s := nm_u (by omega)
  have ep : np (upd s (20 + 4 * p + 1) v2) = np s := np_u (by omega)
  have ec : nch (upd s (20 + 4 * p + 1) v2) = nch s := nch_u (by omega)
  have hX := fun m (hm : m < nm s) => us_X (l := usL s p v2) (v := v2) hW p1 hm
  have hCC := fun m => us_C (s := s) (m := m) (v := v2) (show p < 8 by omega)
  have hMM : ∀ m, m < nm s → vM (upd s (20 + 4 * p + 1) v2) m 1 = vM s m 1 := fun m _ => vM_u (by omega)
  have e11 : mu_I g3 (x + 83) 11 = nI (nm s) := by rw [sv_1 V3 (ws_c wu), en]
  have T3' : sg_T' (x + 124) (upd s (20 + 4 * p + 1) v2) (usL s p v2) g3 := T3
  clear hQ T3
  generalize upd s (20 + 4 * p + 1) v2 = u at *
  generalize usL s p v2 = l at *
  refine lp (n := nm s) (P := fun i => (∀ m, m < i → udX s l m → udC s m < nch s) → mu_go w mm_X10_understudy (d + 5) L Q 77 [some (.ref x), none, none, some (.int v3), some (.int (usB s l i)), some (.int (nI (usW s l i))), some (.int (nI i)), none, none] [] g3) (fun hj => fm_X10_understudy_77 ?_) (fun i hi ih hj => fm_X10_understudy_77 ?_) (fun m hm => absurd hm (Nat.not_lt_zero m))
  · have e := cif_f (a := (-1000000005 : Int32)) (b := cif (v3 = 0) (usB s l (nm s)) (nI (usW s l (nm s)))) (show ¬ ∃ m, m < nm s ∧ udX s l m ∧ ¬ udC s m < nch s from fun ⟨m, m1, m2, m3⟩ => m3 (hj m m1 m2))
    rw [e] at fin
    refine ⟨cl_T C3, by rw [cl_R2 C3]; exact sc_T L3, ?_⟩
    rw [cl_R2 C3, e11]
    refine ⟨fun _ => ⟨fun q => fin _ (cif_f q).symm, fun q => fin _ (cif_t (Classical.not_not.mp q)).symm⟩, fun q => absurd (Int32.le_refl _) q⟩
  · have hmb := wm_b (ws_m hW) hi
    have hiu : i < nm u := by rw [en]; exact hi
    have no : ¬ udX s l i → mu_go w mm_X10_understudy (d + 5) L Q 77 [some (.ref x), none, none, some (.int v3), some (.int (usB s l i)), some (.int (nI (usW s l i))), some (.int (nI (i + 1))), none, none] [] g3 := fun q => by
      have h := ih (fun m hm hx => by
        by_cases e : m = i
        · rw [e] at hx; exact absurd hx q
        · exact hj m (by omega) hx)
      unfold usB usW at h
      rw [cif_f q, cif_f q] at h
      exact h
    refine ⟨cl_T C3, by rw [cl_R2 C3]; exact sc_T L3, ?_⟩
    rw [cl_R2 C3, e11]
    refine ⟨fun q => absurd ((nI_leI (by omega) (by omega)).mp q) (by omega), fun _ => ⟨cl_T C3, sc_T L3, ?_⟩⟩
    simp (disch := omega) only [sc_T L3, sc_R0 L3, sc_R1 L3, sc_R2 L3, sc_R3 L3, sc_R4 L3, sc_R5 L3, sc_R6 L3, sc_R7 L3, sc_R8 L3, sc_R9 L3, sc_T1 L3, sc_N1 L3, sc_RP L3, sc_T2 L3, sc_N2 L3, sc_RM L3, sc_T3 L3, sc_N3 L3, sc_T4 L3, sc_N4 L3, sc_T5 L3, sc_N5 L3, sc_T6 L3, sc_N6 L3, sc_T7 L3, sc_N7 L3, sc_T8 L3, sc_N8 L3, sc_T9 L3, sc_N9 L3, sc_T10 L3, sc_RL0 L3, sc_RL1 L3, sc_T11 L3, sc_N11 L3, sc_T12 L3, sc_N12 L3, sc_TP L3, sc_TM L3, sc_w L3, sc_wj L3, sc_wp L3, li_n, nI_add, pk_mul, nI_clamp, nI_ltI, nI_leI, nI_eq, mi_n, Nat.add_zero, true_and, and_true, true_or, or_true, false_or, or_false, not_false_eq_true, not_true_eq_false, implies_true, forall_const, ne_eq, Classical.not_not, reduceCtorEq, nor_p, cI_1n, bI_1n, cI_F, cI_T, cI_0, cI_0n, bI_0, bI_0n, cI_01, bI_01, Nat.reduceLeDiff, Nat.reduceLT, Nat.reduceEqDiff, Nat.reduceSub, Nat.reduceAdd, Nat.lt_irrefl, Nat.le_refl, false_implies, true_implies]
    refine ⟨by omega, mu_cI (sp_X1_isBlowToDo st3 (sc_TM L3 (by omega)) (sv_m V3 (ws_m wu) hiu (by omega)) (wm_b (ws_m wu) hiu).2.1 (sv_m V3 (ws_m wu) hiu (by omega)) (wm_b (ws_m wu) hiu).2.2.2.2.2.2.2.2.2.2) (fw_fit F3 hL) ?_⟩
    rw [cI_0n]
    refine ⟨fun q => no (fun z => q (((hX i hi).mpr z).1)), fun q => ⟨cl_T C3, by rw [cl_R3 C3]; exact sg_T G3, ?_⟩⟩
    replace q : mDo u i := Classical.not_not.mp q
    rw [cl_R3 C3]
    refine mu_cI (sp_X8_tooNearTo L3 V3 (ws_c wu) G3 ⟨by omega, by omega⟩ st3 (ws_p wu) (ws_m wu) P3 T3' hiu) (fw_fit F3 hL) ?_
    by_cases hx : fsN (brk u l i) (np u) < np u
    · rw [if_pos hx]
      have hxx : udX s l i := (hX i hi).mp ⟨q, hx⟩
      refine ⟨fun z => absurd z (none_n (by omega)), fun _ => ⟨cl_T C3, by rw [cl_R2 C3]; exact sc_T L3, ?_⟩⟩
      rw [cl_R2 C3]
      refine mu_cI (sp_X4_chosenPlace L3 V3 (ws_c wu) (ws_ch wu) (by omega)) (fw_fit F3 hL) ?_
      have e1 : fsN (fun j => vC u j = i) (nch u) = udC s i := hCC i
      rw [e1, ec]
      by_cases hy : udC s i < nch s
      · rw [if_pos hy]
        have em : mu_I g3 (x + 83 + 21 + i) 1 = nI (vM u i 1) := sv_m V3 (ws_m wu) hiu (by omega)
        have hm1 := (wm_b (ws_m wu) hiu).2.1
        have eu : vM u i 1 = vM s i 1 := hMM i hi
        have h := ih (fun m hm hx2 => by
          by_cases e : m = i
          · rw [e]; exact hy
          · exact hj m (by omega) hx2)
        unfold usB usW at h
        rw [cif_t hxx, cif_t hxx, ← eu] at h
        refine ⟨fun _ => ?_, fun z => absurd z (none_n' (by omega))⟩
        simp (disch := omega) only [em, sc_TM L3, st_T st3, st_N st3, st_0 st3, st_1 st3, st_2 st3, st_3 st3, st_4 st3, st_5 st3, li_n, nI_add, pk_mul, nI_clamp, nI_ltI, nI_leI, nI_eq, mi_n, Nat.add_zero, true_and, and_true, true_or, or_true, false_or, or_false, not_false_eq_true, not_true_eq_false, implies_true, forall_const, ne_eq, Classical.not_not, reduceCtorEq, nor_p, cI_1n, bI_1n, cI_F, cI_T, cI_0, cI_0n, bI_0, bI_0n, cI_01, bI_01, Nat.reduceLeDiff, Nat.reduceLT, Nat.reduceEqDiff, Nat.reduceSub, Nat.reduceAdd, Nat.lt_irrefl, Nat.le_refl, false_implies, true_implies]
        exact ⟨by omega, h⟩
      · rw [if_neg hy]
        exact ⟨fun z => absurd rfl z, fun _ => fin _ (cif_t ⟨i, hi, hxx, hy⟩).symm⟩
    · rw [if_neg hx]
      exact ⟨fun _ => no (fun z => hx ((hX i hi).mpr z).2), fun z => absurd rfl z⟩
end Qw
section Qx
variable {w : mu_O} {d x y b S E : Nat} {g g1 g2 : mu_H} {s c : Nat → Int32} {l : Nat → Nat} {v1 v2 v3 : Int32}
theorem lt0_n {k : Nat} (h : k < 2 ^ 31) : ¬ nI k < 0 := fun q => by
  have := li_lt.mp q
  rw [nI_toInt h] at this
  exact absurd this (by simp)
theorem ud_go {L : Nat × Nat} {Q : Option Value → mu_H → Prop} (hM : md_L w y g) (hs : mu_I g (y + 1) = s) (hc : wf_c s) (hK : md_K y g) (hW : wf_s s) (hC : plC y s g) (hT : lt_C y s l g) (hL : mu_fit2 L g)
    (fin : ∀ v, v = (cif (∃ m, m < nm s ∧ udX s l m ∧ ¬ udC s m < nch s) (-1000000005) (cif (v3 = 0) (usB s l (nm s)) (nI (usW s l (nm s))))) → Q (some (.int v)) g) :
    mu_go w mm_X11_understudy (d + 5) L Q 94 [some (.ref y), none, none, some (.int v3), none, some (.int 0), some (.int 0), some (.int 1), some (.int 0), none] [] g := by
  have hb := wc_b hc
  have h01 : ¬ (1 : Int32) = 0 := by decide
  refine lp (n := nm s) (P := fun i => (∀ m, m < i → udX s l m → udC s m < nch s) → mu_go w mm_X11_understudy (d + 5) L Q 94 [some (.ref y), none, none, some (.int v3), none, some (.int (usB s l i)), some (.int (nI (usW s l i))), some (.int 1), some (.int (nI i)), none] [] g) (fun hj => fm_X11_understudy_94 ?_) (fun i hi ih hj => fm_X11_understudy_94 ?_) (fun m hm => absurd hm (Nat.not_lt_zero m))
  · have e := cif_f (a := (-1000000005 : Int32)) (b := cif (v3 = 0) (usB s l (nm s)) (nI (usW s l (nm s)))) (show ¬ ∃ m, m < nm s ∧ udX s l m ∧ ¬ udC s m < nch s from fun ⟨m, m1, m2, m3⟩ => m3 (hj m m1 m2))
    rw [e] at fin
    refine ⟨md_T0 hM, by rw [md_R0 hM]; exact md_T1 hM, by rw [md_R0 hM, md_N1 hM]; exact mu_in_n (p := 1) (by decide) (by decide), ?_⟩
    rw [md_R0 hM, hs, wc_1 hc]
    exact ⟨fun _ => ⟨fun _ => ⟨fun q => fin _ (cif_f q).symm, fun q => fin _ (cif_t (Classical.not_not.mp q)).symm⟩, fun q => absurd h01 q⟩, fun q => absurd (Int32.le_refl _) q⟩
  · have hmb := wm_b (ws_m hW) hi
    have no : ¬ udX s l i → mu_go w mm_X11_understudy (d + 5) L Q 94 [some (.ref y), none, none, some (.int v3), none, some (.int (usB s l i)), some (.int (nI (usW s l i))), some (.int 1), some (.int (nI i + 1)), none] [] g := fun q => by
      have h := ih (fun m hm hx => by
        by_cases e : m = i
        · rw [e] at hx; exact absurd hx q
        · exact hj m (by omega) hx)
      unfold usB usW at h
      rw [cif_f q, cif_f q, show (nI (i + 1) : Int32) = nI i + 1 from (nI_add _ 1).symm] at h
      exact h
    have kw := fun (k : Nat) (hk : k < 6) => (hK k hk).2.1
    refine ⟨md_T0 hM, by rw [md_R0 hM]; exact md_T1 hM, by rw [md_R0 hM, md_N1 hM]; exact mu_in_n (p := 1) (by decide) (by decide), ?_⟩
    rw [md_R0 hM, hs, wc_1 hc]
    refine ⟨fun q => absurd ((nI_leI (by omega) (by omega)).mp q) (by omega), fun _ => ⟨fun q => absurd q h01, fun _ => ⟨md_T0 hM, mu_cI (sp_X11_isDoneN hM hs hc (ws_m hW) hi) hL ?_⟩⟩⟩
    rw [cI_0]
    refine ⟨fun q => no (fun z => q z.1), fun q => ⟨md_T0 hM, ?_⟩⟩
    replace q := Classical.not_not.mp q
    refine mu_cI (sp_X11_broken hM hs hc hK (ws_p hW) (ws_m hW) (ws_a hW) hC hT hi q.2) hL ?_
    by_cases hx : fsN (brk s l i) (np s) < np s
    · rw [if_pos hx]
      have hxx : udX s l i := ⟨q, hx⟩
      refine ⟨fun z => absurd z (lt0_n (by omega)), fun _ => ⟨md_T0 hM, mu_cI (sp_X11_choiceOf hM hs hc (ws_ch hW) (by omega)) hL ?_⟩⟩
      have e1 : fsN (fun j => vC s j = i) (nch s) = udC s i := rfl
      rw [e1]
      by_cases hy : udC s i < nch s
      · rw [if_pos hy]
        have h := ih (fun m hm hx2 => by
          by_cases e : m = i
          · rw [e]; exact hy
          · exact hj m (by omega) hx2)
        unfold usB usW at h
        rw [cif_t hxx, cif_t hxx] at h
        refine ⟨fun z => absurd z (lt0_n (by omega)), fun _ => ⟨fun z => absurd z h01, fun _ => ⟨md_T0 hM, md_T0 hM, mu_cI (sp_X11_fieldN (f := 1) hM hs hc (ws_m hW) hi (by omega)) hL ?_⟩⟩⟩
        simp (disch := omega) only [md_R12 hM, md_T12 hM, md_N12 hM, kw, li_n, nI_add, pk_mul, nI_clamp, nI_ltI, nI_leI, nI_eq, mi_n, Nat.add_zero, true_and, and_true, true_or, or_true, false_or, or_false, not_false_eq_true, not_true_eq_false, implies_true, forall_const, ne_eq, Classical.not_not, reduceCtorEq, nor_p, cI_1n, bI_1n, cI_F, cI_T, cI_0, cI_0n, bI_0, bI_0n, cI_01, bI_01, Nat.reduceLeDiff, Nat.reduceLT, Nat.reduceEqDiff, Nat.reduceSub, Nat.reduceAdd, Nat.lt_irrefl, Nat.le_refl, false_implies, true_implies]
        exact ⟨by omega, h⟩
      · rw [if_neg hy]
        refine ⟨fun _ => ⟨fun _ => ⟨md_T0 hM, md_T0 hM, mu_cI (sp_X11_fieldN (f := 1) hM hs hc (ws_m hW) hi (by omega)) hL ?_⟩, fun z => absurd rfl z⟩, fun z => absurd (show (-1 : Int32) < 0 by decide) z⟩
        simp (disch := omega) only [md_R12 hM, md_T12 hM, md_N12 hM, kw, li_n, nI_add, pk_mul, nI_clamp, nI_ltI, nI_leI, nI_eq, mi_n, Nat.add_zero, true_and, and_true, true_or, or_true, false_or, or_false, not_false_eq_true, not_true_eq_false, implies_true, forall_const, ne_eq, Classical.not_not, reduceCtorEq, nor_p, cI_1n, bI_1n, cI_F, cI_T, cI_0, cI_0n, bI_0, bI_0n, cI_01, bI_01, Nat.reduceLeDiff, Nat.reduceLT, Nat.reduceEqDiff, Nat.reduceSub, Nat.reduceAdd, Nat.lt_irrefl, Nat.le_refl, false_implies, true_implies]
        refine ⟨by omega, fm_X11_understudy_94 ⟨md_T0 hM, by rw [md_R0 hM]; exact md_T1 hM, by rw [md_R0 hM, md_N1 hM]; exact mu_in_n (p := 1) (by decide) (by decide), ?_⟩⟩
        have ef := fin _ (cif_t ⟨i, hi, hxx, hy⟩).symm
        exact ⟨fun _ => ⟨fun z => absurd rfl z, fun _ => ef⟩, fun _ => ⟨fun _ => ⟨fun z => absurd rfl z, fun _ => ef⟩, fun z => absurd rfl z⟩⟩
    · rw [if_neg hx]
      exact ⟨fun _ => no (fun z => hx z.2), fun z => absurd (show (-1 : Int32) < 0 by decide) z⟩
theorem pm_understudy (hM : md_L w y g) (hs : mu_I g (y + 1) = s) (hc : wf_c s) (hK : md_K y g) (hW : wf_s s) (hca : caC y s g) : mu_mp w mm_X11_understudy (d + 5) [.ref y, .int v1, .int v2, .int v3] g (mPost w y (pUnder s v1 v2 v3) g) := by
  refine mu_mkp mk_X11_understudy rfl (fun L hL Q hQ => fm_X11_understudy_0 ⟨md_T0 hM, mu_cI (sp_X11_isPersonN hM hs (wc_0 hc) (by have := wc_b hc; omega)) hL ?_⟩)
  have hb := wc_b hc
  have hw1 := md_wj hM 1
  have bad : ¬ ((0 ≤ v1.toInt ∧ v1.toInt < (np s : Int)) ∧ (0 ≤ v2.toInt ∧ v2.toInt ≤ 9) ∧ 0 ≤ v3.toInt ∧ v3.toInt ≤ 1) → Q (some (.int (-1000000001))) g := fun h => by
    unfold pUnder at hQ
    rw [cif_f h] at hQ
    exact mp_0 hQ rfl hs hca
  rw [bI_0]
  refine ⟨fun h => bad (fun q => h q.1), fun h => mu_cI (sp_X11_iN (a := 0) (b := 9) rfl rfl) hL ?_⟩
  rw [cI_0]
  refine ⟨fun h2 => bad (fun q => h2 q.2.1), fun h2 => mu_cI (sp_X11_iN (a := 0) (b := 1) rfl rfl) hL ?_⟩
  rw [cI_0]
  refine ⟨fun h3 => ?_, fun h3 => bad (fun q => h3 (fun z => z q.2.2))⟩
  replace h := Classical.not_not.mp h
  replace h2 := Classical.not_not.mp h2
  replace h3 := Classical.not_not.mp h3
  unfold pUnder at hQ
  rw [cif_t ⟨h, h2, h3⟩] at hQ
  obtain ⟨p, p1, rfl, p3, p2⟩ := ix_of h
  rw [p3] at hQ
  refine ⟨md_T0 hM, md_T0 hM, mu_cI sp_X11_personAt hL ?_⟩
  simp (disch := omega) only [md_T0 hM, md_R0 hM, md_T1 hM, md_N1 hM, hs, wc_0 hc, wc_1 hc, wc_2 hc, wc_3 hc, wc_4 hc, wc_5 hc, wc_6 hc, wc_7 hc, wc_9 hc, li_n, nI_add, pk_mul, nI_clamp, nI_ltI, nI_leI, nI_eq, mi_n, Nat.add_zero, true_and, and_true, true_or, or_true, false_or, or_false, not_false_eq_true, not_true_eq_false, implies_true, forall_const, ne_eq, Classical.not_not, reduceCtorEq, nor_p, cI_1n, bI_1n, cI_F, cI_T, cI_0, cI_0n, bI_0, bI_0n, cI_01, bI_01, Nat.reduceLeDiff, Nat.reduceLT, Nat.reduceEqDiff, Nat.reduceSub, Nat.reduceAdd, Nat.lt_irrefl, Nat.le_refl, false_implies, true_implies]
  refine ⟨by omega, mu_cI sp_X11_personAt hL ?_⟩
  simp (disch := omega) only [hw1, md_T0 hM, md_R0 hM, md_T1 hM, md_N1 hM, hs, wc_0 hc, wc_1 hc, wc_2 hc, wc_3 hc, wc_4 hc, wc_5 hc, wc_6 hc, wc_7 hc, wc_9 hc, li_n, nI_add, pk_mul, nI_clamp, nI_ltI, nI_leI, nI_eq, mi_n, Nat.add_zero, true_and, and_true, true_or, or_true, false_or, or_false, not_false_eq_true, not_true_eq_false, implies_true, forall_const, ne_eq, Classical.not_not, reduceCtorEq, nor_p, cI_1n, bI_1n, cI_F, cI_T, cI_0, cI_0n, bI_0, bI_0n, cI_01, bI_01, Nat.reduceLeDiff, Nat.reduceLT, Nat.reduceEqDiff, Nat.reduceSub, Nat.reduceAdd, Nat.lt_irrefl, Nat.le_refl, false_implies, true_implies]
  refine ⟨by omega, ?_⟩
  have wu : wf_s (upd s (20 + 4 * p + 1) v2) := wr_pset hW p1 (Or.inl ⟨rfl, h2⟩)
  have f1 : mu_fr (fun a => a = y + 1) g (mu_sI g (y + 1) (20 + 4 * p + 1) v2) := mu_fr_sI rfl
  have s1 : mu_I (mu_sI g (y + 1) (20 + 4 * p + 1) v2) (y + 1) = upd s (20 + 4 * p + 1) v2 := by rw [mu_I_upd, hs]
  have M1 := md_L_fr hM f1
  have ca1 : mu_I (mu_sI g (y + 1) (20 + 4 * p + 1) v2) y 17 = 0 ∨ (mu_I (mu_sI g (y + 1) (20 + 4 * p + 1) v2) y 17 = 1 ∧ plC y (upd s (20 + 4 * p + 1) v2) (mu_sI g (y + 1) (20 + 4 * p + 1) v2)) := by
    rw [f1.2.2.2.2.2 y (by omega)]
    refine hca.1.imp id (fun q => ⟨q.1, fun a ha T hT => ?_⟩)
    rw [np_u (by omega)] at ha
    rw [f1.2.2.2.2.2 _ (by omega), us_PL hc (by omega) (by omega)]
    exact q.2 a ha T hT
  have ff1 : mu_f2 (rfW y) g (mu_sI g (y + 1) (20 + 4 * p + 1) v2) := f2_of f1 (fun a k q => Or.inl q)
  have e17 : ∀ k, k = 18 ∨ k = 34 → mu_I (mu_sI g (y + 1) (20 + 4 * p + 1) v2) y k = mu_I g y k := fun k _ => by rw [f1.2.2.2.2.2 y (by omega)]
  have e21 : mu_I (mu_sI g (y + 1) (20 + 4 * p + 1) v2) (y + 21) = mu_I g (y + 21) := f1.2.2.2.2.2 _ (by omega)
  generalize mu_sI g (y + 1) (20 + 4 * p + 1) v2 = ga at *
  refine mu_cVp (sp_X11_findPlaces M1 s1 (ws_c wu) (ws_p wu) (ws_m wu) (ws_a wu) ca1) (f2_fit ff1 hL) (fun g2 hz _ _ => ?_)
  obtain ⟨f2, p17, pl⟩ := hz
  have ff2 : mu_f2 (rfW y) g g2 := f2_tr ff1 (f2_mono f2 (fun a k q => by unfold plW at q; unfold rfW; omega))
  have M2 := md_L_fr hM (f2_T ff2)
  have s2 : mu_I g2 (y + 1) = upd s (20 + 4 * p + 1) v2 := fr_s (y := y) f2 (fun k => by unfold plW; omega) s1
  refine ⟨md_T0 M2, mu_cVp (sp_X11_findLates M2 s2 (ws_c wu) (ws_t wu)) (f2_fit ff2 hL) (fun g3 hz _ _ => ?_)⟩
  obtain ⟨f3, lt⟩ := hz
  have ff3 : mu_f2 (rfW y) g g3 := f2_tr ff2 (f2_of f3 (fun a k q => by unfold rfW; omega))
  have M3 := md_L_fr hM (f2_T ff3)
  have s3 : mu_I g3 (y + 1) = upd s (20 + 4 * p + 1) v2 := by rw [f3.2.2.2.2.2 _ (by omega)]; exact s2
  have pl3 : plC y (upd s (20 + 4 * p + 1) v2) g3 := plC_c pl (f3.2.2.2.2.2 _ (by omega))
  have p173 : mu_I g3 y 17 = 1 := by rw [f3.2.2.2.2.2 y (by omega)]; exact p17
  refine ⟨md_T0 M3, md_T0 M3, mu_cI sp_X11_personAt (f2_fit ff3 hL) ?_⟩
  simp (disch := omega) only [hw1, md_R0 M3, md_T1 M3, md_N1 M3, li_n, nI_add, pk_mul, nI_clamp, nI_ltI, nI_leI, nI_eq, mi_n, Nat.add_zero, true_and, and_true, true_or, or_true, false_or, or_false, not_false_eq_true, not_true_eq_false, implies_true, forall_const, ne_eq, Classical.not_not, reduceCtorEq, nor_p, cI_1n, bI_1n, cI_F, cI_T, cI_0, cI_0n, bI_0, bI_0n, cI_01, bI_01, Nat.reduceLeDiff, Nat.reduceLT, Nat.reduceEqDiff, Nat.reduceSub, Nat.reduceAdd, Nat.lt_irrefl, Nat.le_refl, false_implies, true_implies]
  refine ⟨by omega, ?_⟩
  have f4 : mu_fr (fun a => a = y + 1) g3 (mu_sI g3 (y + 1) (20 + 4 * p + 1) (s (20 + 4 * p + 1))) := mu_fr_sI rfl
  have s4 : mu_I (mu_sI g3 (y + 1) (20 + 4 * p + 1) (s (20 + 4 * p + 1))) (y + 1) = s := by
    rw [mu_I_upd, s3]
    funext k
    by_cases e : k = 20 + 4 * p + 1
    · rw [e, pk_us]
    · rw [pk_un e, pk_un e]
  have ff4 : mu_f2 (rfW y) g (mu_sI g3 (y + 1) (20 + 4 * p + 1) (s (20 + 4 * p + 1))) := f2_tr ff3 (f2_of f4 (fun a k q => Or.inl q))
  have M4 := md_L_fr hM (f2_T ff4)
  have p174 : mu_I (mu_sI g3 (y + 1) (20 + 4 * p + 1) (s (20 + 4 * p + 1))) y 17 = 1 := by rw [f4.2.2.2.2.2 y (by omega)]; exact p173
  have pl4 : plC y s (mu_sI g3 (y + 1) (20 + 4 * p + 1) (s (20 + 4 * p + 1))) := fun a ha T hT => by
    have := pl3 a (by rw [np_u (by omega)]; exact ha) T hT
    rw [us_PL hc (by omega) (by omega)] at this
    rw [f4.2.2.2.2.2 _ (by omega)]
    exact this
  have lt4 : lt_C y s (usL s p v2) (mu_sI g3 (y + 1) (20 + 4 * p + 1) (s (20 + 4 * p + 1))) := fun a ha => by
    rw [f4.2.2.2.2.2 _ (by omega)]
    exact lt a (by rw [np_u (by omega)]; exact ha)
  have K4 : md_K y (mu_sI g3 (y + 1) (20 + 4 * p + 1) (s (20 + 4 * p + 1))) := md_K_c hK (fun k h1 h2 => f2_I ff4 (fun j => by unfold rfW; omega))
  have c18 : ∀ k, k = 18 ∨ k = 34 → mu_I (mu_sI g3 (y + 1) (20 + 4 * p + 1) (s (20 + 4 * p + 1))) y k = mu_I g y k := fun k hk => by
    rw [f4.2.2.2.2.2 y (by omega), f3.2.2.2.2.2 y (by omega), f2.2.2.2.2.2 y k (by unfold plW; omega)]
    exact e17 k hk
  have c21 : mu_I (mu_sI g3 (y + 1) (20 + 4 * p + 1) (s (20 + 4 * p + 1))) (y + 21) = mu_I g (y + 21) := by
    rw [f4.2.2.2.2.2 _ (by omega), f3.2.2.2.2.2 _ (by omega), f2_I f2 (fun k => by unfold plW; omega)]
    exact e21
  generalize mu_sI g3 (y + 1) (20 + 4 * p + 1) (s (20 + 4 * p + 1)) = gz at *
  refine ud_go M4 s4 hc K4 hW pl4 lt4 (f2_fit ff4 hL) (fun v e => hQ _ _ ⟨_, rfl, e, s4, ⟨Or.inr ⟨p174, pl4⟩, ?_⟩, ff4⟩ ff4.2.2.2.1 ff4.2.2.2.2.1)
  unfold shfC
  rw [c18 18 (Or.inl rfl), c18 34 (Or.inr rfl), c21]
  exact hca.2
end Qx
