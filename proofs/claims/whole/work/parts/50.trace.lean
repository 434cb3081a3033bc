/-! CLIENTS: the class lays a way down, and looks at a scene -/
theorem pl_flat {s : Nat → Int32} {p e F : Nat} (h : ∀ T, e ≤ T → T < F → 1 ≤ T → ∀ m, m < nm s → ¬ goAt s p (T - 1) m) : ∀ k T, T = e + k → T < F → PL s p T = PL s p (e - 1) := by
  intro k
  induction k with
  | zero =>
    intro T hT hF
    by_cases q : e = 0
    · rw [hT, q]
    · have := pl_stay (h T (by omega) hF (by omega))
      rw [show T - 1 + 1 = T by omega] at this
      rw [this, hT]; rfl
  | succ k ih =>
    intro T hT hF
    have := pl_stay (h T (by omega) hF (by omega))
    rw [show T - 1 + 1 = T by omega] at this
    rw [this]
    exact ih (T - 1) (by omega) (by omega)
/-- of one who goes, and from e on -/
noncomputable def ngN (s : Nat → Int32) (p : Nat) (e : Int) : Nat := sumN (fun i => cN (ngC s p e i)) (nm s)
theorem tp_i (e : Nat) (h : e < 1000) : (tp e).toInt = (e : Int) - 1 := by
  unfold tp
  exact li_cnt (by omega)
theorem ngN_pos {s : Nat → Int32} {p m : Nat} {e : Int} (hm : m < nm s) (h : ngC s p e m) : 1 ≤ ngN s p e := by
  have := sumN_lt (f := fun _ => 0) (h := fun i => cN (ngC s p e i)) (n := nm s) (j := m) (fun i _ => Nat.zero_le _) hm (by rw [cN_t h]; omega)
  unfold ngN
  omega
theorem ngN_lt {s : Nat → Int32} {p m : Nat} {e e' : Int} (hm : m < nm s) (h : ngC s p e m) (hee : e ≤ e') (h2 : ¬ ngC s p e' m) : ngN s p e' < ngN s p e := by
  refine sumN_lt (j := m) (fun i _ => ?_) hm (by rw [cN_t h, cN_f h2]; omega)
  by_cases q : ngC s p e' i
  · rw [cN_t q, cN_t ⟨q.1, q.2.1, by have := q.2.2; omega⟩]; exact Nat.le_refl _
  · rw [cN_f q]; exact Nat.zero_le _
section Ch
variable {w : mu_O} {d b S E : Nat} {g : mu_H} {s : Nat → Int32} {B : Nat}
set_option maxHeartbeats 2000000 in
theorem sp_X8_trace {p : Nat} (hS : sc_L w b g) (hV : sc_V w E b s g) (hc : wf_c s) (hG : sg_L w S b g) (hSE : b + 41 ≤ S ∧ S + 5 ≤ E) (hst : st_L w g) (hp : wf_p s) (hm : wf_m 90 s) (ha : wf_a s) (hi : p < np s) :
    mu_mp w mm_X8_trace (d + 3) [.ref S, .int (nI p)] g (fun r g' => r = none ∧ (mu_f2 (trW S (101 * p) (101 * p + 101)) g g' ∧ trI S s p 101 g')) := by
  refine mu_mkp mk_X8_trace rfl (fun L hL Q hQ => fm_X8_trace_0 ?_)
  have hb := wc_b hc
  have hwS := sg_w hG
  have hPL := fun t => pl_ok hp hm hi t
  simp (disch := omega) only [sg_T hG, sg_R0 hG, sg_R1 hG, sg_R2 hG, sg_R3 hG, sg_R4 hG, sg_T1 hG, sg_N1 hG, sg_T2 hG, sg_N2 hG, sg_T3 hG, sg_N3 hG, sg_T4 hG, sg_N4 hG, sg_w1 hG, sg_w2 hG, sg_w3 hG, sg_w4 hG, sv_p hV hp, sc_T hS, sc_R0 hS, sc_R1 hS, sc_R2 hS, sc_R3 hS, sc_R4 hS, sc_R5 hS, sc_R6 hS, sc_R7 hS, sc_R8 hS, sc_R9 hS, sc_T1 hS, sc_N1 hS, sc_RP hS, sc_T2 hS, sc_N2 hS, sc_RM hS, sc_T3 hS, sc_N3 hS, sc_T4 hS, sc_N4 hS, sc_T5 hS, sc_N5 hS, sc_T6 hS, sc_N6 hS, sc_T7 hS, sc_N7 hS, sc_T8 hS, sc_N8 hS, sc_T9 hS, sc_N9 hS, sc_T10 hS, sc_RL0 hS, sc_RL1 hS, sc_T11 hS, sc_N11 hS, sc_T12 hS, sc_N12 hS, sc_TP hS, sc_TM hS, sc_w hS, sc_wj hS, sc_wp hS, sv_0 hV hc, sv_1 hV hc, sv_2 hV hc, sv_3 hV hc, sv_4 hV hc, sv_5 hV hc, sv_6 hV hc, sv_7 hV hc, sv_9 hV hc, sv_8 hV, li_n, nI_add, pk_mul, nI_clamp, nI_ltI, nI_leI, nI_eq, mi_n, Nat.add_zero, true_and, and_true, true_or, or_true, false_or, or_false, not_false_eq_true, not_true_eq_false, implies_true, forall_const, ne_eq, Classical.not_not, reduceCtorEq, nor_p, cI_1n, bI_1n, cI_F, cI_T, cI_0, cI_0n, bI_0, bI_0n, cI_01, bI_01, Nat.reduceLeDiff, Nat.reduceLT, Nat.reduceEqDiff, Nat.reduceSub, Nat.reduceAdd, Nat.lt_irrefl, Nat.le_refl, false_implies, true_implies]
  refine ⟨by omega, ?_⟩
  have loop : ∀ (k i e : Nat) g', k + i = 20 → ngN s p ((e : Int) - 1) ≤ k → e ≤ 95 → mu_f2 (trW S (101 * p) (101 * p + 101)) g g' → trI S s p e g' → (∀ m, m < nm s → vM s m 0 = p → mGo s m → vM s m 2 + vM s m 3 + 1 ≤ e ∨ e ≤ vM s m 2 + 1) → mu_go w mm_X8_trace (d + 3) L Q 18 [some (.ref S), some (.int (nI p)), some (.int (nI (PL s p (e - 1)))), some (.int (tp e)), some (.int (nI i)), none] [] g' := by
    intro k
    induction k with
    | zero =>
        intro i e g' hki hN he hf hI hM
        have hfr : mu_fr (fun a => a = S + 1 ∨ a = S + 2) g g' := f2_fr hf (fun a k q => q.1)
        have hS' := sc_L_fr hS hfr
        have hV' := sv_fr' hV hc hfr (fun a q => by omega)
        have hG' := sg_fr hG hfr
        have hst' := st_fr hst hfr (fun a q => by omega)
        have hL' := f2_fit hf hL
        have hte := tp_i e (by omega)
        refine fm_X8_trace_18 ?_
        simp (disch := omega) only [sg_T hG', sg_R0 hG', sg_R1 hG', sg_R2 hG', sg_R3 hG', sg_R4 hG', sg_T1 hG', sg_N1 hG', sg_T2 hG', sg_N2 hG', sg_T3 hG', sg_N3 hG', sg_T4 hG', sg_N4 hG', sg_w1 hG', sg_w2 hG', sg_w3 hG', sg_w4 hG', sc_T hS', sc_R0 hS', sc_R1 hS', sc_R2 hS', sc_R3 hS', sc_R4 hS', sc_R5 hS', sc_R6 hS', sc_R7 hS', sc_R8 hS', sc_R9 hS', sc_T1 hS', sc_N1 hS', sc_RP hS', sc_T2 hS', sc_N2 hS', sc_RM hS', sc_T3 hS', sc_N3 hS', sc_T4 hS', sc_N4 hS', sc_T5 hS', sc_N5 hS', sc_T6 hS', sc_N6 hS', sc_T7 hS', sc_N7 hS', sc_T8 hS', sc_N8 hS', sc_T9 hS', sc_N9 hS', sc_T10 hS', sc_RL0 hS', sc_RL1 hS', sc_T11 hS', sc_N11 hS', sc_T12 hS', sc_N12 hS', sc_TP hS', sc_TM hS', sc_w hS', sc_wj hS', sc_wp hS', show (20 < i) = False from eq_false (by omega), li_n, nI_add, pk_mul, nI_clamp, nI_ltI, nI_leI, nI_eq, mi_n, Nat.add_zero, true_and, and_true, true_or, or_true, false_or, or_false, not_false_eq_true, not_true_eq_false, implies_true, forall_const, ne_eq, Classical.not_not, reduceCtorEq, nor_p, cI_1n, bI_1n, cI_F, cI_T, cI_0, cI_0n, bI_0, bI_0n, cI_01, bI_01, Nat.reduceLeDiff, Nat.reduceLT, Nat.reduceEqDiff, Nat.reduceSub, Nat.reduceAdd, Nat.lt_irrefl, Nat.le_refl, false_implies, true_implies]
        refine mu_cR (sp_X4_nextGoing hS' hV' hc hst' hm (by omega) (by omega)) hL' ?_
        rw [hte]
        rcases ngF_ok (s := s) (p := p) (e := (e : Int) - 1) (nm s) with ⟨h4, h5⟩ | ⟨m, h4, h5, h6, h7⟩
        · rw [h4]
          have e0 : ngR b none = 0 := rfl
          simp (disch := omega) only [sg_T hG', sg_R0 hG', sg_R1 hG', sg_R2 hG', sg_R3 hG', sg_R4 hG', sg_T1 hG', sg_N1 hG', sg_T2 hG', sg_N2 hG', sg_T3 hG', sg_N3 hG', sg_T4 hG', sg_N4 hG', sg_w1 hG', sg_w2 hG', sg_w3 hG', sg_w4 hG', e0, li_n, nI_add, pk_mul, nI_clamp, nI_ltI, nI_leI, nI_eq, mi_n, Nat.add_zero, true_and, and_true, true_or, or_true, false_or, or_false, not_false_eq_true, not_true_eq_false, implies_true, forall_const, ne_eq, Classical.not_not, reduceCtorEq, nor_p, cI_1n, bI_1n, cI_F, cI_T, cI_0, cI_0n, bI_0, bI_0n, cI_01, bI_01, Nat.reduceLeDiff, Nat.reduceLT, Nat.reduceEqDiff, Nat.reduceSub, Nat.reduceAdd, Nat.lt_irrefl, Nat.le_refl, false_implies, true_implies]
          refine mu_cVp (sp_X8_stay hG' (by omega) (by have := hPL (e - 1); unfold okP at this; omega) (by omega) (by decide) (by omega)) hL' (fun g2 hs2 hX2 hS2 => ?_)
          have e100 : ((nI 100).toInt + 1).toNat = 101 := rfl
          rw [e100, hte, show ((e : Int) - 1 + 1).toNat = e by omega] at hs2
          have hf2 := f2_tr hf (f2_mono hs2.1 (fun a k q => ⟨q.1, by have := q.2; omega⟩))
          refine hQ _ _ ⟨rfl, hf2, fun T hT => ?_⟩ hf2.2.2.2.1 hf2.2.2.2.2.1
          by_cases q : T < e
          · rw [hs2.1.2.2.2.2.2 _ _ (by unfold trW; omega), hs2.1.2.2.2.2.2 _ _ (by unfold trW; omega)]; exact hI T q
          · rw [pl_flat (e := e) (F := 101) (fun T q1 q2 q3 m hm2 hg => ?_) (T - e) T (by omega) hT]
            · exact hs2.2 T (by omega) (by omega)
            · have := hM m hm2 hg.1 hg.2.1
              have h8 := h5 m hm2
              have h9 := hg.2.2
              rcases this with q4 | q4
              · omega
              · exact h8 ⟨hg.1, hg.2.1, by omega⟩
        · exact absurd (ngN_pos h5 h6) (by omega)
    | succ k ih =>
        intro i e g' hki hN he hf hI hM
        have hfr : mu_fr (fun a => a = S + 1 ∨ a = S + 2) g g' := f2_fr hf (fun a k q => q.1)
        have hS' := sc_L_fr hS hfr
        have hV' := sv_fr' hV hc hfr (fun a q => by omega)
        have hG' := sg_fr hG hfr
        have hst' := st_fr hst hfr (fun a q => by omega)
        have hL' := f2_fit hf hL
        have hte := tp_i e (by omega)
        refine fm_X8_trace_18 ?_
        simp (disch := omega) only [sg_T hG', sg_R0 hG', sg_R1 hG', sg_R2 hG', sg_R3 hG', sg_R4 hG', sg_T1 hG', sg_N1 hG', sg_T2 hG', sg_N2 hG', sg_T3 hG', sg_N3 hG', sg_T4 hG', sg_N4 hG', sg_w1 hG', sg_w2 hG', sg_w3 hG', sg_w4 hG', sc_T hS', sc_R0 hS', sc_R1 hS', sc_R2 hS', sc_R3 hS', sc_R4 hS', sc_R5 hS', sc_R6 hS', sc_R7 hS', sc_R8 hS', sc_R9 hS', sc_T1 hS', sc_N1 hS', sc_RP hS', sc_T2 hS', sc_N2 hS', sc_RM hS', sc_T3 hS', sc_N3 hS', sc_T4 hS', sc_N4 hS', sc_T5 hS', sc_N5 hS', sc_T6 hS', sc_N6 hS', sc_T7 hS', sc_N7 hS', sc_T8 hS', sc_N8 hS', sc_T9 hS', sc_N9 hS', sc_T10 hS', sc_RL0 hS', sc_RL1 hS', sc_T11 hS', sc_N11 hS', sc_T12 hS', sc_N12 hS', sc_TP hS', sc_TM hS', sc_w hS', sc_wj hS', sc_wp hS', show (20 < i) = False from eq_false (by omega), li_n, nI_add, pk_mul, nI_clamp, nI_ltI, nI_leI, nI_eq, mi_n, Nat.add_zero, true_and, and_true, true_or, or_true, false_or, or_false, not_false_eq_true, not_true_eq_false, implies_true, forall_const, ne_eq, Classical.not_not, reduceCtorEq, nor_p, cI_1n, bI_1n, cI_F, cI_T, cI_0, cI_0n, bI_0, bI_0n, cI_01, bI_01, Nat.reduceLeDiff, Nat.reduceLT, Nat.reduceEqDiff, Nat.reduceSub, Nat.reduceAdd, Nat.lt_irrefl, Nat.le_refl, false_implies, true_implies]
        refine mu_cR (sp_X4_nextGoing hS' hV' hc hst' hm (by omega) (by omega)) hL' ?_
        rw [hte]
        rcases ngF_ok (s := s) (p := p) (e := (e : Int) - 1) (nm s) with ⟨h4, h5⟩ | ⟨m, h4, h5, h6, h7⟩
        · rw [h4]
          have e0 : ngR b none = 0 := rfl
          simp (disch := omega) only [sg_T hG', sg_R0 hG', sg_R1 hG', sg_R2 hG', sg_R3 hG', sg_R4 hG', sg_T1 hG', sg_N1 hG', sg_T2 hG', sg_N2 hG', sg_T3 hG', sg_N3 hG', sg_T4 hG', sg_N4 hG', sg_w1 hG', sg_w2 hG', sg_w3 hG', sg_w4 hG', e0, li_n, nI_add, pk_mul, nI_clamp, nI_ltI, nI_leI, nI_eq, mi_n, Nat.add_zero, true_and, and_true, true_or, or_true, false_or, or_false, not_false_eq_true, not_true_eq_false, implies_true, forall_const, ne_eq, Classical.not_not, reduceCtorEq, nor_p, cI_1n, bI_1n, cI_F, cI_T, cI_0, cI_0n, bI_0, bI_0n, cI_01, bI_01, Nat.reduceLeDiff, Nat.reduceLT, Nat.reduceEqDiff, Nat.reduceSub, Nat.reduceAdd, Nat.lt_irrefl, Nat.le_refl, false_implies, true_implies]
          refine mu_cVp (sp_X8_stay hG' (by omega) (by have := hPL (e - 1); unfold okP at this; omega) (by omega) (by decide) (by omega)) hL' (fun g2 hs2 hX2 hS2 => ?_)
          have e100 : ((nI 100).toInt + 1).toNat = 101 := rfl
          rw [e100, hte, show ((e : Int) - 1 + 1).toNat = e by omega] at hs2
          have hf2 := f2_tr hf (f2_mono hs2.1 (fun a k q => ⟨q.1, by have := q.2; omega⟩))
          refine hQ _ _ ⟨rfl, hf2, fun T hT => ?_⟩ hf2.2.2.2.1 hf2.2.2.2.2.1
          by_cases q : T < e
          · rw [hs2.1.2.2.2.2.2 _ _ (by unfold trW; omega), hs2.1.2.2.2.2.2 _ _ (by unfold trW; omega)]; exact hI T q
          · rw [pl_flat (e := e) (F := 101) (fun T q1 q2 q3 m hm2 hg => ?_) (T - e) T (by omega) hT]
            · exact hs2.2 T (by omega) (by omega)
            · have := hM m hm2 hg.1 hg.2.1
              have h8 := h5 m hm2
              have h9 := hg.2.2
              rcases this with q4 | q4
              · omega
              · exact h8 ⟨hg.1, hg.2.1, by omega⟩
        · rw [h4]
          have e0 : ngR b (some m) = b + 21 + m := rfl
          have hne : ¬ b + 21 + m = 0 := by omega
          have hmb := wm_b hm h5
          obtain ⟨hw1, hgo, hge⟩ := h6
          have hbt : (nI (vM s m 2)).toInt = (vM s m 2 : Int) := nI_toInt (by omega)
          simp (disch := omega) only [sg_T hG', sg_R0 hG', sg_R1 hG', sg_R2 hG', sg_R3 hG', sg_R4 hG', sg_T1 hG', sg_N1 hG', sg_T2 hG', sg_N2 hG', sg_T3 hG', sg_N3 hG', sg_T4 hG', sg_N4 hG', sg_w1 hG', sg_w2 hG', sg_w3 hG', sg_w4 hG', sc_T hS', sc_R0 hS', sc_R1 hS', sc_R2 hS', sc_R3 hS', sc_R4 hS', sc_R5 hS', sc_R6 hS', sc_R7 hS', sc_R8 hS', sc_R9 hS', sc_T1 hS', sc_N1 hS', sc_RP hS', sc_T2 hS', sc_N2 hS', sc_RM hS', sc_T3 hS', sc_N3 hS', sc_T4 hS', sc_N4 hS', sc_T5 hS', sc_N5 hS', sc_T6 hS', sc_N6 hS', sc_T7 hS', sc_N7 hS', sc_T8 hS', sc_N8 hS', sc_T9 hS', sc_N9 hS', sc_T10 hS', sc_RL0 hS', sc_RL1 hS', sc_T11 hS', sc_N11 hS', sc_T12 hS', sc_N12 hS', sc_TP hS', sc_TM hS', sc_w hS', sc_wj hS', sc_wp hS', sv_m hV' hm, e0, hne, li_n, nI_add, pk_mul, nI_clamp, nI_ltI, nI_leI, nI_eq, mi_n, Nat.add_zero, true_and, and_true, true_or, or_true, false_or, or_false, not_false_eq_true, not_true_eq_false, implies_true, forall_const, ne_eq, Classical.not_not, reduceCtorEq, nor_p, cI_1n, bI_1n, cI_F, cI_T, cI_0, cI_0n, bI_0, bI_0n, cI_01, bI_01, Nat.reduceLeDiff, Nat.reduceLT, Nat.reduceEqDiff, Nat.reduceSub, Nat.reduceAdd, Nat.lt_irrefl, Nat.le_refl, false_implies, true_implies]
          refine mu_cVp (sp_X8_stay hG' (by omega) (by have := hPL (e - 1); unfold okP at this; omega) (by omega) (by omega) (by omega)) hL' (fun g2 hs2 hX2 hS2 => ?_)
          rw [hbt, hte, show ((e : Int) - 1 + 1).toNat = e by omega, show ((vM s m 2 : Int) + 1).toNat = vM s m 2 + 1 by omega, show min (vM s m 2 + 1) 101 = vM s m 2 + 1 by omega] at hs2
          have hf2 : mu_f2 (trW S (101 * p) (101 * p + 101)) g g2 := f2_tr hf (f2_mono hs2.1 (fun a k q => ⟨q.1, by have := q.2; omega⟩))
          have hfr2 : mu_fr (fun a => a = S + 1 ∨ a = S + 2) g g2 := f2_fr hf2 (fun a k q => q.1)
          have hS2 := sc_L_fr hS hfr2
          have hV2 := sv_fr' hV hc hfr2 (fun a q => by omega)
          have hG2 := sg_fr hG hfr2
          have hL2 := f2_fit hf2 hL
          have hflat := pl_flat (s := s) (p := p) (e := e) (F := vM s m 2 + 1) (fun T q1 q2 q3 m' hm2 hg => by
            have := hM m' hm2 hg.1 hg.2.1
            have h9 := hg.2.2
            rcases this with q4 | q4
            · omega
            · have := h7 m' hm2 ⟨hg.1, hg.2.1, by omega⟩
              omega)
          have hPe : PL s p (e - 1) = PL s p (vM s m 2) := by
            by_cases q : e ≤ vM s m 2
            · exact (hflat (vM s m 2 - e) (vM s m 2) (by omega) (by omega)).symm
            · rw [show e - 1 = vM s m 2 by omega]
          have hI2 : trI S s p (vM s m 2 + 1) g2 := fun T hT => by
            by_cases q : T < e
            · rw [hs2.1.2.2.2.2.2 _ _ (by unfold trW; omega), hs2.1.2.2.2.2.2 _ _ (by unfold trW; omega)]; exact hI T q
            · rw [hflat (T - e) T (by omega) hT]
              exact hs2.2 T (by omega) hT
          simp (disch := omega) only [sg_T hG2, sg_R0 hG2, sg_R1 hG2, sg_R2 hG2, sg_R3 hG2, sg_R4 hG2, sg_T1 hG2, sg_N1 hG2, sg_T2 hG2, sg_N2 hG2, sg_T3 hG2, sg_N3 hG2, sg_T4 hG2, sg_N4 hG2, sg_w1 hG2, sg_w2 hG2, sg_w3 hG2, sg_w4 hG2, li_n, nI_add, pk_mul, nI_clamp, nI_ltI, nI_leI, nI_eq, mi_n, Nat.add_zero, true_and, and_true, true_or, or_true, false_or, or_false, not_false_eq_true, not_true_eq_false, implies_true, forall_const, ne_eq, Classical.not_not, reduceCtorEq, nor_p, cI_1n, bI_1n, cI_F, cI_T, cI_0, cI_0n, bI_0, bI_0n, cI_01, bI_01, Nat.reduceLeDiff, Nat.reduceLT, Nat.reduceEqDiff, Nat.reduceSub, Nat.reduceAdd, Nat.lt_irrefl, Nat.le_refl, false_implies, true_implies]
          refine mu_cVp (sp_X8_go hS2 hV2 hc hG2 hSE hm h5 (hPL _)) hL2 (fun g3 hs3 hX3 hS3 => ?_)
          rw [hw1, hPe] at hs3
          have hf3 : mu_f2 (trW S (101 * p) (101 * p + 101)) g g3 := f2_tr hf2 (f2_mono hs3.1 (fun a k q => ⟨q.1, by have := q.2; omega⟩))
          have hfr3 : mu_fr (fun a => a = S + 1 ∨ a = S + 2) g g3 := f2_fr hf3 (fun a k q => q.1)
          have hS3 := sc_L_fr hS hfr3
          have hV3 := sv_fr' hV hc hfr3 (fun a q => by omega)
          simp (disch := omega) only [sc_T hS3, sc_R0 hS3, sc_R1 hS3, sc_R2 hS3, sc_R3 hS3, sc_R4 hS3, sc_R5 hS3, sc_R6 hS3, sc_R7 hS3, sc_R8 hS3, sc_R9 hS3, sc_T1 hS3, sc_N1 hS3, sc_RP hS3, sc_T2 hS3, sc_N2 hS3, sc_RM hS3, sc_T3 hS3, sc_N3 hS3, sc_T4 hS3, sc_N4 hS3, sc_T5 hS3, sc_N5 hS3, sc_T6 hS3, sc_N6 hS3, sc_T7 hS3, sc_N7 hS3, sc_T8 hS3, sc_N8 hS3, sc_T9 hS3, sc_N9 hS3, sc_T10 hS3, sc_RL0 hS3, sc_RL1 hS3, sc_T11 hS3, sc_N11 hS3, sc_T12 hS3, sc_N12 hS3, sc_TP hS3, sc_TM hS3, sc_w hS3, sc_wj hS3, sc_wp hS3, sv_m hV3 hm, li_n, nI_add, pk_mul, nI_clamp, nI_ltI, nI_leI, nI_eq, mi_n, Nat.add_zero, true_and, and_true, true_or, or_true, false_or, or_false, not_false_eq_true, not_true_eq_false, implies_true, forall_const, ne_eq, Classical.not_not, reduceCtorEq, nor_p, cI_1n, bI_1n, cI_F, cI_T, cI_0, cI_0n, bI_0, bI_0n, cI_01, bI_01, Nat.reduceLeDiff, Nat.reduceLT, Nat.reduceEqDiff, Nat.reduceSub, Nat.reduceAdd, Nat.lt_irrefl, Nat.le_refl, false_implies, true_implies]
          have := ih (i + 1) (vM s m 2 + vM s m 3 + 1) g3 (by omega) (by
            have h10 := ngN_lt (s := s) (p := p) (m := m) (e := (e : Int) - 1) (e' := ((vM s m 2 + vM s m 3 + 1 : Nat) : Int) - 1) h5 ⟨hw1, hgo, hge⟩ (by omega) (fun q => by have := q.2.2; omega)
            omega) (by omega) hf3 (fun T hT => ?_) (fun m' q1 q2 q3 => ?_)
          · rw [show vM s m 2 + vM s m 3 + 1 - 1 = vM s m 2 + vM s m 3 from rfl, pl_end hp hm ha hi h5 hw1 hgo, tp_s] at this
            exact this
          · by_cases q : T < vM s m 2 + 1
            · rw [hs3.1.2.2.2.2.2 _ _ (by unfold trW; omega), hs3.1.2.2.2.2.2 _ _ (by unfold trW; omega)]; exact hI2 T q
            · have h11 := hs3.2 (T - (vM s m 2 + 1)) (by omega)
              rw [show vM s m 2 + (T - (vM s m 2 + 1)) + 1 = T by omega, ← pl_goP ha h5 hw1 hgo (by omega), show vM s m 2 + (T - (vM s m 2 + 1)) + 1 = T by omega] at h11
              exact h11
          · have h12 := hM m' q1 q2 q3
            by_cases e2 : m' = m
            · rw [e2]; omega
            · have h13 := ha m' m q1 h5 e2 (by rw [q2, hw1])
              have h14 := wm_b hm q1
              rcases h12 with q4 | q4
              · omega
              · have := h7 m' q1 ⟨q2, q3, by omega⟩
                omega
  have hN : ngN s p (((0 : Nat) : Int) - 1) ≤ 20 := by
    have := sumN_le (n := nm s) (m := 1) (f := fun i => cN (ngC s p (((0 : Nat) : Int) - 1) i)) (fun i _ => cN_le _)
    unfold ngN
    omega
  exact loop 20 0 0 g rfl hN (by omega) f2_rf (fun T hT => absurd hT (Nat.not_lt_zero _)) (fun m _ _ _ => by omega)
end Ch
