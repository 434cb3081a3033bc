/-! CLIENTS: the move missed most: the class -/
section Qo
variable {w : mu_O} {d x y b E : Nat} {g g1 g2 : mu_H} {s : Nat → Int32}
theorem ms_0 (hl : wf_l s) {m : Nat} (h : nm s ≤ m) : msN s m = 0 := by
  have e : msN s m = sumN (fun _ => 0) (nlg s) := sumN_c (fun i hi => cN_f (by have := (hl i hi).2; omega))
  have z : ∀ n, sumN (fun _ => 0) n = 0 := fun n => by
    have := sumN_le (f := fun _ => 0) (m := 0) (n := n) (fun _ _ => Nat.le_refl _)
    omega
  rw [e, z]
theorem ld_stop (hl : wf_l s) : ∀ k, ldO s (nm s + k) = ldO s (nm s)
  | 0 => rfl
  | k + 1 => by
    rw [← Nat.add_assoc]
    show (if msN s (nm s + k) = 0 then ldO s (nm s + k) else _) = _
    rw [if_pos (ms_0 hl (by omega))]
    exact ld_stop hl k
theorem sp_X0_mostMissed (hS : sc_L w b g) (hV : sc_V w E b s g) (hc : wf_c s) (hl : wf_l s) : mu_mp w mm_X0_mostMissed d [.ref (b + 10)] g (fun r g' => ∃ z, r = some (.int z) ∧ (z = encM (-1000000005) (ldO s (nm s)) ∧ mu_fr (fun a => a = b + 12) g g')) := by
  refine mu_mkp mk_X0_mostMissed rfl (fun L hL Q hQ => fm_X0_mostMissed_0 ?_)
  have hb := wc_b hc
  have hwb := sc_w hS
  have l3 : ∀ gi, mu_fr (fun a => a = b + 12) g gi → (∀ m, m < 20 → mu_I gi (b + 12) m = nI (msN s m)) → mu_go w mm_X0_mostMissed d L Q 61 [some (.ref (b + 10)), some (.int (-1000000005)), some (.int (nI 0))] [] gi := fun gi fi hi0 => by
    have Si := sc_L_fr hS fi
    refine lp (n := 20) (P := fun i => mu_go w mm_X0_mostMissed d L Q 61 [some (.ref (b + 10)), some (.int (encM (-1000000005) (ldO s i))), some (.int (nI i))] [] gi) (fm_X0_mostMissed_61 ?_) (fun i hi ih => fm_X0_mostMissed_61 ?_)
    · refine ⟨fun _ => hQ _ _ ⟨_, rfl, ?_, fi⟩ fi.2.2.2.1 fi.2.2.2.2.1, fun q => absurd (show (20 : Int32) ≤ nI 20 by decide) q⟩
      rw [show (20 : Nat) = nm s + (20 - nm s) by omega, ld_stop hl]
    · have hm1 := ms_le (s := s) i
      have e1 := hi0 i hi
      unfold ldO at ih
      have hle : ¬ nI 20 ≤ nI i := by rw [nI_leI (by omega) (by omega)]; omega
      cases e : ldO s i with
      | none =>
        rw [e] at ih
        simp (disch := omega) only [hle, e1, sc_T10 Si, sc_RL1 Si, sc_T12 Si, sc_N12 Si, encM, li_n, nI_add, pk_mul, nI_clamp, nI_ltI, nI_leI, nI_eq, mi_n, Nat.add_zero, true_and, and_true, true_or, or_true, false_or, or_false, not_false_eq_true, not_true_eq_false, implies_true, forall_const, ne_eq, Classical.not_not, reduceCtorEq, nor_p, cI_1n, bI_1n, cI_F, cI_T, cI_0, cI_0n, bI_0, bI_0n, cI_01, bI_01, Nat.reduceLeDiff, Nat.reduceLT, Nat.reduceEqDiff, Nat.reduceSub, Nat.reduceAdd, Nat.lt_irrefl, Nat.le_refl, false_implies, true_implies]
        refine ⟨by omega, fun h => ?_, fun h => ?_⟩
        · rw [if_pos (by omega)] at ih
          exact ih
        · rw [if_neg (by omega)] at ih
          exact ih
      | some j =>
        have hj := ld_lt e
        have hm2 := ms_le (s := s) j
        have e2 := hi0 j (by omega)
        have nn' := none_n' (k := j) (by omega)
        rw [e] at ih
        simp (disch := omega) only [hle, e1, e2, nn', sc_T10 Si, sc_RL1 Si, sc_T12 Si, sc_N12 Si, encM, li_n, nI_add, pk_mul, nI_clamp, nI_ltI, nI_leI, nI_eq, mi_n, Nat.add_zero, true_and, and_true, true_or, or_true, false_or, or_false, not_false_eq_true, not_true_eq_false, implies_true, forall_const, ne_eq, Classical.not_not, reduceCtorEq, nor_p, cI_1n, bI_1n, cI_F, cI_T, cI_0, cI_0n, bI_0, bI_0n, cI_01, bI_01, Nat.reduceLeDiff, Nat.reduceLT, Nat.reduceEqDiff, Nat.reduceSub, Nat.reduceAdd, Nat.lt_irrefl, Nat.le_refl, false_implies, true_implies]
        refine ⟨by omega, by omega, fun h => ?_, fun h => ?_⟩
        · by_cases h0 : msN s i = 0
          · rw [if_pos h0] at ih
            exact ih
          · rw [if_neg h0] at ih
            have ih : mu_go w mm_X0_mostMissed d L Q 61 [some (.ref (b + 10)), some (.int (encM (-1000000005) (if msN s i ≤ msN s j then some j else some i))), some (.int (nI (i + 1)))] [] gi := ih
            rw [if_pos h] at ih
            exact ih
        · rw [if_neg (by omega)] at ih
          have ih : mu_go w mm_X0_mostMissed d L Q 61 [some (.ref (b + 10)), some (.int (encM (-1000000005) (if msN s i ≤ msN s j then some j else some i))), some (.int (nI (i + 1)))] [] gi := ih
          rw [if_neg h] at ih
          exact ih
  have l2 : ∀ gi, mu_fr (fun a => a = b + 12) g gi → (∀ m, m < 20 → mu_I gi (b + 12) m = nI 0) → mu_go w mm_X0_mostMissed d L Q 23 [some (.ref (b + 10)), some (.int (nI 0)), none] [] gi := fun g0 f0 h0 => by
    refine lp (n := nlg s) (P := fun i => ∀ gi, mu_fr (fun a => a = b + 12) g gi → (∀ m, m < 20 → mu_I gi (b + 12) m = nI (sumN (fun i => cN (vL s i 1 = m)) i)) → mu_go w mm_X0_mostMissed d L Q 23 [some (.ref (b + 10)), some (.int (nI i)), none] [] gi) (fun gi fi hi0 => fm_X0_mostMissed_23 ?_) (fun i hi ih gi fi hi0 => fm_X0_mostMissed_23 ?_) g0 f0 h0
    · have Si := sc_L_fr hS fi
      have e7 : mu_I gi (b + 10) 2 = nI (nlg s) := by rw [fi.2.2.2.2.2 _ (by omega)]; exact sv_7 hV hc
      simp (disch := omega) only [sc_T10 Si, e7, li_n, nI_add, pk_mul, nI_clamp, nI_ltI, nI_leI, nI_eq, mi_n, Nat.add_zero, true_and, and_true, true_or, or_true, false_or, or_false, not_false_eq_true, not_true_eq_false, implies_true, forall_const, ne_eq, Classical.not_not, reduceCtorEq, nor_p, cI_1n, bI_1n, cI_F, cI_T, cI_0, cI_0n, bI_0, bI_0n, cI_01, bI_01, Nat.reduceLeDiff, Nat.reduceLT, Nat.reduceEqDiff, Nat.reduceSub, Nat.reduceAdd, Nat.lt_irrefl, Nat.le_refl, false_implies, true_implies]
      exact l3 gi fi hi0
    · have Si := sc_L_fr hS fi
      have e7 : mu_I gi (b + 10) 2 = nI (nlg s) := by rw [fi.2.2.2.2.2 _ (by omega)]; exact sv_7 hV hc
      have e1 : mu_I gi (b + 11) (3 * i + 1) = nI (vL s i 1) := by rw [fi.2.2.2.2.2 _ (by omega)]; exact sv_l hV hl hi (by omega)
      have e2 := (hl i hi).2
      have e3 := hi0 (vL s i 1) (by omega)
      have hw12 : w.1 < b + 12 := by omega
      simp (disch := omega) only [Nat.not_le_of_lt hi, sc_T10 Si, sc_RL0 Si, sc_RL1 Si, sc_T11 Si, sc_N11 Si, sc_T12 Si, sc_N12 Si, e7, e1, e3, hw12, li_n, nI_add, pk_mul, nI_clamp, nI_ltI, nI_leI, nI_eq, mi_n, Nat.add_zero, true_and, and_true, true_or, or_true, false_or, or_false, not_false_eq_true, not_true_eq_false, implies_true, forall_const, ne_eq, Classical.not_not, reduceCtorEq, nor_p, cI_1n, bI_1n, cI_F, cI_T, cI_0, cI_0n, bI_0, bI_0n, cI_01, bI_01, Nat.reduceLeDiff, Nat.reduceLT, Nat.reduceEqDiff, Nat.reduceSub, Nat.reduceAdd, Nat.lt_irrefl, Nat.le_refl, false_implies, true_implies]
      refine ⟨by omega, by omega, by omega, ih _ (mu_fr_tr fi (mu_fr_sI rfl)) (fun m hm => ?_)⟩
      show _ = nI (sumN _ i + cN (vL s i 1 = m))
      by_cases em : vL s i 1 = m
      · rw [← em, I_sI_same, cN_t rfl]
      · rw [I_sI_k _ _ _ (fun q => em q.symm), hi0 m hm, cN_f em]
        rfl
  refine lp (n := 20) (P := fun i => ∀ gi, mu_fr (fun a => a = b + 12) g gi → (∀ m, m < i → mu_I gi (b + 12) m = nI 0) → mu_go w mm_X0_mostMissed d L Q 2 [some (.ref (b + 10)), some (.int (nI i)), none] [] gi) (fun gi fi hi0 => fm_X0_mostMissed_2 ?_) (fun i hi ih gi fi hi0 => fm_X0_mostMissed_2 ?_) g mu_fr_rf (fun m hm => absurd hm (Nat.not_lt_zero m))
  · exact ⟨fun _ => l2 gi fi hi0, fun q => absurd (show (20 : Int32) ≤ nI 20 by decide) q⟩
  · have Si := sc_L_fr hS fi
    have hle : ¬ nI 20 ≤ nI i := by rw [nI_leI (by omega) (by omega)]; omega
    have hw12 : w.1 < b + 12 := by omega
    simp (disch := omega) only [hle, sc_T10 Si, sc_RL1 Si, sc_T12 Si, sc_N12 Si, hw12, li_n, nI_add, pk_mul, nI_clamp, nI_ltI, nI_leI, nI_eq, mi_n, Nat.add_zero, true_and, and_true, true_or, or_true, false_or, or_false, not_false_eq_true, not_true_eq_false, implies_true, forall_const, ne_eq, Classical.not_not, reduceCtorEq, nor_p, cI_1n, bI_1n, cI_F, cI_T, cI_0, cI_0n, bI_0, bI_0n, cI_01, bI_01, Nat.reduceLeDiff, Nat.reduceLT, Nat.reduceEqDiff, Nat.reduceSub, Nat.reduceAdd, Nat.lt_irrefl, Nat.le_refl, false_implies, true_implies]
    refine ⟨by omega, ih _ (mu_fr_tr fi (mu_fr_sI rfl)) (fun m hm => ?_)⟩
    by_cases em : m = i
    · rw [em, I_sI_same]
    · rw [I_sI_k _ _ _ em]
      exact hi0 m (by omega)
theorem sv_12 {g' : mu_H} (h : sc_V w E b s g) (hc : wf_c s) (hf : mu_fr (fun a => a = b + 12) g g') : sc_V w E b s g' := by
  have hE := sv_E h
  have hb := wc_b hc
  have e : ∀ k, k < 41 → k ≠ 12 → mu_I g' (b + k) = mu_I g (b + k) := fun k hk h12 => hf.2.2.2.2.2 _ (by omega)
  have e0 : mu_I g' b = mu_I g b := e 0 (by omega) (by omega)
  have eP : ∀ p, p < 8 → mu_I g' (b + 13 + p) = mu_I g (b + 13 + p) := fun p hp => by rw [Nat.add_assoc]; exact e _ (by omega) (by omega)
  have eM : ∀ p, p < 20 → mu_I g' (b + 21 + p) = mu_I g (b + 21 + p) := fun p hp => by rw [Nat.add_assoc]; exact e _ (by omega) (by omega)
  obtain ⟨h0, h1, h2, h3, h4, h5, h6, h7, h8, h9⟩ := h
  unfold sc_V
  rw [e0, e 10 (by omega) (by omega), e 3 (by omega) (by omega), e 4 (by omega) (by omega), e 6 (by omega) (by omega), e 7 (by omega) (by omega), e 8 (by omega) (by omega), e 9 (by omega) (by omega), e 11 (by omega) (by omega), hf.2.2.1]
  refine ⟨h0, h1, fun p f hp hf2 => ?_, fun m f hm hf2 => ?_, h4, fun t ht => ?_, h6, h7, h8, h9⟩
  · rw [eP p (by omega)]; exact h2 p f hp hf2
  · rw [eM m (by omega)]; exact h3 m f hm hf2
  · obtain ⟨a1, a2, a3, a4, a5, a6, a7, a8, a9, a10, a11, a12⟩ := h5 t ht
    unfold tx_R
    rw [hf.1, hf.2.1, hf.2.2.1, hf.2.2.2.2.2 _ (by have := a2.2.2.1; omega), hf.2.2.2.2.2 _ (by have := a2.2.2.2; omega)]
    exact ⟨a1, a2, a3, a4, a5, a6, a7, a8, a9, a10, a11, a12⟩
theorem pc_led (hC : cl_L w x g) (hV : sc_V w E (x + 1) s g) (hW : wf_s s) : mu_mp w mm_X10_led (d + 1) [.ref x] g (cPost w x E (pLed s) g) := by
  refine mu_mkp mk_X10_led rfl (fun L hL Q hQ => fm_X10_led_0 ?_)
  have hc := ws_c hW
  have hN := cl_n hC
  refine ⟨cl_T hC, by rw [cl_R0 hC]; exact sc_T hN, ?_⟩
  rw [cl_R0 hC, sc_R9 hN]
  refine ⟨sc_T10 hN, mu_cIp (sp_X0_mostMissed hN hV hc (ws_l hW)) hL (fun z g1 hz _ _ => ?_)⟩
  exact cp_ok (L := L) hC hQ hz.2 (fun a q => Or.inl (by omega)) hz.1 (sv_12 hV hc hz.2)
end Qo
