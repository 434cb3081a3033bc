/-! CLIENTS: the move missed most: the reference -/
/-- misses of a move, out of the log -/
noncomputable def msN (s : Nat → Int32) (m : Nat) : Nat := sumN (fun i => cN (vL s i 1 = m)) (nlg s)
/-- the first missed most among the first n -/
noncomputable def ldO (s : Nat → Int32) : Nat → Option Nat
  | 0 => none
  | n + 1 => if msN s n = 0 then ldO s n else match ldO s n with
    | none => some n
    | some j => if msN s n ≤ msN s j then some j else some n
def encM (z : Int32) : Option Nat → Int32
  | none => z
  | some j => nI j
noncomputable def pLed (s : Nat → Int32) : Int32 × (Nat → Int32) := (encM (-1000000005) (ldO s (nm s)), s)
section Qn
variable {w : mu_O} {d x y b E : Nat} {g g1 g2 : mu_H} {s : Nat → Int32}
theorem ld_lt : ∀ {n j : Nat}, ldO s n = some j → j < n ∧ 0 < msN s j
  | 0, j, h => by simp [ldO] at h
  | n + 1, j, h => by
    unfold ldO at h
    by_cases h0 : msN s n = 0
    · rw [if_pos h0] at h
      have := ld_lt h
      omega
    · rw [if_neg h0] at h
      cases e : ldO s n with
      | none =>
        rw [e] at h
        have : n = j := Option.some.inj h
        subst this
        omega
      | some i =>
        rw [e] at h
        have hi := ld_lt e
        by_cases h1 : msN s n ≤ msN s i
        · have h : (if msN s n ≤ msN s i then some i else some n) = some j := h
          rw [if_pos h1] at h
          have : i = j := Option.some.inj h
          subst this
          omega
        · have h : (if msN s n ≤ msN s i then some i else some n) = some j := h
          rw [if_neg h1] at h
          have : n = j := Option.some.inj h
          subst this
          omega
theorem ms_le (m : Nat) : msN s m ≤ nlg s := by
  have := sumN_le (f := fun i => cN (vL s i 1 = m)) (m := 1) (n := nlg s) (fun i _ => cN_le _)
  unfold msN
  omega
theorem sp_X11_missesOf {m : Nat} (hM : md_L w y g) (hs : mu_I g (y + 1) = s) (hc : wf_c s) (hl : wf_l s) (hm : m < 100) : mu_met w mm_X11_missesOf d [.ref y, .int (nI m)] g (some (.int (nI (msN s m)))) g := by
  refine mu_mk mk_X11_missesOf rfl rfl rfl (fun L hL Q hQ => fm_X11_missesOf_0 ?_)
  have hb := wc_b hc
  unfold msN at hQ
  refine lp (n := nlg s) (P := fun i => mu_go w mm_X11_missesOf d L Q 4 [some (.ref y), some (.int (nI m)), some (.int (nI (sumN (fun i => cN (vL s i 1 = m)) i))), some (.int (nI i))] [] g) (fm_X11_missesOf_4 ?_) (fun i hi ih => fm_X11_missesOf_4 ?_)
  · simp (disch := omega) only [md_T0 hM, md_R0 hM, md_T1 hM, md_N1 hM, hs, wc_0 hc, wc_1 hc, wc_2 hc, wc_3 hc, wc_4 hc, wc_5 hc, wc_6 hc, wc_7 hc, wc_9 hc, li_n, nI_add, pk_mul, nI_clamp, nI_ltI, nI_leI, nI_eq, mi_n, Nat.add_zero, true_and, and_true, true_or, or_true, false_or, or_false, not_false_eq_true, not_true_eq_false, implies_true, forall_const, ne_eq, Classical.not_not, reduceCtorEq, nor_p, cI_1n, bI_1n, cI_F, cI_T, cI_0, cI_0n, bI_0, bI_0n, cI_01, bI_01, Nat.reduceLeDiff, Nat.reduceLT, Nat.reduceEqDiff, Nat.reduceSub, Nat.reduceAdd, Nat.lt_irrefl, Nat.le_refl, false_implies, true_implies]
    exact hQ
  · unfold sumN at ih
    have e1 := (hl i hi).1 1 (by omega)
    have e2 := (hl i hi).2
    simp (disch := omega) only [Nat.not_le_of_lt hi, e1, md_T0 hM, md_R0 hM, md_T1 hM, md_N1 hM, hs, wc_0 hc, wc_1 hc, wc_2 hc, wc_3 hc, wc_4 hc, wc_5 hc, wc_6 hc, wc_7 hc, wc_9 hc, li_n, nI_add, pk_mul, nI_clamp, nI_ltI, nI_leI, nI_eq, mi_n, Nat.add_zero, true_and, and_true, true_or, or_true, false_or, or_false, not_false_eq_true, not_true_eq_false, implies_true, forall_const, ne_eq, Classical.not_not, reduceCtorEq, nor_p, cI_1n, bI_1n, cI_F, cI_T, cI_0, cI_0n, bI_0, bI_0n, cI_01, bI_01, Nat.reduceLeDiff, Nat.reduceLT, Nat.reduceEqDiff, Nat.reduceSub, Nat.reduceAdd, Nat.lt_irrefl, Nat.le_refl, false_implies, true_implies]
    refine ⟨by omega, fun h => ?_, fun h => ?_⟩
    · rw [cN_f h] at ih
      exact ih
    · rw [cN_t h] at ih
      exact ih
theorem pm_led (hM : md_L w y g) (hs : mu_I g (y + 1) = s) (hc : wf_c s) (hW : wf_s s) (hca : caC y s g) : mu_mp w mm_X11_led (d + 1) [.ref y] g (mPost w y (pLed s) g) := by
  refine mu_mkp mk_X11_led rfl (fun L hL Q hQ => fm_X11_led_0 ?_)
  have hb := wc_b hc
  unfold pLed at hQ
  refine lp (n := nm s) (P := fun i => mu_go w mm_X11_led (d + 1) L Q 4 [some (.ref y), some (.int (encM (-1) (ldO s i))), some (.int (nI i)), none] [] g) (fm_X11_led_4 ?_) (fun i hi ih => fm_X11_led_4 ?_)
  · simp (disch := omega) only [md_T0 hM, md_R0 hM, md_T1 hM, md_N1 hM, hs, wc_0 hc, wc_1 hc, wc_2 hc, wc_3 hc, wc_4 hc, wc_5 hc, wc_6 hc, wc_7 hc, wc_9 hc, li_n, nI_add, pk_mul, nI_clamp, nI_ltI, nI_leI, nI_eq, mi_n, Nat.add_zero, true_and, and_true, true_or, or_true, false_or, or_false, not_false_eq_true, not_true_eq_false, implies_true, forall_const, ne_eq, Classical.not_not, reduceCtorEq, nor_p, cI_1n, bI_1n, cI_F, cI_T, cI_0, cI_0n, bI_0, bI_0n, cI_01, bI_01, Nat.reduceLeDiff, Nat.reduceLT, Nat.reduceEqDiff, Nat.reduceSub, Nat.reduceAdd, Nat.lt_irrefl, Nat.le_refl, false_implies, true_implies]
    refine mu_cI sp_X11_orNone hL (mp_0 hQ ?_ hs hca)
    cases e : ldO s (nm s) with
    | none => rfl
    | some j =>
      have := ld_lt e
      show (if (nI j).toInt < 0 then _ else nI j) = nI j
      rw [nI_toInt (by omega), if_neg (by omega)]
  · have hm1 := ms_le (s := s) i
    unfold ldO at ih
    simp (disch := omega) only [Nat.not_le_of_lt hi, md_T0 hM, md_R0 hM, md_T1 hM, md_N1 hM, hs, wc_0 hc, wc_1 hc, wc_2 hc, wc_3 hc, wc_4 hc, wc_5 hc, wc_6 hc, wc_7 hc, wc_9 hc, li_n, nI_add, pk_mul, nI_clamp, nI_ltI, nI_leI, nI_eq, mi_n, Nat.add_zero, true_and, and_true, true_or, or_true, false_or, or_false, not_false_eq_true, not_true_eq_false, implies_true, forall_const, ne_eq, Classical.not_not, reduceCtorEq, nor_p, cI_1n, bI_1n, cI_F, cI_T, cI_0, cI_0n, bI_0, bI_0n, cI_01, bI_01, Nat.reduceLeDiff, Nat.reduceLT, Nat.reduceEqDiff, Nat.reduceSub, Nat.reduceAdd, Nat.lt_irrefl, Nat.le_refl, false_implies, true_implies]
    refine mu_cI (sp_X11_missesOf hM hs hc (ws_l hW) (by omega)) hL ?_
    simp (disch := omega) only [md_T0 hM, md_R0 hM, md_T1 hM, md_N1 hM, hs, wc_0 hc, wc_1 hc, wc_2 hc, wc_3 hc, wc_4 hc, wc_5 hc, wc_6 hc, wc_7 hc, wc_9 hc, li_n, nI_add, pk_mul, nI_clamp, nI_ltI, nI_leI, nI_eq, mi_n, Nat.add_zero, true_and, and_true, true_or, or_true, false_or, or_false, not_false_eq_true, not_true_eq_false, implies_true, forall_const, ne_eq, Classical.not_not, reduceCtorEq, nor_p, cI_1n, bI_1n, cI_F, cI_T, cI_0, cI_0n, bI_0, bI_0n, cI_01, bI_01, Nat.reduceLeDiff, Nat.reduceLT, Nat.reduceEqDiff, Nat.reduceSub, Nat.reduceAdd, Nat.lt_irrefl, Nat.le_refl, false_implies, true_implies]
    refine ⟨fun h => ?_, fun h => ?_⟩
    · rw [if_pos (by omega)] at ih
      exact ih
    · rw [if_neg (by omega)] at ih
      cases e : ldO s i with
      | none =>
        rw [e] at ih
        exact ⟨fun _ => ih, fun q => absurd (show (-1 : Int32) < 0 by decide) q⟩
      | some j =>
        rw [e] at ih
        have hj := ld_lt e
        have hm2 := ms_le (s := s) j
        refine ⟨fun q => absurd q (nI_pos (by omega)), fun _ => ?_⟩
        refine mu_cI (sp_X11_missesOf hM hs hc (ws_l hW) (by omega)) hL ?_
        simp (disch := omega) only [md_T0 hM, md_R0 hM, md_T1 hM, md_N1 hM, hs, wc_0 hc, wc_1 hc, wc_2 hc, wc_3 hc, wc_4 hc, wc_5 hc, wc_6 hc, wc_7 hc, wc_9 hc, li_n, nI_add, pk_mul, nI_clamp, nI_ltI, nI_leI, nI_eq, mi_n, Nat.add_zero, true_and, and_true, true_or, or_true, false_or, or_false, not_false_eq_true, not_true_eq_false, implies_true, forall_const, ne_eq, Classical.not_not, reduceCtorEq, nor_p, cI_1n, bI_1n, cI_F, cI_T, cI_0, cI_0n, bI_0, bI_0n, cI_01, bI_01, Nat.reduceLeDiff, Nat.reduceLT, Nat.reduceEqDiff, Nat.reduceSub, Nat.reduceAdd, Nat.lt_irrefl, Nat.le_refl, false_implies, true_implies]
        refine ⟨fun h2 => ?_, fun h2 => ?_⟩
        · have ih : mu_go w mm_X11_led (d + 1) L Q 4 [some (.ref y), some (.int (encM (-1) (if msN s i ≤ msN s j then some j else some i))), some (.int (nI (i + 1))), none] [] g := ih
          rw [if_pos h2] at ih
          exact ih
        · have ih : mu_go w mm_X11_led (d + 1) L Q 4 [some (.ref y), some (.int (encM (-1) (if msN s i ≤ msN s j then some j else some i))), some (.int (nI (i + 1))), none] [] g := ih
          rw [if_neg h2] at ih
          exact ih
end Qn
