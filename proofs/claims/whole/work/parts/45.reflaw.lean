/-! CLIENTS: law in the reference -/
/-- what working out a text may change in the reference -/
abbrev rJ (y : Nat) : Nat → Prop := fun a => a = y + 19 ∨ a = y + 20
section Rw2
variable {w : mu_O} {d y : Nat} {g : mu_H} {s : Nat → Int32} {B : Nat}
theorem nI_z {a : Nat} (h : a < 2 ^ 31) : nI a = 0 ↔ a = 0 := by rw [show (0 : Int32) = nI 0 from rfl]; exact nI_eq h (by omega)
theorem rj_s {g' : mu_H} (h : mu_fr (rJ y) g g') (hs : mu_I g (y + 1) = s) : mu_I g' (y + 1) = s := (h.2.2.2.2.2 _ (by unfold rJ; omega)).trans hs
theorem sp_X11_fieldN {m f : Nat} (hM : md_L w y g) (hs : mu_I g (y + 1) = s) (hc : wf_c s) (hm : wf_m B s) (hi : m < nm s) (hf : f < 8) : mu_met w mm_X11_field (d + 1) [.ref y, .int (nI m), .int (nI f)] g (some (.int (nI (vM s m f)))) g := by
  have hb := wc_b hc
  have := sp_X11_field (d := d) (m := m) (k := f) hM hs (by omega)
  rw [wm_v hm hi hf] at this
  exact this
theorem sp_X11_isBlowN {m : Nat} (hM : md_L w y g) (hs : mu_I g (y + 1) = s) (hc : wf_c s) (hm : wf_m B s) (hi : m < nm s) : mu_met w mm_X11_isBlow (d + 2) [.ref y, .int (nI m)] g (some (.int (cI (mBl s m)))) g := by
  have hb := wc_b hc
  have hmb := wm_b hm hi
  have := sp_X11_isBlow (d := d) (m := m) hM hs (by omega)
  rw [bI_cI, wm_v hm hi (by omega), nI_toInt (by omega), cI_c (show _ ↔ mBl s m by unfold mBl; omega)] at this
  exact this
theorem sp_X11_isDoneN {m : Nat} (hM : md_L w y g) (hs : mu_I g (y + 1) = s) (hc : wf_c s) (hm : wf_m B s) (hi : m < nm s) : mu_met w mm_X11_isDone (d + 3) [.ref y, .int (nI m)] g (some (.int (cI (mDo s m)))) g := by
  have hb := wc_b hc
  have hmb := wm_b hm hi
  have := sp_X11_isDone (d := d) (m := m) hM hs (by omega)
  rw [bI_cI, wm_v hm hi (by omega), wm_v hm hi (by omega), nI_toInt (by omega), nI_z (by omega), cI_c (show _ ↔ mDo s m by unfold mDo; omega)] at this
  exact this
theorem sp_X11_late {p : Nat} (hM : md_L w y g) (hs : mu_I g (y + 1) = s) (hc : wf_c s) (hT : wf_texts s (ntx s)) (hi : p < np s) :
    mu_mp w mm_X11_lateOf (d + 2) [.ref y, .int (nI p)] g (fun r g' => ∃ x, r = some (.int x) ∧ (x = sLate s p ∧ mu_fr (rJ y) g g')) := by
  have hb := wc_b hc
  exact sp_X11_lateOf hM hs (wc_3 hc) (by omega) (by omega) hT
theorem sp_X11_barred {m : Nat} (hM : md_L w y g) (hs : mu_I g (y + 1) = s) (hc : wf_c s) (hm : wf_m B s) (hT : wf_texts s (ntx s)) (hi : m < nm s) :
    mu_mp w mm_X11_isBarred (d + 2) [.ref y, .int (nI m)] g (fun r g' => ∃ x, r = some (.int x) ∧ (x = cI (sBar s m) ∧ mu_fr (rJ y) g g')) := by
  have hb := wc_b hc
  have hmb := wm_b hm hi
  have := sp_X11_isBarred (d := d) (m := m) (a := vM s m 0) (b := vM s m 5) hM hs (wc_3 hc) (by omega) (by omega) (wm_v0 hm hi) (by omega) (wm_v hm hi (by omega)) (by omega) hT
  rw [bI_cI] at this
  exact this
set_option maxHeartbeats 1000000 in
theorem sp_X11_needs {a c : Nat} (hM : md_L w y g) (hs : mu_I g (y + 1) = s) (hc : wf_c s) (hp : wf_p s) (hm : wf_m B s) (hT : wf_texts s (ntx s)) (ha : a < np s) (hcc : c < np s) :
    mu_mp w mm_X11_needs (d + 4) [.ref y, .int (nI a), .int (nI c)] g (fun r g' => ∃ x, r = some (.int x) ∧ (x = sNeed s a c ∧ mu_fr (rJ y) g g')) := by
  refine mu_mkp mk_X11_needs rfl (fun L hL Q hQ => fm_X11_needs_0 ?_)
  have hb := wc_b hc
  have hpa := wp_b hp ha
  have hpc := wp_b hp hcc
  have hw19 := md_wj hM 19
  refine lp (n := nm s) (P := fun i => mu_go w mm_X11_needs (d + 4) L Q 5 [some (.ref y), some (.int (nI a)), some (.int (nI c)), some (.int (nI (sBlows s a c i))), some (.int (nI i)), none] [] g) (fm_X11_needs_5 ?_) (fun i hi ih => fm_X11_needs_5 ?_)
  · simp (disch := omega) only [md_T0 hM, md_R0 hM, md_T1 hM, md_N1 hM, hs, wc_0 hc, wc_1 hc, wc_2 hc, wc_3 hc, wc_4 hc, wc_5 hc, wc_6 hc, wc_7 hc, wc_9 hc, li_n, nI_add, pk_mul, nI_clamp, nI_ltI, nI_leI, nI_eq, mi_n, Nat.add_zero, true_and, and_true, true_or, or_true, false_or, or_false, not_false_eq_true, not_true_eq_false, implies_true, forall_const, ne_eq, Classical.not_not, reduceCtorEq, nor_p, cI_1n, bI_1n, cI_F, cI_T, cI_0, cI_0n, bI_0, bI_0n, cI_01, bI_01, Nat.reduceLeDiff, Nat.reduceLT, Nat.reduceEqDiff, Nat.reduceSub, Nat.reduceAdd, Nat.lt_irrefl, Nat.le_refl, false_implies, true_implies]
    refine mu_cI sp_X11_personAt hL ?_
    simp (disch := omega) only [md_T0 hM, md_R0 hM, md_T1 hM, md_N1 hM, hs, wc_0 hc, wc_1 hc, wc_2 hc, wc_3 hc, wc_4 hc, wc_5 hc, wc_6 hc, wc_7 hc, wc_9 hc, li_n, nI_add, pk_mul, nI_clamp, nI_ltI, nI_leI, nI_eq, mi_n, Nat.add_zero, true_and, and_true, true_or, or_true, false_or, or_false, not_false_eq_true, not_true_eq_false, implies_true, forall_const, ne_eq, Classical.not_not, reduceCtorEq, nor_p, cI_1n, bI_1n, cI_F, cI_T, cI_0, cI_0n, bI_0, bI_0n, cI_01, bI_01, Nat.reduceLeDiff, Nat.reduceLT, Nat.reduceEqDiff, Nat.reduceSub, Nat.reduceAdd, Nat.lt_irrefl, Nat.le_refl, false_implies, true_implies]
    refine ⟨by omega, mu_cI sp_X11_personAt hL ?_⟩
    simp (disch := omega) only [md_T0 hM, md_R0 hM, md_T1 hM, md_N1 hM, hs, wc_0 hc, wc_1 hc, wc_2 hc, wc_3 hc, wc_4 hc, wc_5 hc, wc_6 hc, wc_7 hc, wc_9 hc, li_n, nI_add, pk_mul, nI_clamp, nI_ltI, nI_leI, nI_eq, mi_n, Nat.add_zero, true_and, and_true, true_or, or_true, false_or, or_false, not_false_eq_true, not_true_eq_false, implies_true, forall_const, ne_eq, Classical.not_not, reduceCtorEq, nor_p, cI_1n, bI_1n, cI_F, cI_T, cI_0, cI_0n, bI_0, bI_0n, cI_01, bI_01, Nat.reduceLeDiff, Nat.reduceLT, Nat.reduceEqDiff, Nat.reduceSub, Nat.reduceAdd, Nat.lt_irrefl, Nat.le_refl, false_implies, true_implies]
    refine ⟨by omega, mu_cI sp_X11_least hL (?_)⟩
    rw [wp_v hp ha (by omega), wp_v hp hcc (by omega), nI_toInt (by omega), nI_toInt (by omega), show (if ((vP s a 1 : Nat) : Int) < ((vP s c 1 : Nat) : Int) then nI (vP s a 1) else nI (vP s c 1)) = nI (min (vP s a 1) (vP s c 1)) by split <;> congr 1 <;> omega]
    simp (disch := omega) only [md_T0 hM, md_R0 hM, md_T1 hM, md_N1 hM, hs, wc_0 hc, wc_1 hc, wc_2 hc, wc_3 hc, wc_4 hc, wc_5 hc, wc_6 hc, wc_7 hc, wc_9 hc, li_n, nI_add, pk_mul, nI_clamp, nI_ltI, nI_leI, nI_eq, mi_n, Nat.add_zero, true_and, and_true, true_or, or_true, false_or, or_false, not_false_eq_true, not_true_eq_false, implies_true, forall_const, ne_eq, Classical.not_not, reduceCtorEq, nor_p, cI_1n, bI_1n, cI_F, cI_T, cI_0, cI_0n, bI_0, bI_0n, cI_01, bI_01, Nat.reduceLeDiff, Nat.reduceLT, Nat.reduceEqDiff, Nat.reduceSub, Nat.reduceAdd, Nat.lt_irrefl, Nat.le_refl, false_implies, true_implies]
    refine mu_cI (sp_X11_counts hM hs (wc_3 hc) (by omega)) hL ?_
    simp (disch := omega) only [md_R32 hM, md_T19 hM, md_N19 hM, hw19, md_T0 hM, md_R0 hM, md_T1 hM, md_N1 hM, hs, wc_0 hc, wc_1 hc, wc_2 hc, wc_3 hc, wc_4 hc, wc_5 hc, wc_6 hc, wc_7 hc, wc_9 hc, li_n, nI_add, pk_mul, nI_clamp, nI_ltI, nI_leI, nI_eq, mi_n, Nat.add_zero, true_and, and_true, true_or, or_true, false_or, or_false, not_false_eq_true, not_true_eq_false, implies_true, forall_const, ne_eq, Classical.not_not, reduceCtorEq, nor_p, cI_1n, bI_1n, cI_F, cI_T, cI_0, cI_0n, bI_0, bI_0n, cI_01, bI_01, Nat.reduceLeDiff, Nat.reduceLT, Nat.reduceEqDiff, Nat.reduceSub, Nat.reduceAdd, Nat.lt_irrefl, Nat.le_refl, false_implies, true_implies]
    have f1 : mu_fr (rJ y) g (mu_sI g (y + 19) 110 (nI (sBlows s a c (nm s)))) := mu_fr_sI (Or.inl rfl)
    have f2 : mu_fr (rJ y) g (mu_sI (mu_sI g (y + 19) 110 (nI (sBlows s a c (nm s)))) (y + 19) 115 (nI (min (vP s a 1) (vP s c 1)))) := mu_fr_tr f1 (mu_fr_sI (Or.inl rfl))
    refine ⟨fun h0 => ?_, fun h0 => ?_⟩
    · have h0 : (0 : Int32) ≤ rf_last s 2 (ntx s) := h0
      rcases lw_cases (g := g) (b := 0) hc 2 with ⟨h1, -⟩ | ⟨t, h1, h2, h3, h4, -⟩
      · rw [li_le] at h0
        exact absurd h1 (by have : (0 : Int32).toInt = 0 := rfl; omega)
      · have e0 : rf_last s (nI 2) (ntx s) = nI t := by rw [← h3]; exact (li_get (x := rf_last s 2 (ntx s)) (by omega)).1
        rw [e0]
        have hwt := hT t h1
        refine mu_cIp (sp_X11_worked (d := d + 2) (md_L_fr hM f2) (rj_s f2 hs) rfl (by omega) (fun _ => rfl) (fun _ => rfl) hwt.1 hwt.2.2.2.1) (mu_fr_fit f2 hL) (fun x g5 hx hX hS5 => ?_)
        have f5 := mu_fr_tr f2 (mu_fr_mono hx.2 (fun a h => Or.inr h))
        refine mu_cI sp_X11_heldIn (mu_fr_fit f5 hL) (hQ _ _ ⟨_, rfl, ?_, f5⟩ f5.2.2.2.1 f5.2.2.2.2.1)
        unfold sNeed
        rw [if_neg h2, h3, ← tx_val_congr (nm := mu_I (mu_sI (mu_sI g (y + 19) 110 (nI (sBlows s a c (nm s)))) (y + 19) 115 (nI (min (vP s a 1) (vP s c 1)))) (y + 19)) hwt]
        · unfold rf_hold
          rw [hx.1]
          rfl
        · intro c hc
          rw [h4] at hc
          have hc : c ∈ [110, 115] := hc
          simp only [List.mem_cons, List.not_mem_nil, or_false] at hc
          rcases hc with rfl | rfl <;> simp [mu_I_upd, upd, rf_nmH]
    · have h0 : ¬ (0 : Int32) ≤ rf_last s 2 (ntx s) := h0
      refine hQ _ _ ⟨_, rfl, ?_, f2⟩ f2.2.2.2.1 f2.2.2.2.2.1
      unfold sNeed
      rw [if_pos (by rw [li_le] at h0; have : (0 : Int32).toInt = 0 := rfl; omega)]
      rfl
  · have hmb := wm_b hm hi
    have i1 : mDo s i ∧ mTwo s a c i → mu_go w mm_X11_needs (d + 4) L Q 5 [some (.ref y), some (.int (nI a)), some (.int (nI c)), some (.int (nI (sBlows s a c i + 1))), some (.int (nI (i + 1))), none] [] g := fun h => by
      have := ih
      unfold sBlows sumN at this
      rw [cN_t h] at this
      exact this
    have i0 : ¬ (mDo s i ∧ mTwo s a c i) → mu_go w mm_X11_needs (d + 4) L Q 5 [some (.ref y), some (.int (nI a)), some (.int (nI c)), some (.int (nI (sBlows s a c i))), some (.int (nI (i + 1))), none] [] g := fun h => by
      have := ih
      unfold sBlows sumN at this
      rw [cN_f h] at this
      exact this
    have kd : ∀ (K : Int32 → mu_H → Prop), (¬ mDo s i → K (nI 0) g) → (mDo s i → K (nI 1) g) → mu_callI w mm_X11_isDone (d + 3) L [.ref y, .int (nI i)] g K := fun K k0 k1 => mu_cI (sp_X11_isDoneN hM hs hc hm hi) hL (by
      by_cases h : mDo s i
      · rw [cI_t h]; exact k1 h
      · rw [cI_f h]; exact k0 h)
    clear ih
    simp (disch := omega) only [Nat.not_le_of_lt hi, md_T0 hM, md_R0 hM, md_T1 hM, md_N1 hM, hs, wc_0 hc, wc_1 hc, wc_2 hc, wc_3 hc, wc_4 hc, wc_5 hc, wc_6 hc, wc_7 hc, wc_9 hc, li_n, nI_add, pk_mul, nI_clamp, nI_ltI, nI_leI, nI_eq, mi_n, Nat.add_zero, true_and, and_true, true_or, or_true, false_or, or_false, not_false_eq_true, not_true_eq_false, implies_true, forall_const, ne_eq, Classical.not_not, reduceCtorEq, nor_p, cI_1n, bI_1n, cI_F, cI_T, cI_0, cI_0n, bI_0, bI_0n, cI_01, bI_01, Nat.reduceLeDiff, Nat.reduceLT, Nat.reduceEqDiff, Nat.reduceSub, Nat.reduceAdd, Nat.lt_irrefl, Nat.le_refl, false_implies, true_implies]
    refine mu_cI (sp_X11_fieldN (f := 0) hM hs hc hm hi (by omega)) hL ?_
    simp (disch := omega) only [md_T0 hM, md_R0 hM, md_T1 hM, md_N1 hM, hs, wc_0 hc, wc_1 hc, wc_2 hc, wc_3 hc, wc_4 hc, wc_5 hc, wc_6 hc, wc_7 hc, wc_9 hc, li_n, nI_add, pk_mul, nI_clamp, nI_ltI, nI_leI, nI_eq, mi_n, Nat.add_zero, true_and, and_true, true_or, or_true, false_or, or_false, not_false_eq_true, not_true_eq_false, implies_true, forall_const, ne_eq, Classical.not_not, reduceCtorEq, nor_p, cI_1n, bI_1n, cI_F, cI_T, cI_0, cI_0n, bI_0, bI_0n, cI_01, bI_01, Nat.reduceLeDiff, Nat.reduceLT, Nat.reduceEqDiff, Nat.reduceSub, Nat.reduceAdd, Nat.lt_irrefl, Nat.le_refl, false_implies, true_implies]
    unfold mTwo at i0 i1
    refine ⟨fun q1 => mu_cI (sp_X11_fieldN (f := 0) hM hs hc hm hi (by omega)) hL ?_, fun q1 => mu_cI (sp_X11_fieldN (f := 5) hM hs hc hm hi (by omega)) hL ?_⟩
    · simp (disch := omega) only [md_T0 hM, md_R0 hM, md_T1 hM, md_N1 hM, hs, wc_0 hc, wc_1 hc, wc_2 hc, wc_3 hc, wc_4 hc, wc_5 hc, wc_6 hc, wc_7 hc, wc_9 hc, li_n, nI_add, pk_mul, nI_clamp, nI_ltI, nI_leI, nI_eq, mi_n, Nat.add_zero, true_and, and_true, true_or, or_true, false_or, or_false, not_false_eq_true, not_true_eq_false, implies_true, forall_const, ne_eq, Classical.not_not, reduceCtorEq, nor_p, cI_1n, bI_1n, cI_F, cI_T, cI_0, cI_0n, bI_0, bI_0n, cI_01, bI_01, Nat.reduceLeDiff, Nat.reduceLT, Nat.reduceEqDiff, Nat.reduceSub, Nat.reduceAdd, Nat.lt_irrefl, Nat.le_refl, false_implies, true_implies]
      refine ⟨fun q2 => kd _ (fun h => ?_) (fun h => ?_), fun q2 => mu_cI (sp_X11_fieldN (f := 5) hM hs hc hm hi (by omega)) hL ?_⟩
      · simp (disch := omega) only [md_T0 hM, md_R0 hM, md_T1 hM, md_N1 hM, hs, wc_0 hc, wc_1 hc, wc_2 hc, wc_3 hc, wc_4 hc, wc_5 hc, wc_6 hc, wc_7 hc, wc_9 hc, li_n, nI_add, pk_mul, nI_clamp, nI_ltI, nI_leI, nI_eq, mi_n, Nat.add_zero, true_and, and_true, true_or, or_true, false_or, or_false, not_false_eq_true, not_true_eq_false, implies_true, forall_const, ne_eq, Classical.not_not, reduceCtorEq, nor_p, cI_1n, bI_1n, cI_F, cI_T, cI_0, cI_0n, bI_0, bI_0n, cI_01, bI_01, Nat.reduceLeDiff, Nat.reduceLT, Nat.reduceEqDiff, Nat.reduceSub, Nat.reduceAdd, Nat.lt_irrefl, Nat.le_refl, false_implies, true_implies]; exact i0 (by omega)
      · simp (disch := omega) only [md_T0 hM, md_R0 hM, md_T1 hM, md_N1 hM, hs, wc_0 hc, wc_1 hc, wc_2 hc, wc_3 hc, wc_4 hc, wc_5 hc, wc_6 hc, wc_7 hc, wc_9 hc, li_n, nI_add, pk_mul, nI_clamp, nI_ltI, nI_leI, nI_eq, mi_n, Nat.add_zero, true_and, and_true, true_or, or_true, false_or, or_false, not_false_eq_true, not_true_eq_false, implies_true, forall_const, ne_eq, Classical.not_not, reduceCtorEq, nor_p, cI_1n, bI_1n, cI_F, cI_T, cI_0, cI_0n, bI_0, bI_0n, cI_01, bI_01, Nat.reduceLeDiff, Nat.reduceLT, Nat.reduceEqDiff, Nat.reduceSub, Nat.reduceAdd, Nat.lt_irrefl, Nat.le_refl, false_implies, true_implies]; exact i0 (by omega)
      · simp (disch := omega) only [md_T0 hM, md_R0 hM, md_T1 hM, md_N1 hM, hs, wc_0 hc, wc_1 hc, wc_2 hc, wc_3 hc, wc_4 hc, wc_5 hc, wc_6 hc, wc_7 hc, wc_9 hc, li_n, nI_add, pk_mul, nI_clamp, nI_ltI, nI_leI, nI_eq, mi_n, Nat.add_zero, true_and, and_true, true_or, or_true, false_or, or_false, not_false_eq_true, not_true_eq_false, implies_true, forall_const, ne_eq, Classical.not_not, reduceCtorEq, nor_p, cI_1n, bI_1n, cI_F, cI_T, cI_0, cI_0n, bI_0, bI_0n, cI_01, bI_01, Nat.reduceLeDiff, Nat.reduceLT, Nat.reduceEqDiff, Nat.reduceSub, Nat.reduceAdd, Nat.lt_irrefl, Nat.le_refl, false_implies, true_implies]
        refine ⟨fun q3 => kd _ (fun h => ?_) (fun h => ?_), fun q3 => kd _ (fun h => ?_) (fun h => ?_)⟩
        · simp (disch := omega) only [md_T0 hM, md_R0 hM, md_T1 hM, md_N1 hM, hs, wc_0 hc, wc_1 hc, wc_2 hc, wc_3 hc, wc_4 hc, wc_5 hc, wc_6 hc, wc_7 hc, wc_9 hc, li_n, nI_add, pk_mul, nI_clamp, nI_ltI, nI_leI, nI_eq, mi_n, Nat.add_zero, true_and, and_true, true_or, or_true, false_or, or_false, not_false_eq_true, not_true_eq_false, implies_true, forall_const, ne_eq, Classical.not_not, reduceCtorEq, nor_p, cI_1n, bI_1n, cI_F, cI_T, cI_0, cI_0n, bI_0, bI_0n, cI_01, bI_01, Nat.reduceLeDiff, Nat.reduceLT, Nat.reduceEqDiff, Nat.reduceSub, Nat.reduceAdd, Nat.lt_irrefl, Nat.le_refl, false_implies, true_implies]; exact i0 (by omega)
        · simp (disch := omega) only [md_T0 hM, md_R0 hM, md_T1 hM, md_N1 hM, hs, wc_0 hc, wc_1 hc, wc_2 hc, wc_3 hc, wc_4 hc, wc_5 hc, wc_6 hc, wc_7 hc, wc_9 hc, li_n, nI_add, pk_mul, nI_clamp, nI_ltI, nI_leI, nI_eq, mi_n, Nat.add_zero, true_and, and_true, true_or, or_true, false_or, or_false, not_false_eq_true, not_true_eq_false, implies_true, forall_const, ne_eq, Classical.not_not, reduceCtorEq, nor_p, cI_1n, bI_1n, cI_F, cI_T, cI_0, cI_0n, bI_0, bI_0n, cI_01, bI_01, Nat.reduceLeDiff, Nat.reduceLT, Nat.reduceEqDiff, Nat.reduceSub, Nat.reduceAdd, Nat.lt_irrefl, Nat.le_refl, false_implies, true_implies]; exact i0 (by omega)
        · simp (disch := omega) only [md_T0 hM, md_R0 hM, md_T1 hM, md_N1 hM, hs, wc_0 hc, wc_1 hc, wc_2 hc, wc_3 hc, wc_4 hc, wc_5 hc, wc_6 hc, wc_7 hc, wc_9 hc, li_n, nI_add, pk_mul, nI_clamp, nI_ltI, nI_leI, nI_eq, mi_n, Nat.add_zero, true_and, and_true, true_or, or_true, false_or, or_false, not_false_eq_true, not_true_eq_false, implies_true, forall_const, ne_eq, Classical.not_not, reduceCtorEq, nor_p, cI_1n, bI_1n, cI_F, cI_T, cI_0, cI_0n, bI_0, bI_0n, cI_01, bI_01, Nat.reduceLeDiff, Nat.reduceLT, Nat.reduceEqDiff, Nat.reduceSub, Nat.reduceAdd, Nat.lt_irrefl, Nat.le_refl, false_implies, true_implies]; exact i0 (fun q => h q.1)
        · simp (disch := omega) only [md_T0 hM, md_R0 hM, md_T1 hM, md_N1 hM, hs, wc_0 hc, wc_1 hc, wc_2 hc, wc_3 hc, wc_4 hc, wc_5 hc, wc_6 hc, wc_7 hc, wc_9 hc, li_n, nI_add, pk_mul, nI_clamp, nI_ltI, nI_leI, nI_eq, mi_n, Nat.add_zero, true_and, and_true, true_or, or_true, false_or, or_false, not_false_eq_true, not_true_eq_false, implies_true, forall_const, ne_eq, Classical.not_not, reduceCtorEq, nor_p, cI_1n, bI_1n, cI_F, cI_T, cI_0, cI_0n, bI_0, bI_0n, cI_01, bI_01, Nat.reduceLeDiff, Nat.reduceLT, Nat.reduceEqDiff, Nat.reduceSub, Nat.reduceAdd, Nat.lt_irrefl, Nat.le_refl, false_implies, true_implies]; exact i1 ⟨h, by omega⟩
    · simp (disch := omega) only [md_T0 hM, md_R0 hM, md_T1 hM, md_N1 hM, hs, wc_0 hc, wc_1 hc, wc_2 hc, wc_3 hc, wc_4 hc, wc_5 hc, wc_6 hc, wc_7 hc, wc_9 hc, li_n, nI_add, pk_mul, nI_clamp, nI_ltI, nI_leI, nI_eq, mi_n, Nat.add_zero, true_and, and_true, true_or, or_true, false_or, or_false, not_false_eq_true, not_true_eq_false, implies_true, forall_const, ne_eq, Classical.not_not, reduceCtorEq, nor_p, cI_1n, bI_1n, cI_F, cI_T, cI_0, cI_0n, bI_0, bI_0n, cI_01, bI_01, Nat.reduceLeDiff, Nat.reduceLT, Nat.reduceEqDiff, Nat.reduceSub, Nat.reduceAdd, Nat.lt_irrefl, Nat.le_refl, false_implies, true_implies]
      refine ⟨fun q2 => kd _ (fun h => ?_) (fun h => ?_), fun q2 => mu_cI (sp_X11_fieldN (f := 0) hM hs hc hm hi (by omega)) hL ?_⟩
      · simp (disch := omega) only [md_T0 hM, md_R0 hM, md_T1 hM, md_N1 hM, hs, wc_0 hc, wc_1 hc, wc_2 hc, wc_3 hc, wc_4 hc, wc_5 hc, wc_6 hc, wc_7 hc, wc_9 hc, li_n, nI_add, pk_mul, nI_clamp, nI_ltI, nI_leI, nI_eq, mi_n, Nat.add_zero, true_and, and_true, true_or, or_true, false_or, or_false, not_false_eq_true, not_true_eq_false, implies_true, forall_const, ne_eq, Classical.not_not, reduceCtorEq, nor_p, cI_1n, bI_1n, cI_F, cI_T, cI_0, cI_0n, bI_0, bI_0n, cI_01, bI_01, Nat.reduceLeDiff, Nat.reduceLT, Nat.reduceEqDiff, Nat.reduceSub, Nat.reduceAdd, Nat.lt_irrefl, Nat.le_refl, false_implies, true_implies]; exact i0 (fun q => h q.1)
      · simp (disch := omega) only [md_T0 hM, md_R0 hM, md_T1 hM, md_N1 hM, hs, wc_0 hc, wc_1 hc, wc_2 hc, wc_3 hc, wc_4 hc, wc_5 hc, wc_6 hc, wc_7 hc, wc_9 hc, li_n, nI_add, pk_mul, nI_clamp, nI_ltI, nI_leI, nI_eq, mi_n, Nat.add_zero, true_and, and_true, true_or, or_true, false_or, or_false, not_false_eq_true, not_true_eq_false, implies_true, forall_const, ne_eq, Classical.not_not, reduceCtorEq, nor_p, cI_1n, bI_1n, cI_F, cI_T, cI_0, cI_0n, bI_0, bI_0n, cI_01, bI_01, Nat.reduceLeDiff, Nat.reduceLT, Nat.reduceEqDiff, Nat.reduceSub, Nat.reduceAdd, Nat.lt_irrefl, Nat.le_refl, false_implies, true_implies]; exact i1 ⟨h, by omega⟩
      · simp (disch := omega) only [md_T0 hM, md_R0 hM, md_T1 hM, md_N1 hM, hs, wc_0 hc, wc_1 hc, wc_2 hc, wc_3 hc, wc_4 hc, wc_5 hc, wc_6 hc, wc_7 hc, wc_9 hc, li_n, nI_add, pk_mul, nI_clamp, nI_ltI, nI_leI, nI_eq, mi_n, Nat.add_zero, true_and, and_true, true_or, or_true, false_or, or_false, not_false_eq_true, not_true_eq_false, implies_true, forall_const, ne_eq, Classical.not_not, reduceCtorEq, nor_p, cI_1n, bI_1n, cI_F, cI_T, cI_0, cI_0n, bI_0, bI_0n, cI_01, bI_01, Nat.reduceLeDiff, Nat.reduceLT, Nat.reduceEqDiff, Nat.reduceSub, Nat.reduceAdd, Nat.lt_irrefl, Nat.le_refl, false_implies, true_implies]
        refine ⟨fun q3 => kd _ (fun h => ?_) (fun h => ?_), fun q3 => mu_cI (sp_X11_fieldN (f := 5) hM hs hc hm hi (by omega)) hL ?_⟩
        · simp (disch := omega) only [md_T0 hM, md_R0 hM, md_T1 hM, md_N1 hM, hs, wc_0 hc, wc_1 hc, wc_2 hc, wc_3 hc, wc_4 hc, wc_5 hc, wc_6 hc, wc_7 hc, wc_9 hc, li_n, nI_add, pk_mul, nI_clamp, nI_ltI, nI_leI, nI_eq, mi_n, Nat.add_zero, true_and, and_true, true_or, or_true, false_or, or_false, not_false_eq_true, not_true_eq_false, implies_true, forall_const, ne_eq, Classical.not_not, reduceCtorEq, nor_p, cI_1n, bI_1n, cI_F, cI_T, cI_0, cI_0n, bI_0, bI_0n, cI_01, bI_01, Nat.reduceLeDiff, Nat.reduceLT, Nat.reduceEqDiff, Nat.reduceSub, Nat.reduceAdd, Nat.lt_irrefl, Nat.le_refl, false_implies, true_implies]; exact i0 (by omega)
        · simp (disch := omega) only [md_T0 hM, md_R0 hM, md_T1 hM, md_N1 hM, hs, wc_0 hc, wc_1 hc, wc_2 hc, wc_3 hc, wc_4 hc, wc_5 hc, wc_6 hc, wc_7 hc, wc_9 hc, li_n, nI_add, pk_mul, nI_clamp, nI_ltI, nI_leI, nI_eq, mi_n, Nat.add_zero, true_and, and_true, true_or, or_true, false_or, or_false, not_false_eq_true, not_true_eq_false, implies_true, forall_const, ne_eq, Classical.not_not, reduceCtorEq, nor_p, cI_1n, bI_1n, cI_F, cI_T, cI_0, cI_0n, bI_0, bI_0n, cI_01, bI_01, Nat.reduceLeDiff, Nat.reduceLT, Nat.reduceEqDiff, Nat.reduceSub, Nat.reduceAdd, Nat.lt_irrefl, Nat.le_refl, false_implies, true_implies]; exact i0 (by omega)
        · simp (disch := omega) only [md_T0 hM, md_R0 hM, md_T1 hM, md_N1 hM, hs, wc_0 hc, wc_1 hc, wc_2 hc, wc_3 hc, wc_4 hc, wc_5 hc, wc_6 hc, wc_7 hc, wc_9 hc, li_n, nI_add, pk_mul, nI_clamp, nI_ltI, nI_leI, nI_eq, mi_n, Nat.add_zero, true_and, and_true, true_or, or_true, false_or, or_false, not_false_eq_true, not_true_eq_false, implies_true, forall_const, ne_eq, Classical.not_not, reduceCtorEq, nor_p, cI_1n, bI_1n, cI_F, cI_T, cI_0, cI_0n, bI_0, bI_0n, cI_01, bI_01, Nat.reduceLeDiff, Nat.reduceLT, Nat.reduceEqDiff, Nat.reduceSub, Nat.reduceAdd, Nat.lt_irrefl, Nat.le_refl, false_implies, true_implies]
          refine ⟨fun q4 => kd _ (fun h => ?_) (fun h => ?_), fun q4 => kd _ (fun h => ?_) (fun h => ?_)⟩
          · simp (disch := omega) only [md_T0 hM, md_R0 hM, md_T1 hM, md_N1 hM, hs, wc_0 hc, wc_1 hc, wc_2 hc, wc_3 hc, wc_4 hc, wc_5 hc, wc_6 hc, wc_7 hc, wc_9 hc, li_n, nI_add, pk_mul, nI_clamp, nI_ltI, nI_leI, nI_eq, mi_n, Nat.add_zero, true_and, and_true, true_or, or_true, false_or, or_false, not_false_eq_true, not_true_eq_false, implies_true, forall_const, ne_eq, Classical.not_not, reduceCtorEq, nor_p, cI_1n, bI_1n, cI_F, cI_T, cI_0, cI_0n, bI_0, bI_0n, cI_01, bI_01, Nat.reduceLeDiff, Nat.reduceLT, Nat.reduceEqDiff, Nat.reduceSub, Nat.reduceAdd, Nat.lt_irrefl, Nat.le_refl, false_implies, true_implies]; exact i0 (by omega)
          · simp (disch := omega) only [md_T0 hM, md_R0 hM, md_T1 hM, md_N1 hM, hs, wc_0 hc, wc_1 hc, wc_2 hc, wc_3 hc, wc_4 hc, wc_5 hc, wc_6 hc, wc_7 hc, wc_9 hc, li_n, nI_add, pk_mul, nI_clamp, nI_ltI, nI_leI, nI_eq, mi_n, Nat.add_zero, true_and, and_true, true_or, or_true, false_or, or_false, not_false_eq_true, not_true_eq_false, implies_true, forall_const, ne_eq, Classical.not_not, reduceCtorEq, nor_p, cI_1n, bI_1n, cI_F, cI_T, cI_0, cI_0n, bI_0, bI_0n, cI_01, bI_01, Nat.reduceLeDiff, Nat.reduceLT, Nat.reduceEqDiff, Nat.reduceSub, Nat.reduceAdd, Nat.lt_irrefl, Nat.le_refl, false_implies, true_implies]; exact i0 (by omega)
          · exfalso; omega
          · exfalso; omega
theorem sp_X11_hasBarred (hM : md_L w y g) (hs : mu_I g (y + 1) = s) (hc : wf_c s) (hm : wf_m B s) (hT : wf_texts s (ntx s)) :
    mu_mp w mm_X11_hasBarred (d + 3) [.ref y] g (fun r g' => ∃ x, r = some (.int x) ∧ (x = cI (sAnyBar s) ∧ mu_fr (rJ y) g g')) := by
  refine mu_mkp mk_X11_hasBarred rfl (fun L hL Q hQ => fm_X11_hasBarred_0 ?_)
  have hb := wc_b hc
  have e0 : nI 0 = cI (∃ m, m < 0 ∧ vM s m 7 = 0 ∧ sBar s m) := by rw [cI_f (fun ⟨m, q, _⟩ => absurd q (Nat.not_lt_zero m))]; rfl
  show mu_go w mm_X11_hasBarred (d + 3) L Q 4 [some (.ref y), some (.int (nI 0)), some (.int (nI 0))] [] g
  have e1 : ∀ (hh : mu_go w mm_X11_hasBarred (d + 3) L Q 4 [some (.ref y), some (.int (cI (∃ m, m < 0 ∧ vM s m 7 = 0 ∧ sBar s m))), some (.int (nI 0))] [] g), mu_go w mm_X11_hasBarred (d + 3) L Q 4 [some (.ref y), some (.int (nI 0)), some (.int (nI 0))] [] g := fun hh => by rw [← e0] at hh; exact hh
  refine e1 (lp (n := nm s) (P := fun i => ∀ g', mu_fr (rJ y) g g' → mu_go w mm_X11_hasBarred (d + 3) L Q 4 [some (.ref y), some (.int (cI (∃ m, m < i ∧ vM s m 7 = 0 ∧ sBar s m))), some (.int (nI i))] [] g') (fun g' hf => fm_X11_hasBarred_4 ?_) (fun i hi ih g' hf => fm_X11_hasBarred_4 ?_) g mu_fr_rf)
  · have hM' := md_L_fr hM hf
    have hs' := rj_s hf hs
    simp (disch := omega) only [md_T0 hM', md_R0 hM', md_T1 hM', md_N1 hM', hs', wc_1 hc, li_n, nI_add, pk_mul, nI_clamp, nI_ltI, nI_leI, nI_eq, mi_n, Nat.add_zero, true_and, and_true, true_or, or_true, false_or, or_false, not_false_eq_true, not_true_eq_false, implies_true, forall_const, ne_eq, Classical.not_not, reduceCtorEq, nor_p, cI_1n, bI_1n, cI_F, cI_T, cI_0, cI_0n, bI_0, bI_0n, cI_01, bI_01, Nat.reduceLeDiff, Nat.reduceLT, Nat.reduceEqDiff, Nat.reduceSub, Nat.reduceAdd, Nat.lt_irrefl, Nat.le_refl, false_implies, true_implies]
    exact hQ _ _ ⟨_, rfl, rfl, hf⟩ hf.2.2.2.1 hf.2.2.2.2.1
  · have hM' := md_L_fr hM hf
    have hs' := rj_s hf hs
    have hL' := mu_fr_fit hf hL
    have hmb := wm_b hm hi
    have i1 : ∀ g2, mu_fr (rJ y) g g2 → (∃ m, m < i + 1 ∧ vM s m 7 = 0 ∧ sBar s m) → mu_go w mm_X11_hasBarred (d + 3) L Q 4 [some (.ref y), some (.int (nI 1)), some (.int (nI (i + 1)))] [] g2 := fun g2 hf2 h => by
      have := ih g2 hf2
      rw [cI_t h] at this
      exact this
    have i0 : ∀ g2, mu_fr (rJ y) g g2 → ¬ (∃ m, m < i + 1 ∧ vM s m 7 = 0 ∧ sBar s m) → mu_go w mm_X11_hasBarred (d + 3) L Q 4 [some (.ref y), some (.int (nI 0)), some (.int (nI (i + 1)))] [] g2 := fun g2 hf2 h => by
      have := ih g2 hf2
      rw [cI_f h] at this
      exact this
    clear ih
    have hn : ¬ (∃ m, m < i ∧ vM s m 7 = 0 ∧ sBar s m) → ¬ (vM s i 7 = 0 ∧ sBar s i) → ¬ (∃ m, m < i + 1 ∧ vM s m 7 = 0 ∧ sBar s m) := fun h1 h2 ⟨m, q1, q2⟩ => by
      by_cases e : m = i
      · rw [e] at q2; exact h2 q2
      · exact h1 ⟨m, by omega, q2⟩
    simp (disch := omega) only [Nat.not_le_of_lt hi, md_T0 hM', md_R0 hM', md_T1 hM', md_N1 hM', hs', wc_1 hc, li_n, nI_add, pk_mul, nI_clamp, nI_ltI, nI_leI, nI_eq, mi_n, Nat.add_zero, true_and, and_true, true_or, or_true, false_or, or_false, not_false_eq_true, not_true_eq_false, implies_true, forall_const, ne_eq, Classical.not_not, reduceCtorEq, nor_p, cI_1n, bI_1n, cI_F, cI_T, cI_0, cI_0n, bI_0, bI_0n, cI_01, bI_01, Nat.reduceLeDiff, Nat.reduceLT, Nat.reduceEqDiff, Nat.reduceSub, Nat.reduceAdd, Nat.lt_irrefl, Nat.le_refl, false_implies, true_implies]
    refine ⟨fun h => i1 _ hf (by obtain ⟨m, q1, q2⟩ := h; exact ⟨m, by omega, q2⟩), fun h => mu_cI (sp_X11_fieldN (f := 7) hM' hs' hc hm hi (by omega)) hL' ?_⟩
    simp (disch := omega) only [md_T0 hM', li_n, nI_add, pk_mul, nI_clamp, nI_ltI, nI_leI, nI_eq, mi_n, Nat.add_zero, true_and, and_true, true_or, or_true, false_or, or_false, not_false_eq_true, not_true_eq_false, implies_true, forall_const, ne_eq, Classical.not_not, reduceCtorEq, nor_p, cI_1n, bI_1n, cI_F, cI_T, cI_0, cI_0n, bI_0, bI_0n, cI_01, bI_01, Nat.reduceLeDiff, Nat.reduceLT, Nat.reduceEqDiff, Nat.reduceSub, Nat.reduceAdd, Nat.lt_irrefl, Nat.le_refl, false_implies, true_implies]
    refine ⟨fun h2 => i0 _ hf (hn h (fun q => h2 q.1)), fun h2 => mu_cIp (sp_X11_barred hM' hs' hc hm hT hi) hL' (fun x g2 hx hX1 hS1 => ?_)⟩
    have hf2 := mu_fr_tr hf hx.2
    rw [hx.1]
    simp (disch := omega) only [li_n, nI_add, pk_mul, nI_clamp, nI_ltI, nI_leI, nI_eq, mi_n, Nat.add_zero, true_and, and_true, true_or, or_true, false_or, or_false, not_false_eq_true, not_true_eq_false, implies_true, forall_const, ne_eq, Classical.not_not, reduceCtorEq, nor_p, cI_1n, bI_1n, cI_F, cI_T, cI_0, cI_0n, bI_0, bI_0n, cI_01, bI_01, Nat.reduceLeDiff, Nat.reduceLT, Nat.reduceEqDiff, Nat.reduceSub, Nat.reduceAdd, Nat.lt_irrefl, Nat.le_refl, false_implies, true_implies]
    exact ⟨fun h3 => i0 _ hf2 (hn h (fun q => h3 q.2)), fun h3 => i1 _ hf2 ⟨i, by omega, h2, h3⟩⟩
theorem sp_X11_lacksHours (hM : md_L w y g) (hs : mu_I g (y + 1) = s) (hc : wf_c s) (hp : wf_p s) (hm : wf_m B s) (hh : wf_h s) (hT : wf_texts s (ntx s)) :
    mu_mp w mm_X11_lacksHours (d + 5) [.ref y] g (fun r g' => ∃ x, r = some (.int x) ∧ (x = cI (sLack s) ∧ mu_fr (rJ y) g g')) := by
  refine mu_mkp mk_X11_lacksHours rfl (fun L hL Q hQ => fm_X11_lacksHours_0 ?_)
  have hb := wc_b hc
  have e1 : ∀ {n : Int32} {p : Prop} {k : Nat} {st : List (Option Value)} (hh : mu_go w mm_X11_lacksHours (d + 5) L Q k (some (.ref y) :: some (.int (cI p)) :: st) [] g) (e : n = cI p), mu_go w mm_X11_lacksHours (d + 5) L Q k (some (.ref y) :: some (.int n) :: st) [] g := fun hh e => by rw [e]; exact hh
  refine e1 (p := ∃ a b, b < a ∧ a < 0 ∧ nI (vH s (8 * a + b)) < sNeed s a b) (lp (n := np s) (P := fun i => ∀ g', mu_fr (rJ y) g g' → mu_go w mm_X11_lacksHours (d + 5) L Q 4 [some (.ref y), some (.int (cI (∃ a b, b < a ∧ a < i ∧ nI (vH s (8 * a + b)) < sNeed s a b))), some (.int (nI i)), none] [] g') (fun g' hf => fm_X11_lacksHours_4 ?_) (fun i hi ih g' hf => fm_X11_lacksHours_4 ?_) g mu_fr_rf) (by rw [cI_f (fun ⟨a, b, q1, q2, _⟩ => absurd q2 (Nat.not_lt_zero a))])
  · have hM' := md_L_fr hM hf
    have hs' := rj_s hf hs
    simp (disch := omega) only [md_T0 hM', md_R0 hM', md_T1 hM', md_N1 hM', hs', wc_0 hc, li_n, nI_add, pk_mul, nI_clamp, nI_ltI, nI_leI, nI_eq, mi_n, Nat.add_zero, true_and, and_true, true_or, or_true, false_or, or_false, not_false_eq_true, not_true_eq_false, implies_true, forall_const, ne_eq, Classical.not_not, reduceCtorEq, nor_p, cI_1n, bI_1n, cI_F, cI_T, cI_0, cI_0n, bI_0, bI_0n, cI_01, bI_01, Nat.reduceLeDiff, Nat.reduceLT, Nat.reduceEqDiff, Nat.reduceSub, Nat.reduceAdd, Nat.lt_irrefl, Nat.le_refl, false_implies, true_implies]
    refine hQ _ _ ⟨_, rfl, cI_c ⟨fun ⟨a, b, q1, q2, q3⟩ => ⟨b, a, q1, q2, ?_⟩, fun ⟨a, b, q1, q2, q3⟩ => ⟨b, a, q1, q2, ?_⟩⟩, hf⟩ hf.2.2.2.1 hf.2.2.2.2.1
    · rw [hh.2 b a (by omega) (by omega), sNeed_sym]; exact q3
    · rw [hh.2 b a (by omega) (by omega), sNeed_sym]; exact q3
  · have hM' := md_L_fr hM hf
    have hs' := rj_s hf hs
    simp (disch := omega) only [Nat.not_le_of_lt hi, md_T0 hM', md_R0 hM', md_T1 hM', md_N1 hM', hs', wc_0 hc, li_n, nI_add, pk_mul, nI_clamp, nI_ltI, nI_leI, nI_eq, mi_n, Nat.add_zero, true_and, and_true, true_or, or_true, false_or, or_false, not_false_eq_true, not_true_eq_false, implies_true, forall_const, ne_eq, Classical.not_not, reduceCtorEq, nor_p, cI_1n, bI_1n, cI_F, cI_T, cI_0, cI_0n, bI_0, bI_0n, cI_01, bI_01, Nat.reduceLeDiff, Nat.reduceLT, Nat.reduceEqDiff, Nat.reduceSub, Nat.reduceAdd, Nat.lt_irrefl, Nat.le_refl, false_implies, true_implies]
    have : ∀ k c, c + k = i → ∀ g2, mu_fr (rJ y) g g2 → mu_go w mm_X11_lacksHours (d + 5) L Q 16 [some (.ref y), some (.int (cI ((∃ a b, b < a ∧ a < i ∧ nI (vH s (8 * a + b)) < sNeed s a b) ∨ ∃ b, b < c ∧ nI (vH s (8 * i + b)) < sNeed s i b))), some (.int (nI i)), some (.int (nI c))] [] g2 := by
      intro k
      induction k with
      | zero =>
        intro c hcn g2 hf2
        refine fm_X11_lacksHours_16 ?_
        rw [show c = i by omega]
        simp (disch := omega) only [li_n, nI_add, pk_mul, nI_clamp, nI_ltI, nI_leI, nI_eq, mi_n, Nat.add_zero, true_and, and_true, true_or, or_true, false_or, or_false, not_false_eq_true, not_true_eq_false, implies_true, forall_const, ne_eq, Classical.not_not, reduceCtorEq, nor_p, cI_1n, bI_1n, cI_F, cI_T, cI_0, cI_0n, bI_0, bI_0n, cI_01, bI_01, Nat.reduceLeDiff, Nat.reduceLT, Nat.reduceEqDiff, Nat.reduceSub, Nat.reduceAdd, Nat.lt_irrefl, Nat.le_refl, false_implies, true_implies]
        have := ih g2 hf2
        rw [cI_c (show (∃ a b, b < a ∧ a < i + 1 ∧ nI (vH s (8 * a + b)) < sNeed s a b) ↔ ((∃ a b, b < a ∧ a < i ∧ nI (vH s (8 * a + b)) < sNeed s a b) ∨ ∃ b, b < i ∧ nI (vH s (8 * i + b)) < sNeed s i b) from ⟨fun ⟨a, b, q1, q2, q3⟩ => by
          by_cases e : a = i
          · rw [e] at q1 q3; exact Or.inr ⟨b, q1, q3⟩
          · exact Or.inl ⟨a, b, q1, by omega, q3⟩, fun q => by
          rcases q with ⟨a, b, q1, q2, q3⟩ | ⟨b, q1, q2⟩
          · exact ⟨a, b, q1, by omega, q3⟩
          · exact ⟨i, b, q1, by omega, q2⟩⟩)] at this
        exact this
      | succ k ih2 =>
        intro c hcn g2 hf2
        have hM' := md_L_fr hM hf2
        have hs' := rj_s hf2 hs
        have hL' := mu_fr_fit hf2 hL
        have hlt : c < i := by omega
        have i1 : ∀ g2, mu_fr (rJ y) g g2 → ((∃ a b, b < a ∧ a < i ∧ nI (vH s (8 * a + b)) < sNeed s a b) ∨ ∃ b, b < c + 1 ∧ nI (vH s (8 * i + b)) < sNeed s i b) → mu_go w mm_X11_lacksHours (d + 5) L Q 16 [some (.ref y), some (.int (nI 1)), some (.int (nI i)), some (.int (nI (c + 1)))] [] g2 := fun g2 hf2 h => by
          have := ih2 (c + 1) (by omega) g2 hf2
          rw [cI_t h] at this
          exact this
        have i0 : ∀ g2, mu_fr (rJ y) g g2 → ¬ ((∃ a b, b < a ∧ a < i ∧ nI (vH s (8 * a + b)) < sNeed s a b) ∨ ∃ b, b < c + 1 ∧ nI (vH s (8 * i + b)) < sNeed s i b) → mu_go w mm_X11_lacksHours (d + 5) L Q 16 [some (.ref y), some (.int (nI 0)), some (.int (nI i)), some (.int (nI (c + 1)))] [] g2 := fun g2 hf2 h => by
          have := ih2 (c + 1) (by omega) g2 hf2
          rw [cI_f h] at this
          exact this
        refine fm_X11_lacksHours_16 ?_
        simp (disch := omega) only [Nat.not_le_of_lt hlt, md_T0 hM', md_R0 hM', md_T1 hM', md_N1 hM', hs', wc_0 hc, li_n, nI_add, pk_mul, nI_clamp, nI_ltI, nI_leI, nI_eq, mi_n, Nat.add_zero, true_and, and_true, true_or, or_true, false_or, or_false, not_false_eq_true, not_true_eq_false, implies_true, forall_const, ne_eq, Classical.not_not, reduceCtorEq, nor_p, cI_1n, bI_1n, cI_F, cI_T, cI_0, cI_0n, bI_0, bI_0n, cI_01, bI_01, Nat.reduceLeDiff, Nat.reduceLT, Nat.reduceEqDiff, Nat.reduceSub, Nat.reduceAdd, Nat.lt_irrefl, Nat.le_refl, false_implies, true_implies]
        refine ⟨fun h => i1 _ hf2 (h.imp id (fun ⟨b, q1, q2⟩ => ⟨b, by omega, q2⟩)), fun h => ⟨by omega, mu_cIp (sp_X11_needs hM' hs' hc hp hm hT hi (by omega)) hL' (fun x g3 hx hX1 hS1 => ?_)⟩⟩
        have hf3 := mu_fr_tr hf2 hx.2
        have e : s (290 + 8 * i + c) = nI (vH s (8 * i + c)) := by rw [Nat.add_assoc]; exact (hh.1 (8 * i + c) (by omega)).1
        rw [hx.1, e, ← Int32.not_lt, Classical.not_not]
        refine ⟨fun h2 => i0 _ hf3 (fun q => ?_), fun h2 => i1 _ hf3 (Or.inr ⟨c, by omega, h2⟩)⟩
        rcases q with q | ⟨b, q1, q2⟩
        · exact h (Or.inl q)
        · by_cases e : b = c
          · rw [e] at q2; exact h2 q2
          · exact h (Or.inr ⟨b, by omega, q2⟩)
    have := this i 0 (by omega) g' hf
    rw [cI_c (show _ ↔ (∃ a b, b < a ∧ a < i ∧ nI (vH s (8 * a + b)) < sNeed s a b) from ⟨fun q => q.elim id (fun ⟨b, q1, _⟩ => absurd q1 (Nat.not_lt_zero b)), Or.inl⟩)] at this
    exact this
end Rw2
