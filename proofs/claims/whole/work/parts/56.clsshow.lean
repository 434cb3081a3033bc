/-! CLIENTS: weapons and what a show leaves behind, in the class -/
theorem nn_m1 : nn (-1) = -1000000005 := rfl
theorem nn_n {k : Nat} (h : k < 1000) : nn (nI k) = nI k := by
  unfold nn
  rw [if_neg (fun e => by
    have := congrArg Int32.toInt e
    rw [nI_toInt (by omega)] at this
    have h2 : (-1 : Int32).toInt = -1 := rfl
    omega)]
theorem m1_n {k : Nat} (h : k < 2 ^ 31) : ¬ nI k = -1 := fun e => by
  have := congrArg Int32.toInt e
  rw [nI_toInt h] at this
  have h2 : (-1 : Int32).toInt = -1 := rfl
  omega
theorem wf_c_u {s : Nat → Int32} {K : Nat} {v : Int32} (h : wf_c s) (hK : 10 ≤ K) : wf_c (upd s K v) := by
  obtain ⟨a0, a1, a2, a3, a4, a5, a6, a7, a9⟩ := h
  refine ⟨?_, ?_, ?_, ?_, ?_, ?_, ?_, ?_, ?_⟩
  · rw [np_u (by omega), pk_un (by omega)]; exact a0
  · rw [nm_u (by omega), pk_un (by omega)]; exact a1
  · rw [nsg_u (by omega), pk_un (by omega)]; exact a2
  · rw [ntx_u (by omega), pk_un (by omega)]; exact a3
  · rw [nch_u (by omega), pk_un (by omega)]; exact a4
  · rw [nwp_u (by omega), pk_un (by omega)]; exact a5
  · rw [nsh_u (by omega), pk_un (by omega)]; exact a6
  · rw [nlg_u (by omega), pk_un (by omega)]; exact a7
  · rw [nwt_u (by omega), pk_un (by omega)]; exact a9
theorem wf_m_u {s : Nat → Int32} {K B : Nat} {v : Int32} (h : wf_m B s) (hc : wf_c s) (hK : 1 < K) (hK2 : K < 60 ∨ 60 + 8 * nm s ≤ K) : wf_m B (upd s K v) := fun m hm => by
  rw [nm_u (by omega)] at hm
  obtain ⟨h1, h2⟩ := h m hm
  rw [np_u (by omega), vM_u (by omega), vM_u (by omega), vM_u (by omega), vM_u (by omega), vM_u (by omega), vM_u (by omega), vM_u (by omega), vM_u (by omega)]
  refine ⟨fun f hf => ?_, h2⟩
  rw [vM_u (by omega), pk_un (by omega)]
  exact h1 f hf
/-- one of them is tired, and his weapon worn -/
def tw (s : Nat → Int32) (p : Nat) : Nat → Int32 := if s (20 + 4 * p + 3) = -1 then upd s (20 + 4 * p + 2) (nI (min 99 (vP s p 2 + sTi s p (nm s)))) else upd (upd s (20 + 4 * p + 2) (nI (min 99 (vP s p 2 + sTi s p (nm s))))) (270 + 2 * (s (20 + 4 * p + 3)).toNatClampNeg) (nI (min 99 (vW s (s (20 + 4 * p + 3)).toNatClampNeg + sWe s p (nm s))))
theorem sTi_le (s : Nat → Int32) (p n : Nat) : sTi s p n ≤ n * 3 := sumN_le (fun i _ => by split; (unfold kTires; split <;> omega); omega)
theorem sWe_le (s : Nat → Int32) (p n : Nat) : sWe s p n ≤ n * 3 := sumN_le (fun i _ => by split; (unfold kWears; split <;> omega); omega)
section Cv
variable {w : mu_O} {d b S E : Nat} {g : mu_H} {s : Nat → Int32} {B : Nat}
theorem sp_X4_weaponOf {p : Nat} (hS : sc_L w b g) (hV : sc_V w E b s g) (hc : wf_c s) (hw : wf_w s) (hp : p < np s) : mu_met w mm_X4_weaponOf d [.ref b, .int (nI p)] g (some (.int (nn (s (20 + 4 * p + 3))))) g := by
  refine mu_mk mk_X4_weaponOf rfl rfl rfl (fun L hL Q hQ => fm_X4_weaponOf_0 ?_)
  have hb := wc_b hc
  have key : ∀ i, i < nwp s → (nn (s (270 + 2 * i + 1)) = nI p ↔ s (20 + 4 * p + 3) = nI i) := fun i hi => by
    obtain ⟨-, -, h1⟩ := hw.1 i hi
    rcases h1 with h1 | ⟨q, q1, q2, q3⟩
    · rw [h1]
      refine ⟨fun e => absurd e.symm (none_n (by omega)), fun e => ?_⟩
      rcases hw.2 p hp with h2 | ⟨k, k1, k2, k3⟩
      · rw [h2] at e; exact absurd e.symm (m1_n (by omega))
      · rw [k2, nI_eq (by omega) (by omega)] at e
        rw [e, h1] at k3
        exact absurd k3.symm (m1_n (by omega))
    · rw [q2, nn_n (by omega), nI_eq (by omega) (by omega)]
      refine ⟨fun e => by rw [← e]; exact q3, fun e => ?_⟩
      rcases hw.2 p hp with h2 | ⟨k, k1, k2, k3⟩
      · rw [h2] at e; exact absurd e.symm (m1_n (by omega))
      · rw [k2, nI_eq (by omega) (by omega)] at e
        rw [e, q2, nI_eq (by omega) (by omega)] at k3
        exact k3
  refine lp (n := nwp s) (P := fun i => (∀ j, j < i → ¬ s (20 + 4 * p + 3) = nI j) → mu_go w mm_X4_weaponOf d L Q 2 [some (.ref b), some (.int (nI p)), some (.int (nI i))] [] g) (fun hj => fm_X4_weaponOf_2 ?_) (fun i hi ih hj => fm_X4_weaponOf_2 ?_) (fun j hj => absurd hj (Nat.not_lt_zero j))
  · simp (disch := omega) only [sc_T hS, sc_R0 hS, sc_R1 hS, sc_R2 hS, sc_R3 hS, sc_R4 hS, sc_R5 hS, sc_R6 hS, sc_R7 hS, sc_R8 hS, sc_R9 hS, sc_T1 hS, sc_N1 hS, sc_RP hS, sc_T2 hS, sc_N2 hS, sc_RM hS, sc_T3 hS, sc_N3 hS, sc_T4 hS, sc_N4 hS, sc_T5 hS, sc_N5 hS, sc_T6 hS, sc_N6 hS, sc_T7 hS, sc_N7 hS, sc_T8 hS, sc_N8 hS, sc_T9 hS, sc_N9 hS, sc_T10 hS, sc_RL0 hS, sc_RL1 hS, sc_T11 hS, sc_N11 hS, sc_T12 hS, sc_N12 hS, sc_TP hS, sc_TM hS, sc_w hS, sc_wj hS, sc_wp hS, sv_0 hV hc, sv_1 hV hc, sv_2 hV hc, sv_3 hV hc, sv_4 hV hc, sv_5 hV hc, sv_6 hV hc, sv_7 hV hc, sv_9 hV hc, sv_8 hV, li_n, nI_add, pk_mul, nI_clamp, nI_ltI, nI_leI, nI_eq, mi_n, Nat.add_zero, true_and, and_true, true_or, or_true, false_or, or_false, not_false_eq_true, not_true_eq_false, implies_true, forall_const, ne_eq, Classical.not_not, reduceCtorEq, nor_p, cI_1n, bI_1n, cI_F, cI_T, cI_0, cI_0n, bI_0, bI_0n, cI_01, bI_01, Nat.reduceLeDiff, Nat.reduceLT, Nat.reduceEqDiff, Nat.reduceSub, Nat.reduceAdd, Nat.lt_irrefl, Nat.le_refl, false_implies, true_implies]
    rcases hw.2 p hp with h2 | ⟨k, k1, k2, k3⟩
    · rw [h2] at hQ; exact hQ
    · exact absurd k2 (hj k k1)
  · simp (disch := omega) only [Nat.not_le_of_lt hi, sv_wh hV, sc_T hS, sc_R0 hS, sc_R1 hS, sc_R2 hS, sc_R3 hS, sc_R4 hS, sc_R5 hS, sc_R6 hS, sc_R7 hS, sc_R8 hS, sc_R9 hS, sc_T1 hS, sc_N1 hS, sc_RP hS, sc_T2 hS, sc_N2 hS, sc_RM hS, sc_T3 hS, sc_N3 hS, sc_T4 hS, sc_N4 hS, sc_T5 hS, sc_N5 hS, sc_T6 hS, sc_N6 hS, sc_T7 hS, sc_N7 hS, sc_T8 hS, sc_N8 hS, sc_T9 hS, sc_N9 hS, sc_T10 hS, sc_RL0 hS, sc_RL1 hS, sc_T11 hS, sc_N11 hS, sc_T12 hS, sc_N12 hS, sc_TP hS, sc_TM hS, sc_w hS, sc_wj hS, sc_wp hS, sv_0 hV hc, sv_1 hV hc, sv_2 hV hc, sv_3 hV hc, sv_4 hV hc, sv_5 hV hc, sv_6 hV hc, sv_7 hV hc, sv_9 hV hc, sv_8 hV, li_n, nI_add, pk_mul, nI_clamp, nI_ltI, nI_leI, nI_eq, mi_n, Nat.add_zero, true_and, and_true, true_or, or_true, false_or, or_false, not_false_eq_true, not_true_eq_false, implies_true, forall_const, ne_eq, Classical.not_not, reduceCtorEq, nor_p, cI_1n, bI_1n, cI_F, cI_T, cI_0, cI_0n, bI_0, bI_0n, cI_01, bI_01, Nat.reduceLeDiff, Nat.reduceLT, Nat.reduceEqDiff, Nat.reduceSub, Nat.reduceAdd, Nat.lt_irrefl, Nat.le_refl, false_implies, true_implies]
    rw [key i hi]
    refine ⟨by omega, fun h => ih (fun j h2 => ?_), fun h => ?_⟩
    · by_cases e : j = i
      · rw [e]; exact h
      · exact hj j (by omega)
    · rw [h, nn_n (by omega)] at hQ
      exact hQ
theorem sp_X4_weaponsOut (hS : sc_L w b g) (hV : sc_V w E b s g) (hc : wf_c s) (hw : wf_w s) : mu_met w mm_X4_weaponsOut (d + 1) [.ref b] g (some (.int (nI (sumN (fun i => cN (¬ s (270 + 2 * i + 1) = -1)) (nwp s))))) g := by
  refine mu_mk mk_X4_weaponsOut rfl rfl rfl (fun L hL Q hQ => fm_X4_weaponsOut_0 ?_)
  have hb := wc_b hc
  refine lp (n := nwp s) (P := fun i => mu_go w mm_X4_weaponsOut (d + 1) L Q 4 [some (.ref b), some (.int (nI (sumN (fun i => cN (¬ s (270 + 2 * i + 1) = -1)) i))), some (.int (nI i))] [] g) (fm_X4_weaponsOut_4 ?_) (fun i hi ih => fm_X4_weaponsOut_4 ?_)
  · simp (disch := omega) only [sc_T hS, sc_R0 hS, sc_R1 hS, sc_R2 hS, sc_R3 hS, sc_R4 hS, sc_R5 hS, sc_R6 hS, sc_R7 hS, sc_R8 hS, sc_R9 hS, sc_T1 hS, sc_N1 hS, sc_RP hS, sc_T2 hS, sc_N2 hS, sc_RM hS, sc_T3 hS, sc_N3 hS, sc_T4 hS, sc_N4 hS, sc_T5 hS, sc_N5 hS, sc_T6 hS, sc_N6 hS, sc_T7 hS, sc_N7 hS, sc_T8 hS, sc_N8 hS, sc_T9 hS, sc_N9 hS, sc_T10 hS, sc_RL0 hS, sc_RL1 hS, sc_T11 hS, sc_N11 hS, sc_T12 hS, sc_N12 hS, sc_TP hS, sc_TM hS, sc_w hS, sc_wj hS, sc_wp hS, sv_0 hV hc, sv_1 hV hc, sv_2 hV hc, sv_3 hV hc, sv_4 hV hc, sv_5 hV hc, sv_6 hV hc, sv_7 hV hc, sv_9 hV hc, sv_8 hV, li_n, nI_add, pk_mul, nI_clamp, nI_ltI, nI_leI, nI_eq, mi_n, Nat.add_zero, true_and, and_true, true_or, or_true, false_or, or_false, not_false_eq_true, not_true_eq_false, implies_true, forall_const, ne_eq, Classical.not_not, reduceCtorEq, nor_p, cI_1n, bI_1n, cI_F, cI_T, cI_0, cI_0n, bI_0, bI_0n, cI_01, bI_01, Nat.reduceLeDiff, Nat.reduceLT, Nat.reduceEqDiff, Nat.reduceSub, Nat.reduceAdd, Nat.lt_irrefl, Nat.le_refl, false_implies, true_implies]
    exact hQ
  · have e : nn (s (270 + 2 * i + 1)) = -nI 1000000005 ↔ s (270 + 2 * i + 1) = -1 := by
      rcases (hw.1 i hi).2.2 with h1 | ⟨q, q1, q2, q3⟩
      · rw [h1]; exact ⟨fun _ => rfl, fun _ => rfl⟩
      · rw [q2, nn_n (by omega)]
        exact ⟨fun h => absurd h (none_n' (by omega)), fun h => absurd h (m1_n (by omega))⟩
    simp (disch := omega) only [Nat.not_le_of_lt hi, sv_wh hV, e, sc_T hS, sc_R0 hS, sc_R1 hS, sc_R2 hS, sc_R3 hS, sc_R4 hS, sc_R5 hS, sc_R6 hS, sc_R7 hS, sc_R8 hS, sc_R9 hS, sc_T1 hS, sc_N1 hS, sc_RP hS, sc_T2 hS, sc_N2 hS, sc_RM hS, sc_T3 hS, sc_N3 hS, sc_T4 hS, sc_N4 hS, sc_T5 hS, sc_N5 hS, sc_T6 hS, sc_N6 hS, sc_T7 hS, sc_N7 hS, sc_T8 hS, sc_N8 hS, sc_T9 hS, sc_N9 hS, sc_T10 hS, sc_RL0 hS, sc_RL1 hS, sc_T11 hS, sc_N11 hS, sc_T12 hS, sc_N12 hS, sc_TP hS, sc_TM hS, sc_w hS, sc_wj hS, sc_wp hS, sv_0 hV hc, sv_1 hV hc, sv_2 hV hc, sv_3 hV hc, sv_4 hV hc, sv_5 hV hc, sv_6 hV hc, sv_7 hV hc, sv_9 hV hc, sv_8 hV, li_n, nI_add, pk_mul, nI_clamp, nI_ltI, nI_leI, nI_eq, mi_n, Nat.add_zero, true_and, and_true, true_or, or_true, false_or, or_false, not_false_eq_true, not_true_eq_false, implies_true, forall_const, ne_eq, Classical.not_not, reduceCtorEq, nor_p, cI_1n, bI_1n, cI_F, cI_T, cI_0, cI_0n, bI_0, bI_0n, cI_01, bI_01, Nat.reduceLeDiff, Nat.reduceLT, Nat.reduceEqDiff, Nat.reduceSub, Nat.reduceAdd, Nat.lt_irrefl, Nat.le_refl, false_implies, true_implies]
    unfold sumN at ih
    refine ⟨by omega, fun h => mu_cI sp_X10_asInt hL ?_, fun h => mu_cI sp_X10_asInt hL ?_⟩
    · rw [cI_nn (by omega), nI_add]
      rw [cN_f (p := ¬ s (270 + 2 * i + 1) = -1) (fun q => q h)] at ih
      exact ih
    · rw [cI_nn (by omega), nI_add]
      rw [cN_t (show ¬ s (270 + 2 * i + 1) = -1 from h)] at ih
      exact ih
theorem sp_X0_add {v1 v2 v3 : Int32} (hS : sc_L w b g) (hV : sc_V w E b s g) (hc : wf_c s) : mu_mp w mm_X0_add d [.ref (b + 10), .int v1, .int v2, .int v3] g (fun r g' => r = none ∧ (mu_fr (fun a => a = b + 10 ∨ a = b + 11) g g' ∧ sc_V w E b (lgA s v1 v2 v3) g')) := by
  refine mu_mkp mk_X0_add rfl (fun L hL Q hQ => fm_X0_add_0 ?_)
  have hb := wc_b hc
  have o1 : ∀ x k v, mu_I (mu_sI x (b + 11) k v) (b + 10) 2 = mu_I x (b + 10) 2 := fun x k v => I_sI_a _ _ _ _ (by omega)
  simp (disch := omega) only [o1, sc_T hS, sc_R0 hS, sc_R1 hS, sc_R2 hS, sc_R3 hS, sc_R4 hS, sc_R5 hS, sc_R6 hS, sc_R7 hS, sc_R8 hS, sc_R9 hS, sc_T1 hS, sc_N1 hS, sc_RP hS, sc_T2 hS, sc_N2 hS, sc_RM hS, sc_T3 hS, sc_N3 hS, sc_T4 hS, sc_N4 hS, sc_T5 hS, sc_N5 hS, sc_T6 hS, sc_N6 hS, sc_T7 hS, sc_N7 hS, sc_T8 hS, sc_N8 hS, sc_T9 hS, sc_N9 hS, sc_T10 hS, sc_RL0 hS, sc_RL1 hS, sc_T11 hS, sc_N11 hS, sc_T12 hS, sc_N12 hS, sc_TP hS, sc_TM hS, sc_w hS, sc_wj hS, sc_wp hS, sv_0 hV hc, sv_1 hV hc, sv_2 hV hc, sv_3 hV hc, sv_4 hV hc, sv_5 hV hc, sv_6 hV hc, sv_7 hV hc, sv_9 hV hc, sv_8 hV, li_n, nI_add, pk_mul, nI_clamp, nI_ltI, nI_leI, nI_eq, mi_n, Nat.add_zero, true_and, and_true, true_or, or_true, false_or, or_false, not_false_eq_true, not_true_eq_false, implies_true, forall_const, ne_eq, Classical.not_not, reduceCtorEq, nor_p, cI_1n, bI_1n, cI_F, cI_T, cI_0, cI_0n, bI_0, bI_0n, cI_01, bI_01, Nat.reduceLeDiff, Nat.reduceLT, Nat.reduceEqDiff, Nat.reduceSub, Nat.reduceAdd, Nat.lt_irrefl, Nat.le_refl, false_implies, true_implies]
  by_cases h30 : nlg s < 30
  · have e : lgA s v1 v2 v3 = upd (upd (upd (upd s (360 + 3 * nlg s) v1) (360 + 3 * nlg s + 1) v2) (360 + 3 * nlg s + 2) v3) 7 (nI (nlg s + 1)) := if_pos h30
    rw [e] at hQ
    refine ⟨fun h => by omega, fun _ => ⟨by omega, by omega, by omega, ?_⟩⟩
    have k1 := sb_L (v := v1) hV hc (i := nlg s) (f := 0) (Nat.le_refl _) h30 (by omega)
    have n1 : nlg (upd s (360 + 3 * nlg s + 0) v1) = nlg s := nlg_u (by omega)
    have k2 := sb_L (v := v2) k1 (wf_c_u hc (by omega)) (i := nlg s) (f := 1) (by rw [n1]; exact Nat.le_refl _) h30 (by omega)
    have n2 : nlg (upd (upd s (360 + 3 * nlg s + 0) v1) (360 + 3 * nlg s + 1) v2) = nlg s := (nlg_u (by omega)).trans n1
    have k3 := sb_L (v := v3) k2 (wf_c_u (wf_c_u hc (by omega)) (by omega)) (i := nlg s) (f := 2) (by rw [n2]; exact Nat.le_refl _) h30 (by omega)
    have n3 : nlg (upd (upd (upd s (360 + 3 * nlg s + 0) v1) (360 + 3 * nlg s + 1) v2) (360 + 3 * nlg s + 2) v3) = nlg s := (nlg_u (by omega)).trans n2
    have k4 := sm_L (v := nI (nlg s + 1)) k3 (wf_c_u (wf_c_u (wf_c_u hc (by omega)) (by omega)) (by omega)) (by rw [n3, nI_clamp (by omega)]) (fun f hf => by
      rw [n3]
      rcases (show f = 0 ∨ f = 1 ∨ f = 2 by omega) with rfl | rfl | rfl
      · rw [I_sI_k _ _ _ (by omega), I_sI_k _ _ _ (by omega), I_sI_same, pk_un (by omega), pk_un (by omega), pk_us]
      · rw [I_sI_k _ _ _ (by omega), I_sI_same, pk_un (by omega), pk_us]
      · rw [I_sI_same, pk_us])
    exact hQ _ _ ⟨rfl, mu_fr_tr (mu_fr_tr (mu_fr_tr (mu_fr_sI (Or.inr rfl)) (mu_fr_sI (Or.inr rfl))) (mu_fr_sI (Or.inr rfl))) (mu_fr_sI (Or.inl rfl)), k4⟩ rfl rfl
  · have e : lgA s v1 v2 v3 = s := if_neg h30
    rw [e] at hQ
    exact ⟨fun _ => hQ _ _ ⟨rfl, mu_fr_rf, hV⟩ rfl rfl, fun h => by omega⟩
theorem sp_X4_tireAndWear {p : Nat} (hS : sc_L w b g) (hV : sc_V w E b s g) (hc : wf_c s) (hst : st_L w g) (hp : wf_p s) (hm : wf_m B s) (hw : wf_w s) (hi : p < np s) :
    mu_mp w mm_X4_tireAndWear (d + 1) [.ref b, .int (nI p)] g (fun r g' => r = none ∧ (mu_fr (fun a => b ≤ a ∧ a < b + 41) g g' ∧ sc_V w E b (tw s p) g')) := by
  refine mu_mkp mk_X4_tireAndWear rfl (fun L hL Q hQ => fm_X4_tireAndWear_0 ?_)
  have hb := wc_b hc
  have hpb := wp_b hp hi
  refine lp (n := nm s) (P := fun i => mu_go w mm_X4_tireAndWear (d + 1) L Q 7 [some (.ref b), some (.int (nI p)), some (.int (nI (sTi s p i))), some (.int (nI (sWe s p i))), some (.int (nI i)), none] [] g) (fm_X4_tireAndWear_7 ?_) (fun i hi2 ih => fm_X4_tireAndWear_7 ?_)
  · have l1 := sTi_le s p (nm s)
    have l2 := sWe_le s p (nm s)
    simp (disch := omega) only [sv_p hV hp, mn_n, sc_T hS, sc_R0 hS, sc_R1 hS, sc_R2 hS, sc_R3 hS, sc_R4 hS, sc_R5 hS, sc_R6 hS, sc_R7 hS, sc_R8 hS, sc_R9 hS, sc_T1 hS, sc_N1 hS, sc_RP hS, sc_T2 hS, sc_N2 hS, sc_RM hS, sc_T3 hS, sc_N3 hS, sc_T4 hS, sc_N4 hS, sc_T5 hS, sc_N5 hS, sc_T6 hS, sc_N6 hS, sc_T7 hS, sc_N7 hS, sc_T8 hS, sc_N8 hS, sc_T9 hS, sc_N9 hS, sc_T10 hS, sc_RL0 hS, sc_RL1 hS, sc_T11 hS, sc_N11 hS, sc_T12 hS, sc_N12 hS, sc_TP hS, sc_TM hS, sc_w hS, sc_wj hS, sc_wp hS, sv_0 hV hc, sv_1 hV hc, sv_2 hV hc, sv_3 hV hc, sv_4 hV hc, sv_5 hV hc, sv_6 hV hc, sv_7 hV hc, sv_9 hV hc, sv_8 hV, li_n, nI_add, pk_mul, nI_clamp, nI_ltI, nI_leI, nI_eq, mi_n, Nat.add_zero, true_and, and_true, true_or, or_true, false_or, or_false, not_false_eq_true, not_true_eq_false, implies_true, forall_const, ne_eq, Classical.not_not, reduceCtorEq, nor_p, cI_1n, bI_1n, cI_F, cI_T, cI_0, cI_0n, bI_0, bI_0n, cI_01, bI_01, Nat.reduceLeDiff, Nat.reduceLT, Nat.reduceEqDiff, Nat.reduceSub, Nat.reduceAdd, Nat.lt_irrefl, Nat.le_refl, false_implies, true_implies]
    refine ⟨by omega, by omega, ?_⟩
    have hV1 := su_P (v := nI (min 99 (vP s p 2 + sTi s p (nm s)))) hV hc hi (f := 2) (by omega)
    have hc1 := wf_c_u (v := nI (min 99 (vP s p 2 + sTi s p (nm s)))) hc (show 10 ≤ 20 + 4 * p + 2 by omega)
    have hw1 : wf_w (upd s (20 + 4 * p + 2) (nI (min 99 (vP s p 2 + sTi s p (nm s))))) := by
      refine ⟨fun k hk => ?_, fun q hq => ?_⟩
      · rw [nwp_u (by omega)] at hk
        obtain ⟨r1, r2, r3⟩ := hw.1 k hk
        rw [vW_u (by omega), pk_un (by omega), pk_un (by omega), np_u (by omega)]
        refine ⟨r1, r2, r3.imp id (fun ⟨q, q1, q2, q3⟩ => ⟨q, q1, q2, ?_⟩)⟩
        rw [pk_un (by omega)]; exact q3
      · rw [np_u (by omega)] at hq
        rw [pk_un (by omega), nwp_u (by omega)]
        refine (hw.2 q hq).imp id (fun ⟨k, q1, q2, q3⟩ => ⟨k, q1, q2, ?_⟩)
        rw [pk_un (by omega)]; exact q3
    have f1 : mu_fr (fun a => b ≤ a ∧ a < b + 41) g (mu_sI g (b + 13 + p) 2 (nI (min 99 (vP s p 2 + sTi s p (nm s))))) := mu_fr_sI ⟨by omega, by omega⟩
    have hS1 := sc_L_fr hS f1
    refine mu_cI (sp_X4_weaponOf hS1 hV1 hc1 hw1 (by rw [np_u (by omega)]; exact hi)) (mu_fr_fit f1 hL) ?_
    rw [pk_un (by omega)]
    unfold tw at hQ
    rcases hw.2 p hi with h2 | ⟨k, k1, k2, k3⟩
    · rw [if_pos h2] at hQ
      rw [h2]
      exact ⟨fun _ => hQ _ _ ⟨rfl, f1, hV1⟩ rfl rfl, fun q => absurd rfl q⟩
    · rw [k2, if_neg (m1_n (by omega)), nI_clamp (by omega)] at hQ
      rw [k2, nn_n (by omega)]
      have hwk := (hw.1 k k1).2.1
      have ev : mu_I (mu_sI g (b + 13 + p) 2 (nI (min 99 (vP s p 2 + sTi s p (nm s))))) (b + 8) k = nI (vW s k) := by
        rw [I_sI_a _ _ _ _ (by omega)]
        exact sv_w hV hw k1
      have hne := none_n' (k := k) (by omega)
      simp (disch := omega) only [ev, hne, mn_n, sc_T hS1, sc_R0 hS1, sc_R1 hS1, sc_R2 hS1, sc_R3 hS1, sc_R4 hS1, sc_R5 hS1, sc_R6 hS1, sc_R7 hS1, sc_R8 hS1, sc_R9 hS1, sc_T1 hS1, sc_N1 hS1, sc_RP hS1, sc_T2 hS1, sc_N2 hS1, sc_RM hS1, sc_T3 hS1, sc_N3 hS1, sc_T4 hS1, sc_N4 hS1, sc_T5 hS1, sc_N5 hS1, sc_T6 hS1, sc_N6 hS1, sc_T7 hS1, sc_N7 hS1, sc_T8 hS1, sc_N8 hS1, sc_T9 hS1, sc_N9 hS1, sc_T10 hS1, sc_RL0 hS1, sc_RL1 hS1, sc_T11 hS1, sc_N11 hS1, sc_T12 hS1, sc_N12 hS1, sc_TP hS1, sc_TM hS1, sc_w hS1, sc_wj hS1, sc_wp hS1, li_n, nI_add, pk_mul, nI_clamp, nI_ltI, nI_leI, nI_eq, mi_n, Nat.add_zero, true_and, and_true, true_or, or_true, false_or, or_false, not_false_eq_true, not_true_eq_false, implies_true, forall_const, ne_eq, Classical.not_not, reduceCtorEq, nor_p, cI_1n, bI_1n, cI_F, cI_T, cI_0, cI_0n, bI_0, bI_0n, cI_01, bI_01, Nat.reduceLeDiff, Nat.reduceLT, Nat.reduceEqDiff, Nat.reduceSub, Nat.reduceAdd, Nat.lt_irrefl, Nat.le_refl, false_implies, true_implies]
      refine ⟨by omega, ?_⟩
      have hV2 := su_W (v := nI (min 99 (vW s k + sWe s p (nm s)))) hV1 hc1 (k := k) (by rw [nwp_u (by omega)]; exact k1)
      have f2 := mu_fr_tr f1 (mu_fr_sI (A := fun a => b ≤ a ∧ a < b + 41) (a := b + 8) (k := k) (v := nI (min 99 (vW s k + sWe s p (nm s)))) ⟨by omega, by omega⟩)
      exact ⟨by omega, hQ _ _ ⟨rfl, f2, hV2⟩ rfl rfl⟩
  · have hmb := wm_b hm hi2
    have kt : kTires (vM s i 1) ≤ 3 := by unfold kTires; split <;> omega
    have kw : kWears (vM s i 1) ≤ 3 := by unfold kWears; split <;> omega
    have i0 : ¬ (vM s i 0 = p ∧ vM s i 7 = 0) → mu_go w mm_X4_tireAndWear (d + 1) L Q 7 [some (.ref b), some (.int (nI p)), some (.int (nI (sTi s p i))), some (.int (nI (sWe s p i))), some (.int (nI (i + 1))), none] [] g := fun h => by
      have := ih
      unfold sTi sWe sumN at this
      rw [if_neg h, if_neg h] at this
      exact this
    have i1 : (vM s i 0 = p ∧ vM s i 7 = 0) → mu_go w mm_X4_tireAndWear (d + 1) L Q 7 [some (.ref b), some (.int (nI p)), some (.int (nI (sTi s p i + kTires (vM s i 1)))), some (.int (nI (sWe s p i + kWears (vM s i 1)))), some (.int (nI (i + 1))), none] [] g := fun h => by
      have := ih
      unfold sTi sWe sumN at this
      rw [if_pos h, if_pos h] at this
      exact this
    simp (disch := omega) only [Nat.not_le_of_lt hi2, sv_m hV hm, st_T hst, st_N hst, st_0 hst, st_1 hst, st_2 hst, st_3 hst, st_4 hst, st_5 hst, sc_T hS, sc_R0 hS, sc_R1 hS, sc_R2 hS, sc_R3 hS, sc_R4 hS, sc_R5 hS, sc_R6 hS, sc_R7 hS, sc_R8 hS, sc_R9 hS, sc_T1 hS, sc_N1 hS, sc_RP hS, sc_T2 hS, sc_N2 hS, sc_RM hS, sc_T3 hS, sc_N3 hS, sc_T4 hS, sc_N4 hS, sc_T5 hS, sc_N5 hS, sc_T6 hS, sc_N6 hS, sc_T7 hS, sc_N7 hS, sc_T8 hS, sc_N8 hS, sc_T9 hS, sc_N9 hS, sc_T10 hS, sc_RL0 hS, sc_RL1 hS, sc_T11 hS, sc_N11 hS, sc_T12 hS, sc_N12 hS, sc_TP hS, sc_TM hS, sc_w hS, sc_wj hS, sc_wp hS, sv_0 hV hc, sv_1 hV hc, sv_2 hV hc, sv_3 hV hc, sv_4 hV hc, sv_5 hV hc, sv_6 hV hc, sv_7 hV hc, sv_9 hV hc, sv_8 hV, li_n, nI_add, pk_mul, nI_clamp, nI_ltI, nI_leI, nI_eq, mi_n, Nat.add_zero, true_and, and_true, true_or, or_true, false_or, or_false, not_false_eq_true, not_true_eq_false, implies_true, forall_const, ne_eq, Classical.not_not, reduceCtorEq, nor_p, cI_1n, bI_1n, cI_F, cI_T, cI_0, cI_0n, bI_0, bI_0n, cI_01, bI_01, Nat.reduceLeDiff, Nat.reduceLT, Nat.reduceEqDiff, Nat.reduceSub, Nat.reduceAdd, Nat.lt_irrefl, Nat.le_refl, false_implies, true_implies]
    exact ⟨by omega, fun h => i0 (fun q => h q.1), fun h => ⟨fun h2 => i0 (fun q => h2 q.2), fun h2 => ⟨by omega, by omega, i1 ⟨h, h2⟩⟩⟩⟩
end Cv
