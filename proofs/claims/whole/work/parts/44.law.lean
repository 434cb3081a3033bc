/-! CLIENTS: law in the class -/
theorem hold_n (v : Int32) (m : Nat) (hm : m < 2 ^ 31) : mu_max (nI 0) (mu_min (nI m) v) = rf_hold v (nI m) := by
  have h0 : (nI 0).toInt = 0 := rfl
  have h1 := nI_toInt hm
  have hm : mu_min (nI m) v = if v.toInt < m then v else nI m := by
    unfold mu_min
    simp only [li_lt, h1]
  unfold mu_max rf_hold
  rw [hm]
  simp only [li_lt, h0, h1]
  by_cases h2 : v.toInt < m
  · rw [if_pos h2]
    by_cases h : v.toInt < 0
    · rw [if_neg (by omega), if_pos h]; rfl
    · rw [if_neg h, if_neg (show ¬ (m : Int) < v.toInt by omega)]
      by_cases h5 : 0 < v.toInt
      · rw [if_pos h5]
      · rw [if_neg h5]; exact (li_nI (n := 0) (by omega)).symm
  · rw [if_neg h2, if_neg (show ¬ v.toInt < 0 by omega), h1]
    by_cases h3 : (m : Int) < v.toInt
    · rw [if_pos h3]
      by_cases h4 : m = 0
      · subst h4; split <;> rfl
      · rw [if_pos (by omega)]
    · rw [if_neg h3]
      have e : v = nI m := li_nI (by omega)
      rw [e]
      split
      · rfl
      · rw [show m = 0 by omega]
/-- how late one may be -/
def sLate (s : Nat → Int32) (p : Nat) : Int32 := rf_late s (ntx s) p
/-- what is barred -/
def sBar (s : Nat → Int32) (m : Nat) : Prop := rf_bar s (ntx s) m (vM s m 0) (vM s m 5) ≠ 0
/-- a move between two -/
def mTwo (s : Nat → Int32) (a b m : Nat) : Prop := vM s m 0 = a ∧ vM s m 5 = b ∨ vM s m 0 = b ∧ vM s m 5 = a
noncomputable def sBlows (s : Nat → Int32) (a b n : Nat) : Nat := sumN (fun m => cN (mDo s m ∧ mTwo s a b m)) n
def rf_nmH (n k : Int32) : Nat → Int32 := fun c => if c = 110 then n else if c = 115 then k else 0
/-- hours that two need -/
noncomputable def sNeed (s : Nat → Int32) (a b : Nat) : Int32 := if (rf_last s 2 (ntx s)).toInt < 0 then nI (sBlows s a b (nm s)) * (10 - nI (min (vP s a 1) (vP s b 1))) else rf_hold (tx_val s (rf_last s 2 (ntx s)).toNatClampNeg (rf_nmH (nI (sBlows s a b (nm s))) (nI (min (vP s a 1) (vP s b 1))))) 99
theorem sBlows_sym (s : Nat → Int32) (a b n : Nat) : sBlows s a b n = sBlows s b a n := by
  unfold sBlows
  exact sumN_c (fun i _ => cN_c (and_congr Iff.rfl (by unfold mTwo; omega)))
theorem sNeed_sym (s : Nat → Int32) (a b : Nat) : sNeed s a b = sNeed s b a := by
  unfold sNeed
  rw [sBlows_sym, Nat.min_comm]
theorem sBlows_le (s : Nat → Int32) (a b n : Nat) : sBlows s a b n ≤ n := by
  have := sumN_le (n := n) (m := 1) (f := fun m => cN (mDo s m ∧ mTwo s a b m)) (fun i _ => cN_le _)
  unfold sBlows
  omega
/-- some pair lacks hours -/
noncomputable def sLack (s : Nat → Int32) : Prop := ∃ a b, a < b ∧ b < np s ∧ nI (vH s (8 * a + b)) < sNeed s a b
def sAnyBar (s : Nat → Int32) : Prop := ∃ m, m < nm s ∧ vM s m 7 = 0 ∧ sBar s m
section Cw
variable {w : mu_O} {d b : Nat} {g : mu_H} {s : Nat → Int32} {E : Nat} {B : Nat}
theorem lw_cases (hc : wf_c s) (key : Int32) : ((rf_last s key (ntx s)).toInt < 0 ∧ lwR s g b key (ntx s) = 0) ∨ ∃ t, t < ntx s ∧ ¬ (rf_last s key (ntx s)).toInt < 0 ∧ (rf_last s key (ntx s)).toNatClampNeg = t ∧ s (460 + 200 * t) = key ∧ lwR s g b key (ntx s) = mu_R g (b + 5) t := by
  have hb := wc_b hc
  rcases rf_last_ok (s := s) (key := key) (n := ntx s) (by omega) with e | ⟨t, h1, h2, h3⟩
  · left
    refine ⟨by rw [e]; decide, ?_⟩
    unfold lwR
    rw [e]
    rfl
  · right
    refine ⟨t, h1, ?_, ?_, h3, ?_⟩
    · rw [h2, nI_toInt (by omega)]; omega
    · rw [h2, nI_clamp (by omega)]
    · unfold lwR
      rw [h2, nI_toInt (by omega), if_neg (by omega), nI_clamp (by omega)]
theorem sp_X4_lateOf {p : Nat} (hS : sc_L w b g) (hV : sc_V w E b s g) (hc : wf_c s) (hp : wf_p s) (hT : wf_texts s (ntx s)) (hi : p < np s) :
    mu_mp w mm_X4_lateOf (d + 3) [.ref b, .int (nI p)] g (fun r g' => ∃ x, r = some (.int x) ∧ (x = sLate s p ∧ mu_fr (jU E) g g')) := by
  refine mu_mkp mk_X4_lateOf rfl (fun L hL Q hQ => fm_X4_lateOf_0 ?_)
  have hb := wc_b hc
  have hpb := wp_b hp hi
  simp (disch := omega) only [sc_T hS, sc_R0 hS, sc_R1 hS, sc_R2 hS, sc_R3 hS, sc_R4 hS, sc_R5 hS, sc_R6 hS, sc_R7 hS, sc_R8 hS, sc_R9 hS, sc_T1 hS, sc_N1 hS, sc_RP hS, sc_T2 hS, sc_N2 hS, sc_RM hS, sc_T3 hS, sc_N3 hS, sc_T4 hS, sc_N4 hS, sc_T5 hS, sc_N5 hS, sc_T6 hS, sc_N6 hS, sc_T7 hS, sc_N7 hS, sc_T8 hS, sc_N8 hS, sc_T9 hS, sc_N9 hS, sc_T10 hS, sc_RL0 hS, sc_RL1 hS, sc_T11 hS, sc_N11 hS, sc_T12 hS, sc_N12 hS, sc_TP hS, sc_TM hS, sc_w hS, sc_wj hS, sc_wp hS, sv_0 hV hc, sv_1 hV hc, sv_2 hV hc, sv_3 hV hc, sv_4 hV hc, sv_5 hV hc, sv_6 hV hc, sv_7 hV hc, sv_9 hV hc, sv_8 hV, li_n, nI_add, pk_mul, nI_clamp, nI_ltI, nI_leI, nI_eq, mi_n, Nat.add_zero, true_and, and_true, true_or, or_true, false_or, or_false, not_false_eq_true, not_true_eq_false, implies_true, forall_const, ne_eq, Classical.not_not, reduceCtorEq, nor_p, cI_1n, bI_1n, cI_F, cI_T, cI_0, cI_0n, bI_0, bI_0n, cI_01, bI_01, Nat.reduceLeDiff, Nat.reduceLT, Nat.reduceEqDiff, Nat.reduceSub, Nat.reduceAdd, Nat.lt_irrefl, Nat.le_refl, false_implies, true_implies]
  refine ⟨by omega, mu_cR (sp_X4_lawOf hS hV hc) hL ?_⟩
  rcases lw_cases (g := g) (b := b) hc 0 with ⟨h1, h2⟩ | ⟨t, h1, h2, h3, h4, h5⟩
  · have e2 : lwR s g b (nI 0) (ntx s) = 0 := h2
    simp (disch := omega) only [e2, sv_p hV hp, sc_T hS, sc_R0 hS, sc_R1 hS, sc_R2 hS, sc_R3 hS, sc_R4 hS, sc_R5 hS, sc_R6 hS, sc_R7 hS, sc_R8 hS, sc_R9 hS, sc_T1 hS, sc_N1 hS, sc_RP hS, sc_T2 hS, sc_N2 hS, sc_RM hS, sc_T3 hS, sc_N3 hS, sc_T4 hS, sc_N4 hS, sc_T5 hS, sc_N5 hS, sc_T6 hS, sc_N6 hS, sc_T7 hS, sc_N7 hS, sc_T8 hS, sc_N8 hS, sc_T9 hS, sc_N9 hS, sc_T10 hS, sc_RL0 hS, sc_RL1 hS, sc_T11 hS, sc_N11 hS, sc_T12 hS, sc_N12 hS, sc_TP hS, sc_TM hS, sc_w hS, sc_wj hS, sc_wp hS, sv_0 hV hc, sv_1 hV hc, sv_2 hV hc, sv_3 hV hc, sv_4 hV hc, sv_5 hV hc, sv_6 hV hc, sv_7 hV hc, sv_9 hV hc, sv_8 hV, li_n, nI_add, pk_mul, nI_clamp, nI_ltI, nI_leI, nI_eq, mi_n, Nat.add_zero, true_and, and_true, true_or, or_true, false_or, or_false, not_false_eq_true, not_true_eq_false, implies_true, forall_const, ne_eq, Classical.not_not, reduceCtorEq, nor_p, cI_1n, bI_1n, cI_F, cI_T, cI_0, cI_0n, bI_0, bI_0n, cI_01, bI_01, Nat.reduceLeDiff, Nat.reduceLT, Nat.reduceEqDiff, Nat.reduceSub, Nat.reduceAdd, Nat.lt_irrefl, Nat.le_refl, false_implies, true_implies]
    refine mu_cI sp_X10_held hL (hQ _ _ ⟨_, rfl, ?_, mu_fr_rf⟩ rfl rfl)
    rw [hold_n _ 3 (by omega)]
    unfold sLate rf_late rf_law
    rw [if_pos h1, wp_v hp hi (by omega), wp_v hp hi (by omega), wc_9 hc]
    rfl
  · have e2 : lwR s g b (nI 0) (ntx s) = mu_R g (b + 5) t := h5
    obtain hX := sv_t hV h1
    have x1 := hX.1
    have hne : ¬ mu_R g (b + 5) t = 0 := by have := hX.2.1.1; omega
    simp (disch := omega) only [e2, hne, x1, sv_p hV hp, sc_T hS, sc_R0 hS, sc_R1 hS, sc_R2 hS, sc_R3 hS, sc_R4 hS, sc_R5 hS, sc_R6 hS, sc_R7 hS, sc_R8 hS, sc_R9 hS, sc_T1 hS, sc_N1 hS, sc_RP hS, sc_T2 hS, sc_N2 hS, sc_RM hS, sc_T3 hS, sc_N3 hS, sc_T4 hS, sc_N4 hS, sc_T5 hS, sc_N5 hS, sc_T6 hS, sc_N6 hS, sc_T7 hS, sc_N7 hS, sc_T8 hS, sc_N8 hS, sc_T9 hS, sc_N9 hS, sc_T10 hS, sc_RL0 hS, sc_RL1 hS, sc_T11 hS, sc_N11 hS, sc_T12 hS, sc_N12 hS, sc_TP hS, sc_TM hS, sc_w hS, sc_wj hS, sc_wp hS, sv_0 hV hc, sv_1 hV hc, sv_2 hV hc, sv_3 hV hc, sv_4 hV hc, sv_5 hV hc, sv_6 hV hc, sv_7 hV hc, sv_9 hV hc, sv_8 hV, li_n, nI_add, pk_mul, nI_clamp, nI_ltI, nI_leI, nI_eq, mi_n, Nat.add_zero, true_and, and_true, true_or, or_true, false_or, or_false, not_false_eq_true, not_true_eq_false, implies_true, forall_const, ne_eq, Classical.not_not, reduceCtorEq, nor_p, cI_1n, bI_1n, cI_F, cI_T, cI_0, cI_0n, bI_0, bI_0n, cI_01, bI_01, Nat.reduceLeDiff, Nat.reduceLT, Nat.reduceEqDiff, Nat.reduceSub, Nat.reduceAdd, Nat.lt_irrefl, Nat.le_refl, false_implies, true_implies]
    refine mu_cIp (sp_X9_value (d := d) (nm := rf_nmL (nI (vP s p 1)) (nI (vP s p 2)) (nI (nwt s))) hX (hT t h1) (fun c hc => ?_)) hL (fun x g1 hx hX1 hS1 => mu_cI sp_X10_held (mu_fr_fit hx.2 hL) (hQ _ _ ⟨_, rfl, ?_, hx.2⟩ hX1 hS1))
    · rw [h4] at hc ⊢
      have hc : c ∈ [115, 116, 119] := hc
      simp only [List.mem_cons, List.not_mem_nil, or_false] at hc
      rcases hc with rfl | rfl | rfl <;> rfl
    · rw [hold_n _ 3 (by omega), hx.1]
      unfold sLate rf_late rf_law
      rw [if_neg h2, h3, wp_v hp hi (by omega), wp_v hp hi (by omega), wc_9 hc]
      rfl
theorem sp_X4_isBarred {m : Nat} (hS : sc_L w b g) (hV : sc_V w E b s g) (hc : wf_c s) (hp : wf_p s) (hm : wf_m B s) (hT : wf_texts s (ntx s)) (hi : m < nm s) :
    mu_mp w mm_X4_isBarred (d + 3) [.ref b, .ref (b + 21 + m)] g (fun r g' => ∃ x, r = some (.int x) ∧ (x = cI (sBar s m) ∧ mu_fr (jU E) g g')) := by
  refine mu_mkp mk_X4_isBarred rfl (fun L hL Q hQ => fm_X4_isBarred_0 ⟨sc_T hS, ?_⟩)
  have hb := wc_b hc
  have hmb := wm_b hm hi
  refine mu_cR (sp_X4_lawOf hS hV hc) hL ?_
  rcases lw_cases (g := g) (b := b) hc 1 with ⟨h1, h2⟩ | ⟨t, h1, h2, h3, h4, h5⟩
  · have e2 : lwR s g b (nI 1) (ntx s) = 0 := h2
    simp (disch := omega) only [e2, sc_T hS, sc_R0 hS, sc_R1 hS, sc_R2 hS, sc_R3 hS, sc_R4 hS, sc_R5 hS, sc_R6 hS, sc_R7 hS, sc_R8 hS, sc_R9 hS, sc_T1 hS, sc_N1 hS, sc_RP hS, sc_T2 hS, sc_N2 hS, sc_RM hS, sc_T3 hS, sc_N3 hS, sc_T4 hS, sc_N4 hS, sc_T5 hS, sc_N5 hS, sc_T6 hS, sc_N6 hS, sc_T7 hS, sc_N7 hS, sc_T8 hS, sc_N8 hS, sc_T9 hS, sc_N9 hS, sc_T10 hS, sc_RL0 hS, sc_RL1 hS, sc_T11 hS, sc_N11 hS, sc_T12 hS, sc_N12 hS, sc_TP hS, sc_TM hS, sc_w hS, sc_wj hS, sc_wp hS, sv_0 hV hc, sv_1 hV hc, sv_2 hV hc, sv_3 hV hc, sv_4 hV hc, sv_5 hV hc, sv_6 hV hc, sv_7 hV hc, sv_9 hV hc, sv_8 hV, li_n, nI_add, pk_mul, nI_clamp, nI_ltI, nI_leI, nI_eq, mi_n, Nat.add_zero, true_and, and_true, true_or, or_true, false_or, or_false, not_false_eq_true, not_true_eq_false, implies_true, forall_const, ne_eq, Classical.not_not, reduceCtorEq, nor_p, cI_1n, bI_1n, cI_F, cI_T, cI_0, cI_0n, bI_0, bI_0n, cI_01, bI_01, Nat.reduceLeDiff, Nat.reduceLT, Nat.reduceEqDiff, Nat.reduceSub, Nat.reduceAdd, Nat.lt_irrefl, Nat.le_refl, false_implies, true_implies]
    refine hQ _ _ ⟨_, rfl, ?_, mu_fr_rf⟩ rfl rfl
    rw [cI_f]
    · rfl
    · unfold sBar rf_bar rf_law
      rw [if_pos h1]
      simp
  · obtain hX := sv_t hV h1
    have x1 := hX.1
    have hne : ¬ mu_R g (b + 5) t = 0 := by have := hX.2.1.1; omega
    have e2 : lwR s g b (nI 1) (ntx s) = mu_R g (b + 5) t := h5
    simp (disch := omega) only [e2, hne, x1, sv_p hV hp, sv_m hV hm, sc_T hS, sc_R0 hS, sc_R1 hS, sc_R2 hS, sc_R3 hS, sc_R4 hS, sc_R5 hS, sc_R6 hS, sc_R7 hS, sc_R8 hS, sc_R9 hS, sc_T1 hS, sc_N1 hS, sc_RP hS, sc_T2 hS, sc_N2 hS, sc_RM hS, sc_T3 hS, sc_N3 hS, sc_T4 hS, sc_N4 hS, sc_T5 hS, sc_N5 hS, sc_T6 hS, sc_N6 hS, sc_T7 hS, sc_N7 hS, sc_T8 hS, sc_N8 hS, sc_T9 hS, sc_N9 hS, sc_T10 hS, sc_RL0 hS, sc_RL1 hS, sc_T11 hS, sc_N11 hS, sc_T12 hS, sc_N12 hS, sc_TP hS, sc_TM hS, sc_w hS, sc_wj hS, sc_wp hS, sv_0 hV hc, sv_1 hV hc, sv_2 hV hc, sv_3 hV hc, sv_4 hV hc, sv_5 hV hc, sv_6 hV hc, sv_7 hV hc, sv_9 hV hc, sv_8 hV, li_n, nI_add, pk_mul, nI_clamp, nI_ltI, nI_leI, nI_eq, mi_n, Nat.add_zero, true_and, and_true, true_or, or_true, false_or, or_false, not_false_eq_true, not_true_eq_false, implies_true, forall_const, ne_eq, Classical.not_not, reduceCtorEq, nor_p, cI_1n, bI_1n, cI_F, cI_T, cI_0, cI_0n, bI_0, bI_0n, cI_01, bI_01, Nat.reduceLeDiff, Nat.reduceLT, Nat.reduceEqDiff, Nat.reduceSub, Nat.reduceAdd, Nat.lt_irrefl, Nat.le_refl, false_implies, true_implies]
    refine ⟨by omega, by omega, mu_cIp (sp_X9_value (d := d) (nm := rf_nmB (nI (vM s m 1)) (nI (vP s (vM s m 0) 1)) (nI (vM s m 2)) (nI (vP s (vM s m 5) 1))) hX (hT t h1) (fun c hc => ?_)) hL (fun x g1 hx hX1 hS1 => ?_)⟩
    · rw [h4] at hc ⊢
      have hc : c ∈ [107, 115, 98, 97] := hc
      simp only [List.mem_cons, List.not_mem_nil, or_false] at hc
      rcases hc with rfl | rfl | rfl | rfl <;> rfl
    · have e : sBar s m ↔ ¬ x = 0 := by
        unfold sBar rf_bar rf_law
        rw [if_neg h2, h3, wp_v hp (p := vM s m 0) (by omega) (by omega), wp_v hp (p := vM s m 5) (by omega) (by omega), wm_v hm hi (by omega), wm_v hm hi (by omega), hx.1]
      refine ⟨fun h => hQ _ _ ⟨_, rfl, ?_, hx.2⟩ hX1 hS1, fun h => hQ _ _ ⟨_, rfl, ?_, hx.2⟩ hX1 hS1⟩
      · rw [cI_f (by rw [e]; exact fun q => q h)]; rfl
      · rw [cI_t (by rw [e]; exact h)]; rfl
set_option maxHeartbeats 1000000 in
theorem sp_X4_hoursNeeded {a c : Nat} (hS : sc_L w b g) (hV : sc_V w E b s g) (hc : wf_c s) (hst : st_L w g) (hp : wf_p s) (hm : wf_m B s) (hT : wf_texts s (ntx s)) (ha : a < np s) (hcc : c < np s) :
    mu_mp w mm_X4_hoursNeeded (d + 3) [.ref b, .int (nI a), .int (nI c)] g (fun r g' => ∃ x, r = some (.int x) ∧ (x = sNeed s a c ∧ mu_fr (jU E) g g')) := by
  refine mu_mkp mk_X4_hoursNeeded rfl (fun L hL Q hQ => fm_X4_hoursNeeded_0 ?_)
  have hb := wc_b hc
  have hpa := wp_b hp ha
  have hpc := wp_b hp hcc
  refine lp (n := nm s) (P := fun i => mu_go w mm_X4_hoursNeeded (d + 3) L Q 5 [some (.ref b), some (.int (nI a)), some (.int (nI c)), some (.int (nI (sBlows s a c i))), some (.int (nI i)), none, none] [] g) (fm_X4_hoursNeeded_5 ?_) (fun i hi ih => fm_X4_hoursNeeded_5 ?_)
  · simp (disch := omega) only [sv_p hV hp, mn_n, sc_T hS, sc_R0 hS, sc_R1 hS, sc_R2 hS, sc_R3 hS, sc_R4 hS, sc_R5 hS, sc_R6 hS, sc_R7 hS, sc_R8 hS, sc_R9 hS, sc_T1 hS, sc_N1 hS, sc_RP hS, sc_T2 hS, sc_N2 hS, sc_RM hS, sc_T3 hS, sc_N3 hS, sc_T4 hS, sc_N4 hS, sc_T5 hS, sc_N5 hS, sc_T6 hS, sc_N6 hS, sc_T7 hS, sc_N7 hS, sc_T8 hS, sc_N8 hS, sc_T9 hS, sc_N9 hS, sc_T10 hS, sc_RL0 hS, sc_RL1 hS, sc_T11 hS, sc_N11 hS, sc_T12 hS, sc_N12 hS, sc_TP hS, sc_TM hS, sc_w hS, sc_wj hS, sc_wp hS, sv_0 hV hc, sv_1 hV hc, sv_2 hV hc, sv_3 hV hc, sv_4 hV hc, sv_5 hV hc, sv_6 hV hc, sv_7 hV hc, sv_9 hV hc, sv_8 hV, li_n, nI_add, pk_mul, nI_clamp, nI_ltI, nI_leI, nI_eq, mi_n, Nat.add_zero, true_and, and_true, true_or, or_true, false_or, or_false, not_false_eq_true, not_true_eq_false, implies_true, forall_const, ne_eq, Classical.not_not, reduceCtorEq, nor_p, cI_1n, bI_1n, cI_F, cI_T, cI_0, cI_0n, bI_0, bI_0n, cI_01, bI_01, Nat.reduceLeDiff, Nat.reduceLT, Nat.reduceEqDiff, Nat.reduceSub, Nat.reduceAdd, Nat.lt_irrefl, Nat.le_refl, false_implies, true_implies]
    refine ⟨by omega, by omega, mu_cR (sp_X4_lawOf hS hV hc) hL ?_⟩
    rcases lw_cases (g := g) (b := b) hc 2 with ⟨h1, h2⟩ | ⟨t, h1, h2, h3, h4, h5⟩
    · have e2 : lwR s g b (nI 2) (ntx s) = 0 := h2
      simp (disch := omega) only [e2, li_n, nI_add, pk_mul, nI_clamp, nI_ltI, nI_leI, nI_eq, mi_n, Nat.add_zero, true_and, and_true, true_or, or_true, false_or, or_false, not_false_eq_true, not_true_eq_false, implies_true, forall_const, ne_eq, Classical.not_not, reduceCtorEq, nor_p, cI_1n, bI_1n, cI_F, cI_T, cI_0, cI_0n, bI_0, bI_0n, cI_01, bI_01, Nat.reduceLeDiff, Nat.reduceLT, Nat.reduceEqDiff, Nat.reduceSub, Nat.reduceAdd, Nat.lt_irrefl, Nat.le_refl, false_implies, true_implies]
      refine hQ _ _ ⟨_, rfl, ?_, mu_fr_rf⟩ rfl rfl
      unfold sNeed
      rw [if_pos h1]
      rfl
    · have e2 : lwR s g b (nI 2) (ntx s) = mu_R g (b + 5) t := h5
      obtain hX := sv_t hV h1
      have x1 := hX.1
      have hne : ¬ mu_R g (b + 5) t = 0 := by have := hX.2.1.1; omega
      simp (disch := omega) only [e2, hne, x1, li_n, nI_add, pk_mul, nI_clamp, nI_ltI, nI_leI, nI_eq, mi_n, Nat.add_zero, true_and, and_true, true_or, or_true, false_or, or_false, not_false_eq_true, not_true_eq_false, implies_true, forall_const, ne_eq, Classical.not_not, reduceCtorEq, nor_p, cI_1n, bI_1n, cI_F, cI_T, cI_0, cI_0n, bI_0, bI_0n, cI_01, bI_01, Nat.reduceLeDiff, Nat.reduceLT, Nat.reduceEqDiff, Nat.reduceSub, Nat.reduceAdd, Nat.lt_irrefl, Nat.le_refl, false_implies, true_implies]
      refine mu_cIp (sp_X9_value (d := d) (nm := rf_nmH (nI (sBlows s a c (nm s))) (nI (min (vP s a 1) (vP s c 1)))) hX (hT t h1) (fun c hc => ?_)) hL (fun x g1 hx hX1 hS1 => mu_cI sp_X10_held (mu_fr_fit hx.2 hL) (hQ _ _ ⟨_, rfl, ?_, hx.2⟩ hX1 hS1))
      · rw [h4] at hc ⊢
        have hc : c ∈ [110, 115] := hc
        simp only [List.mem_cons, List.not_mem_nil, or_false] at hc
        rcases hc with rfl | rfl <;> rfl
      · rw [hold_n _ 99 (by omega), hx.1]
        unfold sNeed
        rw [if_neg h2, h3]
        rfl
  · have hmb := wm_b hm hi
    have i1 : mDo s i ∧ mTwo s a c i → mu_go w mm_X4_hoursNeeded (d + 3) L Q 5 [some (.ref b), some (.int (nI a)), some (.int (nI c)), some (.int (nI (sBlows s a c i + 1))), some (.int (nI (i + 1))), none, none] [] g := fun h => by
      have := ih
      unfold sBlows sumN at this
      rw [cN_t h] at this
      exact this
    have i0 : ¬ (mDo s i ∧ mTwo s a c i) → mu_go w mm_X4_hoursNeeded (d + 3) L Q 5 [some (.ref b), some (.int (nI a)), some (.int (nI c)), some (.int (nI (sBlows s a c i + 0))), some (.int (nI (i + 1))), none, none] [] g := fun h => by
      have := ih
      unfold sBlows sumN at this
      rw [cN_f h] at this
      exact this
    clear ih
    simp (disch := omega) only [Nat.not_le_of_lt hi, sv_m hV hm, sc_T hS, sc_R0 hS, sc_R1 hS, sc_R2 hS, sc_R3 hS, sc_R4 hS, sc_R5 hS, sc_R6 hS, sc_R7 hS, sc_R8 hS, sc_R9 hS, sc_T1 hS, sc_N1 hS, sc_RP hS, sc_T2 hS, sc_N2 hS, sc_RM hS, sc_T3 hS, sc_N3 hS, sc_T4 hS, sc_N4 hS, sc_T5 hS, sc_N5 hS, sc_T6 hS, sc_N6 hS, sc_T7 hS, sc_N7 hS, sc_T8 hS, sc_N8 hS, sc_T9 hS, sc_N9 hS, sc_T10 hS, sc_RL0 hS, sc_RL1 hS, sc_T11 hS, sc_N11 hS, sc_T12 hS, sc_N12 hS, sc_TP hS, sc_TM hS, sc_w hS, sc_wj hS, sc_wp hS, sv_0 hV hc, sv_1 hV hc, sv_2 hV hc, sv_3 hV hc, sv_4 hV hc, sv_5 hV hc, sv_6 hV hc, sv_7 hV hc, sv_9 hV hc, sv_8 hV, li_n, nI_add, pk_mul, nI_clamp, nI_ltI, nI_leI, nI_eq, mi_n, Nat.add_zero, true_and, and_true, true_or, or_true, false_or, or_false, not_false_eq_true, not_true_eq_false, implies_true, forall_const, ne_eq, Classical.not_not, reduceCtorEq, nor_p, cI_1n, bI_1n, cI_F, cI_T, cI_0, cI_0n, bI_0, bI_0n, cI_01, bI_01, Nat.reduceLeDiff, Nat.reduceLT, Nat.reduceEqDiff, Nat.reduceSub, Nat.reduceAdd, Nat.lt_irrefl, Nat.le_refl, false_implies, true_implies]
    have k0 : ¬ mTwo s a c i → mu_callI w mm_X10_asInt (d + 2) L [.int (nI 0)] g (fun x g1 => mu_go w mm_X4_hoursNeeded (d + 3) L Q 5 [some (.ref b), some (.int (nI a)), some (.int (nI c)), some (.int (nI (sBlows s a c i) + x)), some (.int (nI (i + 1))), none, none] [] g1) := fun h => mu_cI sp_X10_asInt hL (by
      rw [cI_nn (by omega), nI_add]
      exact i0 (fun q => h q.2))
    have k1 : mTwo s a c i → mu_callI w mm_X1_isBlowToDo (d + 2) L [.ref (b + 21 + i)] g (fun x2 g1 => (x2 = nI 0 → mu_callI w mm_X10_asInt (d + 2) L [.int (nI 0)] g1 (fun x g1 => mu_go w mm_X4_hoursNeeded (d + 3) L Q 5 [some (.ref b), some (.int (nI a)), some (.int (nI c)), some (.int (nI (sBlows s a c i) + x)), some (.int (nI (i + 1))), none, none] [] g1)) ∧ (¬ x2 = nI 0 → mu_callI w mm_X10_asInt (d + 2) L [.int (nI 1)] g1 (fun x g1 => mu_go w mm_X4_hoursNeeded (d + 3) L Q 5 [some (.ref b), some (.int (nI a)), some (.int (nI c)), some (.int (nI (sBlows s a c i) + x)), some (.int (nI (i + 1))), none, none] [] g1))) := fun h => mu_cI (sp_X1_isBlowToDo hst (sc_TM hS (by omega)) (sv_m hV hm hi (by omega)) hmb.2.1 (sv_m hV hm hi (by omega)) hmb.2.2.2.2.2.2.2.2.2.2) hL (by
      simp (disch := omega) only [li_n, nI_add, pk_mul, nI_clamp, nI_ltI, nI_leI, nI_eq, mi_n, Nat.add_zero, true_and, and_true, true_or, or_true, false_or, or_false, not_false_eq_true, not_true_eq_false, implies_true, forall_const, ne_eq, Classical.not_not, reduceCtorEq, nor_p, cI_1n, bI_1n, cI_F, cI_T, cI_0, cI_0n, bI_0, bI_0n, cI_01, bI_01, Nat.reduceLeDiff, Nat.reduceLT, Nat.reduceEqDiff, Nat.reduceSub, Nat.reduceAdd, Nat.lt_irrefl, Nat.le_refl, false_implies, true_implies]
      refine ⟨fun h2 => mu_cI sp_X10_asInt hL ?_, fun h2 => mu_cI sp_X10_asInt hL ?_⟩
      · rw [cI_nn (by omega), nI_add]
        exact i0 (fun q => h2 q.1)
      · rw [cI_nn (by omega), nI_add]
        exact i1 ⟨h2, h⟩)
    unfold mTwo at k0 k1
    refine ⟨by omega, ?_⟩
    repeat' (refine And.intro (fun _ => ?_) (fun _ => ?_))
    all_goals first | exact k0 (by omega) | exact k1 (by omega)
theorem sp_X4_hasBarred (hS : sc_L w b g) (hV : sc_V w E b s g) (hc : wf_c s) (hst : st_L w g) (hp : wf_p s) (hm : wf_m B s) (hT : wf_texts s (ntx s)) :
    mu_mp w mm_X4_hasBarred (d + 4) [.ref b] g (fun r g' => ∃ x, r = some (.int x) ∧ (x = cI (sAnyBar s) ∧ mu_fr (jU E) g g')) := by
  refine mu_mkp mk_X4_hasBarred rfl (fun L hL Q hQ => fm_X4_hasBarred_0 ?_)
  have hb := wc_b hc
  refine lp (n := nm s) (P := fun i => ∀ g', mu_fr (jU E) g g' → (∀ j, j < i → ¬ (vM s j 7 = 0 ∧ sBar s j)) → mu_go w mm_X4_hasBarred (d + 4) L Q 2 [some (.ref b), some (.int (nI i))] [] g') (fun g' hf hj => fm_X4_hasBarred_2 ?_) (fun i hi ih g' hf hj => fm_X4_hasBarred_2 ?_) g mu_fr_rf (fun j hj => absurd hj (Nat.not_lt_zero j))
  · have hS' := sc_L_fr hS hf
    have hV' := sv_fr hV hc hf
    simp (disch := omega) only [sc_T hS', sc_R0 hS', sc_R1 hS', sc_R2 hS', sc_R3 hS', sc_R4 hS', sc_R5 hS', sc_R6 hS', sc_R7 hS', sc_R8 hS', sc_R9 hS', sc_T1 hS', sc_N1 hS', sc_RP hS', sc_T2 hS', sc_N2 hS', sc_RM hS', sc_T3 hS', sc_N3 hS', sc_T4 hS', sc_N4 hS', sc_T5 hS', sc_N5 hS', sc_T6 hS', sc_N6 hS', sc_T7 hS', sc_N7 hS', sc_T8 hS', sc_N8 hS', sc_T9 hS', sc_N9 hS', sc_T10 hS', sc_RL0 hS', sc_RL1 hS', sc_T11 hS', sc_N11 hS', sc_T12 hS', sc_N12 hS', sc_TP hS', sc_TM hS', sc_w hS', sc_wj hS', sc_wp hS', sv_0 hV' hc, sv_1 hV' hc, sv_2 hV' hc, sv_3 hV' hc, sv_4 hV' hc, sv_5 hV' hc, sv_6 hV' hc, sv_7 hV' hc, sv_9 hV' hc, sv_8 hV', li_n, nI_add, pk_mul, nI_clamp, nI_ltI, nI_leI, nI_eq, mi_n, Nat.add_zero, true_and, and_true, true_or, or_true, false_or, or_false, not_false_eq_true, not_true_eq_false, implies_true, forall_const, ne_eq, Classical.not_not, reduceCtorEq, nor_p, cI_1n, bI_1n, cI_F, cI_T, cI_0, cI_0n, bI_0, bI_0n, cI_01, bI_01, Nat.reduceLeDiff, Nat.reduceLT, Nat.reduceEqDiff, Nat.reduceSub, Nat.reduceAdd, Nat.lt_irrefl, Nat.le_refl, false_implies, true_implies]
    refine hQ _ _ ⟨_, rfl, ?_, hf⟩ hf.2.2.2.1 hf.2.2.2.2.1
    rw [cI_f (fun ⟨m, q1, q2⟩ => hj m q1 q2)]
    rfl
  · have hS' := sc_L_fr hS hf
    have hV' := sv_fr hV hc hf
    have hL' := mu_fr_fit hf hL
    have hmb := wm_b hm hi
    have ih2 : ∀ g2, mu_fr (jU E) g g2 → ¬ (vM s i 7 = 0 ∧ sBar s i) → mu_go w mm_X4_hasBarred (d + 4) L Q 2 [some (.ref b), some (.int (nI (i + 1)))] [] g2 := fun g2 hf2 h => ih g2 hf2 (fun j h2 => by
      by_cases e : j = i
      · rw [e]; exact h
      · exact hj j (by omega))
    simp (disch := omega) only [Nat.not_le_of_lt hi, sv_m hV' hm, sc_T hS', sc_R0 hS', sc_R1 hS', sc_R2 hS', sc_R3 hS', sc_R4 hS', sc_R5 hS', sc_R6 hS', sc_R7 hS', sc_R8 hS', sc_R9 hS', sc_T1 hS', sc_N1 hS', sc_RP hS', sc_T2 hS', sc_N2 hS', sc_RM hS', sc_T3 hS', sc_N3 hS', sc_T4 hS', sc_N4 hS', sc_T5 hS', sc_N5 hS', sc_T6 hS', sc_N6 hS', sc_T7 hS', sc_N7 hS', sc_T8 hS', sc_N8 hS', sc_T9 hS', sc_N9 hS', sc_T10 hS', sc_RL0 hS', sc_RL1 hS', sc_T11 hS', sc_N11 hS', sc_T12 hS', sc_N12 hS', sc_TP hS', sc_TM hS', sc_w hS', sc_wj hS', sc_wp hS', sv_0 hV' hc, sv_1 hV' hc, sv_2 hV' hc, sv_3 hV' hc, sv_4 hV' hc, sv_5 hV' hc, sv_6 hV' hc, sv_7 hV' hc, sv_9 hV' hc, sv_8 hV', li_n, nI_add, pk_mul, nI_clamp, nI_ltI, nI_leI, nI_eq, mi_n, Nat.add_zero, true_and, and_true, true_or, or_true, false_or, or_false, not_false_eq_true, not_true_eq_false, implies_true, forall_const, ne_eq, Classical.not_not, reduceCtorEq, nor_p, cI_1n, bI_1n, cI_F, cI_T, cI_0, cI_0n, bI_0, bI_0n, cI_01, bI_01, Nat.reduceLeDiff, Nat.reduceLT, Nat.reduceEqDiff, Nat.reduceSub, Nat.reduceAdd, Nat.lt_irrefl, Nat.le_refl, false_implies, true_implies]
    refine ⟨by omega, fun h => ih2 _ hf (fun q => h q.1), fun h => ⟨by omega, mu_cIp (sp_X4_isBarred (d := d) hS' hV' hc hp hm hT hi) hL' (fun x g2 hx hX1 hS1 => ?_)⟩⟩
    have hf2 := mu_fr_tr hf hx.2
    rw [hx.1]
    simp (disch := omega) only [li_n, nI_add, pk_mul, nI_clamp, nI_ltI, nI_leI, nI_eq, mi_n, Nat.add_zero, true_and, and_true, true_or, or_true, false_or, or_false, not_false_eq_true, not_true_eq_false, implies_true, forall_const, ne_eq, Classical.not_not, reduceCtorEq, nor_p, cI_1n, bI_1n, cI_F, cI_T, cI_0, cI_0n, bI_0, bI_0n, cI_01, bI_01, Nat.reduceLeDiff, Nat.reduceLT, Nat.reduceEqDiff, Nat.reduceSub, Nat.reduceAdd, Nat.lt_irrefl, Nat.le_refl, false_implies, true_implies]
    refine ⟨fun h2 => ih2 _ hf2 (fun q => h2 q.2), fun h2 => hQ _ _ ⟨_, rfl, ?_, hf2⟩ hf2.2.2.2.1 hf2.2.2.2.2.1⟩
    rw [cI_t ⟨i, hi, h, h2⟩]
    rfl
theorem sp_X4_lacksHours (hS : sc_L w b g) (hV : sc_V w E b s g) (hc : wf_c s) (hst : st_L w g) (hp : wf_p s) (hm : wf_m B s) (hh : wf_h s) (hT : wf_texts s (ntx s)) :
    mu_mp w mm_X4_lacksHours (d + 4) [.ref b] g (fun r g' => ∃ x, r = some (.int x) ∧ (x = cI (sLack s) ∧ mu_fr (jU E) g g')) := by
  refine mu_mkp mk_X4_lacksHours rfl (fun L hL Q hQ => fm_X4_lacksHours_0 ?_)
  have hb := wc_b hc
  refine lp (n := np s) (P := fun i => ∀ g', mu_fr (jU E) g g' → (∀ a c, a < i → a < c → c < np s → ¬ nI (vH s (8 * a + c)) < sNeed s a c) → mu_go w mm_X4_lacksHours (d + 4) L Q 2 [some (.ref b), some (.int (nI i)), none] [] g') (fun g' hf hj => fm_X4_lacksHours_2 ?_) (fun i hi ih g' hf hj => fm_X4_lacksHours_2 ?_) g mu_fr_rf (fun a c hj => absurd hj (Nat.not_lt_zero a))
  · have hS' := sc_L_fr hS hf
    have hV' := sv_fr hV hc hf
    simp (disch := omega) only [sc_T hS', sc_R0 hS', sc_R1 hS', sc_R2 hS', sc_R3 hS', sc_R4 hS', sc_R5 hS', sc_R6 hS', sc_R7 hS', sc_R8 hS', sc_R9 hS', sc_T1 hS', sc_N1 hS', sc_RP hS', sc_T2 hS', sc_N2 hS', sc_RM hS', sc_T3 hS', sc_N3 hS', sc_T4 hS', sc_N4 hS', sc_T5 hS', sc_N5 hS', sc_T6 hS', sc_N6 hS', sc_T7 hS', sc_N7 hS', sc_T8 hS', sc_N8 hS', sc_T9 hS', sc_N9 hS', sc_T10 hS', sc_RL0 hS', sc_RL1 hS', sc_T11 hS', sc_N11 hS', sc_T12 hS', sc_N12 hS', sc_TP hS', sc_TM hS', sc_w hS', sc_wj hS', sc_wp hS', sv_0 hV' hc, sv_1 hV' hc, sv_2 hV' hc, sv_3 hV' hc, sv_4 hV' hc, sv_5 hV' hc, sv_6 hV' hc, sv_7 hV' hc, sv_9 hV' hc, sv_8 hV', li_n, nI_add, pk_mul, nI_clamp, nI_ltI, nI_leI, nI_eq, mi_n, Nat.add_zero, true_and, and_true, true_or, or_true, false_or, or_false, not_false_eq_true, not_true_eq_false, implies_true, forall_const, ne_eq, Classical.not_not, reduceCtorEq, nor_p, cI_1n, bI_1n, cI_F, cI_T, cI_0, cI_0n, bI_0, bI_0n, cI_01, bI_01, Nat.reduceLeDiff, Nat.reduceLT, Nat.reduceEqDiff, Nat.reduceSub, Nat.reduceAdd, Nat.lt_irrefl, Nat.le_refl, false_implies, true_implies]
    refine hQ _ _ ⟨_, rfl, ?_, hf⟩ hf.2.2.2.1 hf.2.2.2.2.1
    rw [cI_f (fun ⟨a, c, q1, q2, q3⟩ => hj a c (by omega) q1 q2 q3)]
    rfl
  · have hS' := sc_L_fr hS hf
    have hV' := sv_fr hV hc hf
    simp (disch := omega) only [Nat.not_le_of_lt hi, sc_T hS', sc_R0 hS', sc_R1 hS', sc_R2 hS', sc_R3 hS', sc_R4 hS', sc_R5 hS', sc_R6 hS', sc_R7 hS', sc_R8 hS', sc_R9 hS', sc_T1 hS', sc_N1 hS', sc_RP hS', sc_T2 hS', sc_N2 hS', sc_RM hS', sc_T3 hS', sc_N3 hS', sc_T4 hS', sc_N4 hS', sc_T5 hS', sc_N5 hS', sc_T6 hS', sc_N6 hS', sc_T7 hS', sc_N7 hS', sc_T8 hS', sc_N8 hS', sc_T9 hS', sc_N9 hS', sc_T10 hS', sc_RL0 hS', sc_RL1 hS', sc_T11 hS', sc_N11 hS', sc_T12 hS', sc_N12 hS', sc_TP hS', sc_TM hS', sc_w hS', sc_wj hS', sc_wp hS', sv_0 hV' hc, sv_1 hV' hc, sv_2 hV' hc, sv_3 hV' hc, sv_4 hV' hc, sv_5 hV' hc, sv_6 hV' hc, sv_7 hV' hc, sv_9 hV' hc, sv_8 hV', li_n, nI_add, pk_mul, nI_clamp, nI_ltI, nI_leI, nI_eq, mi_n, Nat.add_zero, true_and, and_true, true_or, or_true, false_or, or_false, not_false_eq_true, not_true_eq_false, implies_true, forall_const, ne_eq, Classical.not_not, reduceCtorEq, nor_p, cI_1n, bI_1n, cI_F, cI_T, cI_0, cI_0n, bI_0, bI_0n, cI_01, bI_01, Nat.reduceLeDiff, Nat.reduceLT, Nat.reduceEqDiff, Nat.reduceSub, Nat.reduceAdd, Nat.lt_irrefl, Nat.le_refl, false_implies, true_implies]
    have : ∀ k c, c + k = np s → i < c → ∀ g2, mu_fr (jU E) g g2 → (∀ c', i < c' → c' < c → ¬ nI (vH s (8 * i + c')) < sNeed s i c') → mu_go w mm_X4_lacksHours (d + 4) L Q 14 [some (.ref b), some (.int (nI i)), some (.int (nI c))] [] g2 := by
      intro k
      induction k with
      | zero =>
        intro c hcn hic g2 hf2 hcc
        have hS' := sc_L_fr hS hf2
        have hV' := sv_fr hV hc hf2
        refine fm_X4_lacksHours_14 ?_
        rw [show c = np s by omega] at hcc ⊢
        simp (disch := omega) only [sc_T hS', sc_R0 hS', sc_R1 hS', sc_R2 hS', sc_R3 hS', sc_R4 hS', sc_R5 hS', sc_R6 hS', sc_R7 hS', sc_R8 hS', sc_R9 hS', sc_T1 hS', sc_N1 hS', sc_RP hS', sc_T2 hS', sc_N2 hS', sc_RM hS', sc_T3 hS', sc_N3 hS', sc_T4 hS', sc_N4 hS', sc_T5 hS', sc_N5 hS', sc_T6 hS', sc_N6 hS', sc_T7 hS', sc_N7 hS', sc_T8 hS', sc_N8 hS', sc_T9 hS', sc_N9 hS', sc_T10 hS', sc_RL0 hS', sc_RL1 hS', sc_T11 hS', sc_N11 hS', sc_T12 hS', sc_N12 hS', sc_TP hS', sc_TM hS', sc_w hS', sc_wj hS', sc_wp hS', sv_0 hV' hc, sv_1 hV' hc, sv_2 hV' hc, sv_3 hV' hc, sv_4 hV' hc, sv_5 hV' hc, sv_6 hV' hc, sv_7 hV' hc, sv_9 hV' hc, sv_8 hV', li_n, nI_add, pk_mul, nI_clamp, nI_ltI, nI_leI, nI_eq, mi_n, Nat.add_zero, true_and, and_true, true_or, or_true, false_or, or_false, not_false_eq_true, not_true_eq_false, implies_true, forall_const, ne_eq, Classical.not_not, reduceCtorEq, nor_p, cI_1n, bI_1n, cI_F, cI_T, cI_0, cI_0n, bI_0, bI_0n, cI_01, bI_01, Nat.reduceLeDiff, Nat.reduceLT, Nat.reduceEqDiff, Nat.reduceSub, Nat.reduceAdd, Nat.lt_irrefl, Nat.le_refl, false_implies, true_implies]
        refine ih g2 hf2 (fun a c' h1 h2 h3 => ?_)
        by_cases e : a = i
        · rw [e]; exact hcc c' (by omega) h3
        · exact hj a c' (by omega) h2 h3
      | succ k ih2 =>
        intro c hcn hic g2 hf2 hcc
        have hS' := sc_L_fr hS hf2
        have hV' := sv_fr hV hc hf2
        have hL' := mu_fr_fit hf2 hL
        have hlt : c < np s := by omega
        refine fm_X4_lacksHours_14 ?_
        simp (disch := omega) only [Nat.not_le_of_lt hlt, sv_h hV' hh, sc_T hS', sc_R0 hS', sc_R1 hS', sc_R2 hS', sc_R3 hS', sc_R4 hS', sc_R5 hS', sc_R6 hS', sc_R7 hS', sc_R8 hS', sc_R9 hS', sc_T1 hS', sc_N1 hS', sc_RP hS', sc_T2 hS', sc_N2 hS', sc_RM hS', sc_T3 hS', sc_N3 hS', sc_T4 hS', sc_N4 hS', sc_T5 hS', sc_N5 hS', sc_T6 hS', sc_N6 hS', sc_T7 hS', sc_N7 hS', sc_T8 hS', sc_N8 hS', sc_T9 hS', sc_N9 hS', sc_T10 hS', sc_RL0 hS', sc_RL1 hS', sc_T11 hS', sc_N11 hS', sc_T12 hS', sc_N12 hS', sc_TP hS', sc_TM hS', sc_w hS', sc_wj hS', sc_wp hS', sv_0 hV' hc, sv_1 hV' hc, sv_2 hV' hc, sv_3 hV' hc, sv_4 hV' hc, sv_5 hV' hc, sv_6 hV' hc, sv_7 hV' hc, sv_9 hV' hc, sv_8 hV', li_n, nI_add, pk_mul, nI_clamp, nI_ltI, nI_leI, nI_eq, mi_n, Nat.add_zero, true_and, and_true, true_or, or_true, false_or, or_false, not_false_eq_true, not_true_eq_false, implies_true, forall_const, ne_eq, Classical.not_not, reduceCtorEq, nor_p, cI_1n, bI_1n, cI_F, cI_T, cI_0, cI_0n, bI_0, bI_0n, cI_01, bI_01, Nat.reduceLeDiff, Nat.reduceLT, Nat.reduceEqDiff, Nat.reduceSub, Nat.reduceAdd, Nat.lt_irrefl, Nat.le_refl, false_implies, true_implies]
        refine ⟨by omega, mu_cIp (sp_X4_hoursNeeded (d := d) hS' hV' hc (st_fr hst hf2 (fun a q => by have := sv_J hV a q; have := sc_w hS; omega)) hp hm hT hi hlt) hL' (fun x g3 hx hX1 hS1 => ?_)⟩
        have hf3 := mu_fr_tr hf2 hx.2
        rw [hx.1, ← Int32.not_lt, Classical.not_not]
        rw [show i * 8 + c = 8 * i + c by omega]
        refine ⟨fun h => ih2 (c + 1) (by omega) (by omega) g3 hf3 (fun c' h1 h2 => ?_), fun h => hQ _ _ ⟨_, rfl, ?_, hf3⟩ hf3.2.2.2.1 hf3.2.2.2.2.1⟩
        · by_cases e : c' = c
          · rw [e]; exact h
          · exact hcc c' h1 (by omega)
        · rw [cI_t ⟨i, c, hic, hlt, h⟩]
          rfl
    exact this _ (i + 1) (show i + 1 + (np s - (i + 1)) = np s by omega) (by omega) g' hf (fun c' h1 h2 => by omega)
end Cw
