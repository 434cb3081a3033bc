/-! CLIENTS: the class looks at a scene, and plays a show -/
theorem sR_R (g : mu_H) {a k x z : Nat} (v : Nat) (h : x ≠ a ∨ z ≠ k) : mu_R (mu_sR g a k v) x z = mu_R g x z := if_neg (fun q => by obtain ⟨q1, q2⟩ := q; rcases h with h | h; exact h q1; exact h q2)
theorem sR_same (g : mu_H) (a k v : Nat) : mu_R (mu_sR g a k v) a k = v := if_pos ⟨rfl, rfl⟩
/-- all but the log and the draws -/
theorem ok_wf {s c : Nat → Int32} (hw : wf_s s) (h : okL s c) : wf_s c := by
  obtain ⟨h1, h2, h3, h4⟩ := h
  have hx := agL_X h1
  have hb := wc_b (ws_c hw)
  refine ⟨al_c h1 hw h2 h3, al_p h1 hw, ax_m hx hw, ax_a hx hw, fun i hi => ?_, fun i hi => ?_, ⟨fun k hk => ?_, fun p hp => ?_⟩, ⟨fun k hk => ?_, fun a b ha hb2 => ?_⟩, fun i hi => ?_, ax_t hx hw⟩
  · rw [ax_nsg hx] at hi
    obtain ⟨g1, g2, g3⟩ := ws_g hw i hi
    have e : ∀ f, f < 2 → vG c i f = vG s i f := fun f hf => by unfold vG; rw [h1 _ (by omega) (by omega) (by omega)]
    rw [e 0 (by omega), e 1 (by omega), ax_np hx]
    refine ⟨fun f hf => ?_, g2, g3⟩
    rw [e f hf, h1 _ (by omega) (by omega) (by omega)]
    exact g1 f hf
  · rw [ax_nch hx] at hi ⊢
    obtain ⟨g1, g2, g3⟩ := ws_ch hw i hi
    have e : ∀ j, j < 6 → vC c j = vC s j := fun j hj => by unfold vC; rw [h1 _ (by omega) (by omega) (by omega)]
    rw [e i (by omega), ax_nm hx, h1 _ (by omega) (by omega) (by omega)]
    refine ⟨g1, g2, fun j hj hE => ?_⟩
    rw [e j (by omega)] at hE
    exact g3 j hj hE
  · rw [ax_nwp hx] at hk
    obtain ⟨g1, g2, g3⟩ := (ws_w hw).1 k hk
    have e : vW c k = vW s k := by unfold vW; rw [h1 _ (by omega) (by omega) (by omega)]
    rw [e, ax_np hx, h1 _ (by omega) (by omega) (by omega), h1 _ (by omega) (by omega) (by omega)]
    refine ⟨g1, g2, g3.imp id (fun ⟨q, q1, q2, q3⟩ => ⟨q, q1, q2, ?_⟩)⟩
    rw [h1 _ (by omega) (by omega) (by omega)]; exact q3
  · rw [ax_np hx] at hp
    rw [h1 _ (by omega) (by omega) (by omega), ax_nwp hx]
    refine ((ws_w hw).2 p hp).imp id (fun ⟨k, q1, q2, q3⟩ => ⟨k, q1, q2, ?_⟩)
    rw [h1 _ (by omega) (by omega) (by omega)]; exact q3
  · have e : vH c k = vH s k := by unfold vH; rw [h1 _ (by omega) (by omega) (by omega)]
    rw [e, h1 _ (by omega) (by omega) (by omega)]
    exact (ws_h hw).1 k hk
  · have e : ∀ k, k < 64 → vH c k = vH s k := fun k hk => by unfold vH; rw [h1 _ (by omega) (by omega) (by omega)]
    rw [e _ (by omega), e _ (by omega)]
    exact (ws_h hw).2 a b ha hb2
  · obtain ⟨g1, g2⟩ := h4 i hi
    rw [ax_nm hx]
    exact ⟨g1, g2⟩
theorem ok_8 {s : Nat → Int32} {v : Int32} (hw : wf_s s) : okL s (upd s 8 v) := by
  have e : nlg (upd s 8 v) = nlg s := nlg_u (by omega)
  refine ⟨fun i _ h8 _ => pk_un h8, ?_, ?_, fun i hi => ?_⟩
  · rw [e, pk_un (by omega)]; exact wc_7 (ws_c hw)
  · rw [e]; exact (wc_b (ws_c hw)).2.2.2.2.2.2.2.1
  · rw [e] at hi
    obtain ⟨g1, g2⟩ := ws_l hw i hi
    refine ⟨fun f hf => ?_, ?_⟩
    · rw [vL_u (by omega), pk_un (by omega)]; exact g1 f hf
    · rw [vL_u (by omega)]; exact g2
theorem tx_val_u {s nm : Nat → Int32} {t K : Nat} {v : Int32} (h : K < 460) : tx_val (upd s K v) t nm = tx_val s t nm := by
  have e1 : txw (upd s K v) t = txw s t := funext fun k => pk_un (by omega)
  have e2 : txv (upd s K v) t = txv s t := funext fun k => pk_un (by omega)
  unfold tx_val
  rw [e1, e2, txn_u h]
theorem rf_last_u {s : Nat → Int32} {key v : Int32} {K : Nat} (h : K < 460) : ∀ n, rf_last (upd s K v) key n = rf_last s key n
  | 0 => rfl
  | n + 1 => by unfold rf_last; rw [pk_un (by omega), rf_last_u h n]
theorem rf_law_u {s nm : Nat → Int32} {key e v : Int32} {K n : Nat} (h : K < 460) : rf_law (upd s K v) key n nm e = rf_law s key n nm e := by
  unfold rf_law
  rw [rf_last_u h, tx_val_u h]
theorem sLate_u {s : Nat → Int32} {v : Int32} {K p : Nat} (h : K < 460) (h3 : K ≠ 3) (h9 : K ≠ 9) (h1 : K ≠ 20 + 4 * p + 1) (h2 : K ≠ 20 + 4 * p + 2) : sLate (upd s K v) p = sLate s p := by
  unfold sLate rf_late
  rw [rf_law_u h, ntx_u (Ne.symm h3), pk_un (Ne.symm h9), pk_un (Ne.symm h1), pk_un (Ne.symm h2)]
/-- all have drawn -/
def sg_D (S : Nat) (s : Nat → Int32) (l : Nat → Nat) (g : mu_H) : Prop := ∀ p, p < np s → l p ≤ 3 ∧ mu_I g (S + 4) p = nI (l p)
section Cp
variable {w : mu_O} {d b S E : Nat} {g : mu_H} {s c : Nat → Int32} {l : Nat → Nat}
theorem sc_L_sR {v : Nat} (hS : sc_L w b g) (h : b + 41 ≤ S) : sc_L w b (mu_sR g S 4 v) := by
  obtain ⟨h0, h1, h2, h3, h4, h5, h6, h7, h8, h9⟩ := hS
  refine ⟨h0, h1, fun k hk => ?_, ⟨h3.1, h3.2.1, fun i hi => ?_⟩, ⟨h4.1, h4.2.1, fun i hi => ?_⟩, h5, ⟨h6.1, h6.2.1, fun i hi => ?_⟩, ⟨h7.1, ?_, ?_⟩, h8, h9⟩
  · rw [sR_R _ _ (by omega)]; exact h2 k hk
  · rw [sR_R _ _ (by omega)]; exact h3.2.2 i hi
  · rw [sR_R _ _ (by omega)]; exact h4.2.2 i hi
  · rw [sR_R _ _ (by omega)]; exact h6.2.2 i hi
  · rw [sR_R _ _ (by omega)]; exact h7.2.1
  · rw [sR_R _ _ (by omega)]; exact h7.2.2
theorem sc_V_sR {v : Nat} (hV : sc_V w E b s g) (h : b + 41 ≤ S ∧ S + 5 ≤ E) : sc_V w E b s (mu_sR g S 4 v) := by
  obtain ⟨h0, h1, h2, h3, h4, h5, h6, h7, h8, h9⟩ := hV
  refine ⟨h0, h1, h2, h3, h4, fun t ht => ?_, h6, h7, h8, h9⟩
  obtain ⟨a1, a2, a3, a4, a5, a6, a7, a8, a9, a10, a11, a12⟩ := h5 t ht
  have e1 := sR_R g (a := S) (k := 4) (x := b + 5) (z := t) v (by omega)
  have e2 := sR_R g (a := S) (k := 4) (x := mu_R g (b + 5) t) (z := 2) v (by omega)
  have e3 := sR_R g (a := S) (k := 4) (x := mu_R g (b + 5) t) (z := 3) v (by omega)
  unfold tx_R
  rw [e1, e2, e3]
  exact ⟨a1, a2, a3, a4, a5, a6, a7, a8, a9, a10, a11, a12⟩
/-- where look writes -/
def lkA (S E : Nat) : Nat → Prop := fun a => a = S + 1 ∨ a = S + 2 ∨ a = S + 3 ∨ jU E a
theorem sg_P_c {g' : mu_H} (h : sg_P S s g) (h1 : mu_I g' (S + 1) = mu_I g (S + 1)) (h2 : mu_I g' (S + 2) = mu_I g (S + 2)) : sg_P S s g' := fun p hp T hT => by rw [h1, h2]; exact h p hp T hT
theorem sp_X8_look {b0 : Nat} (hS : sc_L w b g) (hV : sc_V w E b s g) (hc : wf_c s) (hG : sg_L w S b0 g) (hSE : b + 41 ≤ S ∧ S + 5 ≤ E) (hst : st_L w g) (hW : wf_s s) :
    mu_mp w mm_X8_look (d + 4) [.ref S, .ref b] g (fun r g' => r = none ∧ (mu_fr (lkA S E) (mu_sR g S 4 b) g' ∧ sg_P S s g' ∧ sg_T' S s (lateN s) g')) := by
  refine mu_mkp mk_X8_look rfl (fun L hL Q hQ => fm_X8_look_0 ⟨sg_T hG, ?_⟩)
  have hb := wc_b hc
  have hwS := sg_w hG
  have nj : ∀ a, jU E a → E ≤ a := fun a q => q.1
  have hS1 := sc_L_sR (v := b) hS hSE.1
  have hV1 := sc_V_sR (v := b) hV hSE
  have hst1 : st_L w (mu_sR g S 4 b) := hst
  have hG1 : sg_L w S b (mu_sR g S 4 b) := by
    obtain ⟨k1, k2, ⟨r0, r1, r2, r3, r4⟩, k3⟩ := hG
    refine ⟨k1, k2, ⟨?_, ?_, ?_, ?_, sR_same g S 4 b⟩, k3⟩
    · rw [sR_R _ _ (by omega)]; exact r0
    · rw [sR_R _ _ (by omega)]; exact r1
    · rw [sR_R _ _ (by omega)]; exact r2
    · rw [sR_R _ _ (by omega)]; exact r3
  have hL1 : mu_fit2 L (mu_sR g S 4 b) := hL
  have hQ1 : ∀ g', mu_fr (lkA S E) (mu_sR g S 4 b) g' → sg_P S s g' → sg_T' S s (lateN s) g' → Q none g' := fun g' h1 h2 h3 => hQ _ _ ⟨rfl, h1, h2, h3⟩ h1.2.2.2.1 h1.2.2.2.2.1
  generalize mu_sR g S 4 b = g0 at *
  clear hQ hL hst hG hV hS
  refine lp (n := np s) (P := fun i => ∀ g', mu_fr (lkA S E) g0 g' → (∀ p, p < i → trI S s p 101 g' ∧ mu_I g' (S + 3) p = nI (lateN s p)) → mu_go w mm_X8_look (d + 4) L Q 7 [some (.ref S), none, some (.int (nI i))] [] g') (fun g' hf hj => fm_X8_look_7 ?_) (fun i hi ih g' hf hj => fm_X8_look_7 ?_) g0 mu_fr_rf (fun j hj => absurd hj (Nat.not_lt_zero j))
  · have hS' := sc_L_fr hS1 hf
    have hV' := sv_fr' hV1 hc hf (fun a q => by rcases q with q | q | q | q; left; omega; left; omega; left; omega; exact Or.inr q)
    have hG' := sg_fr hG1 hf
    simp (disch := omega) only [sc_T hS', sc_R0 hS', sc_R1 hS', sc_R2 hS', sc_R3 hS', sc_R4 hS', sc_R5 hS', sc_R6 hS', sc_R7 hS', sc_R8 hS', sc_R9 hS', sc_T1 hS', sc_N1 hS', sc_RP hS', sc_T2 hS', sc_N2 hS', sc_RM hS', sc_T3 hS', sc_N3 hS', sc_T4 hS', sc_N4 hS', sc_T5 hS', sc_N5 hS', sc_T6 hS', sc_N6 hS', sc_T7 hS', sc_N7 hS', sc_T8 hS', sc_N8 hS', sc_T9 hS', sc_N9 hS', sc_T10 hS', sc_RL0 hS', sc_RL1 hS', sc_T11 hS', sc_N11 hS', sc_T12 hS', sc_N12 hS', sc_TP hS', sc_TM hS', sc_w hS', sc_wj hS', sc_wp hS', sv_0 hV' hc, sv_1 hV' hc, sv_2 hV' hc, sv_3 hV' hc, sv_4 hV' hc, sv_5 hV' hc, sv_6 hV' hc, sv_7 hV' hc, sv_9 hV' hc, sv_8 hV', sg_T hG', sg_R0 hG', sg_R1 hG', sg_R2 hG', sg_R3 hG', sg_R4 hG', sg_T1 hG', sg_N1 hG', sg_T2 hG', sg_N2 hG', sg_T3 hG', sg_N3 hG', sg_T4 hG', sg_N4 hG', sg_w1 hG', sg_w2 hG', sg_w3 hG', sg_w4 hG', li_n, nI_add, pk_mul, nI_clamp, nI_ltI, nI_leI, nI_eq, mi_n, Nat.add_zero, true_and, and_true, true_or, or_true, false_or, or_false, not_false_eq_true, not_true_eq_false, implies_true, forall_const, ne_eq, Classical.not_not, reduceCtorEq, nor_p, cI_1n, bI_1n, cI_F, cI_T, cI_0, cI_0n, bI_0, bI_0n, cI_01, bI_01, Nat.reduceLeDiff, Nat.reduceLT, Nat.reduceEqDiff, Nat.reduceSub, Nat.reduceAdd, Nat.lt_irrefl, Nat.le_refl, false_implies, true_implies]
    exact hQ1 g' hf (fun p hp => (hj p hp).1) (fun p hp => ⟨(lateN_ok s p).2, (hj p hp).2⟩)
  · have hS' := sc_L_fr hS1 hf
    have hV' := sv_fr' hV1 hc hf (fun a q => by rcases q with q | q | q | q; left; omega; left; omega; left; omega; exact Or.inr q)
    have hG' := sg_fr hG1 hf
    have hL' := mu_fr_fit hf hL1
    simp (disch := omega) only [sc_T hS', sc_R0 hS', sc_R1 hS', sc_R2 hS', sc_R3 hS', sc_R4 hS', sc_R5 hS', sc_R6 hS', sc_R7 hS', sc_R8 hS', sc_R9 hS', sc_T1 hS', sc_N1 hS', sc_RP hS', sc_T2 hS', sc_N2 hS', sc_RM hS', sc_T3 hS', sc_N3 hS', sc_T4 hS', sc_N4 hS', sc_T5 hS', sc_N5 hS', sc_T6 hS', sc_N6 hS', sc_T7 hS', sc_N7 hS', sc_T8 hS', sc_N8 hS', sc_T9 hS', sc_N9 hS', sc_T10 hS', sc_RL0 hS', sc_RL1 hS', sc_T11 hS', sc_N11 hS', sc_T12 hS', sc_N12 hS', sc_TP hS', sc_TM hS', sc_w hS', sc_wj hS', sc_wp hS', sv_0 hV' hc, sv_1 hV' hc, sv_2 hV' hc, sv_3 hV' hc, sv_4 hV' hc, sv_5 hV' hc, sv_6 hV' hc, sv_7 hV' hc, sv_9 hV' hc, sv_8 hV', sg_T hG', sg_R0 hG', sg_R1 hG', sg_R2 hG', sg_R3 hG', sg_R4 hG', sg_T1 hG', sg_N1 hG', sg_T2 hG', sg_N2 hG', sg_T3 hG', sg_N3 hG', sg_T4 hG', sg_N4 hG', sg_w1 hG', sg_w2 hG', sg_w3 hG', sg_w4 hG', Nat.not_le_of_lt hi, li_n, nI_add, pk_mul, nI_clamp, nI_ltI, nI_leI, nI_eq, mi_n, Nat.add_zero, true_and, and_true, true_or, or_true, false_or, or_false, not_false_eq_true, not_true_eq_false, implies_true, forall_const, ne_eq, Classical.not_not, reduceCtorEq, nor_p, cI_1n, bI_1n, cI_F, cI_T, cI_0, cI_0n, bI_0, bI_0n, cI_01, bI_01, Nat.reduceLeDiff, Nat.reduceLT, Nat.reduceEqDiff, Nat.reduceSub, Nat.reduceAdd, Nat.lt_irrefl, Nat.le_refl, false_implies, true_implies]
    refine mu_cIp (sp_X4_lateOf hS' hV' hc (ws_p hW) (ws_t hW) hi) hL' (fun x g2 hx hX2 hS2 => ?_)
    have hf2 : mu_fr (lkA S E) g0 g2 := mu_fr_tr hf (mu_fr_mono hx.2 (fun a q => Or.inr (Or.inr (Or.inr q))))
    have hG2 := sg_fr hG1 hf2
    simp (disch := omega) only [sg_T hG2, sg_R0 hG2, sg_R1 hG2, sg_R2 hG2, sg_R3 hG2, sg_R4 hG2, sg_T1 hG2, sg_N1 hG2, sg_T2 hG2, sg_N2 hG2, sg_T3 hG2, sg_N3 hG2, sg_T4 hG2, sg_N4 hG2, sg_w1 hG2, sg_w2 hG2, sg_w3 hG2, sg_w4 hG2, li_n, nI_add, pk_mul, nI_clamp, nI_ltI, nI_leI, nI_eq, mi_n, Nat.add_zero, true_and, and_true, true_or, or_true, false_or, or_false, not_false_eq_true, not_true_eq_false, implies_true, forall_const, ne_eq, Classical.not_not, reduceCtorEq, nor_p, cI_1n, bI_1n, cI_F, cI_T, cI_0, cI_0n, bI_0, bI_0n, cI_01, bI_01, Nat.reduceLeDiff, Nat.reduceLT, Nat.reduceEqDiff, Nat.reduceSub, Nat.reduceAdd, Nat.lt_irrefl, Nat.le_refl, false_implies, true_implies]
    refine ⟨by omega, ?_⟩
    have hf3 : mu_fr (lkA S E) g0 (mu_sI g2 (S + 3) i x) := mu_fr_tr hf2 (mu_fr_sI (Or.inr (Or.inr (Or.inl rfl))))
    have hS3 := sc_L_fr hS1 hf3
    have hV3 := sv_fr' hV1 hc hf3 (fun a q => by rcases q with q | q | q | q; left; omega; left; omega; left; omega; exact Or.inr q)
    have hG3 := sg_fr hG1 hf3
    have hst3 := st_fr hst1 hf3 (fun a q => by rcases q with q | q | q | q; omega; omega; omega; have := nj a q; omega)
    refine mu_cVp (sp_X8_trace hS3 hV3 hc hG3 hSE hst3 (ws_p hW) (ws_m hW) (ws_a hW) hi) (mu_fr_fit hf3 hL1) (fun g4 h4 hX4 hS4 => ?_)
    have hf4 : mu_fr (lkA S E) g0 g4 := mu_fr_tr hf3 (f2_fr h4.1 (fun a k q => by have := q.1; unfold lkA; omega))
    refine ih g4 hf4 (fun p hp => ?_)
    have o1 : mu_I g4 (S + 3) p = mu_I (mu_sI g2 (S + 3) i x) (S + 3) p := h4.1.2.2.2.2.2 _ _ (by unfold trW; omega)
    by_cases e : p = i
    · rw [e]
      refine ⟨h4.2, ?_⟩
      rw [e] at o1
      rw [o1, I_sI_same, hx.1]
      exact (lateN_ok s i).1
    · refine ⟨fun T hT => ?_, ?_⟩
      · rw [h4.1.2.2.2.2.2 _ _ (by unfold trW; omega), h4.1.2.2.2.2.2 _ _ (by unfold trW; omega), I_sI_a _ _ _ _ (by omega), I_sI_a _ _ _ _ (by omega), hx.2.2.2.2.2.2 _ (fun q => by have := nj _ q; omega), hx.2.2.2.2.2.2 _ (fun q => by have := nj _ q; omega)]
        exact (hj p (by omega)).1 T hT
      · rw [o1, I_sI_k _ _ _ (by omega), hx.2.2.2.2.2.2 _ (fun q => by have := nj _ q; omega)]
        exact (hj p (by omega)).2
set_option maxHeartbeats 1000000 in
theorem sp_X8_missesOf {m : Nat} (hS : sc_L w b g) (hV : sc_V w E b c g) (hok : okL s c) (hW : wf_s s) (hG : sg_L w S b g) (hSE : b + 41 ≤ S ∧ S + 5 ≤ E) (hst : st_L w g) (hP : sg_P S s g) (hD : sg_D S s l g) (hi : m < nm s) :
    mu_mp w mm_X8_missesOf (d + 3) [.ref S, .int (nI m)] g (fun r g' => ∃ x, r = some (.int x) ∧ (x = nI (msQ s l c m (np s)).2 ∧ mu_fr (fun a => a = b + 10 ∨ a = b + 11) g g' ∧ sc_V w E b (msQ s l c m (np s)).1 g')) := by
  refine mu_mkp mk_X8_missesOf rfl (fun L hL Q hQ => fm_X8_missesOf_0 ?_)
  have hb := wc_b (ws_c hW)
  have hmb := wm_b (ws_m hW) hi
  have hwS := sg_w hG
  have hwb := sc_w hS
  have hkr : kReach (vM s m 1) ≤ 3 := by unfold kReach; split <;> omega
  simp (disch := omega) only [sc_T hS, sc_R0 hS, sc_R1 hS, sc_R2 hS, sc_R3 hS, sc_R4 hS, sc_R5 hS, sc_R6 hS, sc_R7 hS, sc_R8 hS, sc_R9 hS, sc_T1 hS, sc_N1 hS, sc_RP hS, sc_T2 hS, sc_N2 hS, sc_RM hS, sc_T3 hS, sc_N3 hS, sc_T4 hS, sc_N4 hS, sc_T5 hS, sc_N5 hS, sc_T6 hS, sc_N6 hS, sc_T7 hS, sc_N7 hS, sc_T8 hS, sc_N8 hS, sc_T9 hS, sc_N9 hS, sc_T10 hS, sc_RL0 hS, sc_RL1 hS, sc_T11 hS, sc_N11 hS, sc_T12 hS, sc_N12 hS, sc_TP hS, sc_TM hS, sc_w hS, sc_wj hS, sc_wp hS, sg_T hG, sg_R0 hG, sg_R1 hG, sg_R2 hG, sg_R3 hG, sg_R4 hG, sg_T1 hG, sg_N1 hG, sg_T2 hG, sg_N2 hG, sg_T3 hG, sg_N3 hG, sg_T4 hG, sg_N4 hG, sg_w1 hG, sg_w2 hG, sg_w3 hG, sg_w4 hG, li_n, nI_add, pk_mul, nI_clamp, nI_ltI, nI_leI, nI_eq, mi_n, Nat.add_zero, true_and, and_true, true_or, or_true, false_or, or_false, not_false_eq_true, not_true_eq_false, implies_true, forall_const, ne_eq, Classical.not_not, reduceCtorEq, nor_p, cI_1n, bI_1n, cI_F, cI_T, cI_0, cI_0n, bI_0, bI_0n, cI_01, bI_01, Nat.reduceLeDiff, Nat.reduceLT, Nat.reduceEqDiff, Nat.reduceSub, Nat.reduceAdd, Nat.lt_irrefl, Nat.le_refl, false_implies, true_implies]
  refine ⟨by omega, ?_⟩
  have hcb : ∀ q, q ≤ np s → (msQ s l c m q).2 ≤ q := by
    intro q
    induction q with
    | zero => intro _; exact Nat.le_refl _
    | succ q ih =>
      intro hq
      have := ih (by omega)
      unfold msQ
      split
      · show (msQ s l c m q).2 + 1 ≤ q + 1; omega
      · omega
  refine lp (n := np s) (P := fun q => ∀ g', mu_fr (fun a => a = b + 10 ∨ a = b + 11) g g' → sc_V w E b (msQ s l c m q).1 g' → mu_go w mm_X8_missesOf (d + 3) L Q 15 [some (.ref S), some (.int (nI m)), some (.ref (b + 21 + m)), some (.int (nI (msQ s l c m q).2)), some (.int (nI q)), none] [] g') (fun g' hf hV' => fm_X8_missesOf_15 ?_) (fun q hq ih g' hf hV' => fm_X8_missesOf_15 ?_) g mu_fr_rf hV
  · have hS' := sc_L_fr hS hf
    have hG' := sg_fr hG hf
    have hc' := ws_c (ok_wf hW (okL_Q (l := l) hW hi hok (np s) (Nat.le_refl _)))
    have e0 := ax_np (agL_X (okL_Q (l := l) hW hi hok (np s) (Nat.le_refl _)).1)
    simp (disch := omega) only [sc_T hS', sc_R0 hS', sc_R1 hS', sc_R2 hS', sc_R3 hS', sc_R4 hS', sc_R5 hS', sc_R6 hS', sc_R7 hS', sc_R8 hS', sc_R9 hS', sc_T1 hS', sc_N1 hS', sc_RP hS', sc_T2 hS', sc_N2 hS', sc_RM hS', sc_T3 hS', sc_N3 hS', sc_T4 hS', sc_N4 hS', sc_T5 hS', sc_N5 hS', sc_T6 hS', sc_N6 hS', sc_T7 hS', sc_N7 hS', sc_T8 hS', sc_N8 hS', sc_T9 hS', sc_N9 hS', sc_T10 hS', sc_RL0 hS', sc_RL1 hS', sc_T11 hS', sc_N11 hS', sc_T12 hS', sc_N12 hS', sc_TP hS', sc_TM hS', sc_w hS', sc_wj hS', sc_wp hS', sv_0 hV' hc', sv_1 hV' hc', sv_2 hV' hc', sv_3 hV' hc', sv_4 hV' hc', sv_5 hV' hc', sv_6 hV' hc', sv_7 hV' hc', sv_9 hV' hc', sv_8 hV', sg_T hG', sg_R0 hG', sg_R1 hG', sg_R2 hG', sg_R3 hG', sg_R4 hG', sg_T1 hG', sg_N1 hG', sg_T2 hG', sg_N2 hG', sg_T3 hG', sg_N3 hG', sg_T4 hG', sg_N4 hG', sg_w1 hG', sg_w2 hG', sg_w3 hG', sg_w4 hG', e0, li_n, nI_add, pk_mul, nI_clamp, nI_ltI, nI_leI, nI_eq, mi_n, Nat.add_zero, true_and, and_true, true_or, or_true, false_or, or_false, not_false_eq_true, not_true_eq_false, implies_true, forall_const, ne_eq, Classical.not_not, reduceCtorEq, nor_p, cI_1n, bI_1n, cI_F, cI_T, cI_0, cI_0n, bI_0, bI_0n, cI_01, bI_01, Nat.reduceLeDiff, Nat.reduceLT, Nat.reduceEqDiff, Nat.reduceSub, Nat.reduceAdd, Nat.lt_irrefl, Nat.le_refl, false_implies, true_implies]
    exact hQ _ _ ⟨_, rfl, rfl, hf, hV'⟩ hf.2.2.2.1 hf.2.2.2.2.1
  · have okq := okL_Q (l := l) hW hi hok q (by omega)
    have hWq := ok_wf hW okq
    have hS' := sc_L_fr hS hf
    have hG' := sg_fr hG hf
    have hL' := mu_fr_fit hf hL
    have hc' := ws_c hWq
    have hx := agL_X okq.1
    have e0 := ax_np hx
    have eM : ∀ f, f < 8 → mu_I g' (b + 21 + m) f = nI (vM s m f) := fun f hf2 => by
      rw [sv_m hV' (ws_m hWq) (by rw [ax_nm hx]; exact hi) hf2, ax_vM hx (by omega) hf2]
    have hst' := st_fr hst hf (fun a q => by omega)
    obtain ⟨d1, d2⟩ := hD q hq
    obtain ⟨d3, d4⟩ := hD (vM s m 0) hmb.1
    have d2' : mu_I g' (S + 4) q = nI (l q) := by rw [hf.2.2.2.2.2 _ (by omega)]; exact d2
    have d4' : mu_I g' (S + 4) (vM s m 0) = nI (l (vM s m 0)) := by rw [hf.2.2.2.2.2 _ (by omega)]; exact d4
    have hP' : sg_P S (msQ s l c m q).1 g' := fun p hp T hT => by
      rw [e0] at hp
      rw [ax_PL hx (by omega) (by omega), hf.2.2.2.2.2 _ (by omega), hf.2.2.2.2.2 _ (by omega)]
      exact hP p hp T hT
    have enm : nm (msQ s l c m q).1 = nm s := ax_nm hx
    have esh : nsh (msQ s l c m q).1 = nsh s := by unfold nsh; rw [okq.1 6 (by omega) (by omega) (by omega)]
    have i1 : mss s l m q → ∀ g2, mu_fr (fun a => a = b + 10 ∨ a = b + 11) g g2 → sc_V w E b (lgA (msQ s l c m q).1 (nI (nsh s)) (nI m) (nI q)) g2 → mu_go w mm_X8_missesOf (d + 3) L Q 15 [some (.ref S), some (.int (nI m)), some (.ref (b + 21 + m)), some (.int (nI ((msQ s l c m q).2 + 1))), some (.int (nI (q + 1))), none] [] g2 := fun h g2 hf2 hV2 => by
      have := ih g2 hf2
      unfold msQ at this
      rw [if_pos h] at this
      exact this hV2
    have i0 : ¬ mss s l m q → mu_go w mm_X8_missesOf (d + 3) L Q 15 [some (.ref S), some (.int (nI m)), some (.ref (b + 21 + m)), some (.int (nI (msQ s l c m q).2)), some (.int (nI (q + 1))), none] [] g' := fun h => by
      have := ih g' hf
      rw [msQ, if_neg h] at this
      exact this hV'
    clear ih
    have eF : nI (vM s m 2 + l (vM s m 0)) - nI (l q) = nI (vM s m 2 + l (vM s m 0)) - nI (l q) := rfl
    have t1 : (nI (vM s m 2 + l (vM s m 0)) - nI (l q)).toInt = ((vM s m 2 + l (vM s m 0) : Nat) : Int) - l q := pk_sub_toInt (by omega) (by omega)
    have t2 : (nI (vM s m 2 + l (vM s m 0)) - nI (l q) + nI (vM s m 3)).toInt = ((vM s m 2 + l (vM s m 0) : Nat) : Int) - l q + vM s m 3 := by
      rw [li_add] <;> rw [t1, nI_toInt (by omega)]; omega
    have t3 : (nI (vM s m 2 + l (vM s m 0)) - nI (l q) + nI (vM s m 3) - nI 1).toInt = ((vM s m 2 + l (vM s m 0) : Nat) : Int) - l q + vM s m 3 - 1 := by
      rw [li_sub] <;> rw [t2, nI_toInt (by omega)] <;> omega
    simp (disch := omega) only [Nat.not_le_of_lt hq, eM, d2', d4', e0, sc_T hS', sc_R0 hS', sc_R1 hS', sc_R2 hS', sc_R3 hS', sc_R4 hS', sc_R5 hS', sc_R6 hS', sc_R7 hS', sc_R8 hS', sc_R9 hS', sc_T1 hS', sc_N1 hS', sc_RP hS', sc_T2 hS', sc_N2 hS', sc_RM hS', sc_T3 hS', sc_N3 hS', sc_T4 hS', sc_N4 hS', sc_T5 hS', sc_N5 hS', sc_T6 hS', sc_N6 hS', sc_T7 hS', sc_N7 hS', sc_T8 hS', sc_N8 hS', sc_T9 hS', sc_N9 hS', sc_T10 hS', sc_RL0 hS', sc_RL1 hS', sc_T11 hS', sc_N11 hS', sc_T12 hS', sc_N12 hS', sc_TP hS', sc_TM hS', sc_w hS', sc_wj hS', sc_wp hS', sv_0 hV' hc', sv_1 hV' hc', sv_2 hV' hc', sv_3 hV' hc', sv_4 hV' hc', sv_5 hV' hc', sv_6 hV' hc', sv_7 hV' hc', sv_9 hV' hc', sv_8 hV', sg_T hG', sg_R0 hG', sg_R1 hG', sg_R2 hG', sg_R3 hG', sg_R4 hG', sg_T1 hG', sg_N1 hG', sg_T2 hG', sg_N2 hG', sg_T3 hG', sg_N3 hG', sg_T4 hG', sg_N4 hG', sg_w1 hG', sg_w2 hG', sg_w3 hG', sg_w4 hG', li_n, nI_add, pk_mul, nI_clamp, nI_ltI, nI_leI, nI_eq, mi_n, Nat.add_zero, true_and, and_true, true_or, or_true, false_or, or_false, not_false_eq_true, not_true_eq_false, implies_true, forall_const, ne_eq, Classical.not_not, reduceCtorEq, nor_p, cI_1n, bI_1n, cI_F, cI_T, cI_0, cI_0n, bI_0, bI_0n, cI_01, bI_01, Nat.reduceLeDiff, Nat.reduceLT, Nat.reduceEqDiff, Nat.reduceSub, Nat.reduceAdd, Nat.lt_irrefl, Nat.le_refl, false_implies, true_implies]
    refine ⟨by omega, by omega, fun h => i0 (fun z => z.1 h), fun h => ?_⟩
    refine mu_cI (sp_X8_leastGap hS' hV' hc' hG' hSE hst' (ws_p hWq) (ws_m hWq) hP' (by rw [enm]; exact hi) (by rw [e0]; exact hq) (by omega) (by omega) (by omega)) hL' ?_
    rw [t1, t3, show (((vM s m 2 + l (vM s m 0) : Nat) : Int) - l q + vM s m 3 - 1 - (((vM s m 2 + l (vM s m 0) : Nat) : Int) - l q) + 1).toNat = vM s m 3 by omega, show ((vM s m 2 + l (vM s m 0) : Nat) : Int) - l q = (vM s m 2 : Int) + ((l (vM s m 0) : Int) - l q) by omega, ax_gpV hx (by omega) (by omega) (by omega) (by omega), ax_vM hx (by omega) (by omega)]
    refine ⟨sc_TM hS' (by omega), mu_cI (sp_X1_spanTo (sc_TM hS' (by omega)) (eM 5 (by omega)) (eM 6 (by omega)) (by omega)) hL' ?_⟩
    have ew : (if q = vM s m 5 then vM s m 6 / 2 else vM s m 6) = want s m q := rfl
    have hwt : want s m q ≤ 9 := by unfold want; split <;> omega
    have hgp := gpV_le (s := s) (m := m) (q := q) (lo := (vM s m 2 : Int) + ((l (vM s m 0) : Int) - l q)) (n := vM s m 3)
    rw [ew, le_sub_n (by omega) (by omega) (by omega)]
    refine ⟨fun h2 => i0 (fun z => by have := z.2; omega), fun h2 => ?_⟩
    simp (disch := omega) only [sc_T hS', sc_R0 hS', sc_R1 hS', sc_R2 hS', sc_R3 hS', sc_R4 hS', sc_R5 hS', sc_R6 hS', sc_R7 hS', sc_R8 hS', sc_R9 hS', sc_T1 hS', sc_N1 hS', sc_RP hS', sc_T2 hS', sc_N2 hS', sc_RM hS', sc_T3 hS', sc_N3 hS', sc_T4 hS', sc_N4 hS', sc_T5 hS', sc_N5 hS', sc_T6 hS', sc_N6 hS', sc_T7 hS', sc_N7 hS', sc_T8 hS', sc_N8 hS', sc_T9 hS', sc_N9 hS', sc_T10 hS', sc_RL0 hS', sc_RL1 hS', sc_T11 hS', sc_N11 hS', sc_T12 hS', sc_N12 hS', sc_TP hS', sc_TM hS', sc_w hS', sc_wj hS', sc_wp hS', sv_0 hV' hc', sv_1 hV' hc', sv_2 hV' hc', sv_3 hV' hc', sv_4 hV' hc', sv_5 hV' hc', sv_6 hV' hc', sv_7 hV' hc', sv_9 hV' hc', sv_8 hV', sg_T hG', sg_R0 hG', sg_R1 hG', sg_R2 hG', sg_R3 hG', sg_R4 hG', sg_T1 hG', sg_N1 hG', sg_T2 hG', sg_N2 hG', sg_T3 hG', sg_N3 hG', sg_T4 hG', sg_N4 hG', sg_w1 hG', sg_w2 hG', sg_w3 hG', sg_w4 hG', esh, li_n, nI_add, pk_mul, nI_clamp, nI_ltI, nI_leI, nI_eq, mi_n, Nat.add_zero, true_and, and_true, true_or, or_true, false_or, or_false, not_false_eq_true, not_true_eq_false, implies_true, forall_const, ne_eq, Classical.not_not, reduceCtorEq, nor_p, cI_1n, bI_1n, cI_F, cI_T, cI_0, cI_0n, bI_0, bI_0n, cI_01, bI_01, Nat.reduceLeDiff, Nat.reduceLT, Nat.reduceEqDiff, Nat.reduceSub, Nat.reduceAdd, Nat.lt_irrefl, Nat.le_refl, false_implies, true_implies]
    refine mu_cVp (sp_X0_add hS' hV' hc') hL' (fun g3 h3 hX3 hS3 => i1 ⟨h, by omega⟩ g3 (mu_fr_tr hf h3.1) h3.2)
end Cp
