/-! CLIENTS: whether shifts stand, in the class -/
section Cn
variable {w : mu_O} {d b S H E : Nat} {g : mu_H} {s : Nat → Int32}
set_option maxHeartbeats 4000000 in
theorem sp_X6_stands {r : Nat → Nat} (hS : sc_L w b g) (hG : sg_L w S b g) (hH : sh_L w H S b g) (hst : st_L w g) (hW : wf_s s) (hA : b + 41 ≤ S ∧ S + 5 ≤ H ∧ H + 3 ≤ E) (hI : skI w E b S H s g) (hby : ∀ k, k < nK s → mu_I g (H + 2) k = nI (r k)) (hr : ∀ k, r k ≤ 5) :
    mu_mp w mm_X6_stands (d + 6) [.ref H] g (fun x g' => ∃ v, x = some (.int v) ∧ (v = cI (shOK s r) ∧ mu_fr (skA b S H) g g' ∧ mu_I g' (H + 2) = mu_I g (H + 2) ∧ skI w E b S H s g')) := by
  refine mu_mkp mk_X6_stands rfl (fun L hL Q hQ => fm_X6_stands_0 ?_)
  obtain ⟨⟨ρ, hρ, hV⟩, h3, hbt, hbr, htr, hlt⟩ := hI
  have hc := ws_c hW
  have hb := wc_b hc
  have hn : nK s ≤ nch s := by unfold nK; omega
  have hn3 : nK s ≤ 3 := by unfold nK; omega
  have hwH := hH.1
  have hwb := sc_w hS
  have hd : ∀ i j, i < nK s → j < nK s → vC s i = vC s j → i = j := fun i j hi hj e => (ws_ch hW i (by omega)).2.2 j (by omega) e
  have hT : ∀ {g'}, mu_fr (skA b S H) g g' → mu_T g' H = 7 ∧ mu_R g' H 0 = b ∧ mu_R g' H 1 = S ∧ mu_R g' H 2 = H + 1 ∧ mu_R g' H 5 = H + 2 ∧ mu_T g' (H + 1) = 20 ∧ mu_N g' (H + 1) = 3 ∧ mu_T g' (H + 2) = 20 ∧ mu_N g' (H + 2) = 3 := fun hf => by
    obtain ⟨h0, hT, r0, r1, r2, r5, ⟨t1, n1⟩, t2, n2⟩ := sh_fr hH hf
    exact ⟨hT, r0, r1, r2, r5, t1, n1, t2, n2⟩
  -- frames of the parts: scene; then the stage's rows
  have sc : ∀ {g'}, mu_fr (fun a => b ≤ a ∧ a < b + 41) g g' → mu_fr (skA b S H) g g' := fun h => mu_fr_mono h (fun a q => Or.inl q)
  have sc2 : ∀ {g'}, mu_fr (fun a => (b ≤ a ∧ a < b + 41) ∨ a = S + 1 ∨ a = S + 2) g g' → mu_fr (skA b S H) g g' := fun h => mu_fr_mono h (fun a q => by unfold skA; omega)
  have ret : ∀ {g' : mu_H} {ρ' : Nat → Nat} {v : Int32}, mu_fr (skA b S H) g g' → (∀ k, ρ' k ≤ 5) → sc_V w E b (shR s ρ' (nK s)) g' → mu_I g' H 3 = nI (nK s) → (mu_I g' H 4 = -1000000005 ∨ ∃ m, m < nm s ∧ mDo s m ∧ mu_I g' H 4 = nI m) → (∀ p, p < np s → noGo s p → trI S s p 101 g') → mu_I g' (H + 2) = mu_I g (H + 2) → v = cI (shOK s r) → Q (some (.int v)) g' := fun hf h1 h2 h4 h5 h6 h7 hv => hQ _ _ ⟨_, rfl, hv, hf, h7, ⟨⟨_, h1, h2⟩, h4, fun k hk => by rw [hf.2.2.2.2.2 _ (by unfold skA; omega)]; exact hbt k hk, h5, h6, fun p hp => by rw [hf.2.2.2.2.2 _ (by unfold skA; omega)]; exact hlt p hp⟩⟩ hf.2.2.2.1 hf.2.2.2.2.1
  have notOK : ¬ shOK s r → nI 0 = cI (shOK s r) := fun h => by rw [cI_f h]; rfl
  have agr : ∀ ρ', agB s (shR s ρ' (nK s)) := fun ρ' => shR_ag hW hn
  -- the end: all is traced
  have fin : (∀ k, k < nK s → vM s (vC s k) 2 + r k ≤ 90) → wf_a (shR s r (nK s)) → ∀ g', mu_fr (fun a => (b ≤ a ∧ a < b + 41) ∨ a = S + 1 ∨ a = S + 2) g g' → sc_V w E b (shR s r (nK s)) g' → sg_P S (shR s r (nK s)) g' → mu_go w mm_X6_stands (d + 6) L Q 101 [some (.ref H), some (.int (nI (nK s))), none] [] g' := by
    intro h90 hap g' hf hV' hP'
    have hF := sc2 hf
    obtain ⟨uT, u0, u1, u2, u5, v1, v2, v3, v4⟩ := hT hF
    have hS' := sc_L_fr hS hF
    have hG' := sg_fr hG hF
    have hL' := mu_fr_fit hF hL
    have hst' := st_fr hst hF (fun a q => by unfold skA at q; omega)
    have ha := agr r
    have hc' := ab_c ha hc
    have hp' := ab_p ha hW
    have hm' := shR_m90 (r := r) hW hn (fun k _ => hr k) h90
    have en := ab_nm ha
    have ep := ab_np ha
    have hSE : b + 41 ≤ S ∧ S + 5 ≤ E := ⟨hA.1, by omega⟩
    have hT' : sg_T' S (shR s r (nK s)) (lateN s) g' := fun p hp => by
      rw [ep] at hp
      rw [hf.2.2.2.2.2 _ (by omega)]
      exact hlt p hp
    have e3 : mu_I g' H 3 = nI (nK s) := by rw [hf.2.2.2.2.2 _ (by omega)]; exact h3
    have e4 : mu_I g' H 4 = mu_I g H 4 := by rw [hf.2.2.2.2.2 _ (by omega)]
    have e2 : mu_I g' (H + 2) = mu_I g (H + 2) := hf.2.2.2.2.2 _ (by omega)
    have tr' : ∀ p, p < np s → noGo s p → trI S s p 101 g' := fun p hp hno T hTT => by
      have := hP' p (by rw [ep]; exact hp) T hTT
      rw [sh_PL hW hr hp hno] at this
      exact this
    -- a look at all
    have fb : ∀ (K : Int32 → mu_H → Prop), K (if fBr (shR s r (nK s)) (lateN s) < nm s then nI (fBr (shR s r (nK s)) (lateN s)) else -1000000005) g' → mu_callI w mm_X8_firstBreach (d + 5) L [.ref S] g' K := fun K hK => mu_cI (sp_X8_firstBreach hS' hV' hc' hG' hSE hst' hp' hm' hP' hT') hL' (by rw [en]; exact hK)
    have fbr : ∀ (x : Int32) (gx : mu_H), gx = g' → x = (if fBr (shR s r (nK s)) (lateN s) < nm s then nI (fBr (shR s r (nK s)) (lateN s)) else -1000000005) → (¬ x = -nI 1000000005 → Q (some (.int (nI 0))) (mu_sI gx H 4 x)) ∧ (x = -nI 1000000005 → Q (some (.int (nI 1))) (mu_sI gx H 4 x)) := fun x gx hgx hx => by
      subst hgx
      have hF2 : mu_fr (skA b S H) g (mu_sI gx H 4 x) := mu_fr_tr hF (mu_fr_sI (by unfold skA; omega))
      have hV2 : sc_V w E b (shR s r (nK s)) (mu_sI gx H 4 x) := sv_fr' hV' hc' (mu_fr_sI (A := fun a => a = H) rfl) (fun a q => by omega)
      have tr2 : ∀ p, p < np s → noGo s p → trI S s p 101 (mu_sI gx H 4 x) := fun p hp hno T hTT => by rw [I_sI_a _ _ _ _ (by omega), I_sI_a _ _ _ _ (by omega)]; exact tr' p hp hno T hTT
      have o3 : mu_I (mu_sI gx H 4 x) H 3 = nI (nK s) := by rw [I_sI_k _ _ _ (by omega)]; exact e3
      have o2 : mu_I (mu_sI gx H 4 x) (H + 2) = mu_I g (H + 2) := by rw [mu_I_off _ _ _ (by omega)]; exact e2
      by_cases hlt2 : fBr (shR s r (nK s)) (lateN s) < nm s
      · rw [if_pos hlt2] at hx
        have hdo : mDo s (fBr (shR s r (nK s)) (lateN s)) := by
          rcases fsN_ok (c := fun m => mDo (shR s r (nK s)) m ∧ brkA (shR s r (nK s)) (lateN s) m) (n := nm (shR s r (nK s))) with ⟨q1, q2, q3⟩ | ⟨q1, q2⟩
          · exact (ab_mDo ha (show fBr (shR s r (nK s)) (lateN s) < 20 by omega)).mp q2.1
          · unfold fBr at hlt2; rw [q1, en] at hlt2; omega
        refine ⟨fun _ => ret hF2 hr hV2 o3 (Or.inr ⟨_, hlt2, hdo, ?_⟩) tr2 o2 (notOK (fun q => q.2.2 hlt2)), fun q => absurd (hx.symm.trans q) (none_n' (by omega))⟩
        rw [I_sI_same]; exact hx
      · rw [if_neg hlt2] at hx
        refine ⟨fun q => absurd hx q, fun _ => ret hF2 hr hV2 o3 (Or.inl ?_) tr2 o2 ?_⟩
        · rw [I_sI_same]; exact hx
        · rw [cI_t ⟨h90, hap, hlt2⟩]; rfl
    refine fm_X6_stands_101 ?_
    simp (disch := omega) only [uT, u0, u1, e3, e4, sc_T hS', sc_R0 hS', sc_R1 hS', sc_R2 hS', sc_R3 hS', sc_R4 hS', sc_R5 hS', sc_R6 hS', sc_R7 hS', sc_R8 hS', sc_R9 hS', sc_T1 hS', sc_N1 hS', sc_RP hS', sc_T2 hS', sc_N2 hS', sc_RM hS', sc_T3 hS', sc_N3 hS', sc_T4 hS', sc_N4 hS', sc_T5 hS', sc_N5 hS', sc_T6 hS', sc_N6 hS', sc_T7 hS', sc_N7 hS', sc_T8 hS', sc_N8 hS', sc_T9 hS', sc_N9 hS', sc_T10 hS', sc_RL0 hS', sc_RL1 hS', sc_T11 hS', sc_N11 hS', sc_T12 hS', sc_N12 hS', sc_TP hS', sc_TM hS', sc_w hS', sc_wj hS', sc_wp hS', sg_T hG', sg_R0 hG', sg_R1 hG', sg_R2 hG', sg_R3 hG', sg_R4 hG', sg_T1 hG', sg_N1 hG', sg_T2 hG', sg_N2 hG', sg_T3 hG', sg_N3 hG', sg_T4 hG', sg_N4 hG', sg_w1 hG', sg_w2 hG', sg_w3 hG', sg_w4 hG', li_n, nI_add, pk_mul, nI_clamp, nI_ltI, nI_leI, nI_eq, mi_n, Nat.add_zero, true_and, and_true, true_or, or_true, false_or, or_false, not_false_eq_true, not_true_eq_false, implies_true, forall_const, ne_eq, Classical.not_not, reduceCtorEq, nor_p, cI_1n, bI_1n, cI_F, cI_T, cI_0, cI_0n, bI_0, bI_0n, cI_01, bI_01, Nat.reduceLeDiff, Nat.reduceLT, Nat.reduceEqDiff, Nat.reduceSub, Nat.reduceAdd, Nat.lt_irrefl, Nat.le_refl, false_implies, true_implies]
    rcases hbr with hb1 | ⟨m, m1, m2, m3⟩
    · refine ⟨fun _ => fb _ ?_, fun q => absurd hb1 q⟩
      simp (disch := omega) only [uT, I_sI_same, li_n, nI_add, pk_mul, nI_clamp, nI_ltI, nI_leI, nI_eq, mi_n, Nat.add_zero, true_and, and_true, true_or, or_true, false_or, or_false, not_false_eq_true, not_true_eq_false, implies_true, forall_const, ne_eq, Classical.not_not, reduceCtorEq, nor_p, cI_1n, bI_1n, cI_F, cI_T, cI_0, cI_0n, bI_0, bI_0n, cI_01, bI_01, Nat.reduceLeDiff, Nat.reduceLT, Nat.reduceEqDiff, Nat.reduceSub, Nat.reduceAdd, Nat.lt_irrefl, Nat.le_refl, false_implies, true_implies]
      exact fbr _ g' rfl rfl
    · rw [m3]
      have hne := none_n' (k := m) (by omega)
      simp (disch := omega) only [hne, sc_T hS', sc_R0 hS', sc_R1 hS', sc_R2 hS', sc_R3 hS', sc_R4 hS', sc_R5 hS', sc_R6 hS', sc_R7 hS', sc_R8 hS', sc_R9 hS', sc_T1 hS', sc_N1 hS', sc_RP hS', sc_T2 hS', sc_N2 hS', sc_RM hS', sc_T3 hS', sc_N3 hS', sc_T4 hS', sc_N4 hS', sc_T5 hS', sc_N5 hS', sc_T6 hS', sc_N6 hS', sc_T7 hS', sc_N7 hS', sc_T8 hS', sc_N8 hS', sc_T9 hS', sc_N9 hS', sc_T10 hS', sc_RL0 hS', sc_RL1 hS', sc_T11 hS', sc_N11 hS', sc_T12 hS', sc_N12 hS', sc_TP hS', sc_TM hS', sc_w hS', sc_wj hS', sc_wp hS', li_n, nI_add, pk_mul, nI_clamp, nI_ltI, nI_leI, nI_eq, mi_n, Nat.add_zero, true_and, and_true, true_or, or_true, false_or, or_false, not_false_eq_true, not_true_eq_false, implies_true, forall_const, ne_eq, Classical.not_not, reduceCtorEq, nor_p, cI_1n, bI_1n, cI_F, cI_T, cI_0, cI_0n, bI_0, bI_0n, cI_01, bI_01, Nat.reduceLeDiff, Nat.reduceLT, Nat.reduceEqDiff, Nat.reduceSub, Nat.reduceAdd, Nat.lt_irrefl, Nat.le_refl, false_implies, true_implies]
      refine ⟨by omega, mu_cI (sp_X8_tooNearTo hS' hV' hc' hG' hSE hst' hp' hm' hP' hT' (by rw [en]; exact m1)) hL' ?_⟩
      rw [ep]
      by_cases hbk : brkA (shR s r (nK s)) (lateN s) m
      · have hl2 : fsN (brk (shR s r (nK s)) (lateN s) m) (np s) < np s := by rw [← ep]; exact fs_lt.mpr hbk
        rw [if_pos hl2]
        refine ⟨fun q => absurd q (none_n' (by omega)), fun _ => ret hF hr hV' e3 (Or.inr ⟨m, m1, m2, by rw [e4]; exact m3⟩) tr' e2 (notOK (fun q => q.2.2 ?_))⟩
        have : fBr (shR s r (nK s)) (lateN s) < nm (shR s r (nK s)) := fs_lt.mpr ⟨m, by rw [en]; exact m1, (ab_mDo ha (by omega)).mpr m2, hbk⟩
        rw [en] at this
        exact this
      · have hl2 : ¬ fsN (brk (shR s r (nK s)) (lateN s) m) (np s) < np s := fun q => hbk (fs_lt.mp (by rw [← ep] at q; exact q))
        rw [if_neg hl2]
        refine ⟨fun _ => ⟨uT, by rw [u1]; exact sg_T hG', ?_⟩, fun q => absurd rfl q⟩
        rw [u1]
        refine fb _ ?_
        simp (disch := omega) only [uT, I_sI_same, li_n, nI_add, pk_mul, nI_clamp, nI_ltI, nI_leI, nI_eq, mi_n, Nat.add_zero, true_and, and_true, true_or, or_true, false_or, or_false, not_false_eq_true, not_true_eq_false, implies_true, forall_const, ne_eq, Classical.not_not, reduceCtorEq, nor_p, cI_1n, bI_1n, cI_F, cI_T, cI_0, cI_0n, bI_0, bI_0n, cI_01, bI_01, Nat.reduceLeDiff, Nat.reduceLT, Nat.reduceEqDiff, Nat.reduceSub, Nat.reduceAdd, Nat.lt_irrefl, Nat.le_refl, false_implies, true_implies]
        exact fbr _ g' rfl rfl
  -- who goes is traced anew
  have third : (∀ k, k < nK s → vM s (vC s k) 2 + r k ≤ 90) → wf_a (shR s r (nK s)) → ∀ k i g', i + k = nK s → mu_fr (fun a => (b ≤ a ∧ a < b + 41) ∨ a = S + 1 ∨ a = S + 2) g g' → sc_V w E b (shR s r (nK s)) g' → (∀ p, p < np s → (noGo s p ∨ ∃ j, j < i ∧ vM s (vC s j) 0 = p ∧ mGo s (vC s j)) → trI S (shR s r (nK s)) p 101 g') → mu_go w mm_X6_stands (d + 6) L Q 101 [some (.ref H), some (.int (nI i)), none] [] g' := by
    intro h90 hap k
    induction k with
    | zero =>
      intro i g' hik hf hV' hP'
      rw [show i = nK s by omega] at hP' ⊢
      refine fin h90 hap g' hf hV' (fun p hp => ?_)
      rw [ab_np (agr r)] at hp
      by_cases q : noGo s p
      · exact hP' p hp (Or.inl q)
      · have : ∃ j, j < nK s ∧ vM s (vC s j) 0 = p ∧ mGo s (vC s j) := Classical.byContradiction (fun q2 => q (fun k k1 k2 k3 => q2 ⟨k, k1, k2, k3⟩))
        exact hP' p hp (Or.inr this)
    | succ k ih =>
      intro i g' hik hf hV' hP'
      have hi : i < nK s := by omega
      have hF := sc2 hf
      obtain ⟨uT, u0, u1, u2, u5, v1, v2, v3, v4⟩ := hT hF
      have hS' := sc_L_fr hS hF
      have hG' := sg_fr hG hF
      have hL' := mu_fr_fit hF hL
      have hst' := st_fr hst hF (fun a q => by unfold skA at q; omega)
      have ha := agr r
      have hc' := ab_c ha hc
      have hm' := shR_m90 (r := r) hW hn (fun k _ => hr k) h90
      have en := ab_nm ha
      have ep := ab_np ha
      have hci := ws_ch hW i (by omega)
      have eC : mu_I g' (b + 7) i = nI (vC s i) := by rw [sv_c hV' (ab_ch ha hW) (by rw [ab_nch ha]; omega), ab_vC ha (by omega)]
      have hmc : vC s i < nm (shR s r (nK s)) := by rw [en]; exact hci.2.1
      have hmb := wm_b hm' hmc
      have e3 : mu_I g' H 3 = nI (nK s) := by rw [hf.2.2.2.2.2 _ (by omega)]; exact h3
      refine fm_X6_stands_101 ?_
      simp (disch := omega) only [uT, u0, u1, e3, eC, Nat.not_le_of_lt hi, sc_T hS', sc_R0 hS', sc_R1 hS', sc_R2 hS', sc_R3 hS', sc_R4 hS', sc_R5 hS', sc_R6 hS', sc_R7 hS', sc_R8 hS', sc_R9 hS', sc_T1 hS', sc_N1 hS', sc_RP hS', sc_T2 hS', sc_N2 hS', sc_RM hS', sc_T3 hS', sc_N3 hS', sc_T4 hS', sc_N4 hS', sc_T5 hS', sc_N5 hS', sc_T6 hS', sc_N6 hS', sc_T7 hS', sc_N7 hS', sc_T8 hS', sc_N8 hS', sc_T9 hS', sc_N9 hS', sc_T10 hS', sc_RL0 hS', sc_RL1 hS', sc_T11 hS', sc_N11 hS', sc_T12 hS', sc_N12 hS', sc_TP hS', sc_TM hS', sc_w hS', sc_wj hS', sc_wp hS', sg_T hG', sg_R0 hG', sg_R1 hG', sg_R2 hG', sg_R3 hG', sg_R4 hG', sg_T1 hG', sg_N1 hG', sg_T2 hG', sg_N2 hG', sg_T3 hG', sg_N3 hG', sg_T4 hG', sg_N4 hG', sg_w1 hG', sg_w2 hG', sg_w3 hG', sg_w4 hG', li_n, nI_add, pk_mul, nI_clamp, nI_ltI, nI_leI, nI_eq, mi_n, Nat.add_zero, true_and, and_true, true_or, or_true, false_or, or_false, not_false_eq_true, not_true_eq_false, implies_true, forall_const, ne_eq, Classical.not_not, reduceCtorEq, nor_p, cI_1n, bI_1n, cI_F, cI_T, cI_0, cI_0n, bI_0, bI_0n, cI_01, bI_01, Nat.reduceLeDiff, Nat.reduceLT, Nat.reduceEqDiff, Nat.reduceSub, Nat.reduceAdd, Nat.lt_irrefl, Nat.le_refl, false_implies, true_implies]
      refine ⟨by omega, by omega, mu_cI (sp_X1_goesOn hst' (sc_TM hS' (by omega)) (sv_m hV' hm' hmc (by omega)) hmb.2.1 (sv_m hV' hm' hmc (by omega)) hmb.2.2.2.2.2.2.2.2.2.2) hL' ?_⟩
      have hgo : (vM (shR s r (nK s)) (vC s i) 7 = 0 ∧ kGoes (vM (shR s r (nK s)) (vC s i) 1) = 1) ↔ mGo s (vC s i) := ab_mGo ha (by omega)
      rw [cI_c hgo]
      simp (disch := omega) only [uT, u0, u1, sv_m hV' hm', sc_T hS', sc_R0 hS', sc_R1 hS', sc_R2 hS', sc_R3 hS', sc_R4 hS', sc_R5 hS', sc_R6 hS', sc_R7 hS', sc_R8 hS', sc_R9 hS', sc_T1 hS', sc_N1 hS', sc_RP hS', sc_T2 hS', sc_N2 hS', sc_RM hS', sc_T3 hS', sc_N3 hS', sc_T4 hS', sc_N4 hS', sc_T5 hS', sc_N5 hS', sc_T6 hS', sc_N6 hS', sc_T7 hS', sc_N7 hS', sc_T8 hS', sc_N8 hS', sc_T9 hS', sc_N9 hS', sc_T10 hS', sc_RL0 hS', sc_RL1 hS', sc_T11 hS', sc_N11 hS', sc_T12 hS', sc_N12 hS', sc_TP hS', sc_TM hS', sc_w hS', sc_wj hS', sc_wp hS', sg_T hG', sg_R0 hG', sg_R1 hG', sg_R2 hG', sg_R3 hG', sg_R4 hG', sg_T1 hG', sg_N1 hG', sg_T2 hG', sg_N2 hG', sg_T3 hG', sg_N3 hG', sg_T4 hG', sg_N4 hG', sg_w1 hG', sg_w2 hG', sg_w3 hG', sg_w4 hG', li_n, nI_add, pk_mul, nI_clamp, nI_ltI, nI_leI, nI_eq, mi_n, Nat.add_zero, true_and, and_true, true_or, or_true, false_or, or_false, not_false_eq_true, not_true_eq_false, implies_true, forall_const, ne_eq, Classical.not_not, reduceCtorEq, nor_p, cI_1n, bI_1n, cI_F, cI_T, cI_0, cI_0n, bI_0, bI_0n, cI_01, bI_01, Nat.reduceLeDiff, Nat.reduceLT, Nat.reduceEqDiff, Nat.reduceSub, Nat.reduceAdd, Nat.lt_irrefl, Nat.le_refl, false_implies, true_implies]
      refine ⟨fun h => ih (i + 1) g' (by omega) hf hV' (fun p hp hh => hP' p hp (hh.imp id (fun ⟨j, j1, j2, j3⟩ => ⟨j, by
        by_cases e : j = i
        · rw [e] at j3; exact absurd j3 h
        · omega, j2, j3⟩))), fun h => ?_⟩
      · refine mu_cVp (sp_X8_trace hS' hV' hc' hG' ⟨hA.1, by omega⟩ hst' (ab_p ha hW) hm' hap hmb.1) hL' (fun g2 h2 hX2 hS2 => ?_)
        have f2 : mu_fr (fun a => a = S + 1 ∨ a = S + 2) g' g2 := f2_fr h2.1 (fun a k q => q.1)
        refine ih (i + 1) g2 (by omega) (mu_fr_tr hf (mu_fr_mono f2 (fun a q => Or.inr q))) (sv_fr' hV' hc' f2 (fun a q => by omega)) (fun p hp hh => ?_)
        by_cases e : p = vM (shR s r (nK s)) (vC s i) 0
        · rw [e]; exact h2.2
        · intro T hTT
          have hpb : vM (shR s r (nK s)) (vC s i) 0 < 8 := by omega
          rw [h2.1.2.2.2.2.2 _ _ (by unfold trW; omega), h2.1.2.2.2.2.2 _ _ (by unfold trW; omega)]
          refine hP' p hp (hh.imp id (fun ⟨j, j1, j2, j3⟩ => ⟨j, by
            by_cases e4 : j = i
            · rw [e4] at j2
              rw [ab_vM ha (by omega) (by omega) (by omega)] at e
              exact absurd j2.symm e
            · omega, j2, j3⟩)) T hTT
  -- no two of one's meet
  have second : (∀ k, k < nK s → vM s (vC s k) 2 + r k ≤ 90) → ∀ g', mu_fr (fun a => b ≤ a ∧ a < b + 41) g g' → sc_V w E b (shR s r (nK s)) g' → ∀ k i, i + k = nK s → (∀ j, j < i → ¬ ∃ q, q < nm s ∧ q ≠ vC s j ∧ vM (shR s r (nK s)) q 0 = vM (shR s r (nK s)) (vC s j) 0 ∧ vM (shR s r (nK s)) q 2 < vM (shR s r (nK s)) (vC s j) 2 + vM (shR s r (nK s)) (vC s j) 3 ∧ vM (shR s r (nK s)) (vC s j) 2 < vM (shR s r (nK s)) q 2 + vM (shR s r (nK s)) q 3) → mu_go w mm_X6_stands (d + 6) L Q 64 [some (.ref H), some (.int (nI i)), none] [] g' := by
    intro h90 g' hf hV' k
    have hF := sc hf
    obtain ⟨uT, u0, u1, u2, u5, v1, v2, v3, v4⟩ := hT hF
    have hS' := sc_L_fr hS hF
    have hL' := mu_fr_fit hF hL
    have ha := agr r
    have hc' := ab_c ha hc
    have hm' := shR_m90 (r := r) hW hn (fun k _ => hr k) h90
    have en := ab_nm ha
    have ep := ab_np ha
    have e3 : mu_I g' H 3 = nI (nK s) := by rw [hf.2.2.2.2.2 _ (by omega)]; exact h3
    induction k with
    | zero =>
      intro i hik hj
      refine fm_X6_stands_64 ?_
      rw [show i = nK s by omega] at hj ⊢
      simp (disch := omega) only [uT, e3, li_n, nI_add, pk_mul, nI_clamp, nI_ltI, nI_leI, nI_eq, mi_n, Nat.add_zero, true_and, and_true, true_or, or_true, false_or, or_false, not_false_eq_true, not_true_eq_false, implies_true, forall_const, ne_eq, Classical.not_not, reduceCtorEq, nor_p, cI_1n, bI_1n, cI_F, cI_T, cI_0, cI_0n, bI_0, bI_0n, cI_01, bI_01, Nat.reduceLeDiff, Nat.reduceLT, Nat.reduceEqDiff, Nat.reduceSub, Nat.reduceAdd, Nat.lt_irrefl, Nat.le_refl, false_implies, true_implies]
      refine third h90 ((sh_apart hW hr).mpr hj) (nK s) 0 g' (by omega) (mu_fr_mono hf (fun a q => Or.inl q)) hV' (fun p hp hh => ?_)
      rcases hh with hh | ⟨j, j1, -⟩
      · intro T hTT
        rw [sh_PL hW hr hp hh, hf.2.2.2.2.2 _ (by omega), hf.2.2.2.2.2 _ (by omega)]
        exact htr p hp hh T hTT
      · exact absurd j1 (Nat.not_lt_zero _)
    | succ k ih =>
      intro i hik hj
      have hi : i < nK s := by omega
      have hci := ws_ch hW i (by omega)
      have eC : mu_I g' (b + 7) i = nI (vC s i) := by rw [sv_c hV' (ab_ch ha hW) (by rw [ab_nch ha]; omega), ab_vC ha (by omega)]
      have hmc : vC s i < nm (shR s r (nK s)) := by rw [en]; exact hci.2.1
      have hmb := wm_b hm' hmc
      refine fm_X6_stands_64 ?_
      simp (disch := omega) only [uT, u0, e3, eC, Nat.not_le_of_lt hi, sc_T hS', sc_R0 hS', sc_R1 hS', sc_R2 hS', sc_R3 hS', sc_R4 hS', sc_R5 hS', sc_R6 hS', sc_R7 hS', sc_R8 hS', sc_R9 hS', sc_T1 hS', sc_N1 hS', sc_RP hS', sc_T2 hS', sc_N2 hS', sc_RM hS', sc_T3 hS', sc_N3 hS', sc_T4 hS', sc_N4 hS', sc_T5 hS', sc_N5 hS', sc_T6 hS', sc_N6 hS', sc_T7 hS', sc_N7 hS', sc_T8 hS', sc_N8 hS', sc_T9 hS', sc_N9 hS', sc_T10 hS', sc_RL0 hS', sc_RL1 hS', sc_T11 hS', sc_N11 hS', sc_T12 hS', sc_N12 hS', sc_TP hS', sc_TM hS', sc_w hS', sc_wj hS', sc_wp hS', li_n, nI_add, pk_mul, nI_clamp, nI_ltI, nI_leI, nI_eq, mi_n, Nat.add_zero, true_and, and_true, true_or, or_true, false_or, or_false, not_false_eq_true, not_true_eq_false, implies_true, forall_const, ne_eq, Classical.not_not, reduceCtorEq, nor_p, cI_1n, bI_1n, cI_F, cI_T, cI_0, cI_0n, bI_0, bI_0n, cI_01, bI_01, Nat.reduceLeDiff, Nat.reduceLT, Nat.reduceEqDiff, Nat.reduceSub, Nat.reduceAdd, Nat.lt_irrefl, Nat.le_refl, false_implies, true_implies]
      refine ⟨by omega, mu_cI (sp_X4_meetsAnother hS' hV' hc' hm' (by omega) (by omega) (sv_m hV' hm' hmc (by omega)) (sv_m hV' hm' hmc (by omega)) (sv_m hV' hm' hmc (by omega)) (by omega) (by omega) (by omega)) hL' ?_⟩
      rw [en]
      simp (disch := omega) only [li_n, nI_add, pk_mul, nI_clamp, nI_ltI, nI_leI, nI_eq, mi_n, Nat.add_zero, true_and, and_true, true_or, or_true, false_or, or_false, not_false_eq_true, not_true_eq_false, implies_true, forall_const, ne_eq, Classical.not_not, reduceCtorEq, nor_p, cI_1n, bI_1n, cI_F, cI_T, cI_0, cI_0n, bI_0, bI_0n, cI_01, bI_01, Nat.reduceLeDiff, Nat.reduceLT, Nat.reduceEqDiff, Nat.reduceSub, Nat.reduceAdd, Nat.lt_irrefl, Nat.le_refl, false_implies, true_implies]
      refine ⟨fun h => ih (i + 1) (by omega) (fun j hj2 => ?_), fun h => ret hF hr hV' e3 (by rw [hf.2.2.2.2.2 _ (by omega)]; exact hbr) (fun p hp hh T hTT => by rw [hf.2.2.2.2.2 _ (by omega), hf.2.2.2.2.2 _ (by omega)]; exact htr p hp hh T hTT) (hf.2.2.2.2.2 _ (by omega)) (notOK (fun q => (sh_apart hW hr).mp q.2.1 i hi h))⟩
      by_cases e : j = i
      · rw [e]; exact h
      · exact hj j (by omega)
  -- beats are set
  have first : ∀ k i g', i + k = nK s → mu_fr (fun a => b ≤ a ∧ a < b + 41) g g' → sc_V w E b (shR s (fun j => if j < i then r j else ρ j) (nK s)) g' → (∀ j, j < i → vM s (vC s j) 2 + r j ≤ 90) → mu_go w mm_X6_stands (d + 6) L Q 2 [some (.ref H), some (.int (nI i)), none] [] g' := by
    intro k
    induction k with
    | zero =>
      intro i g' hik hf hV' hj
      have hF := sc hf
      obtain ⟨uT, u0, u1, u2, u5, v1, v2, v3, v4⟩ := hT hF
      have e3 : mu_I g' H 3 = nI (nK s) := by rw [hf.2.2.2.2.2 _ (by omega)]; exact h3
      refine fm_X6_stands_2 ?_
      rw [show i = nK s by omega] at hj hV' ⊢
      simp (disch := omega) only [uT, e3, li_n, nI_add, pk_mul, nI_clamp, nI_ltI, nI_leI, nI_eq, mi_n, Nat.add_zero, true_and, and_true, true_or, or_true, false_or, or_false, not_false_eq_true, not_true_eq_false, implies_true, forall_const, ne_eq, Classical.not_not, reduceCtorEq, nor_p, cI_1n, bI_1n, cI_F, cI_T, cI_0, cI_0n, bI_0, bI_0n, cI_01, bI_01, Nat.reduceLeDiff, Nat.reduceLT, Nat.reduceEqDiff, Nat.reduceSub, Nat.reduceAdd, Nat.lt_irrefl, Nat.le_refl, false_implies, true_implies]
      rw [shR_c (r' := r) (fun k hk => if_pos hk)] at hV'
      exact second hj g' hf hV' (nK s) 0 (by omega) (fun j hj => absurd hj (Nat.not_lt_zero _))
    | succ k ih =>
      intro i g' hik hf hV' hj
      have hi : i < nK s := by omega
      have hF := sc hf
      obtain ⟨uT, u0, u1, u2, u5, v1, v2, v3, v4⟩ := hT hF
      have hS' := sc_L_fr hS hF
      have ha := agr (fun j => if j < i then r j else ρ j)
      have hc' := ab_c ha hc
      have hrho : ∀ k, (fun j => if j < i then r j else ρ j) k ≤ 5 := fun k => by dsimp only; split; exact hr k; exact hρ k
      have hci := ws_ch hW i (by omega)
      have hmb := wm_b (ws_m hW) hci.2.1
      have hri := hr i
      have e3 : mu_I g' H 3 = nI (nK s) := by rw [hf.2.2.2.2.2 _ (by omega)]; exact h3
      have eC : mu_I g' (b + 7) i = nI (vC s i) := by rw [sv_c hV' (ab_ch ha hW) (by rw [ab_nch ha]; omega), ab_vC ha (by omega)]
      have eB : mu_I g' (H + 1) i = nI (vM s (vC s i) 2) := by rw [hf.2.2.2.2.2 _ (by omega)]; exact hbt i hi
      have eY : mu_I g' (H + 2) i = nI (r i) := by rw [hf.2.2.2.2.2 _ (by omega)]; exact hby i hi
      have hV2 := su_M (v := nI (vM s (vC s i) 2 + r i)) hV' hc' (m := vC s i) (f := 2) (by rw [ab_nm ha]; exact hci.2.1) (by omega)
      have hup := shR_upd (s := s) (r := fun j => if j < i then r j else ρ j) (n := nK s) (k := i) (x := r i) hd hi
      unfold bI' at hup
      rw [hup] at hV2
      have hre : shR s (fun j => if j = i then r i else (fun j => if j < i then r j else ρ j) j) (nK s) = shR s (fun j => if j < i + 1 then r j else ρ j) (nK s) := shR_c (fun k hk => by
        dsimp only
        by_cases e : k = i
        · rw [if_pos e, if_pos (by omega), e]
        · rw [if_neg e]
          by_cases e2 : k < i
          · rw [if_pos e2, if_pos (by omega)]
          · rw [if_neg e2, if_neg (by omega)])
      rw [hre] at hV2
      have hf2 := mu_fr_tr hf (mu_fr_sI (A := fun a => b ≤ a ∧ a < b + 41) (a := b + 21 + vC s i) (k := 2) (v := nI (vM s (vC s i) 2 + r i)) ⟨by omega, by omega⟩)
      refine fm_X6_stands_2 ?_
      simp (disch := omega) only [uT, u0, u2, u5, v1, v2, v3, v4, e3, eC, eB, eY, I_sI_same, Nat.not_le_of_lt hi, sc_T hS', sc_R0 hS', sc_R1 hS', sc_R2 hS', sc_R3 hS', sc_R4 hS', sc_R5 hS', sc_R6 hS', sc_R7 hS', sc_R8 hS', sc_R9 hS', sc_T1 hS', sc_N1 hS', sc_RP hS', sc_T2 hS', sc_N2 hS', sc_RM hS', sc_T3 hS', sc_N3 hS', sc_T4 hS', sc_N4 hS', sc_T5 hS', sc_N5 hS', sc_T6 hS', sc_N6 hS', sc_T7 hS', sc_N7 hS', sc_T8 hS', sc_N8 hS', sc_T9 hS', sc_N9 hS', sc_T10 hS', sc_RL0 hS', sc_RL1 hS', sc_T11 hS', sc_N11 hS', sc_T12 hS', sc_N12 hS', sc_TP hS', sc_TM hS', sc_w hS', sc_wj hS', sc_wp hS', li_n, nI_add, pk_mul, nI_clamp, nI_ltI, nI_leI, nI_eq, mi_n, Nat.add_zero, true_and, and_true, true_or, or_true, false_or, or_false, not_false_eq_true, not_true_eq_false, implies_true, forall_const, ne_eq, Classical.not_not, reduceCtorEq, nor_p, cI_1n, bI_1n, cI_F, cI_T, cI_0, cI_0n, bI_0, bI_0n, cI_01, bI_01, Nat.reduceLeDiff, Nat.reduceLT, Nat.reduceEqDiff, Nat.reduceSub, Nat.reduceAdd, Nat.lt_irrefl, Nat.le_refl, false_implies, true_implies]
      refine ⟨by omega, by omega, by omega, by omega, fun h => ih (i + 1) _ (by omega) hf2 hV2 (fun j hj2 => ?_), fun h => ?_⟩
      · by_cases e : j = i
        · rw [e]; exact h
        · exact hj j (by omega)
      · have hrho2 : ∀ k, (fun j => if j < i + 1 then r j else ρ j) k ≤ 5 := fun k => by dsimp only; split; exact hr k; exact hρ k
        exact ret (sc hf2) hrho2 hV2 (by rw [hf2.2.2.2.2.2 _ (by omega)]; exact h3) (by rw [hf2.2.2.2.2.2 _ (by omega)]; exact hbr) (fun p hp hh T hTT => by rw [hf2.2.2.2.2.2 _ (by omega), hf2.2.2.2.2.2 _ (by omega)]; exact htr p hp hh T hTT) (hf2.2.2.2.2.2 _ (by omega)) (notOK (fun q => h (q.1 i hi)))
  exact first (nK s) 0 g (by omega) mu_fr_rf (by rw [shR_c (r' := ρ) (fun k hk => if_neg (Nat.not_lt_zero k))]; exact hV) (fun j hj => absurd hj (Nat.not_lt_zero _))
end Cn
