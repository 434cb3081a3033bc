/-! CLIENTS: a show, in the reference -/
section Tm
variable {s : Nat → Int32} {p n m : Nat}
theorem tC_m {B : Nat} (hm : wf_m B s) (hc : wf_c s) (hp : p ≤ 8) : wf_m B (tC s p n) := fun m hm2 => by
  have hb := wc_b hc
  have hx := tC_ag (s := s) (n := n) hp hb.2.2.2.2.2.1
  rw [ax_nm hx] at hm2
  obtain ⟨h1, h2⟩ := hm m hm2
  rw [ax_np hx, ax_vM hx (by omega) (by omega), ax_vM hx (by omega) (by omega), ax_vM hx (by omega) (by omega), ax_vM hx (by omega) (by omega), ax_vM hx (by omega) (by omega), ax_vM hx (by omega) (by omega), ax_vM hx (by omega) (by omega), ax_vM hx (by omega) (by omega)]
  refine ⟨fun f hf => ?_, h2⟩
  rw [ax_vM hx (by omega) hf, tC_o' (by omega) (by omega) (by omega)]
  exact h1 f hf
theorem sTi_s (s : Nat → Int32) (q m : Nat) : sTi s q (m + 1) = sTi s q m + if vM s m 0 = q ∧ vM s m 7 = 0 then kTires (vM s m 1) else 0 := rfl
theorem sWe_s (s : Nat → Int32) (q m : Nat) : sWe s q (m + 1) = sWe s q m + if vM s m 0 = q ∧ vM s m 7 = 0 then kWears (vM s m 1) else 0 := rfl
theorem tC_cut (h : ¬ vM s m 7 = 0) : tC s p (m + 1) = tC s p m := by
  have e1 : ∀ q, sTi s q (m + 1) = sTi s q m := fun q => by rw [sTi_s, if_neg (fun z => h z.2), Nat.add_zero]
  have e2 : ∀ q, sWe s q (m + 1) = sWe s q m := fun q => by rw [sWe_s, if_neg (fun z => h z.2), Nat.add_zero]
  funext i
  unfold tC
  rw [e1, e2]
/-- all but what is p's stays -/
theorem tC_step {i : Nat} (hc : wf_c s) (h1 : i ≠ 20 + 4 * vM s m 0 + 2) (h2 : ∀ k, k < nwp s → hl s k = vM s m 0 → i ≠ 270 + 2 * k) : tC s (np s) (m + 1) i = tC s (np s) m i := by
  have hb := wc_b hc
  by_cases e1 : 20 ≤ i ∧ i < 20 + 4 * np s ∧ i % 4 = 2
  · obtain ⟨q, rfl⟩ : ∃ q, i = 20 + 4 * q + 2 := ⟨(i - 20) / 4, by omega⟩
    rw [tC_P (by omega), tC_P (by omega), sTi_s, if_neg (by omega), Nat.add_zero]
  · by_cases e2 : 270 ≤ i ∧ i < 270 + 2 * nwp s ∧ i % 2 = 0
    · obtain ⟨j, rfl⟩ : ∃ j, i = 270 + 2 * j := ⟨(i - 270) / 2, by omega⟩
      by_cases e4 : hl s j < np s
      · rw [tC_W (by omega) e4 (by omega), tC_W (by omega) e4 (by omega), sWe_s, if_neg (fun q => h2 j (by omega) q.1.symm rfl), Nat.add_zero]
      · rw [tC_W0 (by omega) (by omega), tC_W0 (by omega) (by omega)]
    · rw [tC_o e1 (fun q => e2 ⟨q.1, q.2.1, q.2.2.1⟩), tC_o e1 (fun q => e2 ⟨q.1, q.2.1, q.2.2.1⟩)]
theorem tC_st0 (hc : wf_c s) (hw : wf_w s) (hm : vM s m 0 < np s) (h7 : vM s m 7 = 0) (h : s (20 + 4 * vM s m 0 + 3) = -1) : upd (tC s (np s) m) (20 + 4 * vM s m 0 + 2) (nI (min 99 (vP s (vM s m 0) 2 + sTi s (vM s m 0) (m + 1)))) = tC s (np s) (m + 1) := by
  have hb := wc_b hc
  funext i
  by_cases e : i = 20 + 4 * vM s m 0 + 2
  · rw [e, pk_us, tC_P hm]
  · rw [pk_un e, tC_step hc e (fun k hk hh => ?_)]
    have := (hl_is hw hc hk hh hm).1
    rw [h] at this
    exact absurd this.symm (m1_n (by omega))
theorem tC_st1 {k : Nat} (hc : wf_c s) (hw : wf_w s) (hm : vM s m 0 < np s) (h7 : vM s m 7 = 0) (hk : k < nwp s) (h : s (20 + 4 * vM s m 0 + 3) = nI k) (h3 : s (270 + 2 * k + 1) = nI (vM s m 0)) : upd (upd (tC s (np s) m) (20 + 4 * vM s m 0 + 2) (nI (min 99 (vP s (vM s m 0) 2 + sTi s (vM s m 0) (m + 1))))) (270 + 2 * k) (nI (min 99 (vW s k + sWe s (vM s m 0) (m + 1)))) = tC s (np s) (m + 1) := by
  have hb := wc_b hc
  have hhl := hl_n h3 (by omega)
  funext i
  by_cases e0 : i = 270 + 2 * k
  · rw [e0, pk_us, tC_W hk (by omega) (by omega), hhl]
  · rw [pk_un e0]
    by_cases e : i = 20 + 4 * vM s m 0 + 2
    · rw [e, pk_us, tC_P hm]
    · rw [pk_un e, tC_step hc e (fun k' hk' hh => ?_)]
      have := (hl_is hw hc hk' hh hm).1
      rw [h, nI_eq (by omega) (by omega)] at this
      omega
end Tm
section Rs
variable {w : mu_O} {d y : Nat} {g : mu_H} {s : Nat → Int32} {l : Nat → Nat}
theorem sp_X11_logs {v1 v2 : Int32} (hM : md_L w y g) (hs : mu_I g (y + 1) = s) (hc : wf_c s) : mu_mp w mm_X11_logs d [.ref y, .int v1, .int v2] g (fun r g' => r = none ∧ (mu_fr (fun a => a = y + 1) g g' ∧ mu_I g' (y + 1) = lgA s (nI (nsh s)) v1 v2)) := by
  refine mu_mkp mk_X11_logs rfl (fun L hL Q hQ => fm_X11_logs_0 ?_)
  have hb := wc_b hc
  have hw1 := md_wj hM 1
  simp (disch := omega) only [mu_I_upd, pk_un, hw1, md_T0 hM, md_R0 hM, md_T1 hM, md_N1 hM, hs, wc_0 hc, wc_1 hc, wc_2 hc, wc_3 hc, wc_4 hc, wc_5 hc, wc_6 hc, wc_7 hc, wc_9 hc, li_n, nI_add, pk_mul, nI_clamp, nI_ltI, nI_leI, nI_eq, mi_n, Nat.add_zero, true_and, and_true, true_or, or_true, false_or, or_false, not_false_eq_true, not_true_eq_false, implies_true, forall_const, ne_eq, Classical.not_not, reduceCtorEq, nor_p, cI_1n, bI_1n, cI_F, cI_T, cI_0, cI_0n, bI_0, bI_0n, cI_01, bI_01, Nat.reduceLeDiff, Nat.reduceLT, Nat.reduceEqDiff, Nat.reduceSub, Nat.reduceAdd, Nat.lt_irrefl, Nat.le_refl, false_implies, true_implies]
  by_cases h30 : nlg s < 30
  · refine ⟨fun h => by omega, fun _ => ⟨by omega, by omega, by omega, ?_⟩⟩
    have f4 := mu_fr_tr (mu_fr_tr (mu_fr_tr (mu_fr_sI (A := fun a => a = y + 1) (g := g) (a := y + 1) (k := 360 + 3 * nlg s) (v := nI (nsh s)) rfl) (mu_fr_sI (a := y + 1) (k := 360 + 3 * nlg s + 1) (v := v1) rfl)) (mu_fr_sI (a := y + 1) (k := 360 + 3 * nlg s + 2) (v := v2) rfl)) (mu_fr_sI (a := y + 1) (k := 7) (v := nI (nlg s + 1)) rfl)
    refine hQ _ _ ⟨rfl, f4, ?_⟩ rfl rfl
    unfold lgA
    rw [if_pos h30, mu_I_upd, mu_I_upd, mu_I_upd, mu_I_upd, hs]
  · refine ⟨fun _ => hQ _ _ ⟨rfl, mu_fr_rf, ?_⟩ rfl rfl, fun h => by omega⟩
    unfold lgA
    rw [if_neg h30]
    exact hs
set_option maxHeartbeats 1000000 in
theorem sp_X11_tire (hM : md_L w y g) (hs : mu_I g (y + 1) = s) (hc : wf_c s) (hK : md_K y g) (hp : wf_p s) (hm : wf_m 90 s) (hw : wf_w s) : mu_mp w mm_X11_tire (d + 2) [.ref y] g (fun r g' => r = none ∧ (mu_fr (fun a => a = y + 1) g g' ∧ mu_I g' (y + 1) = tC s (np s) (nm s))) := by
  refine mu_mkp mk_X11_tire rfl (fun L hL Q hQ => fm_X11_tire_0 ?_)
  have hb := wc_b hc
  have hw1 := md_wj hM 1
  refine lp (n := nm s) (P := fun m => ∀ g', mu_fr (fun a => a = y + 1) g g' → mu_I g' (y + 1) = tC s (np s) m → mu_go w mm_X11_tire (d + 2) L Q 2 [some (.ref y), some (.int (nI m)), none, none, none] [] g') (fun g' hf hs' => fm_X11_tire_2 ?_) (fun m hi ih g' hf hs' => fm_X11_tire_2 ?_) g mu_fr_rf (by rw [tC_n0 hp hw hc]; exact hs)
  · have hM' := md_L_fr hM hf
    have hc' := tC_c (n := nm s) hc (show np s ≤ 8 by omega)
    have en := ax_nm (tC_ag (s := s) (n := nm s) (show np s ≤ 8 by omega) hb.2.2.2.2.2.1)
    simp (disch := omega) only [md_T0 hM', md_R0 hM', md_T1 hM', md_N1 hM', hs', wc_1 hc', en, li_n, nI_add, pk_mul, nI_clamp, nI_ltI, nI_leI, nI_eq, mi_n, Nat.add_zero, true_and, and_true, true_or, or_true, false_or, or_false, not_false_eq_true, not_true_eq_false, implies_true, forall_const, ne_eq, Classical.not_not, reduceCtorEq, nor_p, cI_1n, bI_1n, cI_F, cI_T, cI_0, cI_0n, bI_0, bI_0n, cI_01, bI_01, Nat.reduceLeDiff, Nat.reduceLT, Nat.reduceEqDiff, Nat.reduceSub, Nat.reduceAdd, Nat.lt_irrefl, Nat.le_refl, false_implies, true_implies]
    exact hQ _ _ ⟨rfl, hf, hs'⟩ hf.2.2.2.1 hf.2.2.2.2.1
  · have hM' := md_L_fr hM hf
    have hL' := mu_fr_fit hf hL
    have hc' := tC_c (n := m) hc (show np s ≤ 8 by omega)
    have hx := tC_ag (s := s) (n := m) (show np s ≤ 8 by omega) hb.2.2.2.2.2.1
    have hm' := tC_m (n := m) hm hc (show np s ≤ 8 by omega)
    have en := ax_nm hx
    have hi' : m < nm (tC s (np s) m) := by rw [en]; exact hi
    have hmb := wm_b hm hi
    have hpb := wp_b hp hmb.1
    have kt : kTires (vM s m 1) ≤ 3 := by unfold kTires; split <;> omega
    have kw : kWears (vM s m 1) ≤ 3 := by unfold kWears; split <;> omega
    have l1 := sTi_le s (vM s m 0) m
    have l2 := sWe_le s (vM s m 0) m
    have hK' : md_K y g' := md_K_c hK (fun k q1 q2 => hf.2.2.2.2.2 _ (by omega))
    simp (disch := omega) only [md_T0 hM', md_R0 hM', md_T1 hM', md_N1 hM', hs', wc_1 hc', en, Nat.not_le_of_lt hi, li_n, nI_add, pk_mul, nI_clamp, nI_ltI, nI_leI, nI_eq, mi_n, Nat.add_zero, true_and, and_true, true_or, or_true, false_or, or_false, not_false_eq_true, not_true_eq_false, implies_true, forall_const, ne_eq, Classical.not_not, reduceCtorEq, nor_p, cI_1n, bI_1n, cI_F, cI_T, cI_0, cI_0n, bI_0, bI_0n, cI_01, bI_01, Nat.reduceLeDiff, Nat.reduceLT, Nat.reduceEqDiff, Nat.reduceSub, Nat.reduceAdd, Nat.lt_irrefl, Nat.le_refl, false_implies, true_implies]
    refine mu_cI (sp_X11_fieldN (f := 7) hM' hs' hc' hm' hi' (by omega)) hL' ?_
    rw [ax_vM hx (by omega) (by omega)]
    simp (disch := omega) only [md_T0 hM', li_n, nI_add, pk_mul, nI_clamp, nI_ltI, nI_leI, nI_eq, mi_n, Nat.add_zero, true_and, and_true, true_or, or_true, false_or, or_false, not_false_eq_true, not_true_eq_false, implies_true, forall_const, ne_eq, Classical.not_not, reduceCtorEq, nor_p, cI_1n, bI_1n, cI_F, cI_T, cI_0, cI_0n, bI_0, bI_0n, cI_01, bI_01, Nat.reduceLeDiff, Nat.reduceLT, Nat.reduceEqDiff, Nat.reduceSub, Nat.reduceAdd, Nat.lt_irrefl, Nat.le_refl, false_implies, true_implies]
    refine ⟨fun h => ih g' hf (by rw [tC_cut h]; exact hs'), fun h => mu_cI (sp_X11_fieldN (f := 0) hM' hs' hc' hm' hi' (by omega)) hL' ⟨md_T0 hM', mu_cI sp_X11_personAt hL' ⟨md_T0 hM', mu_cI (sp_X11_fieldN (f := 1) hM' hs' hc' hm' hi' (by omega)) hL' ?_⟩⟩⟩
    rw [ax_vM hx (by omega) (by omega), ax_vM hx (by omega) (by omega)]
    have eP : tC s (np s) m (20 + 4 * vM s m 0 + 2) = nI (min 99 (vP s (vM s m 0) 2 + sTi s (vM s m 0) m)) := tC_P hmb.1
    have eW : tC s (np s) m (20 + 4 * vM s m 0 + 3) = s (20 + 4 * vM s m 0 + 3) := tC_o' (by omega) (by omega) (by omega)
    simp (disch := omega) only [md_T0 hM', md_R0 hM', md_T1 hM', md_N1 hM', md_R13 hM', md_T13 hM', md_N13 hM', hs', hw1, eP, (hK' (vM s m 1) (by omega)).2.2.1, li_n, nI_add, pk_mul, nI_clamp, nI_ltI, nI_leI, nI_eq, mi_n, Nat.add_zero, true_and, and_true, true_or, or_true, false_or, or_false, not_false_eq_true, not_true_eq_false, implies_true, forall_const, ne_eq, Classical.not_not, reduceCtorEq, nor_p, cI_1n, bI_1n, cI_F, cI_T, cI_0, cI_0n, bI_0, bI_0n, cI_01, bI_01, Nat.reduceLeDiff, Nat.reduceLT, Nat.reduceEqDiff, Nat.reduceSub, Nat.reduceAdd, Nat.lt_irrefl, Nat.le_refl, false_implies, true_implies]
    refine ⟨by omega, by omega, mu_cI sp_X11_least hL' ?_⟩
    rw [min_n (by omega) (by omega), show min 99 (min 99 (vP s (vM s m 0) 2 + sTi s (vM s m 0) m) + kTires (vM s m 1)) = min 99 (vP s (vM s m 0) 2 + sTi s (vM s m 0) (m + 1)) by rw [sTi_s, if_pos ⟨rfl, h⟩]; omega]
    have hf2 : mu_fr (fun a => a = y + 1) g (mu_sI g' (y + 1) (20 + 4 * vM s m 0 + 2) (nI (min 99 (vP s (vM s m 0) 2 + sTi s (vM s m 0) (m + 1))))) := mu_fr_tr hf (mu_fr_sI rfl)
    have hs2 : mu_I (mu_sI g' (y + 1) (20 + 4 * vM s m 0 + 2) (nI (min 99 (vP s (vM s m 0) 2 + sTi s (vM s m 0) (m + 1))))) (y + 1) = upd (tC s (np s) m) (20 + 4 * vM s m 0 + 2) (nI (min 99 (vP s (vM s m 0) 2 + sTi s (vM s m 0) (m + 1)))) := by rw [mu_I_upd, hs']
    have hL2 := mu_fr_fit hf2 hL
    have hM2 := md_L_fr hM hf2
    have hK2 : md_K y (mu_sI g' (y + 1) (20 + 4 * vM s m 0 + 2) (nI (min 99 (vP s (vM s m 0) 2 + sTi s (vM s m 0) (m + 1))))) := md_K_c hK (fun k q1 q2 => hf2.2.2.2.2.2 _ (by omega))
    have eW2 : upd (tC s (np s) m) (20 + 4 * vM s m 0 + 2) (nI (min 99 (vP s (vM s m 0) 2 + sTi s (vM s m 0) (m + 1)))) (20 + 4 * vM s m 0 + 3) = s (20 + 4 * vM s m 0 + 3) := by rw [pk_un (by omega)]; exact eW
    simp (disch := omega) only [md_T0 hM', md_R0 hM', md_T1 hM', md_N1 hM', hs2, hw1, eW2, li_n, nI_add, pk_mul, nI_clamp, nI_ltI, nI_leI, nI_eq, mi_n, Nat.add_zero, true_and, and_true, true_or, or_true, false_or, or_false, not_false_eq_true, not_true_eq_false, implies_true, forall_const, ne_eq, Classical.not_not, reduceCtorEq, nor_p, cI_1n, bI_1n, cI_F, cI_T, cI_0, cI_0n, bI_0, bI_0n, cI_01, bI_01, Nat.reduceLeDiff, Nat.reduceLT, Nat.reduceEqDiff, Nat.reduceSub, Nat.reduceAdd, Nat.lt_irrefl, Nat.le_refl, false_implies, true_implies]
    refine ⟨by omega, by omega, ?_⟩
    rcases hw.2 (vM s m 0) hmb.1 with h2 | ⟨k, k1, k2, k3⟩
    · refine ⟨fun _ => ih _ hf2 ?_, fun q => absurd (by rw [h2]; decide) q⟩
      rw [hs2]
      exact tC_st0 hc hw hmb.1 h h2
    · rw [k2]
      have hpos : ¬ nI k < nI 0 := by rw [nI_ltI (by omega) (by omega)]; omega
      refine ⟨fun q => absurd q hpos, fun _ => ⟨by omega, mu_cI sp_X11_weaponAt hL2 ?_⟩⟩
      have hwk := (hw.1 k k1).2.1
      have hhl := hl_n k3 (by omega)
      have eWk : upd (tC s (np s) m) (20 + 4 * vM s m 0 + 2) (nI (min 99 (vP s (vM s m 0) 2 + sTi s (vM s m 0) (m + 1)))) (270 + 2 * k) = nI (min 99 (vW s k + sWe s (vM s m 0) m)) := by rw [pk_un (by omega), tC_W k1 (by omega) (by omega), hhl]
      simp (disch := omega) only [md_T0 hM2, md_R0 hM2, md_T1 hM2, md_N1 hM2, md_R14 hM2, md_T14 hM2, md_N14 hM2, hs2, hw1, eWk, (hK2 (vM s m 1) (by omega)).2.2.2, li_n, nI_add, pk_mul, nI_clamp, nI_ltI, nI_leI, nI_eq, mi_n, Nat.add_zero, true_and, and_true, true_or, or_true, false_or, or_false, not_false_eq_true, not_true_eq_false, implies_true, forall_const, ne_eq, Classical.not_not, reduceCtorEq, nor_p, cI_1n, bI_1n, cI_F, cI_T, cI_0, cI_0n, bI_0, bI_0n, cI_01, bI_01, Nat.reduceLeDiff, Nat.reduceLT, Nat.reduceEqDiff, Nat.reduceSub, Nat.reduceAdd, Nat.lt_irrefl, Nat.le_refl, false_implies, true_implies]
      refine ⟨by omega, by omega, mu_cI sp_X11_least hL2 ?_⟩
      rw [min_n (by omega) (by omega), show min 99 (min 99 (vW s k + sWe s (vM s m 0) m) + kWears (vM s m 1)) = min 99 (vW s k + sWe s (vM s m 0) (m + 1)) by rw [sWe_s, if_pos ⟨rfl, h⟩]; omega]
      simp (disch := omega) only [md_T0 hM2, md_R0 hM2, md_T1 hM2, md_N1 hM2, hw1, li_n, nI_add, pk_mul, nI_clamp, nI_ltI, nI_leI, nI_eq, mi_n, Nat.add_zero, true_and, and_true, true_or, or_true, false_or, or_false, not_false_eq_true, not_true_eq_false, implies_true, forall_const, ne_eq, Classical.not_not, reduceCtorEq, nor_p, cI_1n, bI_1n, cI_F, cI_T, cI_0, cI_0n, bI_0, bI_0n, cI_01, bI_01, Nat.reduceLeDiff, Nat.reduceLT, Nat.reduceEqDiff, Nat.reduceSub, Nat.reduceAdd, Nat.lt_irrefl, Nat.le_refl, false_implies, true_implies]
      refine ⟨by omega, ih _ (mu_fr_tr hf2 (mu_fr_sI rfl)) ?_⟩
      rw [mu_I_upd, hs2]
      exact tC_st1 hc hw hmb.1 h k1 k2 k3
end Rs
