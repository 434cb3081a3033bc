/-! MATH: tired ones and worn weapons -/
section Tc
variable {s : Nat → Int32} {p n : Nat}
theorem tC_o {i : Nat} (h1 : ¬ (20 ≤ i ∧ i < 20 + 4 * p ∧ i % 4 = 2)) (h2 : ¬ (270 ≤ i ∧ i < 270 + 2 * nwp s ∧ i % 2 = 0 ∧ hl s ((i - 270) / 2) < p)) : tC s p n i = s i := by
  unfold tC
  rw [if_neg h1, if_neg h2]
theorem tC_o' {i : Nat} (h1 : i < 20 ∨ 282 ≤ i ∨ (52 ≤ i ∧ i < 270) ∨ (270 ≤ i ∧ i % 2 = 1) ∨ (20 ≤ i ∧ i < 52 ∧ i % 4 ≠ 2)) (hp : p ≤ 8) (hw : nwp s ≤ 6) : tC s p n i = s i := by
  exact tC_o (by omega) (by omega)
theorem tC_P {q : Nat} (h : q < p) : tC s p n (20 + 4 * q + 2) = nI (min 99 (vP s q 2 + sTi s q n)) := by
  unfold tC
  rw [if_pos (by omega), show (20 + 4 * q + 2 - 20) / 4 = q by omega]
theorem tC_P0 {q : Nat} (h : p ≤ q) (hq : q < 8) : tC s p n (20 + 4 * q + 2) = s (20 + 4 * q + 2) := tC_o (by omega) (by omega)
theorem tC_W {k : Nat} (hk : k < nwp s) (h : hl s k < p) (hp : p ≤ 8) : tC s p n (270 + 2 * k) = nI (min 99 (vW s k + sWe s (hl s k) n)) := by
  unfold tC
  rw [if_neg (by omega), if_pos ⟨by omega, by omega, by omega, by rw [show (270 + 2 * k - 270) / 2 = k by omega]; exact h⟩, show (270 + 2 * k - 270) / 2 = k by omega]
theorem tC_W0 {k : Nat} (h : ¬ (k < nwp s ∧ hl s k < p)) (hp : p ≤ 8) : tC s p n (270 + 2 * k) = s (270 + 2 * k) := tC_o (by omega) (fun q => h ⟨by omega, by have := q.2.2.2; rw [show (270 + 2 * k - 270) / 2 = k by omega] at this; exact this⟩)
theorem tC_ag (hp : p ≤ 8) (hw : nwp s ≤ 6) : agX s (tC s p n) := fun i h6 h7 h8 h2 h27 h36 => tC_o (by omega) (by omega)
theorem tC_nsh (hp : p ≤ 8) (hw : nwp s ≤ 6) : nsh (tC s p n) = nsh s := by unfold nsh; rw [tC_o' (by omega) hp hw]
theorem tC_nlg (hp : p ≤ 8) (hw : nwp s ≤ 6) : nlg (tC s p n) = nlg s := by unfold nlg; rw [tC_o' (by omega) hp hw]
theorem tC_c (h : wf_c s) (hp : p ≤ 8) : wf_c (tC s p n) := by
  have hw := (wc_b h).2.2.2.2.2.1
  have hx := tC_ag (n := n) hp hw
  obtain ⟨a0, a1, a2, a3, a4, a5, a6, a7, a9⟩ := h
  refine ⟨?_, ?_, ?_, ?_, ?_, ?_, ?_, ?_, ?_⟩
  · rw [ax_np hx, tC_o' (by omega) hp hw]; exact a0
  · rw [ax_nm hx, tC_o' (by omega) hp hw]; exact a1
  · rw [ax_nsg hx, tC_o' (by omega) hp hw]; exact a2
  · rw [ax_ntx hx, tC_o' (by omega) hp hw]; exact a3
  · rw [ax_nch hx, tC_o' (by omega) hp hw]; exact a4
  · rw [ax_nwp hx, tC_o' (by omega) hp hw]; exact a5
  · rw [tC_nsh hp hw, tC_o' (by omega) hp hw]; exact a6
  · rw [tC_nlg hp hw, tC_o' (by omega) hp hw]; exact a7
  · rw [ax_nwt hx, tC_o' (by omega) hp hw]; exact a9
theorem tC_p (h : wf_p s) (hc : wf_c s) (hp : p ≤ 8) (hn : n ≤ 20) : wf_p (tC s p n) := fun q hq => by
  have hb := wc_b hc
  have hx := tC_ag (s := s) (n := n) hp hb.2.2.2.2.2.1
  rw [ax_np hx] at hq
  obtain ⟨h1, h2, h3, h4, h5⟩ := h q hq
  have e2 : tC s p n (20 + 4 * q + 2) = nI (vP (tC s p n) q 2) ∧ vP (tC s p n) q 2 ≤ 99 := by
    unfold vP
    by_cases e : q < p
    · rw [tC_P e, nI_clamp (by omega)]; exact ⟨rfl, by omega⟩
    · rw [tC_P0 (by omega) (by omega)]; exact ⟨h1 2 (by omega), h5⟩
  rw [ax_vP hx (by omega) (by omega) (by omega), ax_vP hx (by omega) (by omega) (by omega)]
  refine ⟨fun f hf => ?_, h2, h3, h4, e2.2⟩
  rcases (show f = 0 ∨ f = 1 ∨ f = 2 by omega) with rfl | rfl | rfl
  · rw [ax_vP hx (by omega) (by omega) (by omega), tC_o' (by omega) hp (by omega)]; exact h1 0 (by omega)
  · rw [ax_vP hx (by omega) (by omega) (by omega), tC_o' (by omega) hp (by omega)]; exact h1 1 (by omega)
  · exact e2.1
theorem tC_w (h : wf_w s) (hc : wf_c s) (hp : p ≤ 8) (hn : n ≤ 20) : wf_w (tC s p n) := by
  have hb := wc_b hc
  have hx := tC_ag (s := s) (n := n) hp hb.2.2.2.2.2.1
  refine ⟨fun k hk => ?_, fun q hq => ?_⟩
  · rw [ax_nwp hx] at hk
    obtain ⟨r1, r2, r3⟩ := h.1 k hk
    have e : tC s p n (270 + 2 * k) = nI (vW (tC s p n) k) ∧ vW (tC s p n) k ≤ 99 := by
      unfold vW
      by_cases e : hl s k < p
      · rw [tC_W hk e hp, nI_clamp (by omega)]; exact ⟨rfl, by omega⟩
      · rw [tC_W0 (by omega) hp]; exact ⟨r1, r2⟩
    refine ⟨e.1, e.2, ?_⟩
    rw [tC_o' (by omega) hp (by omega), ax_np hx]
    refine r3.imp id (fun ⟨q, q1, q2, q3⟩ => ⟨q, q1, q2, ?_⟩)
    rw [tC_o' (by omega) hp (by omega)]; exact q3
  · rw [ax_np hx] at hq
    rw [tC_o' (by omega) hp (by omega), ax_nwp hx]
    refine (h.2 q hq).imp id (fun ⟨k, q1, q2, q3⟩ => ⟨k, q1, q2, ?_⟩)
    rw [tC_o' (by omega) hp (by omega)]; exact q3
theorem sTi_c {c : Nat → Int32} (h : agX s c) (hn : n ≤ 20) : sTi c p n = sTi s p n := sumN_c (fun i hi => by rw [ax_vM h (by omega) (by omega), ax_vM h (by omega) (by omega), ax_vM h (by omega) (by omega)])
theorem sWe_c {c : Nat → Int32} (h : agX s c) (hn : n ≤ 20) : sWe c p n = sWe s p n := sumN_c (fun i hi => by rw [ax_vM h (by omega) (by omega), ax_vM h (by omega) (by omega), ax_vM h (by omega) (by omega)])
theorem hl_n {k q : Nat} (h : s (270 + 2 * k + 1) = nI q) (hq : q < 8) : hl s k = q := by
  unfold hl
  rw [h, if_neg (m1_n (by omega)), nI_clamp (by omega)]
theorem hl_is (hw : wf_w s) (hc : wf_c s) {k q : Nat} (hk : k < nwp s) (h : hl s k = q) (hq : q < np s) : s (20 + 4 * q + 3) = nI k ∧ s (270 + 2 * k + 1) = nI q := by
  have hb := wc_b hc
  rcases (hw.1 k hk).2.2 with e | ⟨q', q1, q2, q3⟩
  · unfold hl at h
    rw [if_pos e] at h
    omega
  · rw [hl_n q2 (by omega)] at h
    rw [← h]
    exact ⟨q3, q2⟩
theorem tw_tC (hw : wf_w s) (hc : wf_c s) (hp : p < np s) : tw (tC s p (nm s)) p = tC s (p + 1) (nm s) := by
  have hb := wc_b hc
  have hx := tC_ag (s := s) (n := nm s) (show p ≤ 8 by omega) hb.2.2.2.2.2.1
  have e3 : tC s p (nm s) (20 + 4 * p + 3) = s (20 + 4 * p + 3) := tC_o' (by omega) (by omega) (by omega)
  have ev : vP (tC s p (nm s)) p 2 = vP s p 2 := by unfold vP; rw [tC_P0 (Nat.le_refl _) (by omega)]
  unfold tw
  rw [e3, ev, ax_nm hx, sTi_c hx (by omega), sWe_c hx (by omega)]
  rcases hw.2 p hp with h2 | ⟨k, k1, k2, k3⟩
  · rw [if_pos h2]
    funext i
    by_cases e : i = 20 + 4 * p + 2
    · rw [e, pk_us, tC_P (by omega)]
    · rw [pk_un e]
      by_cases e2 : 270 ≤ i ∧ i < 270 + 2 * nwp s ∧ i % 2 = 0
      · obtain ⟨j, rfl⟩ : ∃ j, i = 270 + 2 * j := ⟨(i - 270) / 2, by omega⟩
        by_cases e4 : hl s j < p
        · rw [tC_W (by omega) e4 (by omega), tC_W (by omega) (by omega) (by omega)]
        · have : ¬ hl s j = p := fun q => by
            have := (hl_is hw hc (by omega) q hp).1
            rw [h2] at this
            exact m1_n (by omega) this.symm
          rw [tC_W0 (by omega) (by omega), tC_W0 (by omega) (by omega)]
      · unfold tC
        rw [if_neg (c := 270 ≤ i ∧ _) (fun q => e2 ⟨q.1, q.2.1, q.2.2.1⟩), if_neg (c := 270 ≤ i ∧ _) (fun q => e2 ⟨q.1, q.2.1, q.2.2.1⟩)]
        by_cases e5 : 20 ≤ i ∧ i < 20 + 4 * p ∧ i % 4 = 2
        · rw [if_pos e5, if_pos (by omega)]
        · rw [if_neg e5, if_neg (by omega)]
  · have hk := hl_n k3 (by omega)
    have evk : vW (tC s p (nm s)) k = vW s k := by unfold vW; rw [tC_W0 (by omega) (by omega)]
    rw [k2, if_neg (m1_n (by omega)), nI_clamp (by omega), evk]
    funext i
    by_cases e0 : i = 270 + 2 * k
    · rw [e0, pk_us, tC_W k1 (by omega) (by omega), hk]
    · rw [pk_un e0]
      by_cases e : i = 20 + 4 * p + 2
      · rw [e, pk_us, tC_P (by omega)]
      · rw [pk_un e]
        by_cases e2 : 270 ≤ i ∧ i < 270 + 2 * nwp s ∧ i % 2 = 0
        · obtain ⟨j, rfl⟩ : ∃ j, i = 270 + 2 * j := ⟨(i - 270) / 2, by omega⟩
          by_cases e4 : hl s j < p
          · rw [tC_W (by omega) e4 (by omega), tC_W (by omega) (by omega) (by omega)]
          · have : ¬ hl s j = p := fun q => by
              have := (hl_is hw hc (by omega) q hp).1
              rw [k2, nI_eq (by omega) (by omega)] at this
              omega
            rw [tC_W0 (by omega) (by omega), tC_W0 (by omega) (by omega)]
        · unfold tC
          rw [if_neg (c := 270 ≤ i ∧ _) (fun q => e2 ⟨q.1, q.2.1, q.2.2.1⟩), if_neg (c := 270 ≤ i ∧ _) (fun q => e2 ⟨q.1, q.2.1, q.2.2.1⟩)]
          by_cases e5 : 20 ≤ i ∧ i < 20 + 4 * p ∧ i % 4 = 2
          · rw [if_pos e5, if_pos (by omega)]
          · rw [if_neg e5, if_neg (by omega)]
theorem tC_0 : tC s 0 n = s := funext fun i => tC_o (by omega) (by omega)
theorem tC_n0 (hp : wf_p s) (hw : wf_w s) (hc : wf_c s) : tC s (np s) 0 = s := by
  have hb := wc_b hc
  funext i
  by_cases e1 : 20 ≤ i ∧ i < 20 + 4 * np s ∧ i % 4 = 2
  · obtain ⟨q, rfl⟩ : ∃ q, i = 20 + 4 * q + 2 := ⟨(i - 20) / 4, by omega⟩
    have h1 := hp q (by omega)
    rw [tC_P (by omega)]
    unfold sTi sumN
    rw [Nat.add_zero, Nat.min_eq_right h1.2.2.2.2]
    exact (h1.1 2 (by omega)).symm
  · by_cases e2 : 270 ≤ i ∧ i < 270 + 2 * nwp s ∧ i % 2 = 0
    · obtain ⟨j, rfl⟩ : ∃ j, i = 270 + 2 * j := ⟨(i - 270) / 2, by omega⟩
      have h1 := hw.1 j (by omega)
      by_cases e4 : hl s j < np s
      · rw [tC_W (by omega) e4 (by omega)]
        unfold sWe sumN
        rw [Nat.add_zero, Nat.min_eq_right h1.2.1]
        exact h1.1.symm
      · rw [tC_W0 (by omega) (by omega)]
    · exact tC_o e1 (fun q => e2 ⟨q.1, q.2.1, q.2.2.1⟩)
end Tc
section Cx
variable {w : mu_O} {d b S E : Nat} {g : mu_H} {s : Nat → Int32}
theorem sp_X4_endShow (hS : sc_L w b g) (hV : sc_V w E b s g) (hc : wf_c s) (hst : st_L w g) (hp : wf_p s) (hm : wf_m 90 s) (hw : wf_w s) :
    mu_mp w mm_X4_endShow (d + 2) [.ref b] g (fun r g' => r = none ∧ (mu_fr (fun a => b ≤ a ∧ a < b + 41) g g' ∧ sc_V w E b (upd (tC s (np s) (nm s)) 6 (nI (nsh s + 1))) g')) := by
  refine mu_mkp mk_X4_endShow rfl (fun L hL Q hQ => fm_X4_endShow_0 ?_)
  have hb := wc_b hc
  have hwb := sc_w hS
  refine lp (n := np s) (P := fun i => ∀ g', mu_fr (fun a => b ≤ a ∧ a < b + 41) g g' → sc_V w E b (tC s i (nm s)) g' → mu_go w mm_X4_endShow (d + 2) L Q 2 [some (.ref b), some (.int (nI i))] [] g') (fun g' hf hV' => fm_X4_endShow_2 ?_) (fun i hi ih g' hf hV' => fm_X4_endShow_2 ?_) g mu_fr_rf (by rw [tC_0]; exact hV)
  · have hS' := sc_L_fr hS hf
    have hc' := tC_c (n := nm s) hc (show np s ≤ 8 by omega)
    have e0 := ax_np (tC_ag (s := s) (n := nm s) (show np s ≤ 8 by omega) hb.2.2.2.2.2.1)
    have e6 := tC_nsh (s := s) (n := nm s) (show np s ≤ 8 by omega) hb.2.2.2.2.2.1
    simp (disch := omega) only [sc_T hS', sc_R0 hS', sc_R1 hS', sc_R2 hS', sc_R3 hS', sc_R4 hS', sc_R5 hS', sc_R6 hS', sc_R7 hS', sc_R8 hS', sc_R9 hS', sc_T1 hS', sc_N1 hS', sc_RP hS', sc_T2 hS', sc_N2 hS', sc_RM hS', sc_T3 hS', sc_N3 hS', sc_T4 hS', sc_N4 hS', sc_T5 hS', sc_N5 hS', sc_T6 hS', sc_N6 hS', sc_T7 hS', sc_N7 hS', sc_T8 hS', sc_N8 hS', sc_T9 hS', sc_N9 hS', sc_T10 hS', sc_RL0 hS', sc_RL1 hS', sc_T11 hS', sc_N11 hS', sc_T12 hS', sc_N12 hS', sc_TP hS', sc_TM hS', sc_w hS', sc_wj hS', sc_wp hS', sv_0 hV' hc', sv_1 hV' hc', sv_2 hV' hc', sv_3 hV' hc', sv_4 hV' hc', sv_5 hV' hc', sv_6 hV' hc', sv_7 hV' hc', sv_9 hV' hc', sv_8 hV', e0, e6, li_n, nI_add, pk_mul, nI_clamp, nI_ltI, nI_leI, nI_eq, mi_n, Nat.add_zero, true_and, and_true, true_or, or_true, false_or, or_false, not_false_eq_true, not_true_eq_false, implies_true, forall_const, ne_eq, Classical.not_not, reduceCtorEq, nor_p, cI_1n, bI_1n, cI_F, cI_T, cI_0, cI_0n, bI_0, bI_0n, cI_01, bI_01, Nat.reduceLeDiff, Nat.reduceLT, Nat.reduceEqDiff, Nat.reduceSub, Nat.reduceAdd, Nat.lt_irrefl, Nat.le_refl, false_implies, true_implies]
    have hV2 := su_6 (v := nI (nsh s + 1)) hV' hc'
    have f2 := mu_fr_tr hf (mu_fr_sI (A := fun a => b ≤ a ∧ a < b + 41) (a := b) (k := 17) (v := nI (nsh s + 1)) ⟨by omega, by omega⟩)
    exact hQ _ _ ⟨rfl, f2, hV2⟩ f2.2.2.2.1 f2.2.2.2.2.1
  · have hS' := sc_L_fr hS hf
    have hc' := tC_c (n := nm s) hc (show i ≤ 8 by omega)
    have hx := tC_ag (s := s) (n := nm s) (show i ≤ 8 by omega) hb.2.2.2.2.2.1
    have hst' := st_fr hst hf (fun a q => by omega)
    have e0 := ax_np hx
    simp (disch := omega) only [sc_T hS', sc_R0 hS', sc_R1 hS', sc_R2 hS', sc_R3 hS', sc_R4 hS', sc_R5 hS', sc_R6 hS', sc_R7 hS', sc_R8 hS', sc_R9 hS', sc_T1 hS', sc_N1 hS', sc_RP hS', sc_T2 hS', sc_N2 hS', sc_RM hS', sc_T3 hS', sc_N3 hS', sc_T4 hS', sc_N4 hS', sc_T5 hS', sc_N5 hS', sc_T6 hS', sc_N6 hS', sc_T7 hS', sc_N7 hS', sc_T8 hS', sc_N8 hS', sc_T9 hS', sc_N9 hS', sc_T10 hS', sc_RL0 hS', sc_RL1 hS', sc_T11 hS', sc_N11 hS', sc_T12 hS', sc_N12 hS', sc_TP hS', sc_TM hS', sc_w hS', sc_wj hS', sc_wp hS', sv_0 hV' hc', sv_1 hV' hc', sv_2 hV' hc', sv_3 hV' hc', sv_4 hV' hc', sv_5 hV' hc', sv_6 hV' hc', sv_7 hV' hc', sv_9 hV' hc', sv_8 hV', e0, Nat.not_le_of_lt hi, li_n, nI_add, pk_mul, nI_clamp, nI_ltI, nI_leI, nI_eq, mi_n, Nat.add_zero, true_and, and_true, true_or, or_true, false_or, or_false, not_false_eq_true, not_true_eq_false, implies_true, forall_const, ne_eq, Classical.not_not, reduceCtorEq, nor_p, cI_1n, bI_1n, cI_F, cI_T, cI_0, cI_0n, bI_0, bI_0n, cI_01, bI_01, Nat.reduceLeDiff, Nat.reduceLT, Nat.reduceEqDiff, Nat.reduceSub, Nat.reduceAdd, Nat.lt_irrefl, Nat.le_refl, false_implies, true_implies]
    have hm' : wf_m 90 (tC s i (nm s)) := fun m hm2 => by
      rw [ax_nm hx] at hm2
      obtain ⟨h1, h2⟩ := hm m hm2
      rw [ax_np hx, ax_vM hx (by omega) (by omega), ax_vM hx (by omega) (by omega), ax_vM hx (by omega) (by omega), ax_vM hx (by omega) (by omega), ax_vM hx (by omega) (by omega), ax_vM hx (by omega) (by omega), ax_vM hx (by omega) (by omega), ax_vM hx (by omega) (by omega)]
      refine ⟨fun f hf => ?_, h2⟩
      rw [ax_vM hx (by omega) hf, tC_o' (by omega) (by omega) (by omega)]
      exact h1 f hf
    refine mu_cVp (sp_X4_tireAndWear hS' hV' hc' hst' (tC_p hp hc (by omega) (by omega)) hm' (tC_w hw hc (by omega) (by omega)) (by rw [e0]; exact hi)) (mu_fr_fit hf hL) (fun g2 h2 hX2 hS2 => ih g2 (mu_fr_tr hf h2.1) ?_)
    rw [← tw_tC hw hc hi]
    exact h2.2
end Cx
