/-! CLIENTS: asked of a blow: both public calls -/
noncomputable def gapN (s : Nat → Int32) (m q : Nat) : Int32 := nI (gpV s m q ((vM s m 2 : Int) - lateN s q) (vM s m 3 + lateN s q + lateN s (vM s m 0))) - nI (kReach (vM s m 1))
noncomputable def pGap (s : Nat → Int32) (v u : Int32) : Int32 × (Nat → Int32) := (cif ((0 ≤ v.toInt ∧ v.toInt < (nm s : Int)) ∧ 0 ≤ u.toInt ∧ u.toInt < (np s : Int)) (cif (mBl s v.toNatClampNeg) (cif (vM s v.toNatClampNeg 0 = u.toNatClampNeg) (-1000000002) (gapN s v.toNatClampNeg u.toNatClampNeg)) (-1000000012)) (-1000000001), s)
section Qb
variable {w : mu_O} {d x y E : Nat} {g g1 g2 : mu_H} {s : Nat → Int32}
theorem pbl3 (s : Nat → Int32) (v : Int32) : (∃ k, k < nm s ∧ v = nI k ∧ k < 2 ^ 31 ∧ mBl s k) ∨ (∃ k, k < nm s ∧ v = nI k ∧ k < 2 ^ 31 ∧ ¬ mBl s k) ∨ ¬ (0 ≤ v.toInt ∧ v.toInt < (nm s : Int)) := by
  by_cases h : 0 ≤ v.toInt ∧ v.toInt < (nm s : Int)
  · obtain ⟨k, k1, k2, k3, k4⟩ := ix_of h
    by_cases h2 : mBl s k
    · exact Or.inl ⟨k, k1, k2, k4, h2⟩
    · exact Or.inr (Or.inl ⟨k, k1, k2, k4, h2⟩)
  · exact Or.inr (Or.inr h)
theorem ix_in {k n : Nat} (h : k < n) (hn : n < 2 ^ 31) : 0 ≤ (nI k).toInt ∧ (nI k).toInt < (n : Int) := by rw [nI_toInt (by omega)]; omega
theorem le0_n {k : Nat} (h : k < 2 ^ 31) : (0 : Int32) ≤ nI k := li_le.mpr (by rw [nI_toInt h]; exact Int.natCast_nonneg k)
theorem pBl_1 {k : Nat} {X : Nat → Int32} (h : k < nm s) (hn : nm s < 2 ^ 31) (hm : mBl s k) : pBl s (nI k) X = (X k, s) := by
  unfold pBl
  rw [cif_t (ix_in h hn), nI_clamp (by omega), cif_t hm]
theorem pBl_2 {k : Nat} {X : Nat → Int32} (h : k < nm s) (hn : nm s < 2 ^ 31) (hm : ¬ mBl s k) : pBl s (nI k) X = (-1000000012, s) := by
  unfold pBl
  rw [cif_t (ix_in h hn), nI_clamp (by omega), cif_f hm]
theorem pBl_3 {v : Int32} {X : Nat → Int32} (h : ¬ (0 ≤ v.toInt ∧ v.toInt < (nm s : Int))) : pBl s v X = (-1000000001, s) := by
  unfold pBl
  rw [cif_f h]
theorem pc_seen {v : Int32} (hE : x + 187 ≤ E) (hst : st_L w g) (hC : cl_L w x g) (hV : sc_V w E (x + 1) s g) (hW : wf_s s) : mu_mp w mm_X10_seen (d + 5) [.ref x, .int v] g (cPost w x E (pSeen s v) g) := by
  refine mu_mkp mk_X10_seen rfl (fun L hL Q hQ => fm_X10_seen_0 ⟨cl_T hC, mu_cI (sp_X10_refusalOfBlow hst hC hV hW) hL ?_⟩)
  have hc := ws_c hW
  have hb := wc_b hc
  have hN := cl_n hC
  unfold pSeen at hQ
  rcases pbl3 s v with ⟨k, k1, rfl, k4, km⟩ | ⟨k, k1, rfl, k4, km⟩ | h
  · rw [pBl_1 k1 (by omega) km] at hQ ⊢
    obtain ⟨b0, hG⟩ := cl_g hC
    refine ⟨fun _ => ⟨cl_T hC, cl_T hC, by rw [cl_R3 hC]; exact sg_T hG, ?_⟩, fun q => absurd rfl q⟩
    rw [cl_R3 hC, cl_R0 hC]
    refine mu_cVp (sp_X8_look hN hV hc hG ⟨by omega, by omega⟩ hst hW) hL (fun g1 h1 _ _ => ?_)
    have K := lk_of hE hst hC hV hW hG h1
    obtain ⟨C1, V1, G1, P1, T1, st1, F1⟩ := id K
    have N1 := cl_n C1
    have hL1 := fw_fit F1 hL
    simp (disch := omega) only [cl_T C1, cl_R0 C1, cl_R3 C1, sg_T G1, sc_T N1, sc_R0 N1, sc_R1 N1, sc_R2 N1, sc_R3 N1, sc_R4 N1, sc_R5 N1, sc_R6 N1, sc_R7 N1, sc_R8 N1, sc_R9 N1, sc_T1 N1, sc_N1 N1, sc_RP N1, sc_T2 N1, sc_N2 N1, sc_RM N1, sc_T3 N1, sc_N3 N1, sc_T4 N1, sc_N4 N1, sc_T5 N1, sc_N5 N1, sc_T6 N1, sc_N6 N1, sc_T7 N1, sc_N7 N1, sc_T8 N1, sc_N8 N1, sc_T9 N1, sc_N9 N1, sc_T10 N1, sc_RL0 N1, sc_RL1 N1, sc_T11 N1, sc_N11 N1, sc_T12 N1, sc_N12 N1, sc_TP N1, sc_TM N1, sc_w N1, sc_wj N1, sc_wp N1, li_n, nI_add, pk_mul, nI_clamp, nI_ltI, nI_leI, nI_eq, mi_n, Nat.add_zero, true_and, and_true, true_or, or_true, false_or, or_false, not_false_eq_true, not_true_eq_false, implies_true, forall_const, ne_eq, Classical.not_not, reduceCtorEq, nor_p, cI_1n, bI_1n, cI_F, cI_T, cI_0, cI_0n, bI_0, bI_0n, cI_01, bI_01, Nat.reduceLeDiff, Nat.reduceLT, Nat.reduceEqDiff, Nat.reduceSub, Nat.reduceAdd, Nat.lt_irrefl, Nat.le_refl, false_implies, true_implies]
    refine ⟨by omega, mu_cI (sp_X8_isSeen N1 V1 hc G1 ⟨by omega, by omega⟩ (ws_m hW) (ws_p hW) P1 k1) hL1 (mu_cI sp_X10_asInt hL1 ?_)⟩
    rw [cI_c01]
    exact cp_l (L := L) hQ K hc mu_fr_rf rfl
  · rw [pBl_2 k1 (by omega) km] at hQ ⊢
    exact ⟨fun q => absurd q (show ¬ (-1000000012 : Int32) = 0 by decide), fun _ => cp_0 (L := L) hC hQ rfl hV⟩
  · rw [pBl_3 h] at hQ ⊢
    exact ⟨fun q => absurd q (show ¬ (-1000000001 : Int32) = 0 by decide), fun _ => cp_0 (L := L) hC hQ rfl hV⟩
theorem pc_keeps {v : Int32} (hE : x + 187 ≤ E) (hst : st_L w g) (hC : cl_L w x g) (hV : sc_V w E (x + 1) s g) (hW : wf_s s) : mu_mp w mm_X10_keeps (d + 5) [.ref x, .int v] g (cPost w x E (pKeeps s v) g) := by
  refine mu_mkp mk_X10_keeps rfl (fun L hL Q hQ => fm_X10_keeps_0 ⟨cl_T hC, mu_cI (sp_X10_refusalOfBlow hst hC hV hW) hL ?_⟩)
  have hc := ws_c hW
  have hb := wc_b hc
  have hN := cl_n hC
  unfold pKeeps at hQ
  rcases pbl3 s v with ⟨k, k1, rfl, k4, km⟩ | ⟨k, k1, rfl, k4, km⟩ | h
  · rw [pBl_1 k1 (by omega) km] at hQ ⊢
    obtain ⟨b0, hG⟩ := cl_g hC
    refine ⟨fun _ => ⟨cl_T hC, cl_T hC, by rw [cl_R3 hC]; exact sg_T hG, ?_⟩, fun q => absurd rfl q⟩
    rw [cl_R3 hC, cl_R0 hC]
    refine mu_cVp (sp_X8_look hN hV hc hG ⟨by omega, by omega⟩ hst hW) hL (fun g1 h1 _ _ => ?_)
    have K := lk_of hE hst hC hV hW hG h1
    obtain ⟨C1, V1, G1, P1, T1, st1, F1⟩ := id K
    have N1 := cl_n C1
    have hL1 := fw_fit F1 hL
    simp (disch := omega) only [cl_T C1, cl_R0 C1, cl_R3 C1, sg_T G1, sc_T N1, sc_R0 N1, sc_R1 N1, sc_R2 N1, sc_R3 N1, sc_R4 N1, sc_R5 N1, sc_R6 N1, sc_R7 N1, sc_R8 N1, sc_R9 N1, sc_T1 N1, sc_N1 N1, sc_RP N1, sc_T2 N1, sc_N2 N1, sc_RM N1, sc_T3 N1, sc_N3 N1, sc_T4 N1, sc_N4 N1, sc_T5 N1, sc_N5 N1, sc_T6 N1, sc_N6 N1, sc_T7 N1, sc_N7 N1, sc_T8 N1, sc_N8 N1, sc_T9 N1, sc_N9 N1, sc_T10 N1, sc_RL0 N1, sc_RL1 N1, sc_T11 N1, sc_N11 N1, sc_T12 N1, sc_N12 N1, sc_TP N1, sc_TM N1, sc_w N1, sc_wj N1, sc_wp N1, li_n, nI_add, pk_mul, nI_clamp, nI_ltI, nI_leI, nI_eq, mi_n, Nat.add_zero, true_and, and_true, true_or, or_true, false_or, or_false, not_false_eq_true, not_true_eq_false, implies_true, forall_const, ne_eq, Classical.not_not, reduceCtorEq, nor_p, cI_1n, bI_1n, cI_F, cI_T, cI_0, cI_0n, bI_0, bI_0n, cI_01, bI_01, Nat.reduceLeDiff, Nat.reduceLT, Nat.reduceEqDiff, Nat.reduceSub, Nat.reduceAdd, Nat.lt_irrefl, Nat.le_refl, false_implies, true_implies]
    refine ⟨by omega, mu_cI (sp_X8_tooNearTo N1 V1 hc G1 ⟨by omega, by omega⟩ st1 (ws_p hW) (ws_m hW) P1 T1 k1) hL1 ?_⟩
    by_cases hlt : fsN (brk s (lateN s) k) (np s) < np s
    · rw [if_pos hlt]
      refine ⟨fun _ => mu_cI sp_X10_asInt hL1 (cp_l (L := L) hQ K hc mu_fr_rf ?_), fun q => absurd q (none_n' (by omega))⟩
      exact (cI_f (fun q => q rfl)).trans (cI_f (fun q => q hlt)).symm
    · rw [if_neg hlt]
      refine ⟨fun q => absurd rfl q, fun _ => mu_cI sp_X10_asInt hL1 (cp_l (L := L) hQ K hc mu_fr_rf ?_)⟩
      exact (cI_t (show ¬ (1 : Int32) = 0 by decide)).trans (cI_t hlt).symm
  · rw [pBl_2 k1 (by omega) km] at hQ ⊢
    exact ⟨fun q => absurd q (show ¬ (-1000000012 : Int32) = 0 by decide), fun _ => cp_0 (L := L) hC hQ rfl hV⟩
  · rw [pBl_3 h] at hQ ⊢
    exact ⟨fun q => absurd q (show ¬ (-1000000001 : Int32) = 0 by decide), fun _ => cp_0 (L := L) hC hQ rfl hV⟩
theorem pm_seen {v : Int32} (hM : md_L w y g) (hs : mu_I g (y + 1) = s) (hc : wf_c s) (hW : wf_s s) (hca : caC y s g) : mu_mp w mm_X11_seen (d + 4) [.ref y, .int v] g (mPost w y (pSeen s v) g) := by
  refine mu_mkp mk_X11_seen rfl (fun L hL Q hQ => fm_X11_seen_0 ⟨md_T0 hM, mu_cI (sp_X11_isMove hM hs (wc_1 hc) (by have := wc_b hc; omega)) hL ?_⟩)
  have hb := wc_b hc
  unfold pSeen at hQ
  rw [bI_0]
  refine ⟨fun h => ⟨md_T0 hM, ?_⟩, fun h => ?_⟩
  · obtain ⟨k, k1, rfl, k3, k4⟩ := ix_of (Classical.not_not.mp h)
    refine mu_cI (sp_X11_isBlowN hM hs hc (ws_m hW) k1) hL ?_
    rw [cI_0]
    refine ⟨fun h2 => ⟨md_T0 hM, mu_cVp (sp_X11_findPlaces hM hs hc (ws_p hW) (ws_m hW) (ws_a hW) hca.1) hL (fun g1 h1 _ _ => ?_)⟩, fun h2 => ?_⟩
    · rw [pBl_1 k1 (by omega) (Classical.not_not.mp h2)] at hQ
      have K := rk_p h1
      have hM1 := md_L_fr hM (f2_T K.1)
      refine ⟨md_T0 hM1, mu_cI (sp_X11_isSeen hM1 (fr_s (y := y) K.1 (fun k => by unfold fW; omega) hs) hc (ws_p hW) (ws_m hW) K.2.2 k1) (f2_fit K.1 hL) ?_⟩
      rw [cI_0]
      refine ⟨fun q => mp_l hQ K hs hca ?_, fun q => mp_l hQ K hs hca ?_⟩
      · exact (cI_f q).symm
      · exact (cI_t (Classical.not_not.mp q)).symm
    · rw [pBl_2 k1 (by omega) (fun q => h2 (fun z => z q))] at hQ
      exact mp_0 hQ rfl hs hca
  · rw [pBl_3 (fun q => h (fun z => z q))] at hQ
    exact mp_0 hQ rfl hs hca
theorem pm_keeps {v : Int32} (hM : md_L w y g) (hs : mu_I g (y + 1) = s) (hc : wf_c s) (hK : md_K y g) (hW : wf_s s) (hca : caC y s g) : mu_mp w mm_X11_keeps (d + 5) [.ref y, .int v] g (mPost w y (pKeeps s v) g) := by
  refine mu_mkp mk_X11_keeps rfl (fun L hL Q hQ => fm_X11_keeps_0 ⟨md_T0 hM, mu_cI (sp_X11_isMove hM hs (wc_1 hc) (by have := wc_b hc; omega)) hL ?_⟩)
  have hb := wc_b hc
  unfold pKeeps at hQ
  rw [bI_0]
  refine ⟨fun h => ⟨md_T0 hM, ?_⟩, fun h => ?_⟩
  · obtain ⟨k, k1, rfl, k3, k4⟩ := ix_of (Classical.not_not.mp h)
    refine mu_cI (sp_X11_isBlowN hM hs hc (ws_m hW) k1) hL ?_
    rw [cI_0]
    refine ⟨fun h2 => ⟨md_T0 hM, mu_cVp (sp_X11_findPlaces hM hs hc (ws_p hW) (ws_m hW) (ws_a hW) hca.1) hL (fun g1 h1 _ _ => ?_)⟩, fun h2 => ?_⟩
    · replace h2 := Classical.not_not.mp h2
      rw [pBl_1 k1 (by omega) h2] at hQ
      have K := rk_p h1
      have hM1 := md_L_fr hM (f2_T K.1)
      have hs1 := fr_s (y := y) K.1 (fun k => by unfold fW; omega) hs
      refine ⟨md_T0 hM1, mu_cVp (sp_X11_findLates hM1 hs1 hc (ws_t hW)) (f2_fit K.1 hL) (fun g2 h3 _ _ => ?_)⟩
      have K2 := rk_t K h3.1
      have hM2 := md_L_fr hM (f2_T K2.1)
      have hs2 := fr_s (y := y) K2.1 (fun k => by unfold fW; omega) hs
      have hK2 : md_K y g2 := md_K_c hK (fun k q1 q2 => f2_I K2.1 (fun j => by unfold fW; omega))
      refine ⟨md_T0 hM2, mu_cI (sp_X11_broken hM2 hs2 hc hK2 (ws_p hW) (ws_m hW) (ws_a hW) K2.2.2 h3.2 k1 h2) (f2_fit K2.1 hL) ?_⟩
      by_cases hlt : fsN (brk s (lateN s) k) (np s) < np s
      · rw [if_pos hlt]
        refine ⟨fun _ => mp_l hQ K2 hs hca (cI_f (fun q => q hlt)).symm, fun q => absurd (le0_n (by omega)) q⟩
      · rw [if_neg hlt]
        refine ⟨fun q => absurd q (by decide), fun _ => mp_l hQ K2 hs hca (cI_t hlt).symm⟩
    · rw [pBl_2 k1 (by omega) (fun q => h2 (fun z => z q))] at hQ
      exact mp_0 hQ rfl hs hca
  · rw [pBl_3 (fun q => h (fun z => z q))] at hQ
    exact mp_0 hQ rfl hs hca
end Qb
