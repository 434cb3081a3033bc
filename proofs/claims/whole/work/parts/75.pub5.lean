/-! CLIENTS: hours, practice: both public calls -/
noncomputable def pHours (s : Nat → Int32) (v u k : Int32) : Int32 × (Nat → Int32) := cif (((0 ≤ v.toInt ∧ v.toInt < (np s : Int)) ∧ (0 ≤ u.toInt ∧ u.toInt < (np s : Int)) ∧ v ≠ u) ∧ 0 ≤ k.toInt ∧ k.toInt ≤ 1) (cif (k = 0) (sNeed s v.toNatClampNeg u.toNatClampNeg) (s (290 + 8 * v.toNatClampNeg + u.toNatClampNeg)), s) (-1000000001, s)
/-- so many hours the two have, after more practice -/
def prN (s : Nat → Int32) (a c : Nat) (k : Int32) : Int32 := nI (min 99 (vH s (8 * a + c) + k.toNatClampNeg))
noncomputable def pPractise (s : Nat → Int32) (v u k : Int32) : Int32 × (Nat → Int32) := cif (((0 ≤ v.toInt ∧ v.toInt < (np s : Int)) ∧ (0 ≤ u.toInt ∧ u.toInt < (np s : Int)) ∧ v ≠ u) ∧ 1 ≤ k.toInt ∧ k.toInt ≤ 99) (prN s v.toNatClampNeg u.toNatClampNeg k, upd (upd s (290 + 8 * v.toNatClampNeg + u.toNatClampNeg) (prN s v.toNatClampNeg u.toNatClampNeg k)) (290 + 8 * u.toNatClampNeg + v.toNatClampNeg) (prN s v.toNatClampNeg u.toNatClampNeg k)) (-1000000001, s)
section Py
variable {w : mu_O} {d x y E : Nat} {g : mu_H} {s : Nat → Int32}
theorem cp_j {g' : mu_H} {L : Nat × Nat} {Q : Option Value → mu_H → Prop} {q : Int32 × (Nat → Int32)} {v : Int32} (hC : cl_L w x g) (hQ : ∀ r g', cPost w x E q g r g' → mu_X g' = mu_X g → mu_S g' = mu_S g → Q r g') (hf : mu_fr (jU E) g g') (hv : v = q.1) (hV : sc_V w E (x + 1) q.2 g) (hc : wf_c q.2) : Q (some (.int v)) g' := cp_ok (L := L) hC hQ hf (fun a q => Or.inr (Or.inr q)) hv (sv_fr hV hc hf)
theorem mp_j {g' : mu_H} {Q : Option Value → mu_H → Prop} {q : Int32 × (Nat → Int32)} {v : Int32} (hW : wf_s q.2) (hQ : ∀ r g', mPost w y q g r g' → mu_X g' = mu_X g → mu_S g' = mu_S g → Q r g') (hf : mu_fr (rJ y) g g') (hv : v = q.1) (hs : mu_I g (y + 1) = q.2) (hca : caC y q.2 g) : Q (some (.int v)) g' :=
  hQ _ _ ⟨_, rfl, hv, by rw [hf.2.2.2.2.2 _ (by unfold rJ; omega)]; exact hs, az_caC agZ_rf hW hca (by rw [hf.2.2.2.2.2 y (by unfold rJ; omega)]) (by rw [hf.2.2.2.2.2 y (by unfold rJ; omega)]) (by rw [hf.2.2.2.2.2 y (by unfold rJ; omega)]) (hf.2.2.2.2.2 _ (by unfold rJ; omega)) (hf.2.2.2.2.2 _ (by unfold rJ; omega)), f2_of hf (fun a k q => by unfold rJ at q; unfold rfW; omega)⟩ hf.2.2.2.1 hf.2.2.2.2.1
theorem pc_hours {v u k : Int32} (hst : st_L w g) (hC : cl_L w x g) (hV : sc_V w E (x + 1) s g) (hW : wf_s s) : mu_mp w mm_X10_hours (d + 4) [.ref x, .int v, .int u, .int k] g (cPost w x E (pHours s v u k) g) := by
  refine mu_mkp mk_X10_hours rfl (fun L hL Q hQ => fm_X10_hours_0 ?_)
  have hc := ws_c hW
  have hb := wc_b hc
  have hN := cl_n hC
  refine ⟨cl_T hC, by rw [cl_R0 hC]; exact sc_T hN, ?_⟩
  rw [cl_R0 hC]
  refine mu_cI (sp_X4_areTwo hN hV hc) hL ?_
  unfold pHours at hQ
  rw [cI_0]
  refine ⟨fun h => ?_, fun h => mu_cI (sp_X10_wN (a := 0) (b := 1) rfl rfl) hL ?_⟩
  · rw [cif_f (fun q => h q.1)] at hQ
    exact cp_0 (L := L) hC hQ rfl hV
  · replace h := Classical.not_not.mp h
    rw [cI_0]
    refine ⟨fun h2 => ?_, fun h2 => ?_⟩
    · replace h2 := Classical.not_not.mp h2
      rw [cif_t ⟨h, h2⟩] at hQ
      obtain ⟨a, a1, rfl, a3, a4⟩ := ix_of h.1
      obtain ⟨c, c1, rfl, c3, c4⟩ := ix_of h.2.1
      rw [a3, c3] at hQ
      simp (disch := omega) only [cl_T hC, cl_R0 hC, hV.2.2.2.2.2.2.1, sc_T hN, sc_R0 hN, sc_R1 hN, sc_R2 hN, sc_R3 hN, sc_R4 hN, sc_R5 hN, sc_R6 hN, sc_R7 hN, sc_R8 hN, sc_R9 hN, sc_T1 hN, sc_N1 hN, sc_RP hN, sc_T2 hN, sc_N2 hN, sc_RM hN, sc_T3 hN, sc_N3 hN, sc_T4 hN, sc_N4 hN, sc_T5 hN, sc_N5 hN, sc_T6 hN, sc_N6 hN, sc_T7 hN, sc_N7 hN, sc_T8 hN, sc_N8 hN, sc_T9 hN, sc_N9 hN, sc_T10 hN, sc_RL0 hN, sc_RL1 hN, sc_T11 hN, sc_N11 hN, sc_T12 hN, sc_N12 hN, sc_TP hN, sc_TM hN, sc_w hN, sc_wj hN, sc_wp hN, li_n, nI_add, pk_mul, nI_clamp, nI_ltI, nI_leI, nI_eq, mi_n, Nat.add_zero, true_and, and_true, true_or, or_true, false_or, or_false, not_false_eq_true, not_true_eq_false, implies_true, forall_const, ne_eq, Classical.not_not, reduceCtorEq, nor_p, cI_1n, bI_1n, cI_F, cI_T, cI_0, cI_0n, bI_0, bI_0n, cI_01, bI_01, Nat.reduceLeDiff, Nat.reduceLT, Nat.reduceEqDiff, Nat.reduceSub, Nat.reduceAdd, Nat.lt_irrefl, Nat.le_refl, false_implies, true_implies]
      refine ⟨fun q => ⟨by omega, ?_⟩, fun q => mu_cIp (sp_X4_hoursNeeded hN hV hc hst (ws_p hW) (ws_m hW) (ws_t hW) a1 c1) hL (fun z g1 hz _ _ => ?_)⟩
      · rw [cif_f (show ¬ k = 0 from q)] at hQ
        exact cp_0 (L := L) hC hQ (congrArg s (by omega)) hV
      · rw [cif_t (show k = 0 from q)] at hQ
        exact cp_j (L := L) hC hQ hz.2 hz.1 hV hc
    · replace h2 : ¬ (0 ≤ k.toInt ∧ k.toInt ≤ 1) := fun q => h2 (fun z => z q)
      rw [cif_f (fun q => h2 q.2)] at hQ
      exact cp_0 (L := L) hC hQ rfl hV
theorem pm_hours {v u k : Int32} (hM : md_L w y g) (hs : mu_I g (y + 1) = s) (hc : wf_c s) (hW : wf_s s) (hca : caC y s g) : mu_mp w mm_X11_hours (d + 5) [.ref y, .int v, .int u, .int k] g (mPost w y (pHours s v u k) g) := by
  refine mu_mkp mk_X11_hours rfl (fun L hL Q hQ => fm_X11_hours_0 ⟨md_T0 hM, mu_cI (sp_X11_isTwo hM hs (wc_0 hc) (by have := wc_b hc; omega)) hL ?_⟩)
  have hb := wc_b hc
  unfold pHours at hQ
  rw [bI_0]
  refine ⟨fun h => ?_, fun h => mu_cI (sp_X11_iN (a := 0) (b := 1) rfl rfl) hL ?_⟩
  · rw [cif_f (fun q => h q.1)] at hQ
    exact mp_0 hQ rfl hs hca
  · replace h := Classical.not_not.mp h
    rw [cI_0]
    refine ⟨fun h2 => ?_, fun h2 => ?_⟩
    · replace h2 := Classical.not_not.mp h2
      rw [cif_t ⟨h, h2⟩] at hQ
      obtain ⟨a, a1, rfl, a3, a4⟩ := ix_of h.1
      obtain ⟨c, c1, rfl, c3, c4⟩ := ix_of h.2.1
      rw [a3, c3] at hQ
      simp (disch := omega) only [md_T0 hM, md_R0 hM, md_T1 hM, md_N1 hM, hs, wc_0 hc, wc_1 hc, wc_2 hc, wc_3 hc, wc_4 hc, wc_5 hc, wc_6 hc, wc_7 hc, wc_9 hc, li_n, nI_add, pk_mul, nI_clamp, nI_ltI, nI_leI, nI_eq, mi_n, Nat.add_zero, true_and, and_true, true_or, or_true, false_or, or_false, not_false_eq_true, not_true_eq_false, implies_true, forall_const, ne_eq, Classical.not_not, reduceCtorEq, nor_p, cI_1n, bI_1n, cI_F, cI_T, cI_0, cI_0n, bI_0, bI_0n, cI_01, bI_01, Nat.reduceLeDiff, Nat.reduceLT, Nat.reduceEqDiff, Nat.reduceSub, Nat.reduceAdd, Nat.lt_irrefl, Nat.le_refl, false_implies, true_implies]
      refine ⟨fun q => ⟨by omega, ?_⟩, fun q => mu_cIp (sp_X11_needs hM hs hc (ws_p hW) (ws_m hW) (ws_t hW) a1 c1) hL (fun z g1 hz _ _ => ?_)⟩
      · rw [cif_f (show ¬ k = 0 from q)] at hQ
        exact mp_0 hQ rfl hs hca
      · rw [cif_t (show k = 0 from q)] at hQ
        exact mp_j hW hQ hz.2 hz.1 hs hca
    · replace h2 : ¬ (0 ≤ k.toInt ∧ k.toInt ≤ 1) := fun q => h2 (fun z => z q)
      rw [cif_f (fun q => h2 q.2)] at hQ
      exact mp_0 hQ rfl hs hca
end Py
