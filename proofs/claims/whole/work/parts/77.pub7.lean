/-! CLIENTS: what is asked after a look: both public calls -/
/-- the class after a look at the scene of now -/
def lkd (w : mu_O) (x E : Nat) (s : Nat → Int32) (g g' : mu_H) : Prop := cl_L w x g' ∧ sc_V w E (x + 1) s g' ∧ sg_L w (x + 124) (x + 1) g' ∧ sg_P (x + 124) s g' ∧ sg_T' (x + 124) s (lateN s) g' ∧ st_L w g' ∧ mu_fw (nwA x E) (nwB x) g g'
noncomputable def pWhere (s : Nat → Int32) (v u : Int32) : Int32 × (Nat → Int32) := (cif ((0 ≤ v.toInt ∧ v.toInt < (np s : Int)) ∧ -9 ≤ u.toInt ∧ u.toInt ≤ 99) (nI (PL s v.toNatClampNeg (u.toInt + 1).toNat)) (-1000000001), s)
/-- asked of a blow -/
noncomputable def pBl (s : Nat → Int32) (v : Int32) (X : Nat → Int32) : Int32 × (Nat → Int32) := (cif (0 ≤ v.toInt ∧ v.toInt < (nm s : Int)) (cif (mBl s v.toNatClampNeg) (X v.toNatClampNeg) (-1000000012)) (-1000000001), s)
noncomputable def pSeen (s : Nat → Int32) (v : Int32) : Int32 × (Nat → Int32) := pBl s v (fun m => cI (sSeen s m))
noncomputable def pKeeps (s : Nat → Int32) (v : Int32) : Int32 × (Nat → Int32) := pBl s v (fun m => cI (¬ fsN (brk s (lateN s) m) (np s) < np s))
section Qa
variable {w : mu_O} {d x y E : Nat} {g g1 g2 : mu_H} {s : Nat → Int32}
theorem cl_fw {A B : Nat → Prop} (h : cl_L w x g) (hf : mu_fw A B g g1) (hB : ∀ a, B a → a = x + 88 ∨ a = x + 124) (ht : sc_L w (x + 83) g1) (hg : ∃ b, sg_L w (x + 124) b g1) : cl_L w x g1 := by
  have nB : ∀ a, a ≠ x + 88 → a ≠ x + 124 → ¬ B a := fun a q1 q2 q => (hB a q).elim q1 q2
  obtain ⟨h1, h2, h3, h4, h5, h6, h7, h8, h9, h10, h11, h12⟩ := h
  refine ⟨by rw [hf.1]; exact h1, by rw [hf.2.2.1 x (nB x (by omega) (by omega))]; exact h2, ⟨sc_L_fw h3.1 hf (fun a q => by have := hB a q; omega), sc_L_fw h3.2.1 hf (fun a q => by have := hB a q; omega), ht⟩, hg, sh_fw h5 hf (nB _ (by omega) (by omega)), ?_⟩
  refine ⟨by rw [hf.1, hf.2.1]; exact h6, ?_, by rw [hf.1, hf.2.1]; exact h8, ?_, ?_, fun i hi => ?_, fun i hi => ?_⟩
  · rw [hf.1, hf.2.1, hf.2.2.1 (x + 133) (nB _ (by omega) (by omega))]; exact h7
  · rw [hf.1, hf.2.1, hf.2.2.1 (x + 136) (nB _ (by omega) (by omega))]; exact h9
  · rw [hf.1, hf.2.1, hf.2.2.1 (x + 137) (nB _ (by omega) (by omega))]; exact h10
  · rw [hf.1, hf.2.1, hf.2.2.1 (x + 138 + 2 * i) (nB _ (by omega) (by omega))]; exact h11 i hi
  · rw [hf.1, hf.2.1, hf.2.2.1 (x + 146 + 3 * i) (nB _ (by omega) (by omega)), hf.2.2.1 (x + 147 + 3 * i) (nB _ (by omega) (by omega))]; exact h12 i hi
theorem lk_of {b0 : Nat} (hE : x + 187 ≤ E) (hst : st_L w g) (hC : cl_L w x g) (hV : sc_V w E (x + 1) s g) (hW : wf_s s) (hG : sg_L w (x + 124) b0 g) (h : mu_fr (lkA (x + 124) E) (mu_sR g (x + 124) 4 (x + 1)) g1 ∧ sg_P (x + 124) s g1 ∧ sg_T' (x + 124) s (lateN s) g1) : lkd w x E s g g1 := by
  obtain ⟨hf, hP, hT⟩ := h
  have F : mu_fw (lkA (x + 124) E) (fun a => a = x + 124) g g1 := fw_tr (fw_sR rfl) (fw_fr hf)
  have G1 : sg_L w (x + 124) (x + 1) g1 := sg_fr (sg_sR hG) hf
  have hw := cl_w hC
  refine ⟨cl_fw hC F (fun a q => Or.inr q) (sc_L_fw (cl_t hC) F (fun a q => by omega)) ⟨_, G1⟩, sc_V_fw hV (ws_c hW) F (fun a q => ?_) (fun a q => by omega), G1, hP, hT, st_fw hst F (fun a q => ?_), fw_mono F (fun a q => ?_) (fun a q => Or.inr q)⟩
  · unfold lkA at q
    rcases q with q | q | q | q
    · exact Or.inl (by omega)
    · exact Or.inl (by omega)
    · exact Or.inl (by omega)
    · exact Or.inr q
  · unfold lkA jU at q
    omega
  · unfold lkA at q
    unfold nwA
    rcases q with q | q | q | q
    · exact Or.inr (Or.inl (by omega))
    · exact Or.inr (Or.inl (by omega))
    · exact Or.inr (Or.inl (by omega))
    · exact Or.inr (Or.inr q)
theorem cp_l {L : Nat × Nat} {Q : Option Value → mu_H → Prop} {q : Int32 × (Nat → Int32)} {v : Int32} (hQ : ∀ r g', cPost w x E q g r g' → mu_X g' = mu_X g → mu_S g' = mu_S g → Q r g') (h : lkd w x E q.2 g g1) (hc : wf_c q.2) (hf : mu_fr (jU E) g1 g2) (hv : v = q.1) : Q (some (.int v)) g2 := by
  obtain ⟨C1, V1, -, -, -, -, F⟩ := h
  have F2 : mu_fw (nwA x E) (nwB x) g g2 := fw_tr F (fw_fr (mu_fr_mono hf (fun a q => Or.inr (Or.inr q))))
  exact hQ _ _ ⟨_, rfl, hv, cl_fr C1 hf, sv_fr V1 hc hf, F2⟩ F2.2.2.2.1 F2.2.2.2.2.1
/-- the reference after it has found the places -/
def rkd (y : Nat) (s : Nat → Int32) (g g' : mu_H) : Prop := mu_f2 (fW y) g g' ∧ mu_I g' y 17 = 1 ∧ plC y s g'
theorem rk_ca (h : rkd y s g g1) (hca : caC y s g) : caC y s g1 := by
  obtain ⟨hf, h1, h2⟩ := h
  refine ⟨Or.inr ⟨h1, h2⟩, ?_⟩
  unfold shfC
  rw [hf.2.2.2.2.2 y 18 (by unfold fW; omega), hf.2.2.2.2.2 y 34 (by unfold fW; omega), f2_I hf (fun j => by unfold fW; omega)]
  exact hca.2
theorem mp_l {Q : Option Value → mu_H → Prop} {q : Int32 × (Nat → Int32)} {v : Int32} (hQ : ∀ r g', mPost w y q g r g' → mu_X g' = mu_X g → mu_S g' = mu_S g → Q r g') (h : rkd y q.2 g g1) (hs : mu_I g (y + 1) = q.2) (hca : caC y q.2 g) (hv : v = q.1) : Q (some (.int v)) g1 :=
  hQ _ _ ⟨_, rfl, hv, fr_s (y := y) h.1 (fun k => by unfold fW; omega) hs, rk_ca h hca, f2_mono h.1 (fun a k q => by unfold fW at q; unfold rfW; omega)⟩ h.1.2.2.2.1 h.1.2.2.2.2.1
theorem rk_p (h : mu_f2 (plW y) g g1 ∧ mu_I g1 y 17 = 1 ∧ plC y s g1) : rkd y s g g1 := ⟨f2_mono h.1 (fun a k q => by unfold plW at q; unfold fW; omega), h.2⟩
theorem rk_t (h : rkd y s g g1) (f2 : mu_fr (fun a => a = y + 17 ∨ a = y + 19 ∨ a = y + 20) g1 g2) : rkd y s g g2 :=
  ⟨f2_tr h.1 (f2_of f2 (fun a k q => by unfold fW; omega)), by rw [f2.2.2.2.2.2 _ (by omega)]; exact h.2.1, plC_c h.2.2 (f2.2.2.2.2.2 _ (by omega))⟩
theorem pc_where {v u : Int32} (hE : x + 187 ≤ E) (hst : st_L w g) (hC : cl_L w x g) (hV : sc_V w E (x + 1) s g) (hW : wf_s s) : mu_mp w mm_X10_where (d + 5) [.ref x, .int v, .int u] g (cPost w x E (pWhere s v u) g) := by
  refine mu_mkp mk_X10_where rfl (fun L hL Q hQ => fm_X10_where_0 ?_)
  have hc := ws_c hW
  have hb := wc_b hc
  have hN := cl_n hC
  refine ⟨cl_T hC, by rw [cl_R0 hC]; exact sc_T hN, ?_⟩
  rw [cl_R0 hC]
  refine mu_cI (sp_X4_hasPerson hN hV hc) hL ?_
  unfold pWhere at hQ
  rw [cI_0]
  refine ⟨fun h => ?_, fun h => mu_cI (sp_X10_wN (a := -9) (b := 99) rfl rfl) hL ?_⟩
  · rw [cif_f (fun q => h q.1)] at hQ
    exact cp_0 (L := L) hC hQ rfl hV
  · replace h := Classical.not_not.mp h
    rw [cI_0]
    refine ⟨fun h2 => ?_, fun h2 => ?_⟩
    · replace h2 := Classical.not_not.mp h2
      rw [cif_t ⟨h, h2⟩] at hQ
      obtain ⟨k, k1, rfl, k3, k4⟩ := ix_of h
      rw [k3] at hQ
      obtain ⟨b0, hG⟩ := cl_g hC
      refine ⟨cl_T hC, cl_T hC, by rw [cl_R3 hC]; exact sg_T hG, ?_⟩
      rw [cl_R3 hC, cl_R0 hC]
      refine mu_cVp (sp_X8_look hN hV hc hG ⟨by omega, by omega⟩ hst hW) hL (fun g1 h1 _ _ => ?_)
      have K := lk_of hE hst hC hV hW hG h1
      obtain ⟨C1, V1, G1, P1, T1, st1, F1⟩ := id K
      refine ⟨cl_T C1, by rw [cl_R3 C1]; exact sg_T G1, ?_⟩
      rw [cl_R3 C1]
      exact mu_cI (sp_X8_placeAt hc G1 P1 k1 (by omega)) (fw_fit F1 hL) (cp_l (L := L) hQ K hc mu_fr_rf rfl)
    · replace h2 : ¬ (-9 ≤ u.toInt ∧ u.toInt ≤ 99) := fun q => h2 (fun z => z q)
      rw [cif_f (fun q => h2 q.2)] at hQ
      exact cp_0 (L := L) hC hQ rfl hV
theorem pm_where {v u : Int32} (hM : md_L w y g) (hs : mu_I g (y + 1) = s) (hc : wf_c s) (hW : wf_s s) (hca : caC y s g) : mu_mp w mm_X11_where (d + 4) [.ref y, .int v, .int u] g (mPost w y (pWhere s v u) g) := by
  refine mu_mkp mk_X11_where rfl (fun L hL Q hQ => fm_X11_where_0 ⟨md_T0 hM, mu_cI (sp_X11_isPersonN hM hs (wc_0 hc) (by have := wc_b hc; omega)) hL ?_⟩)
  have hb := wc_b hc
  unfold pWhere at hQ
  rw [bI_0]
  refine ⟨fun h => ?_, fun h => mu_cI (sp_X11_iN (a := -9) (b := 99) rfl rfl) hL ?_⟩
  · rw [cif_f (fun q => h q.1)] at hQ
    exact mp_0 hQ rfl hs hca
  · replace h := Classical.not_not.mp h
    rw [cI_0]
    refine ⟨fun h2 => ⟨md_T0 hM, mu_cVp (sp_X11_findPlaces hM hs hc (ws_p hW) (ws_m hW) (ws_a hW) hca.1) hL (fun g1 h1 _ _ => ?_)⟩, fun h2 => ?_⟩
    · replace h2 := Classical.not_not.mp h2
      rw [cif_t ⟨h, h2⟩] at hQ
      obtain ⟨k, k1, rfl, k3, k4⟩ := ix_of h
      rw [k3] at hQ
      have K := rk_p h1
      have hM1 := md_L_fr hM (f2_T K.1)
      refine ⟨md_T0 hM1, mu_cI (sp_X11_placeOf hM1 (by omega) ⟨by omega, by omega⟩) (f2_fit K.1 hL) ?_⟩
      rw [K.2.2 k k1 _ (by omega), show (u.toInt + 10).toNat - 9 = (u.toInt + 1).toNat by omega]
      exact mp_l hQ K hs hca rfl
    · replace h2 : ¬ (-9 ≤ u.toInt ∧ u.toInt ≤ 99) := fun q => h2 (fun z => z q)
      rw [cif_f (fun q => h2 q.2)] at hQ
      exact mp_0 hQ rfl hs hca
theorem sp_X10_refusalOfBlow {v : Int32} (hst : st_L w g) (hC : cl_L w x g) (hV : sc_V w E (x + 1) s g) (hW : wf_s s) : mu_met w mm_X10_refusalOfBlow (d + 3) [.ref x, .int v] g (some (.int (pBl s v (fun _ => 0)).1)) g := by
  refine mu_mk mk_X10_refusalOfBlow rfl rfl rfl (fun L hL Q hQ => fm_X10_refusalOfBlow_0 ?_)
  have hc := ws_c hW
  have hb := wc_b hc
  have hN := cl_n hC
  refine ⟨cl_T hC, by rw [cl_R0 hC]; exact sc_T hN, ?_⟩
  rw [cl_R0 hC]
  refine mu_cI (sp_X4_hasMove hN hV hc) hL ?_
  unfold pBl at hQ
  rw [cI_0]
  refine ⟨fun h => ?_, fun h => ?_⟩
  · replace h := Classical.not_not.mp h
    rw [cif_t h] at hQ
    obtain ⟨k, k1, rfl, k3, k4⟩ := ix_of h
    rw [k3] at hQ
    simp (disch := omega) only [cl_T hC, cl_R0 hC, sc_T hN, sc_R0 hN, sc_R1 hN, sc_R2 hN, sc_R3 hN, sc_R4 hN, sc_R5 hN, sc_R6 hN, sc_R7 hN, sc_R8 hN, sc_R9 hN, sc_T1 hN, sc_N1 hN, sc_RP hN, sc_T2 hN, sc_N2 hN, sc_RM hN, sc_T3 hN, sc_N3 hN, sc_T4 hN, sc_N4 hN, sc_T5 hN, sc_N5 hN, sc_T6 hN, sc_N6 hN, sc_T7 hN, sc_N7 hN, sc_T8 hN, sc_N8 hN, sc_T9 hN, sc_N9 hN, sc_T10 hN, sc_RL0 hN, sc_RL1 hN, sc_T11 hN, sc_N11 hN, sc_T12 hN, sc_N12 hN, sc_TP hN, sc_TM hN, sc_w hN, sc_wj hN, sc_wp hN, li_n, nI_add, pk_mul, nI_clamp, nI_ltI, nI_leI, nI_eq, mi_n, Nat.add_zero, true_and, and_true, true_or, or_true, false_or, or_false, not_false_eq_true, not_true_eq_false, implies_true, forall_const, ne_eq, Classical.not_not, reduceCtorEq, nor_p, cI_1n, bI_1n, cI_F, cI_T, cI_0, cI_0n, bI_0, bI_0n, cI_01, bI_01, Nat.reduceLeDiff, Nat.reduceLT, Nat.reduceEqDiff, Nat.reduceSub, Nat.reduceAdd, Nat.lt_irrefl, Nat.le_refl, false_implies, true_implies]
    refine ⟨by omega, mu_cI (sp_X1_isBlow hst (sc_TM hN (by omega)) (sv_m hV (ws_m hW) k1 (by omega)) (wm_b (ws_m hW) k1).2.1) hL ?_⟩
    simp (disch := omega) only [li_n, nI_add, pk_mul, nI_clamp, nI_ltI, nI_leI, nI_eq, mi_n, Nat.add_zero, true_and, and_true, true_or, or_true, false_or, or_false, not_false_eq_true, not_true_eq_false, implies_true, forall_const, ne_eq, Classical.not_not, reduceCtorEq, nor_p, cI_1n, bI_1n, cI_F, cI_T, cI_0, cI_0n, bI_0, bI_0n, cI_01, bI_01, Nat.reduceLeDiff, Nat.reduceLT, Nat.reduceEqDiff, Nat.reduceSub, Nat.reduceAdd, Nat.lt_irrefl, Nat.le_refl, false_implies, true_implies]
    refine ⟨fun h2 => ?_, fun h2 => ?_⟩
    · rw [cif_f (show ¬ mBl s k from h2)] at hQ
      exact hQ
    · rw [cif_t (show mBl s k from h2)] at hQ
      exact hQ
  · replace h : ¬ (0 ≤ v.toInt ∧ v.toInt < (nm s : Int)) := fun q => h (fun z => z q)
    rw [cif_f h] at hQ
    exact hQ
end Qa
