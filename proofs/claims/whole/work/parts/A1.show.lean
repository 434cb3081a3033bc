/-! CLIENTS: shows: both public calls -/
/-- the row after n shows -/
noncomputable def shN (s : Nat → Int32) : Nat → Nat → Int32
  | 0 => s
  | n + 1 => shS (shN s n)
noncomputable def shT (s : Nat → Int32) : Nat → Nat
  | 0 => 0
  | n + 1 => shT s n + shC (shN s n)
noncomputable def pShow (s : Nat → Int32) (v : Int32) : Int32 × (Nat → Int32) := cif (1 ≤ v.toInt ∧ v.toInt ≤ 20) (cif (nsh s + v.toNatClampNeg ≤ 999) (nI (shT s v.toNatClampNeg), shN s v.toNatClampNeg) (-1000000003, s)) (-1000000001, s)
section Wj
variable {s c : Nat → Int32}
theorem wr_tC {n x : Nat} (hw : wf_s s) (hn : n ≤ 20) (hx : x ≤ 1100) : wf_s (upd (tC s (np s) n) 6 (nI x)) := by
  obtain ⟨h1, h2, h3, h4, h5, h6, h7, h8, h9, h10⟩ := id hw; have hb := wc_b h1
  have q2 := tC_p (n := n) h2 h1 hb.1 hn
  have q3 := tC_w (n := n) h7 h1 hb.1 hn
  have hx' := tC_ag (s := s) (n := n) hb.1 hb.2.2.2.2.2.1
  have t0 := ax_np hx'
  have t5 := ax_nwp hx'
  have ot : ∀ i, ¬ ((20 ≤ i ∧ i < 52 ∧ i % 4 = 2) ∨ (270 ≤ i ∧ i < 282 ∧ i % 2 = 0)) → tC s (np s) n i = s i := fun i hi => tC_o' (by omega) hb.1 hb.2.2.2.2.2.1
  generalize tC s (np s) n = t at *
  generalize hc : upd t 6 (nI x) = c
  have o6 : ∀ i, i ≠ 6 → c i = t i := fun i hi => by rw [← hc]; exact pk_un hi
  have o : ∀ i, ¬ (i = 6 ∨ (20 ≤ i ∧ i < 52 ∧ i % 4 = 2) ∨ (270 ≤ i ∧ i < 282 ∧ i % 2 = 0)) → c i = s i := fun i hi => by rw [o6 i (by omega), ot i (by omega)]
  have x6 : c 6 = nI x ∧ x ≤ 1100 := ⟨by rw [← hc]; exact pk_us, hx⟩
  have f0 : np c = np t := by unfold np; rw [o6 0 (by omega)]
  have f5 : nwp c = nwp t := by unfold nwp; rw [o6 5 (by omega)]
  have e0 : np c = np s := (by unfold np; rw [o 0 (by omega)]); have e1 : nm c = nm s := (by unfold nm; rw [o 1 (by omega)]); have e2 : nsg c = nsg s := (by unfold nsg; rw [o 2 (by omega)]); have e3 : ntx c = ntx s := (by unfold ntx; rw [o 3 (by omega)]); have e4 : nch c = nch s := (by unfold nch; rw [o 4 (by omega)]); have e5 : nwp c = nwp s := (by unfold nwp; rw [o 5 (by omega)]); have e7 : nlg c = nlg s := (by unfold nlg; rw [o 7 (by omega)])
  exact ⟨wf_c_of ⟨(o 0 (by omega)).trans (wc_0 h1), by omega⟩ ⟨(o 1 (by omega)).trans (wc_1 h1), by omega⟩ ⟨(o 2 (by omega)).trans (wc_2 h1), by omega⟩ ⟨(o 3 (by omega)).trans (wc_3 h1), by omega⟩ ⟨(o 4 (by omega)).trans (wc_4 h1), by omega⟩ ⟨(o 5 (by omega)).trans (wc_5 h1), by omega⟩ x6 ⟨(o 7 (by omega)).trans (wc_7 h1), by omega⟩ ⟨(o 9 (by omega)).trans (wc_9 h1), by omega⟩, cg_p f0 (fun p f hp hf => o6 _ (by omega)) q2, cg_m (by omega) e1 (fun m f hm hf => o _ (by omega)) h3, cg_a e1 (fun m f hm hf => o _ (by omega)) h4, cg_g (by omega) e2 (fun i f hi hf => o _ (by omega)) h5, cg_ch (by omega) (by omega) (fun i hi => o _ (by omega)) h6, cg_w f0 f5 (fun k hk => ⟨o6 _ (by omega), o6 _ (by omega)⟩) (fun p hp => o6 _ (by omega)) q3, cg_h (fun k hk => o _ (by omega)) h8, cg_l (by omega) e7 (fun i f hi hf => o _ (by omega)) h9, cg_t e3 (fun i hi hi2 => o _ (by omega)) h10⟩
theorem sh_ok (hw : wf_s s) : wf_s (msM (s1S s) (drN s) (nm s)).1 ∧ agL s (msM (s1S s) (drN s) (nm s)).1 := by
  have w1 : wf_s (s1S s) := ok_wf hw (ok_8 hw)
  have e : nm (s1S s) = nm s := nm_u (by omega)
  have h := okL_M (l := drN s) w1 (nm s) (by rw [e]; exact Nat.le_refl _)
  refine ⟨ok_wf w1 h, fun i h7 h8 h36 => ?_⟩
  rw [h.1 i h7 h8 h36]
  exact pk_un h8
theorem wr_sh (hw : wf_s s) (h : nsh s + 1 ≤ 1100) : wf_s (shS s) := by
  obtain ⟨q1, q2⟩ := sh_ok hw
  have hb := wc_b (ws_c hw)
  have e0 := ax_np (agL_X q2)
  unfold shS
  generalize (msM (s1S s) (drN s) (nm s)).1 = c at *
  rw [← e0]
  exact wr_tC q1 (by omega) h
theorem sh_ag (hw : wf_s s) : agX s (shS s) := by
  obtain ⟨q1, q2⟩ := sh_ok hw
  have hb := wc_b (ws_c q1)
  have hb2 := wc_b (ws_c hw)
  unfold shS
  generalize (msM (s1S s) (drN s) (nm s)).1 = c at *
  intro i i6 i7 i8 ip iw il
  rw [pk_un i6, tC_o' (by omega) hb2.1 hb.2.2.2.2.2.1]
  exact agL_X q2 i i6 i7 i8 ip iw il
theorem sh_nsh (hw : wf_s s) (h : nsh s + 1 ≤ 1100) : nsh (shS s) = nsh s + 1 := by
  unfold shS
  show (upd _ 6 _ 6).toNatClampNeg = _
  rw [pk_us, nI_clamp (by omega)]
theorem wr_shN (hw : wf_s s) : ∀ {n : Nat}, nsh s + n ≤ 1100 → wf_s (shN s n) ∧ nsh (shN s n) = nsh s + n ∧ agX s (shN s n)
  | 0, _ => ⟨hw, rfl, fun _ _ _ _ _ _ _ => rfl⟩
  | n + 1, h => by
    obtain ⟨q1, q2, q3⟩ := wr_shN hw (n := n) (by omega)
    refine ⟨wr_sh q1 (by omega), ?_, agX_tr q3 (sh_ag q1)⟩
    show nsh (shS (shN s n)) = _
    rw [sh_nsh q1 (by omega)]
    omega
theorem wr_show {v : Int32} (hw : wf_s s) : wf_s (pShow s v).2 := by
  unfold pShow
  by_cases h : 1 ≤ v.toInt ∧ v.toInt ≤ 20
  · rw [cif_t h]
    by_cases h2 : nsh s + v.toNatClampNeg ≤ 999
    · rw [cif_t h2]; exact (wr_shN hw (by omega)).1
    · rw [cif_f h2]; exact hw
  · rw [cif_f h]; exact hw
end Wj
section Qv
variable {w : mu_O} {d x y b S E : Nat} {g g1 g2 : mu_H} {s c : Nat → Int32}
theorem sgP_ag (h : sg_P S s g) (hx : agX s c) (hc : wf_c s) (e1 : mu_I g1 (S + 1) = mu_I g (S + 1)) (e2 : mu_I g1 (S + 2) = mu_I g (S + 2)) : sg_P S c g1 := fun p hp T hT => by
  have hb := wc_b hc
  rw [ax_np hx] at hp
  rw [e1, e2, ax_PL hx hb.2.1 (by omega)]
  exact h p hp T hT
theorem pc_show {v : Int32} (hE : x + 187 ≤ E) (hst : st_L w g) (hC : cl_L w x g) (hV : sc_V w E (x + 1) s g) (hW : wf_s s) : mu_mp w mm_X10_show (d + 6) [.ref x, .int v] g (cPost w x E (pShow s v) g) := by
  refine mu_mkp mk_X10_show rfl (fun L hL Q hQ => fm_X10_show_0 (mu_cI (sp_X10_wN (a := 1) (b := 20) rfl rfl) hL ?_))
  have hc := ws_c hW
  have hb := wc_b hc
  have hN := cl_n hC
  have hw := cl_w hC
  unfold pShow at hQ
  rw [cI_0]
  refine ⟨fun h => ?_, fun h => ?_⟩
  · replace h := Classical.not_not.mp h
    rw [cif_t h] at hQ
    obtain ⟨n, n1, rfl, n3, n2⟩ := ix_of (v := v) (n := 21) ⟨by omega, by omega⟩
    rw [n3] at hQ
    obtain ⟨b0, hG⟩ := cl_g hC
    simp (disch := omega) only [cl_T hC, cl_R0 hC, cl_R3 hC, sc_T hN, sv_6 hV hc, sg_T hG, li_n, nI_add, pk_mul, nI_clamp, nI_ltI, nI_leI, nI_eq, mi_n, Nat.add_zero, true_and, and_true, true_or, or_true, false_or, or_false, not_false_eq_true, not_true_eq_false, implies_true, forall_const, ne_eq, Classical.not_not, reduceCtorEq, nor_p, cI_1n, bI_1n, cI_F, cI_T, cI_0, cI_0n, bI_0, bI_0n, cI_01, bI_01, Nat.reduceLeDiff, Nat.reduceLT, Nat.reduceEqDiff, Nat.reduceSub, Nat.reduceAdd, Nat.lt_irrefl, Nat.le_refl, false_implies, true_implies]
    refine ⟨fun h2 => ?_, fun h2 => ?_⟩
    · rw [cif_t h2] at hQ
      refine mu_cVp (sp_X8_look hN hV hc hG ⟨by omega, by omega⟩ hst hW) hL (fun g1 h1 _ _ => ?_)
      obtain ⟨C1, V1, G1, P1, T1, st1, F1⟩ := lk_of hE hst hC hV hW hG h1
      refine lp (n := n) (P := fun i => ∀ gi, mu_fw (nwA x E) (nwB x) g gi → cl_L w x gi → sc_V w E (x + 1) (shN s i) gi → sg_L w (x + 124) (x + 1) gi → sg_P (x + 124) (shN s i) gi → st_L w gi → mu_go w mm_X10_show (d + 6) L Q 46 [some (.ref x), some (.int (nI n)), some (.int (nI (shT s i))), some (.int (nI i))] [] gi) (fun gi fi Ci Vi Gi Pi si => fm_X10_show_46 ⟨fun _ => hQ _ _ ⟨_, rfl, rfl, Ci, Vi, fi⟩ fi.2.2.2.1 fi.2.2.2.2.1, fun q => absurd (Int32.le_refl _) q⟩) (fun i hi ih gi fi Ci Vi Gi Pi si => fm_X10_show_46 ?_) g1 F1 C1 V1 G1 P1 st1
      obtain ⟨wi, ni, ai⟩ := wr_shN hW (n := i) (by omega)
      refine ⟨fun q => absurd ((nI_leI (by omega) (by omega)).mp q) (by omega), fun _ => ⟨cl_T Ci, by rw [cl_R3 Ci]; exact sg_T Gi, ?_⟩⟩
      rw [cl_R3 Ci]
      refine mu_cIp (sp_X8_play (cl_n Ci) Vi (ws_c wi) Gi ⟨by omega, by omega⟩ si wi Pi) (fw_fit fi hL) (fun z g2 hz _ _ => ?_)
      obtain ⟨rfl, f2, V2⟩ := hz
      rw [show (nI (shT s i) : Int32) + nI (shC (shN s i)) = nI (shT s (i + 1)) from nI_add _ _, show (nI i : Int32) + 1 = nI (i + 1) from nI_add _ 1]
      refine ih g2 (fw_tr fi (fw_fr (mu_fr_mono f2 (fun a q => ?_)))) (cl_fr Ci f2) V2 (sg_fr Gi f2) (sgP_ag Pi (sh_ag wi) (ws_c wi) (f2.2.2.2.2.2 _ ?_) (f2.2.2.2.2.2 _ ?_)) (st_fr si f2 (fun a q => ?_))
      · unfold pyA at q
        unfold nwA
        rcases q with q | q | q
        · exact Or.inl ⟨q.1, by omega⟩
        · exact Or.inr (Or.inl (by omega))
        · exact Or.inr (Or.inr q)
      · unfold pyA jU; omega
      · unfold pyA jU; omega
      · unfold pyA jU at q; omega
    · rw [cif_f h2] at hQ
      exact cp_0 (L := L) hC hQ rfl hV
  · replace h : ¬ (1 ≤ v.toInt ∧ v.toInt ≤ 20) := fun q => h (fun z => z q)
    rw [cif_f h] at hQ
    exact cp_0 (L := L) hC hQ rfl hV
theorem oW_rf {a k : Nat} (h : oW y a k) : rfW y a k := by unfold oW at h; unfold rfW; omega
theorem pm_show {v : Int32} (hM : md_L w y g) (hs : mu_I g (y + 1) = s) (hc : wf_c s) (hK : md_K y g) (hW : wf_s s) (hca : caC y s g) : mu_mp w mm_X11_show (d + 5) [.ref y, .int v] g (mPost w y (pShow s v) g) := by
  refine mu_mkp mk_X11_show rfl (fun L hL Q hQ => fm_X11_show_0 (mu_cI (sp_X11_iN (a := 1) (b := 20) rfl rfl) hL ?_))
  have hb := wc_b hc
  unfold pShow at hQ
  rw [cI_0]
  refine ⟨fun h => ?_, fun h => ?_⟩
  · replace h := Classical.not_not.mp h
    rw [cif_t h] at hQ
    obtain ⟨n, n1, rfl, n3, n2⟩ := ix_of (v := v) (n := 21) ⟨by omega, by omega⟩
    rw [n3] at hQ
    simp (disch := omega) only [md_T0 hM, md_R0 hM, md_T1 hM, md_N1 hM, hs, wc_0 hc, wc_1 hc, wc_2 hc, wc_3 hc, wc_4 hc, wc_5 hc, wc_6 hc, wc_7 hc, wc_9 hc, li_n, nI_add, pk_mul, nI_clamp, nI_ltI, nI_leI, nI_eq, mi_n, Nat.add_zero, true_and, and_true, true_or, or_true, false_or, or_false, not_false_eq_true, not_true_eq_false, implies_true, forall_const, ne_eq, Classical.not_not, reduceCtorEq, nor_p, cI_1n, bI_1n, cI_F, cI_T, cI_0, cI_0n, bI_0, bI_0n, cI_01, bI_01, Nat.reduceLeDiff, Nat.reduceLT, Nat.reduceEqDiff, Nat.reduceSub, Nat.reduceAdd, Nat.lt_irrefl, Nat.le_refl, false_implies, true_implies]
    refine ⟨fun h2 => ?_, fun h2 => ?_⟩
    · rw [cif_t h2] at hQ
      refine lp (n := n) (P := fun i => ∀ gi, mu_f2 (rfW y) g gi → mu_I gi (y + 1) = shN s i → caC y (shN s i) gi → mu_go w mm_X11_show (d + 5) L Q 37 [some (.ref y), some (.int (nI n)), some (.int (nI (shT s i))), some (.int (nI i))] [] gi) (fun gi fi si ci => fm_X11_show_37 ⟨fun _ => hQ _ _ ⟨_, rfl, rfl, si, ci, fi⟩ fi.2.2.2.1 fi.2.2.2.2.1, fun q => absurd (Int32.le_refl _) q⟩) (fun i hi ih gi fi si ci => fm_X11_show_37 ?_) g f2_rf hs hca
      obtain ⟨wi, ni, ai⟩ := wr_shN hW (n := i) (by omega)
      have Mi := md_L_fr hM (f2_T fi)
      have Ki : md_K y gi := md_K_c hK (fun k h1 h2 => f2_I fi (fun j => by unfold rfW; omega))
      refine ⟨fun q => absurd ((nI_leI (by omega) (by omega)).mp q) (by omega), fun _ => ⟨md_T0 Mi, mu_cIp (sp_X11_oneShow Mi si (ws_c wi) Ki wi ci.1) (f2_fit fi hL) (fun z g2 hz _ _ => ?_)⟩⟩
      obtain ⟨rfl, f2, s2, c1, c2⟩ := hz
      rw [show (nI (shT s i) : Int32) + nI (shC (shN s i)) = nI (shT s (i + 1)) from nI_add _ _, show (nI i : Int32) + 1 = nI (i + 1) from nI_add _ 1]
      exact ih g2 (f2_tr fi (f2_mono f2 (fun a k q => oW_rf q))) s2 ⟨Or.inl c1, Or.inl c2⟩
    · rw [cif_f h2] at hQ
      exact mp_0 hQ rfl hs hca
  · replace h : ¬ (1 ≤ v.toInt ∧ v.toInt ≤ 20) := fun q => h (fun z => z q)
    rw [cif_f h] at hQ
    exact mp_0 hQ rfl hs hca
end Qv
