/-! CLIENTS: images kept and gone back to, texts told: both public calls -/
section Kp
variable {w : mu_O} {d x y b E : Nat} {g g1 : mu_H} {s c r : Nat → Int32} {v1 v2 : Int32}
theorem sp_X11_setAside {a1 a2 z : Nat} (h1 : mu_T g a1 = 20) (n1 : mu_N g a1 = 3470) (hw : w.1 < a2) (h2 : mu_T g a2 = 20) (n2 : mu_N g a2 = 3470) (hne : a1 ≠ a2) : mu_mp w mm_X11_setAside d [.ref z, .ref a1, .ref a2] g (fun r g' => r = none ∧ (mu_fr (fun a => a = a2) g g' ∧ mu_I g' a2 = cpy (mu_I g a2) 0 (mu_I g a1) 0 3470)) := by
  refine mu_mkp mk_X11_setAside rfl (fun L hL Q hQ => fm_X11_setAside_0 ?_)
  refine lp (n := 3470) (P := fun k => ∀ gi, mu_fr (fun a => a = a2) g gi → mu_I gi a2 = cpy (mu_I g a2) 0 (mu_I g a1) 0 k → mu_go w mm_X11_setAside d L Q 2 [none, some (.ref a1), some (.ref a2), some (.int (nI k))] [] gi) (fun gi fi i1 => fm_X11_setAside_2 ⟨fun _ => hQ _ _ ⟨rfl, fi, i1⟩ fi.2.2.2.1 fi.2.2.2.2.1, fun q => absurd (Int32.le_refl _) q⟩) (fun k hk ih gi fi i1 => fm_X11_setAside_2 ?_) g mu_fr_rf (by rw [cpy_0])
  have n34 : (3470 : Int32) ≤ nI k ↔ 3470 ≤ k := nI_leI (a := 3470) (by decide) (by omega)
  rw [n34, fi.1, fi.2.1, h1, h2, n1, n2, nI_clamp (by omega), fi.2.2.2.2.2 a1 hne, show (nI k : Int32) + 1 = nI (k + 1) from nI_add _ 1]
  refine ⟨fun q => absurd q (by omega), fun _ => ⟨rfl, mu_in_n hk (by omega), hw, rfl, mu_in_n hk (by omega), ih _ (mu_fr_tr fi (mu_fr_sI rfl)) ?_⟩⟩
  rw [mu_I_upd, i1]
  have := cpy_s (A := mu_I g a2) (a := 0) (B := mu_I g a1) (b := 0) (n := k)
  rw [Nat.zero_add] at this
  exact this
theorem cpy_lt {A B : Nat → Int32} {n i : Nat} (h : i < n) : cpy A 0 B 0 n i = B i := by
  have := cpy_i (A := A) (a := 0) (B := B) (b := 0) (k := i) h
  rw [Nat.zero_add] at this
  exact this
theorem cpy_ge {A B : Nat → Int32} {n i : Nat} (h : n ≤ i) : cpy A 0 B 0 n i = A i := cpy_o (by omega)
/-- rows that agree as far as they are used -/
theorem ag_wf (hw : wf_s s) (h : ∀ i, i < 3470 → c i = s i) : wf_s c := cg_s hw (fun i _ hi => h i (by have := (wc_b (ws_c hw)).2.2.2.1; omega))
theorem sv_ag (hW : wf_s s) (h : ∀ i, i < 3470 → c i = s i) (hV : sc_V w E b s g) : sc_V w E b c g := by
  have hb := wc_b (ws_c hW)
  have e0 : np c = np s := by unfold np; rw [h 0 (by omega)]
  have e1 : nm c = nm s := by unfold nm; rw [h 1 (by omega)]
  have e2 : nsg c = nsg s := by unfold nsg; rw [h 2 (by omega)]
  have e3 : ntx c = ntx s := by unfold ntx; rw [h 3 (by omega)]
  have e4 : nch c = nch s := by unfold nch; rw [h 4 (by omega)]
  have e5 : nwp c = nwp s := by unfold nwp; rw [h 5 (by omega)]
  have e7 : nlg c = nlg s := by unfold nlg; rw [h 7 (by omega)]
  obtain ⟨v0, ⟨a0, a1, a2, a3, a4, a5, a6, a7, a8, a9⟩, v2, v3, v4, v5, v6, v7, v8, v9⟩ := hV
  refine ⟨v0, ⟨a0.trans (h 0 (by omega)).symm, a1.trans (h 1 (by omega)).symm, a2.trans (h 2 (by omega)).symm, a3.trans (h 3 (by omega)).symm, a4.trans (h 4 (by omega)).symm, a5.trans (h 5 (by omega)).symm, a6.trans (h 9 (by omega)).symm, a7.trans (h 6 (by omega)).symm, a8.trans (h 8 (by omega)).symm, a9.trans (h 7 (by omega)).symm⟩, fun p f hp hf => ?_, fun m f hm hf => ?_, fun i hi => ?_, fun t ht => ?_, fun k hk => ?_, fun i hi => ?_, fun i hi => ?_, fun i f hi hf => ?_⟩
  · rw [e0] at hp; rw [h _ (by omega)]; exact v2 p f hp hf
  · rw [e1] at hm; rw [h _ (by omega)]; exact v3 m f hm hf
  · rw [e2] at hi; rw [h _ (by omega), h _ (by omega)]; exact v4 i hi
  · rw [e3] at ht
    have hn := (ws_t hW t ht).2.2.2.1.1
    have k3 : txn c t = txn s t := by unfold txn; rw [h _ (by omega)]
    have k4 : txl c t = txl s t := by unfold txl; rw [h _ (by omega)]
    obtain ⟨b1, b2, b3, b4, b5, b6, b7, b8, b9⟩ := v5 t ht
    unfold tx_R
    rw [k3, k4, h _ (by omega), h _ (by omega)]
    refine ⟨b1, b2, b3, b4, b5, b6, b7, fun i hi => ?_, b9⟩
    rw [b8 i hi]
    unfold tx_enc txw txv
    rw [h _ (by omega), h _ (by omega), h _ (by omega)]
  · rw [h _ (by omega)]; exact v6 k hk
  · rw [e4] at hi; rw [h _ (by omega)]; exact v7 i hi
  · rw [e5] at hi; rw [h _ (by omega), h _ (by omega)]; exact v8 i hi
  · rw [e7] at hi; rw [h _ (by omega)]; exact v9 i f hi hf
/-- where taking an image, or going back to one, may write -/
theorem pc_keep (hE : x + 187 ≤ E) (hC : cl_L w x g) (hV : sc_V w E (x + 1) s g) (hW : wf_s s) : mu_mp w mm_X10_keep (d + 3) [.ref x] g (fun z g' => ∃ v, z = some (.int v) ∧ (v = s 6 ∧ cl_L w x g' ∧ sc_V w E (x + 42) s g' ∧ mu_I g' x 12 = 1 ∧ ∃ g1, mu_fw (fun a => x + 42 ≤ a ∧ a < x + 83) (fun a => a = x + 47) g g1 ∧ g' = mu_sI g1 x 12 1)) := by
  refine mu_mkp mk_X10_keep rfl (fun L hL Q hQ => fm_X10_keep_0 ?_)
  have hw := cl_w hC
  refine ⟨cl_T hC, cl_T hC, by rw [cl_R1 hC]; exact sc_T (cl_i hC), ?_⟩
  rw [cl_R1 hC, cl_R0 hC]
  refine mu_cVp (sp_X4_takeFrom (cl_i hC) (cl_n hC) hV hW (by omega) (by omega)) hL (fun g1 hz _ _ => ?_)
  obtain ⟨fq, L1, V1⟩ := hz
  have F1 : mu_fw (fun a => x + 42 ≤ a ∧ a < x + 83) (fun a => a = x + 47) g g1 := fw_mono (fw_fq (B := fun a => a = x + 42 + 5) fq rfl) (fun a q => ⟨q.1, by omega⟩) (fun a q => by omega)
  have C1 : cl_L w x g1 := by
    obtain ⟨h1, h2, h3, h4, h5, h6, h7, h8, h9, h10, h11, h12⟩ := hC
    refine ⟨by rw [F1.1]; exact h1, by rw [F1.2.2.1 x (by omega)]; exact h2, ⟨sc_L_fw h3.1 F1 (fun a q => by omega), L1, sc_L_fw h3.2.2 F1 (fun a q => by omega)⟩, ?_, sh_fw h5 F1 (by omega), ?_⟩
    · obtain ⟨b0, hG⟩ := h4
      refine ⟨b0, ?_⟩
      unfold sg_L
      rw [F1.1, F1.2.1, F1.2.2.1 _ (by omega)]
      exact hG
    · refine ⟨by rw [F1.1, F1.2.1]; exact h6, ?_, by rw [F1.1, F1.2.1]; exact h8, ?_, ?_, fun i hi => ?_, fun i hi => ?_⟩
      · rw [F1.1, F1.2.1, F1.2.2.1 (x + 133) (by omega)]; exact h7
      · rw [F1.1, F1.2.1, F1.2.2.1 (x + 136) (by omega)]; exact h9
      · rw [F1.1, F1.2.1, F1.2.2.1 (x + 137) (by omega)]; exact h10
      · rw [F1.1, F1.2.1, F1.2.2.1 (x + 138 + 2 * i) (by omega)]; exact h11 i hi
      · rw [F1.1, F1.2.1, F1.2.2.1 (x + 146 + 3 * i) (by omega), F1.2.2.1 (x + 147 + 3 * i) (by omega)]; exact h12 i hi
  have f2 : mu_fr (fun a => a = x) g1 (mu_sI g1 x 12 1) := mu_fr_sI rfl
  have C2 := cl_fr C1 f2
  have V2 : sc_V w E (x + 42) s (mu_sI g1 x 12 1) := sv_fr' V1 (ws_c hW) f2 (fun a q => Or.inl (by omega))
  refine ⟨cl_T C1, Or.inr rfl, cl_T C1, by rw [cl_R1 C1]; exact sc_T (cl_i C1), ?_⟩
  rw [cl_R1 C1]
  exact hQ _ _ ⟨_, rfl, V2.2.1.2.2.2.2.2.2.2.1, C2, V2, I_sI_same _ _ _ _, g1, F1, rfl⟩ F1.2.2.2.1 F1.2.2.2.2.1
theorem pm_keep (hM : md_L w y g) (hs : mu_I g (y + 1) = s) : mu_mp w mm_X11_keep (d + 1) [.ref y] g (fun z g' => ∃ v, z = some (.int v) ∧ (v = s 6 ∧ mu_I g' y 3 = 1 ∧ (∀ k, k < 3470 → mu_I g' (y + 2) k = s k) ∧ mu_f2 (fun a k => (a = y ∧ k = 3) ∨ a = y + 2) g g')) := by
  refine mu_mkp mk_X11_keep rfl (fun L hL Q hQ => fm_X11_keep_0 ?_)
  have hw := md_wj hM 2
  have f1 : mu_fr (fun a => a = y) g (mu_sI g y 3 1) := mu_fr_sI rfl
  have M1 := md_L_fr hM f1
  have s1 : mu_I (mu_sI g y 3 1) (y + 1) = s := by rw [mu_I_off _ _ _ (by omega)]; exact hs
  refine ⟨md_T0 hM, Or.inr rfl, md_T0 hM, md_T0 hM, md_T0 hM, ?_⟩
  rw [md_R0 hM, md_R1 hM]
  refine mu_cVp (sp_X11_setAside (md_T1 M1) (md_N1 M1) hw (md_T2 M1) (md_N2 M1) (by omega)) hL (fun g2 hz _ _ => ?_)
  obtain ⟨f2, e2⟩ := hz
  have M2 := md_L_fr M1 f2
  have s2 : mu_I g2 (y + 1) = s := by rw [f2.2.2.2.2.2 _ (by omega)]; exact s1
  refine ⟨md_T0 M2, by rw [md_R0 M2]; exact md_T1 M2, by rw [md_R0 M2, md_N1 M2]; exact mu_in_n (p := 6) (by decide) (by decide), ?_⟩
  rw [md_R0 M2, s2]
  refine hQ _ _ ⟨_, rfl, rfl, ?_, fun k hk => ?_, f2_tr (f2_sI (Or.inl ⟨rfl, rfl⟩)) (f2_of f2 (fun a k q => Or.inr q))⟩ f2.2.2.2.1 f2.2.2.2.2.1
  · rw [f2.2.2.2.2.2 _ (by omega), I_sI_same]
  · rw [e2, cpy_lt hk, s1]
noncomputable def pBack (s r : Nat → Int32) (h : Int32) : Int32 × (Nat → Int32) := cif (h = 0) (-1000000002, s) (r 6, cpy s 0 r 0 3470)
theorem pc_back {h : Int32} (hE : x + 187 ≤ E) (hC : cl_L w x g) (hV : sc_V w E (x + 1) s g) (h12 : mu_I g x 12 = h) (hR : ¬ h = 0 → sc_V w E (x + 42) r g ∧ wf_s r) : mu_mp w mm_X10_back (d + 3) [.ref x] g (fun z g' => ∃ v, z = some (.int v) ∧ (v = (pBack s r h).1 ∧ cl_L w x g' ∧ sc_V w E (x + 1) (pBack s r h).2 g' ∧ mu_fw (fun a => x + 1 ≤ a ∧ a < x + 42) (fun a => a = x + 6) g g')) := by
  refine mu_mkp mk_X10_back rfl (fun L hL Q hQ => fm_X10_back_0 ?_)
  have hw := cl_w hC
  unfold pBack at hQ
  rw [h12]
  refine ⟨cl_T hC, fun q => ⟨cl_T hC, cl_T hC, by rw [cl_R0 hC]; exact sc_T (cl_n hC), ?_⟩, fun q => ?_⟩
  · rw [cif_f q] at hQ
    obtain ⟨hr, hW⟩ := hR q
    rw [cl_R0 hC, cl_R1 hC]
    refine mu_cVp (sp_X4_takeFrom (cl_n hC) (cl_i hC) hr hW (by omega) (by omega)) hL (fun g1 hz _ _ => ?_)
    obtain ⟨fq, L1, V1⟩ := hz
    have F1 : mu_fw (fun a => x + 1 ≤ a ∧ a < x + 42) (fun a => a = x + 6) g g1 := fw_mono (fw_fq (B := fun a => a = x + 1 + 5) fq rfl) (fun a q => ⟨q.1, by omega⟩) (fun a q => by omega)
    have C1 : cl_L w x g1 := by
      obtain ⟨h1, h2, h3, h4, h5, h6, h7, h8, h9, h10, h11, h12⟩ := hC
      refine ⟨by rw [F1.1]; exact h1, by rw [F1.2.2.1 x (by omega)]; exact h2, ⟨L1, sc_L_fw h3.2.1 F1 (fun a q => by omega), sc_L_fw h3.2.2 F1 (fun a q => by omega)⟩, ?_, sh_fw h5 F1 (by omega), ?_⟩
      · obtain ⟨b0, hG⟩ := h4
        refine ⟨b0, ?_⟩
        unfold sg_L
        rw [F1.1, F1.2.1, F1.2.2.1 _ (by omega)]
        exact hG
      · refine ⟨by rw [F1.1, F1.2.1]; exact h6, ?_, by rw [F1.1, F1.2.1]; exact h8, ?_, ?_, fun i hi => ?_, fun i hi => ?_⟩
        · rw [F1.1, F1.2.1, F1.2.2.1 (x + 133) (by omega)]; exact h7
        · rw [F1.1, F1.2.1, F1.2.2.1 (x + 136) (by omega)]; exact h9
        · rw [F1.1, F1.2.1, F1.2.2.1 (x + 137) (by omega)]; exact h10
        · rw [F1.1, F1.2.1, F1.2.2.1 (x + 138 + 2 * i) (by omega)]; exact h11 i hi
        · rw [F1.1, F1.2.1, F1.2.2.1 (x + 146 + 3 * i) (by omega), F1.2.2.1 (x + 147 + 3 * i) (by omega)]; exact h12 i hi
    refine ⟨cl_T C1, by rw [cl_R0 C1]; exact sc_T (cl_n C1), ?_⟩
    rw [cl_R0 C1]
    exact hQ _ _ ⟨_, rfl, V1.2.1.2.2.2.2.2.2.2.1, C1, sv_ag hW (fun i hi => cpy_lt hi) V1, F1⟩ F1.2.2.2.1 F1.2.2.2.2.1
  · rw [cif_t (Classical.not_not.mp q)] at hQ
    exact hQ _ _ ⟨_, rfl, rfl, hC, hV, fw_rf⟩ rfl rfl
theorem pm_back {h : Int32} (hM : md_L w y g) (hs : mu_I g (y + 1) = s) (hca : caC y s g) (h3 : mu_I g y 3 = h) (hR : ¬ h = 0 → ∀ k, k < 3470 → mu_I g (y + 2) k = r k) : mu_mp w mm_X11_back (d + 2) [.ref y] g (mPost w y (pBack s r h) g) := by
  refine mu_mkp mk_X11_back rfl (fun L hL Q hQ => fm_X11_back_0 ?_)
  have hw := md_wj hM 1
  unfold pBack at hQ
  rw [h3]
  refine ⟨md_T0 hM, fun q => ⟨md_T0 hM, md_T0 hM, md_T0 hM, ?_⟩, fun q => ?_⟩
  · rw [cif_f q] at hQ
    rw [md_R0 hM, md_R1 hM]
    refine mu_cVp (sp_X11_setAside (md_T2 hM) (md_N2 hM) hw (md_T1 hM) (md_N1 hM) (by omega)) hL (fun g1 hz _ _ => ?_)
    obtain ⟨f1, e1⟩ := hz
    have M1 := md_L_fr hM f1
    have s1 : mu_I g1 (y + 1) = cpy s 0 r 0 3470 := by
      rw [e1, hs]
      funext k
      by_cases hk : k < 3470
      · rw [cpy_lt hk, cpy_lt hk]; exact hR q k hk
      · rw [cpy_ge (by omega), cpy_ge (by omega)]
    have ff : mu_f2 (rfW y) g (md_stale y g1) := f2_tr (f2_of f1 (fun a k q => Or.inl q)) stale_f
    have MS := md_L_fr M1 (f2_T (stale_f (y := y) (g := g1)))
    have hsS : mu_I (md_stale y g1) (y + 1) = cpy s 0 r 0 3470 := stale_s s1
    refine ⟨md_T0 M1, mu_cV (sp_X11_stale M1) (f2_fit ff hL) ⟨md_T0 MS, by rw [md_R0 MS]; exact md_T1 MS, by rw [md_R0 MS, md_N1 MS]; exact mu_in_n (p := 6) (by decide) (by decide), ?_⟩⟩
    rw [md_R0 MS, hsS, cpy_lt (by omega)]
    exact hQ _ _ ⟨_, rfl, rfl, hsS, ⟨Or.inl stale_c.1, Or.inl stale_c.2⟩, ff⟩ ff.2.2.2.1 ff.2.2.2.2.1
  · rw [cif_t (Classical.not_not.mp q)] at hQ
    exact mp_0 hQ rfl hs hca
noncomputable def pTextT (s : Nat → Int32) (v1 v2 : Int32) : Int32 × (Nat → Int32) := (cif ((0 ≤ v1.toInt ∧ v1.toInt < (ntx s : Int)) ∧ 0 ≤ v2.toInt ∧ v2.toInt ≤ 1) (s (460 + 200 * v1.toNatClampNeg + v2.toNatClampNeg)) (-1000000001), s)
theorem pc_textTold (hC : cl_L w x g) (hV : sc_V w E (x + 1) s g) (hW : wf_s s) : mu_mp w mm_X10_textTold (d + 1) [.ref x, .int v1, .int v2] g (cPost w x E (pTextT s v1 v2) g) := by
  refine mu_mkp mk_X10_textTold rfl (fun L hL Q hQ => fm_X10_textTold_0 ?_)
  have hc := ws_c hW
  have hb := wc_b hc
  have hN := cl_n hC
  have hw := cl_w hC
  unfold pTextT at hQ
  refine ⟨cl_T hC, by rw [cl_R0 hC]; exact sc_T hN, ?_⟩
  rw [cl_R0 hC, sv_3 hV hc]
  refine mu_cI (sp_X10_wN (a := 0) (b := (ntx s : Int) - 1) rfl (li_cnt (by omega))) hL ?_
  have ec : (0 ≤ v1.toInt ∧ v1.toInt ≤ (ntx s : Int) - 1) ↔ (0 ≤ v1.toInt ∧ v1.toInt < (ntx s : Int)) := by omega
  rw [cI_0, ec]
  refine ⟨fun h => ?_, fun h => mu_cI (sp_X10_wN (a := 0) (b := 1) rfl rfl) hL ?_⟩
  · rw [cif_f (fun q => h q.1)] at hQ
    exact cp_0 (L := L) hC hQ rfl hV
  · replace h := Classical.not_not.mp h
    rw [cI_0]
    refine ⟨fun h2 => ?_, fun h2 => ?_⟩
    · replace h2 := Classical.not_not.mp h2
      rw [cif_t ⟨h, h2⟩] at hQ
      obtain ⟨t, t1, rfl, t3, t2⟩ := ix_of h
      obtain ⟨n, n1, rfl, n3, n2⟩ := ix_of (v := v2) (n := 2) ⟨h2.1, by omega⟩
      rw [t3, n3] at hQ
      obtain ⟨b1, b2, b3, b4, -⟩ := sv_t hV t1
      have e0 : (nI n : Int32) = 0 ↔ n = 0 := nI_eq (b := 0) (by omega) (by decide)
      rw [cl_T hC, cl_R0 hC, sc_T hN, sc_R4 hN, sc_T5 hN, sc_N5 hN, t3, b1, b3, b4, e0]
      refine ⟨rfl, rfl, ⟨by decide, by decide⟩, mu_in_n (by omega) (by omega), fun q => ⟨fun q2 => ⟨rfl, ?_⟩, fun q2 => ⟨rfl, ?_⟩⟩, fun q => ?_⟩
      · rw [show n = 1 by omega] at hQ; exact cp_0 (L := L) hC hQ rfl hV
      · rw [show n = 0 by omega] at hQ; exact cp_0 (L := L) hC hQ rfl hV
      · have := b2.1; rw [q] at this; omega
    · rw [cif_f (fun q => h2 (fun z => z q.2))] at hQ
      exact cp_0 (L := L) hC hQ rfl hV
theorem pm_textTold (hM : md_L w y g) (hs : mu_I g (y + 1) = s) (hc : wf_c s) (hW : wf_s s) (hca : caC y s g) : mu_mp w mm_X11_textTold (d + 2) [.ref y, .int v1, .int v2] g (mPost w y (pTextT s v1 v2) g) := by
  refine mu_mkp mk_X11_textTold rfl (fun L hL Q hQ => fm_X11_textTold_0 ⟨md_T0 hM, mu_cI (sp_X11_isText hM hs (wc_3 hc) (by have := wc_b hc; omega)) hL ?_⟩)
  have hb := wc_b hc
  unfold pTextT at hQ
  rw [bI_0]
  refine ⟨fun h => ?_, fun h => mu_cI (sp_X11_iN (a := 0) (b := 1) rfl rfl) hL ?_⟩
  · rw [cif_f (fun q => h q.1)] at hQ
    exact mp_0 hQ rfl hs hca
  · replace h := Classical.not_not.mp h
    rw [cI_0]
    refine ⟨fun h2 => ?_, fun h2 => ?_⟩
    · rw [cif_f (fun q => h2 q.2)] at hQ
      exact mp_0 hQ rfl hs hca
    · replace h2 := Classical.not_not.mp h2
      rw [cif_t ⟨h, h2⟩] at hQ
      obtain ⟨t, t1, rfl, t3, t2⟩ := ix_of h
      obtain ⟨n, n1, rfl, n3, n2⟩ := ix_of (v := v2) (n := 2) ⟨h2.1, by omega⟩
      rw [t3, n3] at hQ
      refine ⟨md_T0 hM, md_T0 hM, mu_cI sp_X11_textAt hL ?_⟩
      simp (disch := omega) only [md_T0 hM, md_R0 hM, md_T1 hM, md_N1 hM, hs, wc_0 hc, wc_1 hc, wc_2 hc, wc_3 hc, wc_4 hc, wc_5 hc, wc_6 hc, wc_7 hc, wc_9 hc, li_n, nI_add, pk_mul, nI_clamp, nI_ltI, nI_leI, nI_eq, mi_n, Nat.add_zero, true_and, and_true, true_or, or_true, false_or, or_false, not_false_eq_true, not_true_eq_false, implies_true, forall_const, ne_eq, Classical.not_not, reduceCtorEq, nor_p, cI_1n, bI_1n, cI_F, cI_T, cI_0, cI_0n, bI_0, bI_0n, cI_01, bI_01, Nat.reduceLeDiff, Nat.reduceLT, Nat.reduceEqDiff, Nat.reduceSub, Nat.reduceAdd, Nat.lt_irrefl, Nat.le_refl, false_implies, true_implies]
      exact ⟨by omega, mp_0 hQ rfl hs hca⟩
end Kp
