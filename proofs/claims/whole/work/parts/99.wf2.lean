/-! ROWS: calls leave them right, one after another -/
section Wh
variable {s c : Nat → Int32} {v u v1 v2 v3 v4 v5 : Int32}
theorem wf_c_of {a0 a1 a2 a3 a4 a5 a6 a7 a9 : Nat} (h0 : c 0 = nI a0 ∧ a0 ≤ 8) (h1 : c 1 = nI a1 ∧ a1 ≤ 20) (h2 : c 2 = nI a2 ∧ a2 ≤ 20) (h3 : c 3 = nI a3 ∧ a3 ≤ 14) (h4 : c 4 = nI a4 ∧ a4 ≤ 6) (h5 : c 5 = nI a5 ∧ a5 ≤ 6) (h6 : c 6 = nI a6 ∧ a6 ≤ 1100) (h7 : c 7 = nI a7 ∧ a7 ≤ 30) (h9 : c 9 = nI a9 ∧ a9 ≤ 1) : wf_c c := by
  unfold wf_c np nm nsg ntx nch nwp nsh nlg nwt
  rw [h0.1, h1.1, h2.1, h3.1, h4.1, h5.1, h6.1, h7.1, h9.1, nI_clamp (by omega), nI_clamp (by omega), nI_clamp (by omega), nI_clamp (by omega), nI_clamp (by omega), nI_clamp (by omega), nI_clamp (by omega), nI_clamp (by omega), nI_clamp (by omega)]
  exact ⟨⟨rfl, h0.2⟩, ⟨rfl, h1.2⟩, ⟨rfl, h2.2⟩, ⟨rfl, h3.2⟩, ⟨rfl, h4.2⟩, ⟨rfl, h5.2⟩, ⟨rfl, h6.2⟩, ⟨rfl, h7.2⟩, ⟨rfl, h9.2⟩⟩
theorem wr_seed (hw : wf_s s) : wf_s (pSeed s v).2 := cg_s hw (fun i h8 _ => pk_un h8)
theorem wr_wet (hw : wf_s s) : wf_s (pWet s v).2 := by
  unfold pWet
  by_cases h : 0 ≤ v.toInt ∧ v.toInt ≤ 1
  · rw [cif_t h]
    obtain ⟨k, k1, e, -, -⟩ := ix_of (n := 2) ⟨h.1, by omega⟩
    obtain ⟨h1, h2, h3, h4, h5, h6, h7, h8, h9, h10⟩ := id hw; have hb := wc_b h1
    generalize hc : (s 9, upd s 9 v).2 = c
    have hc2 : upd s 9 v = c := hc
    clear hc
    have o : ∀ i, i ≠ 9 → c i = s i := fun i hi => by rw [← hc2]; exact pk_un hi
    have x9 : c 9 = nI k ∧ k ≤ 1 := ⟨by rw [← hc2, ← e]; exact pk_us, by omega⟩
    have e0 : np c = np s := (by unfold np; rw [o 0 (by omega)]); have e1 : nm c = nm s := (by unfold nm; rw [o 1 (by omega)]); have e2 : nsg c = nsg s := (by unfold nsg; rw [o 2 (by omega)]); have e3 : ntx c = ntx s := (by unfold ntx; rw [o 3 (by omega)]); have e4 : nch c = nch s := (by unfold nch; rw [o 4 (by omega)]); have e5 : nwp c = nwp s := (by unfold nwp; rw [o 5 (by omega)]); have e7 : nlg c = nlg s := (by unfold nlg; rw [o 7 (by omega)])
    exact ⟨wf_c_of ⟨(o 0 (by omega)).trans (wc_0 h1), by omega⟩ ⟨(o 1 (by omega)).trans (wc_1 h1), by omega⟩ ⟨(o 2 (by omega)).trans (wc_2 h1), by omega⟩ ⟨(o 3 (by omega)).trans (wc_3 h1), by omega⟩ ⟨(o 4 (by omega)).trans (wc_4 h1), by omega⟩ ⟨(o 5 (by omega)).trans (wc_5 h1), by omega⟩ ⟨(o 6 (by omega)).trans (wc_6 h1), by omega⟩ ⟨(o 7 (by omega)).trans (wc_7 h1), by omega⟩ x9, cg_p e0 (fun p f hp hf => o _ (by omega)) h2, cg_m (by omega) e1 (fun m f hm hf => o _ (by omega)) h3, cg_a e1 (fun m f hm hf => o _ (by omega)) h4, cg_g (by omega) e2 (fun i f hi hf => o _ (by omega)) h5, cg_ch (by omega) (by omega) (fun i hi => o _ (by omega)) h6, cg_w e0 e5 (fun k hk => ⟨o _ (by omega), o _ (by omega)⟩) (fun p hp => o _ (by omega)) h7, cg_h (fun k hk => o _ (by omega)) h8, cg_l (by omega) e7 (fun i f hi hf => o _ (by omega)) h9, cg_t e3 (fun i hi hi2 => o _ (by omega)) h10⟩
  · rw [cif_f h]; exact hw
theorem wr_clear (hw : wf_s s) : wf_s (pClear s).2 := by
  unfold pClear
  obtain ⟨h1, h2, h3, h4, h5, h6, h7, h8, h9, h10⟩ := id hw; have hb := wc_b h1
  generalize hc : (s 4, upd s 4 0).2 = c
  have hc2 : upd s 4 0 = c := hc
  clear hc
  have o : ∀ i, i ≠ 4 → c i = s i := fun i hi => by rw [← hc2]; exact pk_un hi
  have x4 : c 4 = nI 0 ∧ 0 ≤ 6 := ⟨by rw [← hc2]; exact pk_us, by omega⟩
  have e4 : nch c = 0 := by unfold nch; rw [x4.1, nI_clamp (by omega)]
  have e0 : np c = np s := (by unfold np; rw [o 0 (by omega)]); have e1 : nm c = nm s := (by unfold nm; rw [o 1 (by omega)]); have e2 : nsg c = nsg s := (by unfold nsg; rw [o 2 (by omega)]); have e3 : ntx c = ntx s := (by unfold ntx; rw [o 3 (by omega)]); have e5 : nwp c = nwp s := (by unfold nwp; rw [o 5 (by omega)]); have e7 : nlg c = nlg s := (by unfold nlg; rw [o 7 (by omega)])
  exact ⟨wf_c_of ⟨(o 0 (by omega)).trans (wc_0 h1), by omega⟩ ⟨(o 1 (by omega)).trans (wc_1 h1), by omega⟩ ⟨(o 2 (by omega)).trans (wc_2 h1), by omega⟩ ⟨(o 3 (by omega)).trans (wc_3 h1), by omega⟩ x4 ⟨(o 5 (by omega)).trans (wc_5 h1), by omega⟩ ⟨(o 6 (by omega)).trans (wc_6 h1), by omega⟩ ⟨(o 7 (by omega)).trans (wc_7 h1), by omega⟩ ⟨(o 9 (by omega)).trans (wc_9 h1), by omega⟩, cg_p e0 (fun p f hp hf => o _ (by omega)) h2, cg_m (by omega) e1 (fun m f hm hf => o _ (by omega)) h3, cg_a e1 (fun m f hm hf => o _ (by omega)) h4, cg_g (by omega) e2 (fun i f hi hf => o _ (by omega)) h5, cg_ch (by omega) (by omega) (fun i hi => o _ (by omega)) h6, cg_w e0 e5 (fun k hk => ⟨o _ (by omega), o _ (by omega)⟩) (fun p hp => o _ (by omega)) h7, cg_h (fun k hk => o _ (by omega)) h8, cg_l (by omega) e7 (fun i f hi hf => o _ (by omega)) h9, cg_t e3 (fun i hi hi2 => o _ (by omega)) h10⟩
theorem wr_pset {k f : Nat} (hw : wf_s s) (hk : k < np s) (hf : (f = 1 ∧ 0 ≤ v.toInt ∧ v.toInt ≤ 9) ∨ (f = 2 ∧ 0 ≤ v.toInt ∧ v.toInt ≤ 99)) : wf_s (upd s (20 + 4 * k + f) v) := by
  obtain ⟨n, n1, en, -, n2⟩ := ix_of (v := v) (n := 100) (by omega)
  have hv : v.toInt = (n : Int) := by rw [en, nI_toInt n2]
  obtain ⟨h1, h2, h3, h4, h5, h6, h7, h8, h9, h10⟩ := id hw; have hb := wc_b h1
  generalize hc : upd s (20 + 4 * k + f) v = c
  have o : ∀ i, i ≠ 20 + 4 * k + f → c i = s i := fun i hi => by rw [← hc]; exact pk_un hi
  have oK : c (20 + 4 * k + f) = nI n := by rw [← hc, ← en]; exact pk_us
  have e0 : np c = np s := (by unfold np; rw [o 0 (by omega)]); have e1 : nm c = nm s := (by unfold nm; rw [o 1 (by omega)]); have e2 : nsg c = nsg s := (by unfold nsg; rw [o 2 (by omega)]); have e3 : ntx c = ntx s := (by unfold ntx; rw [o 3 (by omega)]); have e4 : nch c = nch s := (by unfold nch; rw [o 4 (by omega)]); have e5 : nwp c = nwp s := (by unfold nwp; rw [o 5 (by omega)]); have e7 : nlg c = nlg s := (by unfold nlg; rw [o 7 (by omega)])
  refine ⟨wf_c_of ⟨(o 0 (by omega)).trans (wc_0 h1), by omega⟩ ⟨(o 1 (by omega)).trans (wc_1 h1), by omega⟩ ⟨(o 2 (by omega)).trans (wc_2 h1), by omega⟩ ⟨(o 3 (by omega)).trans (wc_3 h1), by omega⟩ ⟨(o 4 (by omega)).trans (wc_4 h1), by omega⟩ ⟨(o 5 (by omega)).trans (wc_5 h1), by omega⟩ ⟨(o 6 (by omega)).trans (wc_6 h1), by omega⟩ ⟨(o 7 (by omega)).trans (wc_7 h1), by omega⟩ ⟨(o 9 (by omega)).trans (wc_9 h1), by omega⟩, fun p hp => ?_, cg_m (by omega) e1 (fun m f hm hf => o _ (by omega)) h3, cg_a e1 (fun m f hm hf => o _ (by omega)) h4, cg_g (by omega) e2 (fun i f hi hf => o _ (by omega)) h5, cg_ch (by omega) (by omega) (fun i hi => o _ (by omega)) h6, cg_w e0 e5 (fun k hk => ⟨o _ (by omega), o _ (by omega)⟩) (fun p hp => o _ (by omega)) h7, cg_h (fun k hk => o _ (by omega)) h8, cg_l (by omega) e7 (fun i f hi hf => o _ (by omega)) h9, cg_t e3 (fun i hi hi2 => o _ (by omega)) h10⟩
  rw [e0] at hp
  by_cases e : p = k
  · subst e
    have hq := h2 p hp
    have ev : vP c p f = n := by unfold vP; rw [oK, nI_clamp n2]
    have eo : ∀ j, j < 3 → j ≠ f → vP c p j = vP s p j := fun j hj hne => cg_vP (o _ (by omega))
    refine ⟨fun j hj => ?_, ?_⟩
    · by_cases ej : j = f
      · rw [ej, oK, ev]
      · rw [eo j hj ej, o _ (by omega)]; exact hq.1 j hj
    · rcases hf with ⟨ef, hf⟩ | ⟨ef, hf⟩
      · rw [eo 0 (by omega) (by omega), eo 2 (by omega) (by omega), show vP c p 1 = n by rw [← ef]; exact ev]
        exact ⟨hq.2.1, hq.2.2.1, by omega, hq.2.2.2.2⟩
      · rw [eo 0 (by omega) (by omega), eo 1 (by omega) (by omega), show vP c p 2 = n by rw [← ef]; exact ev]
        exact ⟨hq.2.1, hq.2.2.1, hq.2.2.2.1, by omega⟩
  · exact cg_p1 (fun f2 hf2 => o _ (by omega)) (h2 p hp)
theorem wr_set {k : Int32} (hw : wf_s s) : wf_s (pSet s v u k).2 := by
  unfold pSet
  by_cases h : (0 ≤ v.toInt ∧ v.toInt < (np s : Int)) ∧ ((u = 1 ∧ 0 ≤ k.toInt ∧ k.toInt ≤ 9) ∨ (u = 2 ∧ 0 ≤ k.toInt ∧ k.toInt ≤ 99))
  · rw [cif_t h]
    obtain ⟨p, p1, -, p3, -⟩ := ix_of h.1
    rw [p3]
    refine wr_pset hw p1 ?_
    rcases h.2 with ⟨e, q⟩ | ⟨e, q⟩
    · left; exact ⟨by rw [e]; decide, q⟩
    · right; exact ⟨by rw [e]; decide, q⟩
  · rw [cif_f h]; exact hw
theorem wr_mcut {k : Nat} (hw : wf_s s) (hk : k < nm s) (hu : u = 0 ∨ u = 1) : wf_s (upd s (60 + 8 * k + 7) u) := by
  obtain ⟨n, en, n1⟩ : ∃ n, u = nI n ∧ n ≤ 1 := by rcases hu with e | e; exact ⟨0, e, by omega⟩; exact ⟨1, e, by omega⟩
  obtain ⟨h1, h2, h3, h4, h5, h6, h7, h8, h9, h10⟩ := id hw; have hb := wc_b h1
  generalize hc : upd s (60 + 8 * k + 7) u = c
  have o : ∀ i, i ≠ 60 + 8 * k + 7 → c i = s i := fun i hi => by rw [← hc]; exact pk_un hi
  have oK : c (60 + 8 * k + 7) = nI n := by rw [← hc, ← en]; exact pk_us
  have e0 : np c = np s := (by unfold np; rw [o 0 (by omega)]); have e1 : nm c = nm s := (by unfold nm; rw [o 1 (by omega)]); have e2 : nsg c = nsg s := (by unfold nsg; rw [o 2 (by omega)]); have e3 : ntx c = ntx s := (by unfold ntx; rw [o 3 (by omega)]); have e4 : nch c = nch s := (by unfold nch; rw [o 4 (by omega)]); have e5 : nwp c = nwp s := (by unfold nwp; rw [o 5 (by omega)]); have e7 : nlg c = nlg s := (by unfold nlg; rw [o 7 (by omega)])
  refine ⟨wf_c_of ⟨(o 0 (by omega)).trans (wc_0 h1), by omega⟩ ⟨(o 1 (by omega)).trans (wc_1 h1), by omega⟩ ⟨(o 2 (by omega)).trans (wc_2 h1), by omega⟩ ⟨(o 3 (by omega)).trans (wc_3 h1), by omega⟩ ⟨(o 4 (by omega)).trans (wc_4 h1), by omega⟩ ⟨(o 5 (by omega)).trans (wc_5 h1), by omega⟩ ⟨(o 6 (by omega)).trans (wc_6 h1), by omega⟩ ⟨(o 7 (by omega)).trans (wc_7 h1), by omega⟩ ⟨(o 9 (by omega)).trans (wc_9 h1), by omega⟩, cg_p e0 (fun p f hp hf => o _ (by omega)) h2, fun m hm => ?_, cg_a e1 (fun m f hm hf => o _ (by omega)) h4, cg_g (by omega) e2 (fun i f hi hf => o _ (by omega)) h5, cg_ch (by omega) (by omega) (fun i hi => o _ (by omega)) h6, cg_w e0 e5 (fun k hk => ⟨o _ (by omega), o _ (by omega)⟩) (fun p hp => o _ (by omega)) h7, cg_h (fun k hk => o _ (by omega)) h8, cg_l (by omega) e7 (fun i f hi hf => o _ (by omega)) h9, cg_t e3 (fun i hi hi2 => o _ (by omega)) h10⟩
  rw [e1] at hm
  by_cases e : m = k
  · subst e
    have hq := h3 m hm
    have ev : vM c m 7 = n := by unfold vM; rw [oK, nI_clamp (by omega)]
    have eo : ∀ j, j < 7 → vM c m j = vM s m j := fun j hj => cg_vM (o _ (by omega))
    rw [eo 0 (by omega), eo 1 (by omega), eo 2 (by omega), eo 3 (by omega), eo 4 (by omega), eo 5 (by omega), eo 6 (by omega), ev, e0]
    refine ⟨fun j hj => ?_, hq.2.1, hq.2.2.1, hq.2.2.2.1, hq.2.2.2.2.1, hq.2.2.2.2.2.1, hq.2.2.2.2.2.2.1, hq.2.2.2.2.2.2.2.1, hq.2.2.2.2.2.2.2.2.1, hq.2.2.2.2.2.2.2.2.2.1, hq.2.2.2.2.2.2.2.2.2.2.1, n1⟩
    by_cases ej : j = 7
    · rw [ej, oK, ev]
    · rw [eo j (by omega), o _ (by omega)]; exact hq.1 j hj
  · exact cg_m1 (by omega) (fun f2 hf2 => o _ (by omega)) (h3 m hm)
theorem wr_cut (hw : wf_s s) (hu : u = 0 ∨ u = 1) : wf_s (pCut s v u).2 := by
  unfold pCut
  by_cases h : 0 ≤ v.toInt ∧ v.toInt < (nm s : Int)
  · rw [cif_t h]
    obtain ⟨p, p1, -, p3, -⟩ := ix_of h
    rw [p3]
    exact wr_mcut hw p1 hu
  · rw [cif_f h]; exact hw
theorem wr_sign (hw : wf_s s) : wf_s (pSign s v u).2 := by
  unfold pSign
  by_cases h : (0 ≤ v.toInt ∧ v.toInt < (np s : Int)) ∧ 0 ≤ u.toInt ∧ u.toInt ≤ 99
  · rw [cif_t h]
    by_cases h20 : nsg s < 20
    · rw [cif_t h20]
      obtain ⟨p, p1, ep, -, p2⟩ := ix_of h.1
      obtain ⟨q, q1, eq, -, q2⟩ := ix_of (n := 100) ⟨h.2.1, by omega⟩
      obtain ⟨h1, h2, h3, h4, h5, h6, h7, h8, h9, h10⟩ := id hw; have hb := wc_b h1
      generalize hc : (nI (nsg s + 1), upd (upd (upd s (220 + 2 * nsg s) v) (220 + 2 * nsg s + 1) u) 2 (nI (nsg s + 1))).2 = c
      have hc2 : upd (upd (upd s (220 + 2 * nsg s) v) (220 + 2 * nsg s + 1) u) 2 (nI (nsg s + 1)) = c := hc
      clear hc
      have o : ∀ i, ¬ (i = 2 ∨ i = 220 + 2 * nsg s ∨ i = 220 + 2 * nsg s + 1) → c i = s i := fun i hi => by rw [← hc2]; rw [pk_un (by omega), pk_un (by omega), pk_un (by omega)]
      have x2 : c 2 = nI (nsg s + 1) ∧ nsg s + 1 ≤ 20 := ⟨by rw [← hc2]; exact pk_us, by omega⟩
      have y0 : c (220 + 2 * nsg s) = nI p := by rw [← hc2, ← ep]; rw [pk_un (by omega), pk_un (by omega), pk_us]
      have y1 : c (220 + 2 * nsg s + 1) = nI q := by rw [← hc2, ← eq]; rw [pk_un (by omega), pk_us]
      have e2 : nsg c = nsg s + 1 := by unfold nsg; rw [x2.1, nI_clamp (by unfold nsg at h20; omega)]; rfl
      have e0 : np c = np s := (by unfold np; rw [o 0 (by omega)]); have e1 : nm c = nm s := (by unfold nm; rw [o 1 (by omega)]); have e3 : ntx c = ntx s := (by unfold ntx; rw [o 3 (by omega)]); have e4 : nch c = nch s := (by unfold nch; rw [o 4 (by omega)]); have e5 : nwp c = nwp s := (by unfold nwp; rw [o 5 (by omega)]); have e7 : nlg c = nlg s := (by unfold nlg; rw [o 7 (by omega)])
      refine ⟨wf_c_of ⟨(o 0 (by omega)).trans (wc_0 h1), by omega⟩ ⟨(o 1 (by omega)).trans (wc_1 h1), by omega⟩ x2 ⟨(o 3 (by omega)).trans (wc_3 h1), by omega⟩ ⟨(o 4 (by omega)).trans (wc_4 h1), by omega⟩ ⟨(o 5 (by omega)).trans (wc_5 h1), by omega⟩ ⟨(o 6 (by omega)).trans (wc_6 h1), by omega⟩ ⟨(o 7 (by omega)).trans (wc_7 h1), by omega⟩ ⟨(o 9 (by omega)).trans (wc_9 h1), by omega⟩, cg_p e0 (fun p f hp hf => o _ (by omega)) h2, cg_m (by omega) e1 (fun m f hm hf => o _ (by omega)) h3, cg_a e1 (fun m f hm hf => o _ (by omega)) h4, fun i hi => ?_, cg_ch (by omega) (by omega) (fun i hi => o _ (by omega)) h6, cg_w e0 e5 (fun k hk => ⟨o _ (by omega), o _ (by omega)⟩) (fun p hp => o _ (by omega)) h7, cg_h (fun k hk => o _ (by omega)) h8, cg_l (by omega) e7 (fun i f hi hf => o _ (by omega)) h9, cg_t e3 (fun i hi hi2 => o _ (by omega)) h10⟩
      rw [e2] at hi
      by_cases e : i = nsg s
      · subst e
        have z0 : vG c (nsg s) 0 = p := by unfold vG; rw [Nat.add_zero, y0, nI_clamp (by omega)]
        have z1 : vG c (nsg s) 1 = q := by unfold vG; rw [y1, nI_clamp (by omega)]
        rw [z0, z1, e0]
        refine ⟨fun f hf => ?_, p1, by omega⟩
        rcases (show f = 0 ∨ f = 1 by omega) with e | e
        · rw [e, z0]; exact y0
        · rw [e, z1]; exact y1
      · exact cg_g1 (by omega) (fun f hf => o _ (by omega)) (h5 i (by omega))
    · rw [cif_f h20]; exact hw
  · rw [cif_f h]; exact hw
theorem wr_choose (hw : wf_s s) : wf_s (pChoose s v).2 := by
  unfold pChoose
  by_cases h : 0 ≤ v.toInt ∧ v.toInt < (nm s : Int)
  · rw [cif_t h]
    obtain ⟨p, p1, ep, p3, p2⟩ := ix_of h
    rw [p3]
    by_cases hx : fsN (fun i => vC s i = p) (nch s) < nch s
    · rw [cif_t hx]; exact hw
    · rw [cif_f hx]
      by_cases h6' : nch s < 6
      · rw [cif_t h6']
        have hno : ∀ j, j < nch s → ¬ vC s j = p := by
          rcases fsN_ok (c := fun i => vC s i = p) (n := nch s) with ⟨q, -⟩ | ⟨-, q⟩
          · exact absurd q hx
          · exact q
        obtain ⟨h1, h2, h3, h4, h5, h6, h7, h8, h9, h10⟩ := id hw; have hb := wc_b h1
        generalize hc : (nI (nch s + 1), upd (upd s (260 + nch s) v) 4 (nI (nch s + 1))).2 = c
        have hc2 : upd (upd s (260 + nch s) v) 4 (nI (nch s + 1)) = c := hc
        clear hc
        have o : ∀ i, ¬ (i = 4 ∨ i = 260 + nch s) → c i = s i := fun i hi => by rw [← hc2]; rw [pk_un (by omega), pk_un (by omega)]
        have x4 : c 4 = nI (nch s + 1) ∧ nch s + 1 ≤ 6 := ⟨by rw [← hc2]; exact pk_us, by omega⟩
        have y0 : c (260 + nch s) = nI p := by rw [← hc2, ← ep]; rw [pk_un (by omega), pk_us]
        have e4 : nch c = nch s + 1 := by unfold nch; rw [x4.1, nI_clamp (by unfold nch at h6'; omega)]; rfl
        have e0 : np c = np s := (by unfold np; rw [o 0 (by omega)]); have e1 : nm c = nm s := (by unfold nm; rw [o 1 (by omega)]); have e2 : nsg c = nsg s := (by unfold nsg; rw [o 2 (by omega)]); have e3 : ntx c = ntx s := (by unfold ntx; rw [o 3 (by omega)]); have e5 : nwp c = nwp s := (by unfold nwp; rw [o 5 (by omega)]); have e7 : nlg c = nlg s := (by unfold nlg; rw [o 7 (by omega)])
        refine ⟨wf_c_of ⟨(o 0 (by omega)).trans (wc_0 h1), by omega⟩ ⟨(o 1 (by omega)).trans (wc_1 h1), by omega⟩ ⟨(o 2 (by omega)).trans (wc_2 h1), by omega⟩ ⟨(o 3 (by omega)).trans (wc_3 h1), by omega⟩ x4 ⟨(o 5 (by omega)).trans (wc_5 h1), by omega⟩ ⟨(o 6 (by omega)).trans (wc_6 h1), by omega⟩ ⟨(o 7 (by omega)).trans (wc_7 h1), by omega⟩ ⟨(o 9 (by omega)).trans (wc_9 h1), by omega⟩, cg_p e0 (fun p f hp hf => o _ (by omega)) h2, cg_m (by omega) e1 (fun m f hm hf => o _ (by omega)) h3, cg_a e1 (fun m f hm hf => o _ (by omega)) h4, cg_g (by omega) e2 (fun i f hi hf => o _ (by omega)) h5, fun i hi => ?_, cg_w e0 e5 (fun k hk => ⟨o _ (by omega), o _ (by omega)⟩) (fun p hp => o _ (by omega)) h7, cg_h (fun k hk => o _ (by omega)) h8, cg_l (by omega) e7 (fun i f hi hf => o _ (by omega)) h9, cg_t e3 (fun i hi hi2 => o _ (by omega)) h10⟩
        rw [e4] at hi ⊢
        have z0 : vC c (nch s) = p := by unfold vC; rw [y0, nI_clamp (by omega)]
        have zo : ∀ j, j < nch s → vC c j = vC s j := fun j hj => by unfold vC; rw [o _ (by omega)]
        by_cases e : i = nch s
        · subst e
          rw [z0, e1]
          refine ⟨y0, p1, fun j hj hE => ?_⟩
          by_cases ej : j = nch s
          · exact ej.symm
          · rw [zo j (by omega)] at hE
            exact absurd hE.symm (hno j (by omega))
        · obtain ⟨q1, q2, q3⟩ := h6 i (by omega)
          rw [zo i (by omega), o _ (by omega), e1]
          refine ⟨q1, q2, fun j hj hE => ?_⟩
          by_cases ej : j = nch s
          · rw [ej, z0] at hE
            exact absurd hE (hno i (by omega))
          · rw [zo j (by omega)] at hE
            exact q3 j (by omega) hE
      · rw [cif_f h6']; exact hw
  · rw [cif_f h]; exact hw
end Wh
