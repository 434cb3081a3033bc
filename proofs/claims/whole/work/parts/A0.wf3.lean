/-! ROWS: calls leave them right: people, moves, hours, weapons -/
section Wi
variable {s c : Nat → Int32} {v u v1 v2 v3 v4 v5 : Int32}
theorem wr_person (hw : wf_s s) : wf_s (pPerson s v u).2 := by
  unfold pPerson
  by_cases h : isPl v ∧ 0 ≤ u.toInt ∧ u.toInt ≤ 9
  · rw [cif_t h]
    by_cases h8' : np s < 8
    · rw [cif_t h8']
      obtain ⟨⟨p, ep, p1, p2⟩, hu⟩ := h
      obtain ⟨q, q1, eq, -, q2⟩ := ix_of (n := 10) ⟨hu.1, by omega⟩
      obtain ⟨h1, h2, h3, h4, h5, h6, h7, h8, h9, h10⟩ := id hw; have hb := wc_b h1
      generalize hc : (nI (np s), psR s v u).2 = c
      have hc' : psR s v u = c := hc
      unfold psR at hc'
      have o : ∀ i, ¬ (i = 0 ∨ (20 + 4 * np s ≤ i ∧ i < 24 + 4 * np s)) → c i = s i := fun i hi => by rw [← hc', pk_un (by omega), pk_un (by omega), pk_un (by omega), pk_un (by omega), pk_un (by omega)]
      have x0 : c 0 = nI (np s + 1) ∧ np s + 1 ≤ 8 := ⟨by rw [← hc']; exact pk_us, by omega⟩
      have y0 : c (20 + 4 * np s + 0) = nI p := by rw [← hc', ← ep, pk_un (by omega), pk_un (by omega), pk_un (by omega), pk_un (by omega), pk_us]
      have y1 : c (20 + 4 * np s + 1) = nI q := by rw [← hc', ← eq, pk_un (by omega), pk_un (by omega), pk_un (by omega), pk_us]
      have y2 : c (20 + 4 * np s + 2) = nI 0 := by rw [← hc', pk_un (by omega), pk_un (by omega), pk_us]
      have y3 : c (20 + 4 * np s + 3) = -1 := by rw [← hc', pk_un (by omega), pk_us]
      have e0 : np c = np s + 1 := by unfold np; rw [x0.1, nI_clamp (by unfold np at h8'; omega)]; rfl
      have e1 : nm c = nm s := (by unfold nm; rw [o 1 (by omega)]); have e2 : nsg c = nsg s := (by unfold nsg; rw [o 2 (by omega)]); have e3 : ntx c = ntx s := (by unfold ntx; rw [o 3 (by omega)]); have e4 : nch c = nch s := (by unfold nch; rw [o 4 (by omega)]); have e5 : nwp c = nwp s := (by unfold nwp; rw [o 5 (by omega)]); have e7 : nlg c = nlg s := (by unfold nlg; rw [o 7 (by omega)])
      refine ⟨wf_c_of x0 ⟨(o 1 (by omega)).trans (wc_1 h1), by omega⟩ ⟨(o 2 (by omega)).trans (wc_2 h1), by omega⟩ ⟨(o 3 (by omega)).trans (wc_3 h1), by omega⟩ ⟨(o 4 (by omega)).trans (wc_4 h1), by omega⟩ ⟨(o 5 (by omega)).trans (wc_5 h1), by omega⟩ ⟨(o 6 (by omega)).trans (wc_6 h1), by omega⟩ ⟨(o 7 (by omega)).trans (wc_7 h1), by omega⟩ ⟨(o 9 (by omega)).trans (wc_9 h1), by omega⟩, fun i hi => ?_, cg_m (by omega) e1 (fun m f hm hf => o _ (by omega)) h3, cg_a e1 (fun m f hm hf => o _ (by omega)) h4, cg_g (by omega) e2 (fun i f hi hf => o _ (by omega)) h5, cg_ch (by omega) (by omega) (fun i hi => o _ (by omega)) h6, ⟨fun k hk => ?_, fun i hi => ?_⟩, cg_h (fun k hk => o _ (by omega)) h8, cg_l (by omega) e7 (fun i f hi hf => o _ (by omega)) h9, cg_t e3 (fun i hi hi2 => o _ (by omega)) h10⟩
      · rw [e0] at hi
        by_cases e : i = np s
        · rw [e]
          have z0 : vP c (np s) 0 = p := by unfold vP; rw [y0, nI_clamp (by omega)]
          have z1 : vP c (np s) 1 = q := by unfold vP; rw [y1, nI_clamp (by omega)]
          have z2 : vP c (np s) 2 = 0 := by unfold vP; rw [y2, nI_clamp (by omega)]
          rw [z0, z1, z2]
          refine ⟨fun f hf => ?_, p1, p2, by omega, by omega⟩
          rcases (show f = 0 ∨ f = 1 ∨ f = 2 by omega) with e | e | e
          · rw [e, z0]; exact y0
          · rw [e, z1]; exact y1
          · rw [e, z2]; exact y2
        · exact cg_p1 (fun f hf => o _ (by omega)) (h2 i (by omega))
      · rw [e5] at hk
        obtain ⟨q1, q2, q3⟩ := h7.1 k hk
        have ew : vW c k = vW s k := by unfold vW; rw [o _ (by omega)]
        rw [ew, o _ (by omega), o _ (by omega), e0]
        exact ⟨q1, q2, q3.imp id (fun ⟨j, j1, j2, j3⟩ => ⟨j, by omega, j2, by rw [o _ (by omega)]; exact j3⟩)⟩
      · rw [e0] at hi
        by_cases e : i = np s
        · left; rw [e]; exact y3
        · rw [o _ (by omega), e5]
          exact (h7.2 i (by omega)).imp id (fun ⟨k, k1, k2, k3⟩ => ⟨k, k1, k2, by rw [o _ (by omega)]; exact k3⟩)
    · rw [cif_f h8']; exact hw
  · rw [cif_f h]; exact hw
theorem wr_move (hw : wf_s s) : wf_s (pMove s v1 v2 v3 v4 v5).2 := by
  unfold pMove
  by_cases h : mvOK s v1 v2 v3 v4 v5
  · rw [cif_t h]
    by_cases hn : nm s < 20
    · rw [cif_t hn]
      by_cases hx : ∃ i, i < nm s ∧ mvMt s v1 v3 i
      · rw [cif_t hx]; exact hw
      · rw [cif_f hx]
        obtain ⟨q1, q2, ⟨t, et, t1, t2, t3⟩, ⟨p, ep, p1, p2⟩, q5, q6, q7⟩ := h
        obtain ⟨a, a1, ea, ca, a2⟩ := ix_of q1
        obtain ⟨k, k1, ek, -, k2⟩ := ix_of (n := 6) ⟨q2.1, by omega⟩
        obtain ⟨m, m1, em, -, m2⟩ := ix_of q6
        obtain ⟨z, z2⟩ := li_get q5
        generalize v5.toNatClampNeg = zz at z z2
        have ct : v3.toNatClampNeg = t := by rw [et, nI_clamp (by omega)]
        obtain ⟨h1, h2, h3, h4, h5, h6, h7, h8, h9, h10⟩ := id hw; have hb := wc_b h1
        generalize hc : (nI (nm s), mvR s v1 v2 v3 v4 v5).2 = c
        have hc' : mvR s v1 v2 v3 v4 v5 = c := hc
        unfold mvR at hc'
        have o : ∀ i, ¬ (i = 1 ∨ (60 + 8 * nm s ≤ i ∧ i < 68 + 8 * nm s)) → c i = s i := fun i hi => by rw [← hc', pk_un (by omega), mvU_o (fun f hf => by omega)]
        have x1 : c 1 = nI (nm s + 1) ∧ nm s + 1 ≤ 20 := ⟨by rw [← hc']; exact pk_us, by omega⟩
        have e1 : nm c = nm s + 1 := by unfold nm; rw [x1.1, nI_clamp (by unfold nm at hn; omega)]; rfl
        have oc : ∀ f, f < 8 → c (60 + 8 * nm s + f) = mvU s (nm s) v1 v2 v3 v4 v5 (60 + 8 * nm s + f) := fun f hf => by rw [← hc']; exact pk_un (by omega)
        obtain ⟨c0, c1, c2, c3, c4, c5, c6, c7⟩ := mvU_I (s := s) (m := nm s) (v1 := v1) (v2 := v2) (v3 := v3) (v4 := v4) (v5 := v5)
        have y0 : c (60 + 8 * nm s + 0) = nI a := by rw [oc 0 (by omega), c0, ea]
        have y1 : c (60 + 8 * nm s + 1) = nI k := by rw [oc 1 (by omega), c1, ek]
        have y2 : c (60 + 8 * nm s + 2) = nI (t / 10) := by rw [oc 2 (by omega), c2, et]; exact dv_n (b := 10) (by omega) (by omega) (by omega)
        have y3 : c (60 + 8 * nm s + 3) = nI (t % 10) := by rw [oc 3 (by omega), c3, et]; exact rm_n (b := 10) (by omega) (by omega)
        have y4 : c (60 + 8 * nm s + 4) = nI p := by rw [oc 4 (by omega), c4, ep]
        have y5 : c (60 + 8 * nm s + 5) = nI m := by rw [oc 5 (by omega), c5, em]
        have y6 : c (60 + 8 * nm s + 6) = nI (zz % 10) := by rw [oc 6 (by omega), c6, z]; exact rm_n (b := 10) (by omega) (by omega)
        have y7 : c (60 + 8 * nm s + 7) = nI 0 := by rw [oc 7 (by omega), c7]; rfl
        have w0 : vM c (nm s) 0 = a := by unfold vM; rw [y0, nI_clamp (by omega)]
        have w1 : vM c (nm s) 1 = k := by unfold vM; rw [y1, nI_clamp (by omega)]
        have w2 : vM c (nm s) 2 = t / 10 := by unfold vM; rw [y2, nI_clamp (by omega)]
        have w3 : vM c (nm s) 3 = t % 10 := by unfold vM; rw [y3, nI_clamp (by omega)]
        have w4 : vM c (nm s) 4 = p := by unfold vM; rw [y4, nI_clamp (by omega)]
        have w5 : vM c (nm s) 5 = m := by unfold vM; rw [y5, nI_clamp (by omega)]
        have w6 : vM c (nm s) 6 = zz % 10 := by unfold vM; rw [y6, nI_clamp (by omega)]
        have w7 : vM c (nm s) 7 = 0 := by unfold vM; rw [y7, nI_clamp (by omega)]
        have wo : ∀ i f, i < nm s → f < 8 → vM c i f = vM s i f := fun i f hi hf => cg_vM (o _ (by omega))
        have ne : m ≠ a := fun e => q7 (by rw [em, ea, e])
        have mt : ∀ i, i < nm s → vM s i 0 = a → vM s i 2 + vM s i 3 ≤ t / 10 ∨ t / 10 + t % 10 ≤ vM s i 2 := fun i hi e => by
          have : ¬ mvMt s v1 v3 i := fun q => hx ⟨i, hi, q⟩
          unfold mvMt at this
          rw [ca, ct] at this
          omega
        have e0 : np c = np s := (by unfold np; rw [o 0 (by omega)]); have e2 : nsg c = nsg s := (by unfold nsg; rw [o 2 (by omega)]); have e3 : ntx c = ntx s := (by unfold ntx; rw [o 3 (by omega)]); have e4 : nch c = nch s := (by unfold nch; rw [o 4 (by omega)]); have e5 : nwp c = nwp s := (by unfold nwp; rw [o 5 (by omega)]); have e7 : nlg c = nlg s := (by unfold nlg; rw [o 7 (by omega)])
        refine ⟨wf_c_of ⟨(o 0 (by omega)).trans (wc_0 h1), by omega⟩ x1 ⟨(o 2 (by omega)).trans (wc_2 h1), by omega⟩ ⟨(o 3 (by omega)).trans (wc_3 h1), by omega⟩ ⟨(o 4 (by omega)).trans (wc_4 h1), by omega⟩ ⟨(o 5 (by omega)).trans (wc_5 h1), by omega⟩ ⟨(o 6 (by omega)).trans (wc_6 h1), by omega⟩ ⟨(o 7 (by omega)).trans (wc_7 h1), by omega⟩ ⟨(o 9 (by omega)).trans (wc_9 h1), by omega⟩, cg_p e0 (fun p f hp hf => o _ (by omega)) h2, fun i hi => ?_, fun i j hi hj hne hE => ?_, cg_g (by omega) e2 (fun i f hi hf => o _ (by omega)) h5, cg_ch (by omega) (by omega) (fun i hi => o _ (by omega)) h6, cg_w e0 e5 (fun k hk => ⟨o _ (by omega), o _ (by omega)⟩) (fun p hp => o _ (by omega)) h7, cg_h (fun k hk => o _ (by omega)) h8, cg_l (by omega) e7 (fun i f hi hf => o _ (by omega)) h9, cg_t e3 (fun i hi hi2 => o _ (by omega)) h10⟩
        · rw [e1] at hi
          by_cases e : i = nm s
          · rw [e, w0, w1, w2, w3, w4, w5, w6, w7, e0]
            exact ⟨f8 (by rw [y0, w0]) (by rw [y1, w1]) (by rw [y2, w2]) (by rw [y3, w3]) (by rw [y4, w4]) (by rw [y5, w5]) (by rw [y6, w6]) (by rw [y7, w7]), a1, by omega, t1, t2, t3, p1, p2, m1, ne, by omega, by omega⟩
          · exact cg_m1 (by omega) (fun f hf => o _ (by omega)) (h3 i (by omega))
        · rw [e1] at hi hj
          by_cases ei : i = nm s
          · have ej : j < nm s := by omega
            rw [ei, w0, wo j 0 ej (by omega)] at hE
            rw [ei, w2, w3, wo j 2 ej (by omega), wo j 3 ej (by omega)]
            have := mt j ej hE.symm
            omega
          · have hi2 : i < nm s := by omega
            by_cases ej : j = nm s
            · rw [ej, w0, wo i 0 hi2 (by omega)] at hE
              rw [ej, w2, w3, wo i 2 hi2 (by omega), wo i 3 hi2 (by omega)]
              have := mt i hi2 hE
              omega
            · have hj2 : j < nm s := by omega
              rw [wo i 0 hi2 (by omega), wo j 0 hj2 (by omega)] at hE
              rw [wo i 2 hi2 (by omega), wo i 3 hi2 (by omega), wo j 2 hj2 (by omega), wo j 3 hj2 (by omega)]
              exact h4 i j hi2 hj2 hne hE
    · rw [cif_f hn]; exact hw
  · rw [cif_f h]; exact hw
theorem wr_practise {k : Int32} (hw : wf_s s) : wf_s (pPractise s v u k).2 := by
  unfold pPractise
  by_cases h : ((0 ≤ v.toInt ∧ v.toInt < (np s : Int)) ∧ (0 ≤ u.toInt ∧ u.toInt < (np s : Int)) ∧ v ≠ u) ∧ 1 ≤ k.toInt ∧ k.toInt ≤ 99
  · rw [cif_t h]
    obtain ⟨a, a1, -, ca, -⟩ := ix_of h.1.1
    obtain ⟨d, d1, -, cd, -⟩ := ix_of h.1.2.1
    rw [ca, cd]
    obtain ⟨h1, h2, h3, h4, h5, h6, h7, h8, h9, h10⟩ := id hw; have hb := wc_b h1
    obtain ⟨n, n1, en⟩ : ∃ n, n ≤ 99 ∧ prN s a d k = nI n := ⟨_, by omega, rfl⟩
    rw [en]
    generalize hc : (nI n, upd (upd s (290 + 8 * a + d) (nI n)) (290 + 8 * d + a) (nI n)).2 = c
    have hc' : upd (upd s (290 + 8 * a + d) (nI n)) (290 + 8 * d + a) (nI n) = c := hc
    have o : ∀ i, ¬ (i = 290 + 8 * a + d ∨ i = 290 + 8 * d + a) → c i = s i := fun i hi => by rw [← hc', pk_un (by omega), pk_un (by omega)]
    have y : ∀ i, (i = 290 + 8 * a + d ∨ i = 290 + 8 * d + a) → c i = nI n := fun i hi => by
      rw [← hc']
      by_cases e : i = 290 + 8 * d + a
      · rw [e, pk_us]
      · rw [pk_un e, show i = 290 + 8 * a + d by omega, pk_us]
    have e0 : np c = np s := (by unfold np; rw [o 0 (by omega)]); have e1 : nm c = nm s := (by unfold nm; rw [o 1 (by omega)]); have e2 : nsg c = nsg s := (by unfold nsg; rw [o 2 (by omega)]); have e3 : ntx c = ntx s := (by unfold ntx; rw [o 3 (by omega)]); have e4 : nch c = nch s := (by unfold nch; rw [o 4 (by omega)]); have e5 : nwp c = nwp s := (by unfold nwp; rw [o 5 (by omega)]); have e7 : nlg c = nlg s := (by unfold nlg; rw [o 7 (by omega)])
    have zv : ∀ i, (i = 8 * a + d ∨ i = 8 * d + a) → vH c i = n := fun i hi => by unfold vH; rw [y _ (by omega), nI_clamp (by omega)]
    have zo : ∀ i, ¬ (i = 8 * a + d ∨ i = 8 * d + a) → vH c i = vH s i := fun i hi => by unfold vH; rw [o _ (by omega)]
    refine ⟨wf_c_of ⟨(o 0 (by omega)).trans (wc_0 h1), by omega⟩ ⟨(o 1 (by omega)).trans (wc_1 h1), by omega⟩ ⟨(o 2 (by omega)).trans (wc_2 h1), by omega⟩ ⟨(o 3 (by omega)).trans (wc_3 h1), by omega⟩ ⟨(o 4 (by omega)).trans (wc_4 h1), by omega⟩ ⟨(o 5 (by omega)).trans (wc_5 h1), by omega⟩ ⟨(o 6 (by omega)).trans (wc_6 h1), by omega⟩ ⟨(o 7 (by omega)).trans (wc_7 h1), by omega⟩ ⟨(o 9 (by omega)).trans (wc_9 h1), by omega⟩, cg_p e0 (fun p f hp hf => o _ (by omega)) h2, cg_m (by omega) e1 (fun m f hm hf => o _ (by omega)) h3, cg_a e1 (fun m f hm hf => o _ (by omega)) h4, cg_g (by omega) e2 (fun i f hi hf => o _ (by omega)) h5, cg_ch (by omega) (by omega) (fun i hi => o _ (by omega)) h6, cg_w e0 e5 (fun k hk => ⟨o _ (by omega), o _ (by omega)⟩) (fun p hp => o _ (by omega)) h7, ⟨fun i hi => ?_, fun i j hi hj => ?_⟩, cg_l (by omega) e7 (fun i f hi hf => o _ (by omega)) h9, cg_t e3 (fun i hi hi2 => o _ (by omega)) h10⟩
    · by_cases e : i = 8 * a + d ∨ i = 8 * d + a
      · rw [zv i e, y _ (by omega)]; exact ⟨rfl, n1⟩
      · rw [zo i e, o _ (by omega)]; exact h8.1 i hi
    · by_cases e : 8 * i + j = 8 * a + d ∨ 8 * i + j = 8 * d + a
      · rw [zv _ e, zv _ (by omega)]
      · rw [zo _ e, zo _ (by omega)]; exact h8.2 i j hi hj
  · rw [cif_f h]; exact hw
theorem wr_weapon (hw : wf_s s) : wf_s (pWeapon s).2 := by
  unfold pWeapon
  by_cases h : nwp s < 6
  · rw [cif_t h]
    obtain ⟨h1, h2, h3, h4, h5, h6, h7, h8, h9, h10⟩ := id hw; have hb := wc_b h1
    generalize hc : (nI (nwp s), upd (upd (upd s (270 + 2 * nwp s) 0) (270 + 2 * nwp s + 1) (-1)) 5 (nI (nwp s + 1))).2 = c
    have hc' : upd (upd (upd s (270 + 2 * nwp s) 0) (270 + 2 * nwp s + 1) (-1)) 5 (nI (nwp s + 1)) = c := hc
    have o : ∀ i, ¬ (i = 5 ∨ i = 270 + 2 * nwp s ∨ i = 270 + 2 * nwp s + 1) → c i = s i := fun i hi => by rw [← hc', pk_un (by omega), pk_un (by omega), pk_un (by omega)]
    have x5 : c 5 = nI (nwp s + 1) ∧ nwp s + 1 ≤ 6 := ⟨by rw [← hc']; exact pk_us, by omega⟩
    have y0 : c (270 + 2 * nwp s) = nI 0 := by rw [← hc', pk_un (by omega), pk_un (by omega), pk_us]; rfl
    have y1 : c (270 + 2 * nwp s + 1) = -1 := by rw [← hc', pk_un (by omega), pk_us]
    have e5 : nwp c = nwp s + 1 := by unfold nwp; rw [x5.1, nI_clamp (by unfold nwp at h; omega)]; rfl
    have e0 : np c = np s := (by unfold np; rw [o 0 (by omega)]); have e1 : nm c = nm s := (by unfold nm; rw [o 1 (by omega)]); have e2 : nsg c = nsg s := (by unfold nsg; rw [o 2 (by omega)]); have e3 : ntx c = ntx s := (by unfold ntx; rw [o 3 (by omega)]); have e4 : nch c = nch s := (by unfold nch; rw [o 4 (by omega)]); have e7 : nlg c = nlg s := (by unfold nlg; rw [o 7 (by omega)])
    refine ⟨wf_c_of ⟨(o 0 (by omega)).trans (wc_0 h1), by omega⟩ ⟨(o 1 (by omega)).trans (wc_1 h1), by omega⟩ ⟨(o 2 (by omega)).trans (wc_2 h1), by omega⟩ ⟨(o 3 (by omega)).trans (wc_3 h1), by omega⟩ ⟨(o 4 (by omega)).trans (wc_4 h1), by omega⟩ x5 ⟨(o 6 (by omega)).trans (wc_6 h1), by omega⟩ ⟨(o 7 (by omega)).trans (wc_7 h1), by omega⟩ ⟨(o 9 (by omega)).trans (wc_9 h1), by omega⟩, cg_p e0 (fun p f hp hf => o _ (by omega)) h2, cg_m (by omega) e1 (fun m f hm hf => o _ (by omega)) h3, cg_a e1 (fun m f hm hf => o _ (by omega)) h4, cg_g (by omega) e2 (fun i f hi hf => o _ (by omega)) h5, cg_ch (by omega) (by omega) (fun i hi => o _ (by omega)) h6, ⟨fun k hk => ?_, fun i hi => ?_⟩, cg_h (fun k hk => o _ (by omega)) h8, cg_l (by omega) e7 (fun i f hi hf => o _ (by omega)) h9, cg_t e3 (fun i hi hi2 => o _ (by omega)) h10⟩
    · rw [e5] at hk
      by_cases e : k = nwp s
      · have z0 : vW c (nwp s) = 0 := by unfold vW; rw [y0, nI_clamp (by omega)]
        rw [e, z0]
        exact ⟨y0, by omega, Or.inl y1⟩
      · obtain ⟨q1, q2, q3⟩ := h7.1 k (by omega)
        have ew : vW c k = vW s k := by unfold vW; rw [o _ (by omega)]
        rw [ew, o _ (by omega), o _ (by omega), e0]
        exact ⟨q1, q2, q3.imp id (fun ⟨j, j1, j2, j3⟩ => ⟨j, by omega, j2, by rw [o _ (by omega)]; exact j3⟩)⟩
    · rw [e0] at hi
      rw [o _ (by omega), e5]
      exact (h7.2 i (by omega)).imp id (fun ⟨k, k1, k2, k3⟩ => ⟨k, by omega, k2, by rw [o _ (by omega)]; exact k3⟩)
  · rw [cif_f h]; exact hw
theorem nI_inj {a d : Nat} (ha : a < 2 ^ 31) (hd : d < 2 ^ 31) (h : nI a = nI d) : a = d := (nI_eq ha hd).mp h
theorem nI_m1 {a : Nat} (ha : a < 2 ^ 31) : nI a ≠ -1 := m1_n ha
theorem wr_out (hw : wf_s s) : wf_s (pOut s v u).2 := by
  unfold pOut
  by_cases h : (0 ≤ v.toInt ∧ v.toInt < (nwp s : Int)) ∧ 0 ≤ u.toInt ∧ u.toInt < (np s : Int)
  · rw [cif_t h]
    obtain ⟨a, a1, ea, ca, a2⟩ := ix_of h.1
    obtain ⟨d, d1, ed, cd, d2⟩ := ix_of h.2
    rw [ca, cd]
    by_cases hx : ¬ s (270 + 2 * a + 1) = -1 ∨ 20 < vW s a ∨ ¬ s (20 + 4 * d + 3) = -1
    · rw [cif_t hx]; exact hw
    · rw [cif_f hx]
      have hx1 : s (270 + 2 * a + 1) = -1 := Classical.not_not.mp (fun q => hx (Or.inl q))
      have hx2 : s (20 + 4 * d + 3) = -1 := Classical.not_not.mp (fun q => hx (Or.inr (Or.inr q)))
      obtain ⟨h1, h2, h3, h4, h5, h6, h7, h8, h9, h10⟩ := id hw; have hb := wc_b h1
      generalize hc : ((1 : Int32), upd (upd s (270 + 2 * a + 1) u) (20 + 4 * d + 3) v).2 = c
      have hc' : upd (upd s (270 + 2 * a + 1) u) (20 + 4 * d + 3) v = c := hc
      have o : ∀ i, ¬ (i = 270 + 2 * a + 1 ∨ i = 20 + 4 * d + 3) → c i = s i := fun i hi => by rw [← hc', pk_un (by omega), pk_un (by omega)]
      have y0 : c (270 + 2 * a + 1) = nI d := by rw [← hc', pk_un (by omega), pk_us, ed]
      have y1 : c (20 + 4 * d + 3) = nI a := by rw [← hc', pk_us, ea]
      have e0 : np c = np s := (by unfold np; rw [o 0 (by omega)]); have e1 : nm c = nm s := (by unfold nm; rw [o 1 (by omega)]); have e2 : nsg c = nsg s := (by unfold nsg; rw [o 2 (by omega)]); have e3 : ntx c = ntx s := (by unfold ntx; rw [o 3 (by omega)]); have e4 : nch c = nch s := (by unfold nch; rw [o 4 (by omega)]); have e5 : nwp c = nwp s := (by unfold nwp; rw [o 5 (by omega)]); have e7 : nlg c = nlg s := (by unfold nlg; rw [o 7 (by omega)])
      refine ⟨wf_c_of ⟨(o 0 (by omega)).trans (wc_0 h1), by omega⟩ ⟨(o 1 (by omega)).trans (wc_1 h1), by omega⟩ ⟨(o 2 (by omega)).trans (wc_2 h1), by omega⟩ ⟨(o 3 (by omega)).trans (wc_3 h1), by omega⟩ ⟨(o 4 (by omega)).trans (wc_4 h1), by omega⟩ ⟨(o 5 (by omega)).trans (wc_5 h1), by omega⟩ ⟨(o 6 (by omega)).trans (wc_6 h1), by omega⟩ ⟨(o 7 (by omega)).trans (wc_7 h1), by omega⟩ ⟨(o 9 (by omega)).trans (wc_9 h1), by omega⟩, cg_p e0 (fun p f hp hf => o _ (by omega)) h2, cg_m (by omega) e1 (fun m f hm hf => o _ (by omega)) h3, cg_a e1 (fun m f hm hf => o _ (by omega)) h4, cg_g (by omega) e2 (fun i f hi hf => o _ (by omega)) h5, cg_ch (by omega) (by omega) (fun i hi => o _ (by omega)) h6, ⟨fun k hk => ?_, fun i hi => ?_⟩, cg_h (fun k hk => o _ (by omega)) h8, cg_l (by omega) e7 (fun i f hi hf => o _ (by omega)) h9, cg_t e3 (fun i hi hi2 => o _ (by omega)) h10⟩
      · rw [e5] at hk
        obtain ⟨q1, q2, q3⟩ := h7.1 k hk
        have ew : vW c k = vW s k := by unfold vW; rw [o _ (by omega)]
        rw [ew, o (270 + 2 * k) (by omega), e0]
        refine ⟨q1, q2, ?_⟩
        by_cases e : k = a
        · right; exact ⟨d, d1, by rw [e]; exact y0, by rw [e]; exact y1⟩
        · rw [o (270 + 2 * k + 1) (by omega)]
          refine q3.imp id (fun ⟨j, j1, j2, j3⟩ => ⟨j, j1, j2, ?_⟩)
          by_cases ej : j = d
          · rw [ej, hx2] at j3
            exact absurd j3.symm (nI_m1 (by omega))
          · rw [o _ (by omega)]; exact j3
      · rw [e0] at hi
        rw [e5]
        by_cases e : i = d
        · right; exact ⟨a, a1, by rw [e]; exact y1, by rw [e]; exact y0⟩
        · rw [o (20 + 4 * i + 3) (by omega)]
          refine (h7.2 i hi).imp id (fun ⟨k, k1, k2, k3⟩ => ⟨k, k1, k2, ?_⟩)
          by_cases ek : k = a
          · rw [ek, hx1] at k3
            exact absurd k3.symm (nI_m1 (by omega))
          · rw [o _ (by omega)]; exact k3
  · rw [cif_f h]; exact hw
theorem wr_in (hw : wf_s s) : wf_s (pIn s v).2 := by
  unfold pIn
  by_cases h : 0 ≤ v.toInt ∧ v.toInt < (nwp s : Int)
  · rw [cif_t h]
    obtain ⟨a, a1, ea, ca, a2⟩ := ix_of h
    rw [ca]
    by_cases hx : s (270 + 2 * a + 1) = -1
    · rw [cif_t hx]; exact hw
    · rw [cif_f hx]
      obtain ⟨h1, h2, h3, h4, h5, h6, h7, h8, h9, h10⟩ := id hw; have hb := wc_b h1
      obtain ⟨d, d1, d2, d3⟩ := (h7.1 a a1).2.2.resolve_left hx
      rw [d2, nI_clamp (by omega)]
      generalize hc : (nI d, upd (upd s (270 + 2 * a + 1) (-1)) (20 + 4 * d + 3) (-1)).2 = c
      have hc' : upd (upd s (270 + 2 * a + 1) (-1)) (20 + 4 * d + 3) (-1) = c := hc
      have o : ∀ i, ¬ (i = 270 + 2 * a + 1 ∨ i = 20 + 4 * d + 3) → c i = s i := fun i hi => by rw [← hc', pk_un (by omega), pk_un (by omega)]
      have y0 : c (270 + 2 * a + 1) = -1 := by rw [← hc', pk_un (by omega), pk_us]
      have y1 : c (20 + 4 * d + 3) = -1 := by rw [← hc', pk_us]
      have e0 : np c = np s := (by unfold np; rw [o 0 (by omega)]); have e1 : nm c = nm s := (by unfold nm; rw [o 1 (by omega)]); have e2 : nsg c = nsg s := (by unfold nsg; rw [o 2 (by omega)]); have e3 : ntx c = ntx s := (by unfold ntx; rw [o 3 (by omega)]); have e4 : nch c = nch s := (by unfold nch; rw [o 4 (by omega)]); have e5 : nwp c = nwp s := (by unfold nwp; rw [o 5 (by omega)]); have e7 : nlg c = nlg s := (by unfold nlg; rw [o 7 (by omega)])
      refine ⟨wf_c_of ⟨(o 0 (by omega)).trans (wc_0 h1), by omega⟩ ⟨(o 1 (by omega)).trans (wc_1 h1), by omega⟩ ⟨(o 2 (by omega)).trans (wc_2 h1), by omega⟩ ⟨(o 3 (by omega)).trans (wc_3 h1), by omega⟩ ⟨(o 4 (by omega)).trans (wc_4 h1), by omega⟩ ⟨(o 5 (by omega)).trans (wc_5 h1), by omega⟩ ⟨(o 6 (by omega)).trans (wc_6 h1), by omega⟩ ⟨(o 7 (by omega)).trans (wc_7 h1), by omega⟩ ⟨(o 9 (by omega)).trans (wc_9 h1), by omega⟩, cg_p e0 (fun p f hp hf => o _ (by omega)) h2, cg_m (by omega) e1 (fun m f hm hf => o _ (by omega)) h3, cg_a e1 (fun m f hm hf => o _ (by omega)) h4, cg_g (by omega) e2 (fun i f hi hf => o _ (by omega)) h5, cg_ch (by omega) (by omega) (fun i hi => o _ (by omega)) h6, ⟨fun k hk => ?_, fun i hi => ?_⟩, cg_h (fun k hk => o _ (by omega)) h8, cg_l (by omega) e7 (fun i f hi hf => o _ (by omega)) h9, cg_t e3 (fun i hi hi2 => o _ (by omega)) h10⟩
      · rw [e5] at hk
        obtain ⟨q1, q2, q3⟩ := h7.1 k hk
        have ew : vW c k = vW s k := by unfold vW; rw [o _ (by omega)]
        rw [ew, o (270 + 2 * k) (by omega), e0]
        refine ⟨q1, q2, ?_⟩
        by_cases e : k = a
        · left; rw [e]; exact y0
        · rw [o (270 + 2 * k + 1) (by omega)]
          refine q3.imp id (fun ⟨j, j1, j2, j3⟩ => ⟨j, j1, j2, ?_⟩)
          by_cases ej : j = d
          · rw [ej, d3] at j3
            exact absurd (nI_inj (by omega) (by omega) j3).symm e
          · rw [o _ (by omega)]; exact j3
      · rw [e0] at hi
        rw [e5]
        by_cases e : i = d
        · left; rw [e]; exact y1
        · rw [o (20 + 4 * i + 3) (by omega)]
          refine (h7.2 i hi).imp id (fun ⟨k, k1, k2, k3⟩ => ⟨k, k1, k2, ?_⟩)
          by_cases ek : k = a
          · rw [ek, d2] at k3
            exact absurd (nI_inj (by omega) (by omega) k3).symm e
          · rw [o _ (by omega)]; exact k3
  · rw [cif_f h]; exact hw
theorem wr_rs (hw : wf_s s) : ∀ {n : Nat}, n ≤ np s → wf_s (rsR s n) ∧ ∀ j, n ≤ j → j < np s → vP (rsR s n) j 2 = vP s j 2
  | 0, _ => ⟨hw, fun _ _ _ => rfl⟩
  | n + 1, hn => by
    obtain ⟨q1, q2⟩ := wr_rs hw (n := n) (by omega)
    have hb := wp_b (ws_p hw) (show n < np s by omega)
    have := wc_b (ws_c hw)
    refine ⟨?_, fun j hj hj2 => ?_⟩
    · unfold rsR
      exact wr_pset q1 (by rw [rs_np]; omega) (Or.inr ⟨rfl, by rw [nI_toInt (by omega)]; omega, by rw [nI_toInt (by omega)]; omega⟩)
    · unfold vP
      rw [rs_o (fun i hi => by omega)]
theorem wr_rest (hw : wf_s s) : wf_s (pRest s).2 := (wr_rs hw (Nat.le_refl _)).1
theorem mini_ex (h : ∃ f u t, good s f u t) : ∃ f u t, mini s f u t := by
  obtain ⟨f0, u0, t0, h0⟩ := h
  obtain ⟨n, ⟨f, u, t, hg, en⟩, hl⟩ := pk_least (fun n => ∃ f u t, good s f u t ∧ n = 36 * (f + u + t) + 6 * f + u) ⟨_, f0, u0, t0, h0, rfl⟩
  refine ⟨f, u, t, hg, fun f' u' t' h' => ?_⟩
  have h1 : ¬ 36 * (f' + u' + t') + 6 * f' + u' < n := fun q => hl _ q ⟨f', u', t', h', rfl⟩
  have h2 := hg.1
  have h3 := h'.1
  unfold vd at h2 h3
  omega
theorem wr_shift (hw : wf_s s) : wf_s (pShift s).2 := by
  unfold pShift
  by_cases h : ∃ f u t, good s f u t
  · rw [cif_t h]
    obtain ⟨f, u, t, hm⟩ := mini_ex h
    rw [sft_of hm]
    show wf_s (shR s (tri f u t) (nK s))
    obtain ⟨⟨hvd, hOK⟩, -⟩ := hm
    have hn : nK s ≤ nch s := by unfold nK; omega
    have hag := shR_ag (r := tri f u t) hw hn
    have hm' := shR_m90 hw hn (fun k _ => tri_le hvd) hOK.1
    have ha' := hOK.2.1
    generalize shR s (tri f u t) (nK s) = c at *
    obtain ⟨h1, h2, h3, h4, h5, h6, h7, h8, h9, h10⟩ := id hw; have hb := wc_b h1
    have o : ∀ i, ¬ (60 ≤ i ∧ i < 220 ∧ i % 8 = 6) → c i = s i := hag
    have e0 : np c = np s := (by unfold np; rw [o 0 (by omega)]); have e1 : nm c = nm s := (by unfold nm; rw [o 1 (by omega)]); have e2 : nsg c = nsg s := (by unfold nsg; rw [o 2 (by omega)]); have e3 : ntx c = ntx s := (by unfold ntx; rw [o 3 (by omega)]); have e4 : nch c = nch s := (by unfold nch; rw [o 4 (by omega)]); have e5 : nwp c = nwp s := (by unfold nwp; rw [o 5 (by omega)]); have e7 : nlg c = nlg s := (by unfold nlg; rw [o 7 (by omega)])
    exact ⟨wf_c_of ⟨(o 0 (by omega)).trans (wc_0 h1), by omega⟩ ⟨(o 1 (by omega)).trans (wc_1 h1), by omega⟩ ⟨(o 2 (by omega)).trans (wc_2 h1), by omega⟩ ⟨(o 3 (by omega)).trans (wc_3 h1), by omega⟩ ⟨(o 4 (by omega)).trans (wc_4 h1), by omega⟩ ⟨(o 5 (by omega)).trans (wc_5 h1), by omega⟩ ⟨(o 6 (by omega)).trans (wc_6 h1), by omega⟩ ⟨(o 7 (by omega)).trans (wc_7 h1), by omega⟩ ⟨(o 9 (by omega)).trans (wc_9 h1), by omega⟩, cg_p e0 (fun p f hp hf => o _ (by omega)) h2, hm', ha', cg_g (by omega) e2 (fun i f hi hf => o _ (by omega)) h5, cg_ch (by omega) (by omega) (fun i hi => o _ (by omega)) h6, cg_w e0 e5 (fun k hk => ⟨o _ (by omega), o _ (by omega)⟩) (fun p hp => o _ (by omega)) h7, cg_h (fun k hk => o _ (by omega)) h8, cg_l (by omega) e7 (fun i f hi hf => o _ (by omega)) h9, cg_t e3 (fun i hi hi2 => o _ (by omega)) h10⟩
  · rw [cif_f h]; exact hw
end Wi
