/-! ROWS: a text that was read leaves them right -/
section Tr
variable {w : mu_O} {n E b : Nat} {g : mu_H} {B : Nat → Nat} {s c : Nat → Int32}
theorem ok_cg {wh wh' v v' : Nat → Int32} {n lv : Nat} (h : ∀ k, k < n → wh k = wh' k ∧ v k = v' k) (ho : tx_ok wh' v' n lv) : tx_ok wh v n lv := by
  obtain ⟨o1, o2, o3, o4, o5⟩ := ho
  have eh : ∀ m, m ≤ n → rf_ht wh v m = rf_ht wh' v' m := fun m => by
    induction m with
    | zero => intro _; rfl
    | succ m ih =>
      intro hm
      unfold rf_ht
      rw [ih (by omega), (h m (by omega)).1, (h m (by omega)).2]
  refine ⟨o1, o2, o3, by rw [eh _ (Nat.le_refl _)]; exact o4, fun k hk => ?_⟩
  rw [eh k hk]
  refine ⟨(o5 k hk).1, fun hk2 => ?_⟩
  rw [(h k hk2).1, (h k hk2).2]
  exact (o5 k hk).2 hk2
/-- rows that agree as far as the texts go -/
theorem sv_agT (hW : wf_s s) (h : ∀ i, i < 460 + 200 * ntx s → c i = s i) (hV : sc_V w E b s g) : sc_V w E b c g := by
  have hb := wc_b (ws_c hW)
  have e0 : np c = np s := by unfold np; rw [h 0 (by omega)]
  have e1 : nm c = nm s := by unfold nm; rw [h 1 (by omega)]
  have e2 : nsg c = nsg s := by unfold nsg; rw [h 2 (by omega)]
  have e3 : ntx c = ntx s := by unfold ntx; rw [h 3 (by omega)]
  have e4 : nch c = nch s := by unfold nch; rw [h 4 (by omega)]
  have e5 : nwp c = nwp s := by unfold nwp; rw [h 5 (by omega)]
  have e7 : nlg c = nlg s := by unfold nlg; rw [h 7 (by omega)]
  obtain ⟨v0, ⟨a0, a1, a2, a3, a4, a5, a6, a7, a8, a9⟩, v2, v3, v4, v5, v6, v7, v8, v9⟩ := hV
  refine ⟨v0, ⟨a0.trans (h 0 (by omega)).symm, a1.trans (h 1 (by omega)).symm, a2.trans (h 2 (by omega)).symm, a3.trans (h 3 (by omega)).symm, a4.trans (h 4 (by omega)).symm, a5.trans (h 5 (by omega)).symm, a6.trans (h 9 (by omega)).symm, a7.trans (h 6 (by omega)).symm, a8.trans (h 8 (by omega)).symm, a9.trans (h 7 (by omega)).symm⟩, fun p f hp hf => ?_, fun m f hm hf => ?_, fun i hi => ?_, fun t ht => ?_, fun k hk => ?_, fun i hi => ?_, fun i hi => ?_, fun i f hi hf => ?_⟩
  · rw [e0] at hp; rw [h _ (by omega)]; exact v2 p f hp hf
  · rw [e1] at hm; rw [h _ (by omega)]; exact v3 m f hm hf
  · rw [e2] at hi; rw [h _ (by omega), h _ (by omega)]; exact v4 i hi
  · rw [e3] at ht
    have hn := (ws_t hW t ht).2.2.2.1.1
    have k3 : txn c t = txn s t := by unfold txn; rw [h _ (by omega)]
    have k4 : txl c t = txl s t := by unfold txl; rw [h _ (by omega)]
    obtain ⟨b1, b2, b3, b4, b5, b6, b7, b8, b9⟩ := v5 t ht
    unfold tx_R
    rw [k3, k4, h _ (by omega), h _ (by omega)]
    refine ⟨b1, b2, b3, b4, b5, b6, b7, fun i hi => ?_, b9⟩
    rw [b8 i hi]
    unfold tx_enc txw txv
    rw [h _ (by omega), h _ (by omega), h _ (by omega)]
  · rw [h _ (by omega)]; exact v6 k hk
  · rw [e4] at hi; rw [h _ (by omega)]; exact v7 i hi
  · rw [e5] at hi; rw [h _ (by omega), h _ (by omega)]; exact v8 i hi
  · rw [e7] at hi; rw [h _ (by omega)]; exact v9 i f hi hf
/-- the new text in the row -/
theorem rh_o {i : Nat} (hb : ntx s < 14) (h3 : i ≠ 3) (hi : i < 460 + 200 * ntx s) : rwH B n s i = s i := by
  unfold rwH
  rw [pk_un h3, pk_un (by omega), pk_un (by omega), pk_un (by omega)]
  exact rt_o (by omega) hi
theorem rh_3 : rwH B n s 3 = nI (ntx s + 1) := by unfold rwH; rw [pk_us]
theorem rh_n : rwH B n s (460 + 200 * ntx s + 2) = nI (stA B n).2.2.2.1 := by unfold rwH; rw [pk_un (by omega), pk_us]
theorem rh_l : rwH B n s (460 + 200 * ntx s + 1) = nI (stA B n).2.2.2.2 := by unfold rwH; rw [pk_un (by omega), pk_un (by omega), pk_us]
theorem rh_k : rwH B n s (460 + 200 * ntx s) = keyO B (tkA B n) := by unfold rwH; rw [pk_un (by omega), pk_un (by omega), pk_un (by omega), pk_us]
theorem rh_w {k : Nat} (hb : ntx s < 14) (hk : k < (stA B n).2.2.2.1) : txw (rwH B n s) (ntx s) k = (stA B n).2.1 k ∧ txv (rwH B n s) (ntx s) k = (stA B n).2.2.1 k := by
  have e := (bs_b (s := s) (by omega)).2.2 hb
  unfold txw txv rwH
  rw [pk_un (by omega), pk_un (by omega), pk_un (by omega), pk_un (by omega), pk_un (by omega), pk_un (by omega), pk_un (by omega), pk_un (by omega)]
  unfold rwT rwP
  rw [e, if_pos (by omega), if_pos (by omega), if_pos (by omega), if_neg (by omega), show (460 + 200 * ntx s + 4 + 2 * k - (464 + 200 * ntx s)) / 2 = k by omega, show (460 + 200 * ntx s + 4 + 2 * k + 1 - (464 + 200 * ntx s)) / 2 = k by omega]
  exact ⟨rfl, rfl⟩
theorem st_gd (h : gdA B n) : stA B n = (rdA B n).2 := by unfold stA; rw [cif_f h.1]
theorem wr_text (hn : n ≤ 96) (hw : wf_s s) : wf_s (pText B n s).2 := by
  have hb14 := (wc_b (ws_c hw)).2.2.2.1
  unfold pText
  by_cases hg : gdA B n
  · rw [cif_t hg]
    by_cases h14 : ntx s < 14
    · rw [cif_t h14]
      show wf_s (rwH B n s)
      obtain ⟨k, k1, k2, k3, k4, k5⟩ := gd_tx hn hg
      have es := st_gd hg
      obtain ⟨h1, h2, h3, h4, h5, h6, h7, h8, h9, h10⟩ := id hw; have hb := wc_b h1
      have o : ∀ i, i ≠ 3 ∧ i < 460 + 200 * ntx s → rwH B n s i = s i := fun i hi => rh_o h14 hi.1 hi.2
      have x3 : rwH B n s 3 = nI (ntx s + 1) ∧ ntx s + 1 ≤ 14 := ⟨rh_3, by omega⟩
      have y3 : ntx (rwH B n s) = ntx s + 1 := by unfold ntx; rw [rh_3, nI_clamp (by omega)]; rfl
      have yn : txn (rwH B n s) (ntx s) = (stA B n).2.2.2.1 := by unfold txn; rw [rh_n, nI_clamp (by rw [es]; omega)]
      have hlv := k3.2.2.1
      have yl : txl (rwH B n s) (ntx s) = (stA B n).2.2.2.2 := by unfold txl; rw [rh_l, nI_clamp (by rw [es]; omega)]
      have W : wf_texts (rwH B n s) (ntx (rwH B n s)) := fun t ht => by
        rw [y3] at ht
        by_cases htt : t = ntx s
        · subst htt
          refine ⟨by rw [yn, rh_n], by rw [yl, rh_l], ?_, ?_, fun i hi => ?_⟩
          · rw [rh_k, k2]
            rcases (show k = 0 ∨ k = 1 ∨ k = 2 by omega) with q | q | q <;> rw [q]
            · exact Or.inl rfl
            · exact Or.inr (Or.inl rfl)
            · exact Or.inr (Or.inr rfl)
          · rw [yn, yl]
            refine ok_cg (fun i hi => rh_w h14 hi) ?_
            rw [es]
            exact k3
          · rw [yn] at hi
            have q := rh_w (B := B) (n := n) h14 hi
            rw [q.1, q.2, rh_k, k2, es]
            rcases k5 i (by rw [es] at hi; exact hi) with ⟨p1, p2⟩ | ⟨p1, p2⟩ | ⟨p1, p2⟩ <;> rw [p1]
            · exact ⟨fun _ => p2, fun q => absurd q (by decide), fun q => absurd q (by decide)⟩
            · exact ⟨fun q => absurd q (by decide), fun _ => p2, fun q => absurd q (by decide)⟩
            · exact ⟨fun q => absurd q (by decide), fun q => absurd q (by decide), fun _ => p2⟩
        · have hx := h10 t (by omega)
          have := hx.2.2.2.1.1
          exact cg_x1 (fun i hi => o _ (by omega)) hx
      generalize rwH B n s = c at *
      have e0 : np c = np s := (by unfold np; rw [o 0 (by omega)]); have e1 : nm c = nm s := (by unfold nm; rw [o 1 (by omega)]); have e2 : nsg c = nsg s := (by unfold nsg; rw [o 2 (by omega)]); have e4 : nch c = nch s := (by unfold nch; rw [o 4 (by omega)]); have e5 : nwp c = nwp s := (by unfold nwp; rw [o 5 (by omega)]); have e7 : nlg c = nlg s := (by unfold nlg; rw [o 7 (by omega)])
      exact ⟨wf_c_of ⟨(o 0 (by omega)).trans (wc_0 h1), by omega⟩ ⟨(o 1 (by omega)).trans (wc_1 h1), by omega⟩ ⟨(o 2 (by omega)).trans (wc_2 h1), by omega⟩ x3 ⟨(o 4 (by omega)).trans (wc_4 h1), by omega⟩ ⟨(o 5 (by omega)).trans (wc_5 h1), by omega⟩ ⟨(o 6 (by omega)).trans (wc_6 h1), by omega⟩ ⟨(o 7 (by omega)).trans (wc_7 h1), by omega⟩ ⟨(o 9 (by omega)).trans (wc_9 h1), by omega⟩, cg_p e0 (fun p f hp hf => o _ (by omega)) h2, cg_m (by omega) e1 (fun m f hm hf => o _ (by omega)) h3, cg_a e1 (fun m f hm hf => o _ (by omega)) h4, cg_g (by omega) e2 (fun i f hi hf => o _ (by omega)) h5, cg_ch (by omega) (by omega) (fun i hi => o _ (by omega)) h6, cg_w e0 e5 (fun k hk => ⟨o _ (by omega), o _ (by omega)⟩) (fun p hp => o _ (by omega)) h7, cg_h (fun k hk => o _ (by omega)) h8, cg_l (by omega) e7 (fun i f hi hf => o _ (by omega)) h9, W⟩
    · rw [cif_f h14]
      exact cg_s hw (fun i _ hi => rt_o hb14 hi)
  · rw [cif_f hg]
    exact cg_s hw (fun i _ hi => rt_o hb14 hi)
theorem tx_sh (hn : n ≤ 96) (hw : wf_s s) : nsh (pText B n s).2 = nsh s := by
  have hb14 := (wc_b (ws_c hw)).2.2.2.1
  unfold pText nsh
  by_cases hg : gdA B n
  · rw [cif_t hg]
    by_cases h14 : ntx s < 14
    · rw [cif_t h14]
      show (rwH B n s 6).toNatClampNeg = _
      rw [rh_o h14 (by omega) (by omega)]
    · rw [cif_f h14]
      show (rwT B n s 6).toNatClampNeg = _
      rw [rt_o hb14 (by omega)]
  · rw [cif_f hg]
    show (rwT B n s 6).toNatClampNeg = _
    rw [rt_o hb14 (by omega)]
end Tr
