/-! CLIENTS: the class's text: the public call -/
def txA (x : Nat) : Nat → Prop := fun a => a = x ∨ a = x + 1 ∨ a = x + 133 ∨ a = x + 134
/-- behind E lie whole texts, and nothing behind them -/
def nwZ (E : Nat) (g : mu_H) : Prop := (∀ z, mu_X g ≤ z → mu_T g z = 0) ∧ E ≤ mu_X g ∧ (mu_X g - E) % 3 = 0
noncomputable def cTx (w : mu_O) (x E : Nat) (B : Nat → Nat) (n : Nat) (s : Nat → Int32) (g : mu_H) : Option Value → mu_H → Prop := fun r g' => ∃ v, r = some (.int v) ∧ (v = (pText B n s).1 ∧ cl_L w x g' ∧ sc_V w E (x + 1) (pText B n s).2 g' ∧ mu_I g' x 10 = 0 ∧ (∀ k, k ≠ 10 → mu_I g' x k = mu_I g x k) ∧ mu_ft (txA x) (fun a => a = x + 6) g g' ∧ nwZ E g')
section Tc
variable {w : mu_O} {d x n E : Nat} {g g1 : mu_H} {B : Nat → Nat} {s : Nat → Int32}
theorem sp_read_bad (hC : cl_L w x g) (hS : str_L w g) (hn : n ≤ 96) (hT : ∀ i, i < n → B i < 256 ∧ mu_I g (x + 132) i = bz (B i)) (hx : x + 135 ≤ mu_X g) (hg : ¬ gdA B n) : mu_mp w mm_X3_read (d + 1411) [.ref (x + 133), .int (nI n)] g (fun r g' => ∃ a, r = some (.ref a) ∧ (a = 0 ∧ mu_fr (rdW x) g g' ∧ mu_I g' (x + 133) 8 = nI (stA B n).1.2.1)) :=
  mu_mkp mk_X3_read rfl (fun L hL Q hQ => read_go (d := d) hC hS hn hT hL hx (fun _ g' f h8 => hQ _ _ ⟨0, rfl, rfl, f, h8⟩ f.2.2.2.1 f.2.2.2.2.1) (fun q => absurd q hg))
theorem sp_read_good (hC : cl_L w x g) (hS : str_L w g) (hn : n ≤ 96) (hT : ∀ i, i < n → B i < 256 ∧ mu_I g (x + 132) i = bz (B i)) (hx : x + 135 ≤ mu_X g) (hg : gdA B n) : mu_mt w mm_X3_read (d + 1411) [.ref (x + 133), .int (nI n)] g (fun r g' => r = some (.ref (mu_X g)) ∧ ∃ g5, mu_fr (rdW x) g g5 ∧ (∀ i, i < (stA B n).2.2.2.1 → mu_I g5 (x + 134) i = enP (keyO B (tkA B n)) ((stA B n).2.1 i) ((stA B n).2.2.1 i)) ∧ nwT (mu_X g) (stA B n).2.2.2.1 (stA B n).2.2.2.2 (keyO B (tkA B n)) (x + 134) g5 g') (mu_X g + 3) (mu_S g + 4 + (stA B n).2.2.2.1 + (stA B n).2.2.2.2) :=
  mu_mkX mk_X3_read rfl (Nat.le_add_right _ _) (by omega) (fun L l1 l2 Q hQ => read_go (d := d) hC hS hn hT ⟨by omega, by omega⟩ hx (fun q => absurd hg q) (fun _ => ⟨⟨l1, l2⟩, fun g5 g' f c h => hQ _ _ ⟨rfl, g5, f, c, h⟩ h.2.2.2.2.2.2.1 (by rw [h.2.2.2.2.2.2.2, f.2.2.2.2.1])⟩))
theorem rh_tn (hn : n ≤ 96) (hg : gdA B n) : txn (rwH B n s) (ntx s) = (stA B n).2.2.2.1 ∧ txl (rwH B n s) (ntx s) = (stA B n).2.2.2.2 := by
  obtain ⟨k, k1, k2, k3, k4, k5⟩ := gd_tx hn hg
  have es := st_gd hg
  have hlv := k3.2.2.1
  exact ⟨by unfold txn; rw [rh_n, nI_clamp (by rw [es]; omega)], by unfold txl; rw [rh_l, nI_clamp (by rw [es]; omega)]⟩
/-- a text that came into being is the one of the row -/
theorem tx_nw {a : Nat} {g5 g' : mu_H} (hn : n ≤ 96) (hg : gdA B n) (h14 : ntx s < 14) (hw : w.1 < E) (hE : E ≤ a) (h3 : (a - E) % 3 = 0) (hc : ∀ i, i < (stA B n).2.2.2.1 → mu_I g5 (x + 134) i = enP (keyO B (tkA B n)) ((stA B n).2.1 i) ((stA B n).2.2.1 i)) (h : nwT a (stA B n).2.2.2.1 (stA B n).2.2.2.2 (keyO B (tkA B n)) (x + 134) g5 g') : tx_R w E g' a (rwH B n s) (ntx s) := by
  obtain ⟨-, ⟨q1, q2, q3⟩, ⟨n1, n2⟩, ⟨i1, i2⟩, ⟨r1, r2⟩, hi, -, -⟩ := h
  obtain ⟨e1, e2⟩ := rh_tn (s := s) hn hg
  unfold tx_R jU
  rw [r1, r2, e1, e2, rh_k, rh_l]
  refine ⟨q1, ⟨by omega, by omega, hE, by omega⟩, i1, i2, q2, by omega, n1, fun i hi2 => ?_, q3, by omega, by omega, n2⟩
  obtain ⟨e3, e4⟩ := rh_w (B := B) (n := n) (s := s) h14 hi2
  rw [hi i hi2, hc i hi2]
  unfold tx_enc enP
  rw [e3, e4, rh_k]
theorem pc_text (hE : x + 187 ≤ E) (hZ : nwZ E g) (hC : cl_L w x g) (hS : str_L w g) (hV : sc_V w E (x + 1) s g) (hW : wf_s s) (hn : n ≤ 96) (h10 : mu_I g x 10 = nI n) (hT : ∀ i, i < n → B i < 256 ∧ mu_I g (x + 132) i = bz (B i)) : ∃ X S, X ≤ mu_X g + 3 ∧ mu_X g ≤ X ∧ S ≤ mu_S g + 200 ∧ mu_mt w mm_X10_text (d + 1412) [.ref x] g (cTx w x E B n s g) X S := by
  obtain ⟨z1, z2, z3⟩ := hZ
  have hw := cl_w hC
  have hc := ws_c hW
  have hb := wc_b hc
  by_cases hg : gdA B n
  · obtain ⟨k, k1, k2, k3, k4, k5⟩ := gd_tx hn hg
    have es := st_gd hg
    have hlv := k3.2.2.1
    have hc96 : (stA B n).2.2.2.1 < 96 := by rw [es]; exact k4
    have hl96 : (stA B n).2.2.2.2 ≤ 96 := by rw [es]; exact hlv
    refine ⟨mu_X g + 3, mu_S g + 4 + (stA B n).2.2.2.1 + (stA B n).2.2.2.2, Nat.le_refl _, by omega, by omega, mu_mkX mk_X10_text rfl (by omega) (by omega) (fun L l1 l2 Q hQ => fm_X10_text_0 ?_)⟩
    rw [cl_R6 hC, h10]
    refine ⟨cl_T hC, cl_T hC, hC.2.2.2.2.2.2.1.1, _, _, _, sp_read_good (d := d) hC hS hn hT (by omega) hg, l1, l2, fun r g2 h2 X2 S2 => ?_⟩
    obtain ⟨rfl, g5, f5, hcd, hnw⟩ := h2
    refine ⟨_, rfl, ?_⟩
    have Z5 : ∀ z, mu_X g5 ≤ z → mu_T g5 z = 0 := fun z hz => by rw [f5.1]; exact z1 z (by rw [← f5.2.2.2.1]; exact hz)
    have hnw' := hnw
    rw [← f5.2.2.2.1] at hnw'
    have F2 : mu_ft (rdW x) (fun _ => False) g g2 := ft_tr (ft_fw (fw_fr f5)) (ft_nw Z5 hnw')
    have L1 := sc_ft0 (cl_n hC) F2 (fun a q => q.elim)
    have L2 := sc_ft0 (cl_i hC) F2 (fun a q => q.elim)
    have L3 := sc_ft0 (cl_t hC) F2 (fun a q => q.elim)
    have C2 := cl_ft hC F2 (fun a q => q.elim) L1 L2 L3
    have V2 := sv_ft hV (cl_n hC) hc F2 (fun a q => by unfold rdW at q; omega) (fun a q => q.elim)
    have Zg : ∀ z, mu_X g + 3 ≤ z → mu_T g2 z = 0 := fun z hz => by
      rw [(hnw.1 z (by omega) (by omega) (by omega)).1, f5.1]
      exact z1 z (by omega)
    have T2 : mu_T g2 x = 11 := cl_T C2
    have tN : mu_T g2 (mu_X g) = 10 := hnw.2.1.1
    have c13 : mu_I (mu_sI g2 x 10 0) (x + 1) 13 = nI (ntx s) := by rw [I_sI_a _ _ _ _ (by omega)]; exact V2.2.1.2.2.2.1.trans (wc_3 hc)
    have e14 : nI (ntx s) < (14 : Int32) ↔ ntx s < 14 := nI_ltI (b := 14) (by omega) (by decide)
    have F0 : mu_ft (txA x) (fun a => a = x + 6) g (mu_sI g2 x 10 0) := ft_tr (ft_mono F2 (fun a q => by unfold rdW at q; unfold txA; omega) (fun a q => q.elim)) (ft_fw (fw_fr (mu_fr_sI (Or.inl rfl))))
    have hp : pText B n s = cif (ntx s < 14) (nI (ntx s), rwH B n s) (-1000000003, rwT B n s) := cif_t hg
    have xk : ∀ k, k ≠ 10 → mu_I (mu_sI g2 x 10 0) x k = mu_I g x k := fun k hk => by rw [I_sI_k _ _ _ hk, ft_I F2 (cl_T hC) (by unfold rdW; omega)]
    have f0 : mu_fr (fun a => a = x) g2 (mu_sI g2 x 10 0) := mu_fr_sI rfl
    have C0 := cl_fr C2 f0
    have V0 : sc_V w E (x + 1) s (mu_sI g2 x 10 0) := sv_ft V2 L1 hc (ft_fw (fw_fr (B := fun _ => False) f0)) (fun a q => by omega) (fun a q => q.elim)
    simp (disch := omega) only [cl_R0 C2, sc_R4 L1, show x + 1 + 5 = x + 6 by omega, c13, e14, sR_R, I_sI_a, I_sI_same]
    refine ⟨T2, fun _ => ⟨T2, sc_T L1, fun h14 => ?_, fun h14 => ?_⟩, fun q => by omega⟩
    · have T5 := sc_T5 L1
      have N5 := sc_N5 L1
      rw [show x + 1 + 5 = x + 6 by omega] at T5 N5
      rw [T5, N5, nI_clamp (by omega), show mu_R (mu_sI g2 x 10 0) x 0 = x + 1 from cl_R0 C2, c13, show nI (ntx s) + 1 = nI (ntx s + 1) from nI_add _ 1]
      refine ⟨T2, sc_T L1, T2, sc_T L1, by omega, by decide, Or.inr tN, mu_in_n h14 (by omega), T2, sc_T L1, sc_T L1, T2, sc_T L1, ?_⟩
      have T0 : mu_T (mu_sI g2 x 10 0) (mu_X g) = 10 := tN
      have x0 : mu_I (mu_sI g2 x 10 0) x 10 = 0 := I_sI_same _ _ _ _
      have tx0 : tx_R w E (mu_sI g2 x 10 0) (mu_X g) (rwH B n s) (ntx s) := by
        refine tx_ft (tx_nw hn hg h14 (by omega) z2 z3 hcd hnw) (ft_fw (fw_fr (B := fun _ => False) f0)) (fun a q hq => by omega) (fun a q => q.elim)
      have Z0 : ∀ z, mu_X g + 3 ≤ z → mu_T (mu_sI g2 x 10 0) z = 0 := Zg
      have X0 : mu_X (mu_sI g2 x 10 0) = mu_X g + 3 := X2
      have S0 : mu_S (mu_sI g2 x 10 0) = mu_S g + 4 + (stA B n).2.2.2.1 + (stA B n).2.2.2.2 := S2
      generalize mu_sI g2 x 10 0 = G at *
      have fG : mu_fw (fun a => a = x + 1) (fun a => a = x + 6) G (mu_sI (mu_sR G (x + 6) (ntx s) (mu_X g)) (x + 1) 13 (nI (ntx s + 1))) := fw_tr (fw_sR rfl) (fw_fr (mu_fr_sI rfl))
      have FG := ft_fw fG
      have hR : ∀ i, i ≠ ntx s → mu_R (mu_sI (mu_sR G (x + 6) (ntx s) (mu_X g)) (x + 1) 13 (nI (ntx s + 1))) (x + 6) i = mu_R G (x + 6) i := fun i hi => sR_R G (mu_X g) (Or.inr hi)
      have hRn : mu_R (mu_sI (mu_sR G (x + 6) (ntx s) (mu_X g)) (x + 1) 13 (nI (ntx s + 1))) (x + 6) (ntx s) = mu_X g := sR_same G _ _ _
      have iG : ∀ k, k ≠ 13 → mu_I (mu_sI (mu_sR G (x + 6) (ntx s) (mu_X g)) (x + 1) 13 (nI (ntx s + 1))) (x + 1) k = mu_I G (x + 1) k := fun k hk => I_sI_k _ _ _ hk
      have i13 : mu_I (mu_sI (mu_sR G (x + 6) (ntx s) (mu_X g)) (x + 1) 13 (nI (ntx s + 1))) (x + 1) 13 = nI (ntx s + 1) := I_sI_same _ _ _ _
      have XG : mu_X (mu_sI (mu_sR G (x + 6) (ntx s) (mu_X g)) (x + 1) 13 (nI (ntx s + 1))) = mu_X g + 3 := X0
      have SG : mu_S (mu_sI (mu_sR G (x + 6) (ntx s) (mu_X g)) (x + 1) 13 (nI (ntx s + 1))) = mu_S g + 4 + (stA B n).2.2.2.1 + (stA B n).2.2.2.2 := S0
      generalize mu_sI (mu_sR G (x + 6) (ntx s) (mu_X g)) (x + 1) 13 (nI (ntx s + 1)) = H at *
      have L1' : sc_L w (x + 1) H := sc_ft (cl_n C0) FG (fun a q => by omega) (fun i hi => by
        rw [show x + 1 + 5 = x + 6 by omega]
        by_cases q : i = ntx s
        · rw [q, hRn]; exact Or.inr (ft_T FG T0)
        · rw [hR i q]
          exact (sc_RX (cl_n C0) hi).imp id (fun q => ft_T FG q))
      have L2' : sc_L w (x + 42) H := sc_ft0 (cl_i C0) FG (fun a q => by omega)
      have L3' : sc_L w (x + 83) H := sc_ft0 (cl_t C0) FG (fun a q => by omega)
      have CH : cl_L w x H := cl_ft C0 FG (fun a q => by omega) L1' L2' L3'
      have VH : sc_V w E (x + 1) (rwH B n s) H := by
        have oI : ∀ a, a ≠ x + 1 → mu_I H a = mu_I G a := fun a q => fG.2.2.2.2.2 a q
        have oR : ∀ i, i < 460 + 200 * ntx s → i ≠ 3 → rwH B n s i = s i := fun i hi h3 => rh_o h14 h3 hi
        have ex : ∀ t, t < ntx s → tx_R w E H (mu_R G (x + 6) t) (rwH B n s) t := fun t ht => by
          have v5 := V0.2.2.2.2.2.1 t ht
          rw [show x + 1 + 5 = x + 6 by omega] at v5
          have q := tx_ft v5 FG (fun a q hq => by omega) (fun a q => by omega)
          have hn9 := (ws_t hW t ht).2.2.2.1.1
          have k3 : txn (rwH B n s) t = txn s t := by unfold txn; rw [oR _ (by omega) (by omega)]
          have k4 : txl (rwH B n s) t = txl s t := by unfold txl; rw [oR _ (by omega) (by omega)]
          obtain ⟨b1, b2, b3, b4, b5, b6, b7, b8, b9⟩ := q
          unfold tx_R
          rw [k3, k4, oR _ (by omega) (by omega), oR _ (by omega) (by omega)]
          refine ⟨b1, b2, b3, b4, b5, b6, b7, fun i hi => ?_, b9⟩
          rw [b8 i hi]
          unfold tx_enc txw txv
          rw [oR _ (by omega) (by omega), oR _ (by omega) (by omega), oR _ (by omega) (by omega)]
        have en : tx_R w E H (mu_X g) (rwH B n s) (ntx s) := tx_ft tx0 FG (fun a q hq => by omega) (fun a q => by omega)
        have y0 : np (rwH B n s) = np s := by unfold np; rw [oR 0 (by omega) (by omega)]
        have y1 : nm (rwH B n s) = nm s := by unfold nm; rw [oR 1 (by omega) (by omega)]
        have y2 : nsg (rwH B n s) = nsg s := by unfold nsg; rw [oR 2 (by omega) (by omega)]
        have y3 : ntx (rwH B n s) = ntx s + 1 := by unfold ntx; rw [rh_3, nI_clamp (by omega)]; rfl
        have y4 : nch (rwH B n s) = nch s := by unfold nch; rw [oR 4 (by omega) (by omega)]
        have y5 : nwp (rwH B n s) = nwp s := by unfold nwp; rw [oR 5 (by omega) (by omega)]
        have y7 : nlg (rwH B n s) = nlg s := by unfold nlg; rw [oR 7 (by omega) (by omega)]
        obtain ⟨v0, ⟨a0, a1, a2, a3, a4, a5, a6, a7, a8, a9⟩, v2, v3, v4, v5, v6, v7, v8, v9⟩ := V0
        refine ⟨v0, ⟨?_, ?_, ?_, ?_, ?_, ?_, ?_, ?_, ?_, ?_⟩, fun p f hp hf => ?_, fun m f hm hf => ?_, fun i hi => ?_, fun t ht => ?_, fun k hk => ?_, fun i hi => ?_, fun i hi => ?_, fun i f hi hf => ?_⟩
        · rw [iG _ (by omega), oR _ (by omega) (by omega)]; exact a0
        · rw [iG _ (by omega), oR _ (by omega) (by omega)]; exact a1
        · rw [iG _ (by omega), oR _ (by omega) (by omega)]; exact a2
        · rw [i13, rh_3]
        · rw [iG _ (by omega), oR _ (by omega) (by omega)]; exact a4
        · rw [iG _ (by omega), oR _ (by omega) (by omega)]; exact a5
        · rw [iG _ (by omega), oR _ (by omega) (by omega)]; exact a6
        · rw [iG _ (by omega), oR _ (by omega) (by omega)]; exact a7
        · rw [iG _ (by omega), oR _ (by omega) (by omega)]; exact a8
        · rw [oI _ (by omega), oR _ (by omega) (by omega)]; exact a9
        · rw [y0] at hp; rw [oI _ (by omega), oR _ (by omega) (by omega)]; exact v2 p f hp hf
        · rw [y1] at hm; rw [oI _ (by omega), oR _ (by omega) (by omega)]; exact v3 m f hm hf
        · rw [y2] at hi; rw [oI _ (by omega), oI _ (by omega), oR _ (by omega) (by omega), oR _ (by omega) (by omega)]; exact v4 i hi
        · rw [y3] at ht
          rw [show x + 1 + 5 = x + 6 by omega]
          by_cases q : t = ntx s
          · rw [q, hRn]; exact en
          · rw [hR t q]; exact ex t (by omega)
        · rw [oI _ (by omega), oR _ (by omega) (by omega)]; exact v6 k hk
        · rw [y4] at hi; rw [oI _ (by omega), oR _ (by omega) (by omega)]; exact v7 i hi
        · rw [y5] at hi; rw [oI _ (by omega), oI _ (by omega), oR _ (by omega) (by omega), oR _ (by omega) (by omega)]; exact v8 i hi
        · rw [y7] at hi; rw [oI _ (by omega), oR _ (by omega) (by omega)]; exact v9 i f hi hf
      refine hQ _ _ ⟨_, rfl, ?_, CH, ?_, ?_, fun k hk => ?_, ft_tr F0 (ft_mono FG (fun a q => Or.inr (Or.inl q)) (fun a q => q)), ⟨fun z hz => ?_, ?_, ?_⟩⟩ XG SG
      · rw [hp, cif_t h14]
        exact pk_sub (a := ntx s + 1) (b := 1) (by omega)
      · rw [hp, cif_t h14]; exact VH
      · rw [fG.2.2.2.2.2 x (by omega)]; exact x0
      · rw [fG.2.2.2.2.2 x (by omega)]; exact xk k hk
      · rw [fG.1]; exact Z0 z (by rw [← XG]; exact hz)
      · rw [XG]; omega
      · rw [XG]; omega
    · refine hQ _ _ ⟨_, rfl, ?_, C0, ?_, I_sI_same _ _ _ _, xk, F0, ⟨fun z hz => Zg z (by rw [← X2]; exact hz), ?_, ?_⟩⟩ X2 S2
      · rw [hp, cif_f h14]
      · rw [hp, cif_f h14]
        exact sv_agT hW (fun i hi => rt_o hb.2.2.2.1 hi) V0
      · show E ≤ mu_X g2
        omega
      · show (mu_X g2 - E) % 3 = 0
        omega
  · refine ⟨mu_X g, mu_S g, by omega, Nat.le_refl _, by omega, mu_mkX mk_X10_text rfl (Nat.le_refl _) (Nat.le_refl _) (fun L l1 l2 Q hQ => fm_X10_text_0 ?_)⟩
    rw [cl_R6 hC, h10]
    refine ⟨cl_T hC, cl_T hC, hC.2.2.2.2.2.2.1.1, mu_cRp (sp_read_bad (d := d) hC hS hn hT (by omega) hg) ⟨l1, l2⟩ (fun a g2 h2 X2 S2 => ?_)⟩
    obtain ⟨rfl, f2, h8⟩ := h2
    have C2 := cl_fr hC f2
    have F0 : mu_fr (txA x) g (mu_sI g2 x 10 0) := mu_fr_tr (mu_fr_mono f2 (fun a q => by unfold rdW at q; unfold txA; omega)) (mu_fr_sI (Or.inl rfl))
    have f0 : mu_fr (fun a => a = x ∨ rdW x a) g (mu_sI g2 x 10 0) := mu_fr_tr (mu_fr_mono f2 (fun a q => Or.inr q)) (mu_fr_sI (Or.inl rfl))
    have V0 : sc_V w E (x + 1) s (mu_sI g2 x 10 0) := sv_ft hV (cl_n hC) hc (ft_fw (fw_fr (B := fun _ => False) f0)) (fun a q => by unfold rdW at q; omega) (fun a q => q.elim)
    have hp : pText B n s = (-100 - nI (stA B n).1.2.1, rwT B n s) := cif_f hg
    have e8 : mu_I (mu_sI g2 x 10 0) (x + 133) 8 = nI (stA B n).1.2.1 := by rw [I_sI_a _ _ _ _ (by omega)]; exact h8
    rw [cl_R6 C2, e8]
    refine ⟨cl_T C2, fun q => absurd rfl q, fun _ => ⟨cl_T C2, C2.2.2.2.2.2.2.1.1, hQ _ _ ⟨_, rfl, ?_, cl_fr hC F0, ?_, I_sI_same _ _ _ _, fun k hk => ?_, ft_fw (fw_fr F0), ⟨fun z hz => ?_, ?_, ?_⟩⟩ X2 S2⟩⟩
    · rw [hp]
    · rw [hp]
      exact sv_agT hW (fun i hi => rt_o hb.2.2.2.1 hi) V0
    · rw [I_sI_k _ _ _ hk, f2.2.2.2.2.2 _ (by unfold rdW; omega)]
    · rw [F0.1]; exact z1 z (by rw [← F0.2.2.2.1]; exact hz)
    · rw [F0.2.2.2.1]; exact z2
    · rw [F0.2.2.2.1]; exact z3
end Tc
