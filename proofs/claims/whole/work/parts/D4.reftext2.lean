/-! CLIENTS: the reference's text, the public call itself -/
def bT (T : Nat → Int32) : Nat → Nat := fun i => (T i).toNatClampNeg
noncomputable def rwT (B : Nat → Nat) (n : Nat) (s : Nat → Int32) : Nat → Int32 := rwP s (bsO s) (stA B n)
/-- the head of a new text -/
noncomputable def rwH (B : Nat → Nat) (n : Nat) (s : Nat → Int32) : Nat → Int32 := upd (upd (upd (upd (rwT B n s) (460 + 200 * ntx s) (keyO B (tkA B n))) (460 + 200 * ntx s + 1) (nI (stA B n).2.2.2.2)) (460 + 200 * ntx s + 2) (nI (stA B n).2.2.2.1)) 3 (nI (ntx s + 1))
noncomputable def pText (B : Nat → Nat) (n : Nat) (s : Nat → Int32) : Int32 × (Nat → Int32) := cif (gdA B n) (cif (ntx s < 14) (nI (ntx s), rwH B n s) (-1000000003, rwT B n s)) (-100 - nI (stA B n).1.2.1, rwT B n s)
def txW (y : Nat) : Nat → Nat → Prop := fun a k => a = y + 1 ∨ (a = y ∧ 17 ≤ k ∧ k ≤ 31)
noncomputable def mTx (y : Nat) (B : Nat → Nat) (n : Nat) (s : Nat → Int32) (g : mu_H) : Option Value → mu_H → Prop := fun r g' => ∃ v, r = some (.int v) ∧ (v = (pText B n s).1 ∧ mu_I g' (y + 1) = (pText B n s).2 ∧ caC y (pText B n s).2 g' ∧ mu_I g' y 21 = 0 ∧ mu_f2 (txW y) g g')
section Tx
variable {w : mu_O} {d y n b : Nat} {g g1 : mu_H} {B : Nat → Nat} {s : Nat → Int32}
theorem bs_b (hb : ntx s ≤ 14) : 460 + 200 * ntx s ≤ bsO s ∧ bsO s ≤ 3270 ∧ (ntx s < 14 → bsO s = 464 + 200 * ntx s) := by
  unfold bsO
  split <;> omega
theorem rt_o {i : Nat} (hb : ntx s ≤ 14) (hi : i < 460 + 200 * ntx s) : rwT B n s i = s i := if_neg (by have := bs_b hb; omega)
theorem rt_h {i : Nat} (hb : ntx s < 14) (hi : i < 464 + 200 * ntx s) : rwT B n s i = s i := if_neg (by have := bs_b (s := s) (by omega); omega)
theorem rt_az (hb : ntx s ≤ 14) : agZ s (rwT B n s) := fun i hi => rt_o hb (by omega)
theorem pm_text (hM : md_L w y g) (hB : tb_M y B n g) (hs : mu_I g (y + 1) = s) (hW : wf_s s) (hca : caC y s g) : mu_mp w mm_X11_text (d + 1412) [.ref y] g (mTx y B n s g) := by
  refine mu_mkp mk_X11_text rfl (fun L hL Q hQ => fm_X11_text_0 ⟨md_T0 hM, ?_⟩)
  have hc := ws_c hW
  have hb := wc_b hc
  refine mu_cIp (sp_X11_parse (d := d) hM hB hs hc) hL (fun z g2 hz X2 S2 => ?_)
  obtain ⟨rfl, f1, c21, c22, cr, cg⟩ := hz
  have F1 : mu_f2 (txW y) g g2 := f2_mono f1 (fun a k q => by unfold pzW at q; unfold txW; omega)
  have M2 := md_L_fr hM (f2_T f1)
  have cr' : mu_I g2 (y + 1) = rwT B n s := cr
  have oy : ∀ k, k < 21 ∨ 31 < k → mu_I g2 y k = mu_I g y k := fun k hk => f1.2.2.2.2.2 _ _ (by unfold pzW; omega)
  have oa : ∀ a, a ≠ y → a ≠ y + 1 → mu_I g2 a = mu_I g a := fun a h1 h2 => f2_I f1 (fun k => by unfold pzW; omega)
  have ca2 : caC y (rwT B n s) g2 := az_caC (rt_az hb.2.2.2.1) hW hca (oy _ (by omega)) (oy _ (by omega)) (oy _ (by omega)) (oa _ (by omega) (by omega)) (oa _ (by omega) (by omega))
  have e3 : rwT B n s 3 = nI (ntx s) := (rt_o hb.2.2.2.1 (by omega)).trans (wc_3 hc)
  have i3 : mu_in (3 : Int32) 3470 := mu_in_n (p := 3) (by decide) (by decide)
  by_cases hg : gdA B n
  · obtain ⟨k, k1, k2, -⟩ := gd_tx hB.1 hg
    obtain ⟨c29, c31⟩ := cg hg
    rw [cif_t hg, k2, md_R0 M2, md_N1 M2, cr', e3]
    have hp : pText B n s = cif (ntx s < 14) (nI (ntx s), rwH B n s) (-1000000003, rwT B n s) := cif_t hg
    refine ⟨fun _ => ⟨md_T0 M2, md_T1 M2, i3, fun q => ?_, fun q => ?_⟩, fun q => absurd (le0_n (by omega)) q⟩
    · have q14 : ntx s < 14 := by
        by_cases h : ntx s = 14
        · exact absurd (by rw [h]; rfl) q
        · omega
      have hL2 := f2_fit f1 hL
      refine ⟨md_T0 M2, md_T1 M2, i3, md_T0 M2, mu_cI sp_X11_textAt hL2 ?_⟩
      have c13 : mu_I g2 (y + 1) 3 = nI (ntx s) := by rw [cr']; exact e3
      rw [li_n 460, li_n 200, pk_mul, nI_add, show (0 : Int32) = nI 0 from rfl, nI_add, show (1 : Int32) = nI 1 from rfl, nI_add, show (2 : Int32) = nI 2 from rfl, nI_add, nI_clamp (by omega), nI_clamp (by omega), nI_clamp (by omega), Nat.add_zero]
      simp (disch := omega) only [md_R0 M2, md_N1 M2, I_sI_a, I_sI_k, c29, c31, c13, nI_add]
      refine ⟨md_T0 M2, md_wj M2 1, md_T1 M2, mu_in_n (by omega) (by omega), md_T0 M2, md_T0 M2, md_wj M2 1, md_T1 M2, mu_in_n (by omega) (by omega), md_T0 M2, md_T0 M2, md_wj M2 1, md_T1 M2, mu_in_n (by omega) (by omega), md_T0 M2, md_T1 M2, i3, md_wj M2 1, md_T1 M2, i3, md_T0 M2, ?_⟩
      have fG : mu_f2 (txW y) g2 (mu_sI (mu_sI (mu_sI (mu_sI g2 (y + 1) (460 + 200 * ntx s) (nI k)) (y + 1) (460 + 200 * ntx s + 1) (nI (stA B n).2.2.2.2)) (y + 1) (460 + 200 * ntx s + 2) (nI (stA B n).2.2.2.1)) (y + 1) 3 (nI (ntx s + 1))) := f2_tr (f2_tr (f2_tr (f2_sI (Or.inl rfl)) (f2_sI (Or.inl rfl))) (f2_sI (Or.inl rfl))) (f2_sI (Or.inl rfl))
      have rG : mu_I (mu_sI (mu_sI (mu_sI (mu_sI g2 (y + 1) (460 + 200 * ntx s) (nI k)) (y + 1) (460 + 200 * ntx s + 1) (nI (stA B n).2.2.2.2)) (y + 1) (460 + 200 * ntx s + 2) (nI (stA B n).2.2.2.1)) (y + 1) 3 (nI (ntx s + 1))) (y + 1) = rwH B n s := by
        unfold rwH
        rw [mu_I_upd, mu_I_upd, mu_I_upd, mu_I_upd, cr', k2]
      have yG : mu_I (mu_sI (mu_sI (mu_sI (mu_sI g2 (y + 1) (460 + 200 * ntx s) (nI k)) (y + 1) (460 + 200 * ntx s + 1) (nI (stA B n).2.2.2.2)) (y + 1) (460 + 200 * ntx s + 2) (nI (stA B n).2.2.2.1)) (y + 1) 3 (nI (ntx s + 1))) y 21 = 0 := by simp (disch := omega) only [I_sI_a]; exact c21
      generalize mu_sI (mu_sI (mu_sI (mu_sI g2 (y + 1) (460 + 200 * ntx s) (nI k)) (y + 1) (460 + 200 * ntx s + 1) (nI (stA B n).2.2.2.2)) (y + 1) (460 + 200 * ntx s + 2) (nI (stA B n).2.2.2.1)) (y + 1) 3 (nI (ntx s + 1)) = G at *
      have FG := f2_tr F1 fG
      have MG := md_L_fr hM (f2_T FG)
      have fS : mu_f2 (txW y) G (md_stale y G) := f2_mono (A := fun a k => a = y ∧ (k = 17 ∨ k = 18)) (f2_tr (f2_sI ⟨rfl, Or.inl rfl⟩) (f2_sI ⟨rfl, Or.inr rfl⟩)) (fun a k q => by unfold txW; omega)
      have FS := f2_tr FG fS
      refine mu_cV (sp_X11_stale MG) (f2_fit FS hL) ?_
      have MS := md_L_fr hM (f2_T FS)
      have rS : mu_I (md_stale y G) (y + 1) = rwH B n s := stale_s rG
      have yS : mu_I (md_stale y G) y 21 = 0 := by unfold md_stale; rw [I_sI_k _ _ _ (by omega), I_sI_k _ _ _ (by omega)]; exact yG
      have r3 : rwH B n s 3 = nI (ntx s + 1) := by unfold rwH; rw [pk_us]
      rw [md_R0 MS, md_N1 MS, rS, r3]
      refine ⟨md_T0 MS, md_T1 MS, i3, hQ _ _ ⟨_, rfl, ?_, ?_, ?_, yS, FS⟩ (by rw [FS.2.2.2.1]) (by rw [FS.2.2.2.2.1])⟩
      · rw [hp, cif_t q14]
        exact pk_sub (a := ntx s + 1) (b := 1) (by omega)
      · rw [hp, cif_t q14]; exact rS
      · exact ⟨Or.inl stale_c.1, Or.inl stale_c.2⟩
    · have q14 : ¬ ntx s < 14 := fun h => q (fun e => by
        have := congrArg Int32.toNatClampNeg e
        rw [nI_clamp (by omega)] at this
        have e2 : (14 : Int32).toNatClampNeg = 14 := by decide
        omega)
      refine hQ _ _ ⟨_, rfl, ?_, ?_, ?_, c21, F1⟩ X2 S2
      · rw [hp, cif_f q14]
      · rw [hp, cif_f q14]; exact cr'
      · rw [hp, cif_f q14]; exact ca2
  · rw [cif_f hg]
    have hp : pText B n s = (-100 - nI (stA B n).1.2.1, rwT B n s) := cif_f hg
    refine ⟨fun q => absurd q (by decide), fun _ => ⟨md_T0 M2, hQ _ _ ⟨_, rfl, ?_, ?_, ?_, c21, F1⟩ X2 S2⟩⟩
    · rw [hp, c22]
    · rw [hp]; exact cr'
    · rw [hp]; exact ca2
end Tx
