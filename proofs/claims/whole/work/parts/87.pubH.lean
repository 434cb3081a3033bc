/-! CLIENTS: shifts: both public calls -/
/-- the least shift, where there is one -/
noncomputable def sft (s : Nat → Int32) : Nat × Nat × Nat := Classical.epsilon (fun q : Nat × Nat × Nat => mini s q.1 q.2.1 q.2.2)
noncomputable def pShifts (s : Nat → Int32) (v : Int32) : Int32 × (Nat → Int32) := (cif (-1 ≤ v.toInt ∧ v.toInt ≤ (nK s : Int) - 1) (cif (∃ f u t, good s f u t) (cif (v = -1) (nI ((sft s).1 + (sft s).2.1 + (sft s).2.2)) (nI (tri (sft s).1 (sft s).2.1 (sft s).2.2 v.toNatClampNeg))) (-1000000005)) (-1000000001), s)
section Qk
variable {w : mu_O} {d x y E : Nat} {g g1 g2 : mu_H} {s : Nat → Int32}
theorem sft_of {f u t : Nat} (h : mini s f u t) : sft s = (f, u, t) := by
  have hq : mini s (sft s).1 (sft s).2.1 (sft s).2.2 := Classical.epsilon_spec (p := fun q : Nat × Nat × Nat => mini s q.1 q.2.1 q.2.2) ⟨(f, u, t), h⟩
  obtain ⟨e1, e2, e3⟩ := mini_one hq h
  exact Prod.ext e1 (Prod.ext e2 e3)
theorem pc_shifts {v : Int32} (hE : x + 187 ≤ E) (hst : st_L w g) (hC : cl_L w x g) (hV : sc_V w E (x + 1) s g) (hW : wf_s s) : mu_mp w mm_X10_shifts (d + 8) [.ref x, .int v] g (cPost w x E (pShifts s v) g) := by
  refine mu_mkp mk_X10_shifts rfl (fun L hL Q hQ => fm_X10_shifts_0 ?_)
  have hc := ws_c hW
  have hb := wc_b hc
  have hN := cl_n hC
  have hH := cl_h hC
  obtain ⟨b0, hG⟩ := cl_g hC
  have hk : nK s ≤ 3 ∧ nK s ≤ nch s := by unfold nK; omega
  have e1 : mu_min (nI 3) (nI (nch s)) = nI (nK s) := mn_n (by omega) (by omega)
  have e14 : mu_min 3 (mu_I g (x + 1) 14) = nI (nK s) := by rw [sv_4 hV hc]; exact e1
  refine ⟨cl_T hC, by rw [cl_R0 hC]; exact sc_T hN, ?_⟩
  rw [cl_R0 hC, e14]
  refine mu_cI (sp_X10_wN (a := -1) (b := (nK s : Int) - 1) rfl (li_cnt (by omega))) hL ?_
  unfold pShifts at hQ
  rw [cI_0]
  refine ⟨fun h => ?_, fun h => ?_⟩
  · replace h := Classical.not_not.mp h
    rw [cif_t h] at hQ
    refine ⟨cl_T hC, cl_T hC, by rw [cl_R4 hC]; exact hH.2.1, ?_⟩
    rw [cl_R4 hC, cl_R0 hC]
    refine mu_cIp (sp_X6_seek hN hV (cl_t hC) hG hH hst hW (by omega) ⟨by omega, by omega, by omega⟩ (by omega)) hL (fun z g1 hz _ _ => ?_)
    obtain ⟨hR, h3, F, S1, G1⟩ := hz
    have C1 : cl_L w x g1 := cl_fw hC F (fun a q => by unfold seB at q; omega) S1 ⟨_, G1⟩
    have V1 : sc_V w E (x + 1) s g1 := sc_V_fw hV hc F (fun a q => by
      unfold seA at q
      rcases q with q | q | q | q
      · exact Or.inl (by omega)
      · exact Or.inl (by omega)
      · exact Or.inl (by omega)
      · exact Or.inr q) (fun a q => by unfold seB at q; omega)
    have F1 : mu_fw (nwA x E) (nwB x) g g1 := fw_mono F (fun a q => by
      unfold seA at q
      unfold nwA
      rcases q with q | q | q | q
      · exact Or.inr (Or.inl (by omega))
      · exact Or.inr (Or.inl (by omega))
      · exact Or.inr (Or.inl (by omega))
      · exact Or.inr (Or.inr q)) (fun a q => by unfold seB at q; unfold nwB; omega)
    have H1 := cl_h C1
    rcases hR with ⟨f, u, t, hm, rfl, i0, i1, i2⟩ | ⟨hno, rfl⟩
    · rw [cif_t ⟨f, u, t, hm.1⟩, sft_of hm] at hQ
      refine ⟨fun hv => ?_, fun hv => ⟨fun hz => ?_, fun hz => ?_⟩⟩
      · rw [cif_t hv] at hQ
        exact hQ _ _ ⟨_, rfl, rfl, C1, V1, F1⟩ F1.2.2.2.1 F1.2.2.2.2.1
      · rw [cif_f hv] at hQ
        have hv1 : ¬ v.toInt = -1 := fun q => hv (Int32.toInt_inj.mp q)
        obtain ⟨n, n1, rfl, n3, n4⟩ := ix_of (v := v) (n := nK s) ⟨by omega, by omega⟩
        rw [n3] at hQ
        refine ⟨cl_T C1, by rw [cl_R4 C1]; exact H1.2.1, ?_⟩
        rw [cl_R4 C1, H1.2.2.2.2.2.1, n3]
        refine ⟨H1.2.2.2.2.2.2.2.1, by rw [H1.2.2.2.2.2.2.2.2, mi_n n4]; omega, hQ _ _ ⟨_, rfl, ?_, C1, V1, F1⟩ F1.2.2.2.1 F1.2.2.2.2.1⟩
        rcases (show n = 0 ∨ n = 1 ∨ n = 2 by omega) with e | e | e
        · rw [e]; exact i0
        · rw [e]; exact i1
        · rw [e]; exact i2
      · exact absurd (Classical.not_not.mp hz) (none_n (by have := hm.1.1; unfold vd at this; omega))
    · rw [cif_f (fun ⟨f, u, t, q⟩ => hno f u t q)] at hQ
      have fin : Q (some (.int (-1000000005))) g1 := hQ _ _ ⟨_, rfl, rfl, C1, V1, F1⟩ F1.2.2.2.1 F1.2.2.2.2.1
      exact ⟨fun _ => fin, fun _ => ⟨fun q => absurd rfl q, fun _ => fin⟩⟩
  · rw [cif_f (fun q => h (fun z => z q))] at hQ
    exact cp_0 (L := L) hC hQ rfl hV
theorem pm_shifts {v : Int32} (hM : md_L w y g) (hs : mu_I g (y + 1) = s) (hc : wf_c s) (hK : md_K y g) (hW : wf_s s) (hca : caC y s g) : mu_mp w mm_X11_shifts (d + 8) [.ref y, .int v] g (mPost w y (pShifts s v) g) := by
  refine mu_mkp mk_X11_shifts rfl (fun L hL Q hQ => fm_X11_shifts_0 ⟨md_T0 hM, mu_cI (sp_X11_shiftable hM hs hc) hL ?_⟩)
  have hb := wc_b hc
  have hk : nK s ≤ 3 ∧ nK s ≤ nch s := by unfold nK; omega
  refine mu_cI (sp_X11_iN (a := -1) (b := (nK s : Int) - 1) rfl (by rw [Int32.toInt_toInt64]; exact li_cnt (by omega))) hL ?_
  unfold pShifts at hQ
  rw [cI_0]
  refine ⟨fun h => ⟨md_T0 hM, mu_cVp (sp_X11_findShifts hM hs hc hW hK hca.1 hca.2) hL (fun g1 h1 _ _ => ?_)⟩, fun h => ?_⟩
  · replace h := Classical.not_not.mp h
    rw [cif_t h] at hQ
    obtain ⟨F, hs1, h18, hR, h17⟩ := h1
    have hM1 := md_L_fr hM (f2_T F)
    have fin : ∀ z, z = _ → Q (some (.int z)) g1 := fun z ez => hQ _ _ ⟨z, rfl, ez, hs1, ⟨h17, Or.inr ⟨h18, hR⟩⟩, F⟩ F.2.2.2.1 F.2.2.2.2.1
    refine ⟨md_T0 hM1, ?_⟩
    rcases id hR with ⟨f, u, t, hm, e34, i0⟩ | ⟨hno, e34⟩
    · have hvd := hm.1.1
      unfold vd at hvd
      rw [e34]
      rw [cif_t ⟨f, u, t, hm.1⟩, sft_of hm] at fin
      refine ⟨fun _ => ⟨fun hv => ⟨md_T0 hM1, ?_⟩, fun hv => ⟨md_T0 hM1, ?_⟩⟩, fun q => absurd (le0_n (by omega)) q⟩
      · replace hv : 0 ≤ v.toInt := li_le.mp hv
        obtain ⟨n, n1, rfl, n3, n4⟩ := ix_of (v := v) (n := nK s) ⟨by omega, by omega⟩
        rw [cif_f (m1_n n4), n3] at fin
        rw [md_R35 hM1, md_T21 hM1, md_N21 hM1, n3, i0 n n1]
        exact ⟨rfl, by rw [mi_n n4]; omega, fin _ rfl⟩
      · have hv1 : v = -1 := Int32.toInt_inj.mp (by
          have : ¬ 0 ≤ v.toInt := fun q => hv (li_le.mpr q)
          show v.toInt = -1
          omega)
        rw [cif_t hv1] at fin
        exact fin _ rfl
    · rw [cif_f (fun ⟨f, u, t, q⟩ => hno f u t q)] at fin
      rw [e34]
      exact ⟨fun q => absurd q (by decide), fun _ => fin _ rfl⟩
  · rw [cif_f (fun q => h (fun z => z q))] at hQ
    exact mp_0 hQ rfl hs hca
end Qk
