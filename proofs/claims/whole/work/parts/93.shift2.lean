/-! CLIENTS: the shift done: the class's public call -/
noncomputable def pShift (s : Nat → Int32) : Int32 × (Nat → Int32) := cif (∃ f u t, good s f u t) (nI ((sft s).1 + (sft s).2.1 + (sft s).2.2), shR s (tri (sft s).1 (sft s).2.1 (sft s).2.2) (nK s)) (-1000000005, s)
section Qq
variable {w : mu_O} {d x y E : Nat} {g g1 g2 : mu_H} {s : Nat → Int32}
theorem pc_shift (hE : x + 187 ≤ E) (hst : st_L w g) (hC : cl_L w x g) (hV : sc_V w E (x + 1) s g) (hW : wf_s s) : mu_mp w mm_X10_shift (d + 8) [.ref x] g (cPost w x E (pShift s) g) := by
  refine mu_mkp mk_X10_shift rfl (fun L hL Q hQ => fm_X10_shift_0 ?_)
  have hc := ws_c hW
  have hb := wc_b hc
  have hN := cl_n hC
  have hH := cl_h hC
  obtain ⟨b0, hG⟩ := cl_g hC
  have hk : nK s ≤ 3 ∧ nK s ≤ nch s := by unfold nK; omega
  unfold pShift at hQ
  refine ⟨cl_T hC, cl_T hC, by rw [cl_R4 hC]; exact hH.2.1, ?_⟩
  rw [cl_R4 hC, cl_R0 hC]
  refine mu_cIp (sp_X6_seek hN hV (cl_t hC) hG hH hst hW (by omega) ⟨by omega, by omega, by omega⟩ (by omega)) hL (fun z g1 hz _ _ => ?_)
  obtain ⟨hR, h3, F, S1, G1⟩ := hz
  have C1 : cl_L w x g1 := cl_fw hC F (fun a q => by unfold seB at q; omega) S1 ⟨_, G1⟩
  have V1 : sc_V w E (x + 1) s g1 := sc_V_fw hV hc F (fun a q => by
    unfold seA at q
    rcases q with q | q | q | q
    · exact Or.inl (by omega)
    · exact Or.inl (by omega)
    · exact Or.inl (by omega)
    · exact Or.inr q) (fun a q => by unfold seB at q; omega)
  have F1 : mu_fw (nwA x E) (nwB x) g g1 := fw_mono F (fun a q => by
    unfold seA at q
    unfold nwA
    rcases q with q | q | q | q
    · exact Or.inr (Or.inl (by omega))
    · exact Or.inr (Or.inl (by omega))
    · exact Or.inr (Or.inl (by omega))
    · exact Or.inr (Or.inr q)) (fun a q => by unfold seB at q; unfold nwB; omega)
  have H1 := cl_h C1
  rcases hR with ⟨f, u, t, hm, rfl, i0, i1, i2⟩ | ⟨hno, rfl⟩
  · rw [cif_t ⟨f, u, t, hm.1⟩, sft_of hm] at hQ
    refine ⟨fun q => absurd q (none_n (by have := hm.1.1; unfold vd at this; omega)), fun _ => ⟨cl_T C1, cl_T C1, by rw [cl_R4 C1]; exact H1.2.1, ?_⟩⟩
    rw [cl_R4 C1, cl_R0 C1]
    refine mu_cVp (sp_X6_moveOn (r := tri f u t) (cl_n C1) V1 H1 hW h3 (fun k hk2 => ?_) (by omega)) (fw_fit F1 hL) (fun g2 h2 _ _ => ?_)
    · rcases (show k = 0 ∨ k = 1 ∨ k = 2 by omega) with e | e | e
      · rw [e]; exact i0
      · rw [e]; exact i1
      · rw [e]; exact i2
    · have F2 : mu_fw (nwA x E) (nwB x) g g2 := fw_tr F1 (fw_fr (mu_fr_mono h2.1 (fun a q => Or.inl ⟨q.1, by omega⟩)))
      exact hQ _ _ ⟨_, rfl, rfl, cl_fr C1 h2.1, h2.2, F2⟩ F2.2.2.2.1 F2.2.2.2.2.1
  · rw [cif_f (fun ⟨f, u, t, q⟩ => hno f u t q)] at hQ
    exact ⟨fun _ => hQ _ _ ⟨_, rfl, rfl, C1, V1, F1⟩ F1.2.2.2.1 F1.2.2.2.2.1, fun q => absurd rfl q⟩
end Qq
