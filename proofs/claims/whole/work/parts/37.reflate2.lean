/-! CLIENTS: the reference's lateOf -/
section Rla
variable {w : mu_O} {d y : Nat} {g : mu_H} {s : Nat → Int32}
theorem sp_X11_lateOf {n p : Nat} (hM : md_L w y g) (hs : mu_I g (y + 1) = s) (hn : s 3 = nI n) (h14 : n ≤ 14) (hp : p < 8) (hT : wf_texts s n) :
    mu_mp w mm_X11_lateOf (d + 2) [.ref y, .int (nI p)] g (fun r g' => ∃ x, r = some (.int x) ∧ (x = rf_late s n p ∧ mu_fr (fun a => a = y + 19 ∨ a = y + 20) g g')) := by
  refine mu_mkp mk_X11_lateOf rfl (fun L hL Q hQ => fm_X11_lateOf_0 ⟨md_T0 hM, mu_cI sp_X11_personAt hL ⟨md_T0 hM, mu_cI (sp_X11_counts hM hs hn h14) hL ?_⟩⟩)
  have hw19 := md_wj hM 19
  simp (disch := omega) only [md_T0 hM, md_R0 hM, md_T1 hM, md_N1 hM, md_R32 hM, md_T19 hM, md_N19 hM, hw19, mu_I_off, hs, li_n, nI_add, pk_mul, nI_clamp, nI_ltI, nI_leI, nI_eq, mi_n, Nat.add_zero, true_and, and_true, true_or, or_true, false_or, or_false, not_false_eq_true, not_true_eq_false, implies_true, forall_const, ne_eq, Classical.not_not, reduceCtorEq]
  have hQ' : ∀ (x : Int32) (g' : mu_H), x = rf_late s n p → mu_fr (fun a => a = y + 19 ∨ a = y + 20) g g' → Q (some (.int x)) g' := fun x g' hx hf => hQ _ g' ⟨x, rfl, hx, hf⟩ hf.2.2.2.1 hf.2.2.2.2.1
  have hf3 : mu_fr (fun a => a = y + 19 ∨ a = y + 20) g (mu_sI (mu_sI (mu_sI g (y + 19) 115 (s (20 + 4 * p + 1))) (y + 19) 116 (s (20 + 4 * p + 2))) (y + 19) 119 (s 9)) := mu_fr_tr (mu_fr_tr (mu_fr_sI (Or.inl rfl)) (mu_fr_sI (Or.inl rfl))) (mu_fr_sI (Or.inl rfl))
  refine ⟨by omega, by omega, by omega, by omega, by omega, by omega, fun h0 => ?_, fun h0 => ⟨by omega, by omega, by omega, ?_⟩⟩
  · have h0 : (0 : Int32) ≤ rf_last s 0 n := h0
    rcases rf_last_ok (s := s) (key := 0) h14 with e | ⟨t, h1, h2, h3⟩
    · rw [e] at h0
      exact absurd h0 (by decide)
    · have e0 : rf_last s (nI 0) n = nI t := h2
      rw [e0]
      have hs3 : mu_I (mu_sI (mu_sI (mu_sI g (y + 19) 115 (s (20 + 4 * p + 1))) (y + 19) 116 (s (20 + 4 * p + 2))) (y + 19) 119 (s 9)) (y + 1) = s := by
        simp (disch := omega) only [mu_I_off, hs]
      have hwt := hT t h1
      refine mu_cIp (sp_X11_worked (d := d) (md_L_fr hM hf3) hs3 rfl (by omega) (fun _ => rfl) (fun _ => rfl) hwt.1 hwt.2.2.2.1) (mu_fr_fit hf3 hL) (fun x g5 hx hX hS => mu_cI sp_X11_heldIn (mu_fr_fit (mu_fr_tr hf3 (mu_fr_mono hx.2 (fun a h => Or.inr h))) hL) (hQ' _ _ ?_ (mu_fr_tr hf3 (mu_fr_mono hx.2 (fun a h => Or.inr h)))))
      refine congrArg (fun z => rf_hold z 3) ?_
      unfold rf_law
      rw [h2, if_neg (by rw [nI_toInt (by omega)]; omega), nI_clamp (by omega), ← tx_val_congr (nm := mu_I (mu_sI (mu_sI (mu_sI g (y + 19) 115 (s (20 + 4 * p + 1))) (y + 19) 116 (s (20 + 4 * p + 2))) (y + 19) 119 (s 9)) (y + 19)) hwt, hx.1]
      · rfl
      · intro c hc
        rw [h3] at hc
        have hc : c ∈ [115, 116, 119] := hc
        simp only [List.mem_cons, List.not_mem_nil, or_false] at hc
        rcases hc with rfl | rfl | rfl <;> simp [mu_I_upd, upd, rf_nmL]
  · have h0 : ¬ (0 : Int32) ≤ rf_last s 0 n := h0
    refine mu_cI sp_X11_heldIn (mu_fr_fit hf3 hL) (hQ' _ _ ?_ hf3)
    refine congrArg (fun z => rf_hold z 3) ?_
    unfold rf_law
    rw [if_pos (by rw [li_le] at h0; have : (0 : Int32).toInt = 0 := rfl; omega)]
    rfl
end Rla
