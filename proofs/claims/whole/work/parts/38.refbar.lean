/-! CLIENTS: the reference's isBarred -/
def rf_nmB (k s b a : Int32) : Nat → Int32 := fun c => if c = 107 then k else if c = 115 then s else if c = 98 then b else if c = 97 then a else 0
/-- what bar gives of a move (0 without a text) -/
def rf_bar (s : Nat → Int32) (n m a b : Nat) : Int32 := rf_law s 1 n (rf_nmB (s (60 + 8 * m + 1)) (s (20 + 4 * a + 1)) (s (60 + 8 * m + 2)) (s (20 + 4 * b + 1))) 0
section Rb
variable {w : mu_O} {d y : Nat} {g : mu_H} {s : Nat → Int32}
set_option maxHeartbeats 1000000 in
theorem sp_X11_isBarred {n m a b : Nat} (hM : md_L w y g) (hs : mu_I g (y + 1) = s) (hn : s 3 = nI n) (h14 : n ≤ 14) (hm : m < 20) (ha : s (60 + 8 * m) = nI a) (ha8 : a < 8) (hb : s (60 + 8 * m + 5) = nI b) (hb8 : b < 8) (hT : wf_texts s n) :
    mu_mp w mm_X11_isBarred (d + 2) [.ref y, .int (nI m)] g (fun r g' => ∃ x, r = some (.int x) ∧ (x = bI (rf_bar s n m a b ≠ 0) ∧ mu_fr (fun a => a = y + 19 ∨ a = y + 20) g g')) := by
  refine mu_mkp mk_X11_isBarred rfl (fun L hL Q hQ => fm_X11_isBarred_0 ⟨md_T0 hM, mu_cI (sp_X11_counts hM hs hn h14) hL ⟨md_T0 hM, md_T0 hM, mu_cI (sp_X11_field (k := 1) hM hs (by omega)) hL ?_⟩⟩)
  have hw19 := md_wj hM 19
  have hQ' : ∀ (x : Int32) (g' : mu_H), x = bI (rf_bar s n m a b ≠ 0) → mu_fr (fun a => a = y + 19 ∨ a = y + 20) g g' → Q (some (.int x)) g' := fun x g' hx hf => hQ _ g' ⟨x, rfl, hx, hf⟩ hf.2.2.2.1 hf.2.2.2.2.1
  have hF : ∀ {g1 : mu_H} (k : Nat) (x : Int32), mu_fr (fun a => a = y + 19 ∨ a = y + 20) g g1 → mu_fr (fun a => a = y + 19 ∨ a = y + 20) g (mu_sI g1 (y + 19) k x) := fun k x h => mu_fr_tr h (mu_fr_sI (Or.inl rfl))
  have hS : ∀ {g1 : mu_H}, mu_fr (fun a => a = y + 19 ∨ a = y + 20) g g1 → mu_I g1 (y + 1) = s := fun h => (h.2.2.2.2.2 _ (by omega)).trans hs
  simp (disch := omega) only [md_T0 hM, md_R0 hM, md_T1 hM, md_N1 hM, md_R32 hM, md_T19 hM, md_N19 hM, hw19, li_n, nI_add, pk_mul, nI_clamp, nI_ltI, nI_leI, nI_eq, mi_n, Nat.add_zero, true_and, and_true, true_or, or_true, false_or, or_false, not_false_eq_true, not_true_eq_false, implies_true, forall_const, ne_eq, Classical.not_not, reduceCtorEq]
  have f1 := hF 107 (s (60 + 8 * m + 1)) mu_fr_rf
  refine ⟨by omega, mu_cI (sp_X11_field (k := 0) (md_L_fr hM f1) (hS f1) (by omega)) (mu_fr_fit f1 hL) ?_⟩
  simp (disch := omega) only [md_T0 hM, md_R0 hM, md_T1 hM, md_N1 hM, md_R32 hM, md_T19 hM, md_N19 hM, hw19, mu_T_sI, mu_N_sI, mu_R_sI, ha, li_n, nI_add, pk_mul, nI_clamp, nI_ltI, nI_leI, nI_eq, mi_n, Nat.add_zero, true_and, and_true, true_or, or_true, false_or, or_false, not_false_eq_true, not_true_eq_false, implies_true, forall_const, ne_eq, Classical.not_not, reduceCtorEq]
  refine mu_cI sp_X11_personAt (mu_fr_fit f1 hL) ?_
  simp (disch := omega) only [md_T0 hM, md_R0 hM, md_T1 hM, md_N1 hM, md_R32 hM, md_T19 hM, md_N19 hM, hw19, mu_T_sI, mu_N_sI, mu_R_sI, hS f1, li_n, nI_add, pk_mul, nI_clamp, nI_ltI, nI_leI, nI_eq, mi_n, Nat.add_zero, true_and, and_true, true_or, or_true, false_or, or_false, not_false_eq_true, not_true_eq_false, implies_true, forall_const, ne_eq, Classical.not_not, reduceCtorEq]
  have f2 := hF 115 (s (20 + 4 * a + 1)) f1
  refine ⟨by omega, by omega, mu_cI (sp_X11_field (k := 2) (md_L_fr hM f2) (hS f2) (by omega)) (mu_fr_fit f2 hL) ?_⟩
  simp (disch := omega) only [md_T0 hM, md_R0 hM, md_T1 hM, md_N1 hM, md_R32 hM, md_T19 hM, md_N19 hM, hw19, mu_T_sI, mu_N_sI, mu_R_sI, li_n, nI_add, pk_mul, nI_clamp, nI_ltI, nI_leI, nI_eq, mi_n, Nat.add_zero, true_and, and_true, true_or, or_true, false_or, or_false, not_false_eq_true, not_true_eq_false, implies_true, forall_const, ne_eq, Classical.not_not, reduceCtorEq]
  have f3 := hF 98 (s (60 + 8 * m + 2)) f2
  refine ⟨by omega, mu_cI (sp_X11_field (k := 5) (md_L_fr hM f3) (hS f3) (by omega)) (mu_fr_fit f3 hL) ?_⟩
  simp (disch := omega) only [md_T0 hM, md_R0 hM, md_T1 hM, md_N1 hM, md_R32 hM, md_T19 hM, md_N19 hM, hw19, mu_T_sI, mu_N_sI, mu_R_sI, hb, li_n, nI_add, pk_mul, nI_clamp, nI_ltI, nI_leI, nI_eq, mi_n, Nat.add_zero, true_and, and_true, true_or, or_true, false_or, or_false, not_false_eq_true, not_true_eq_false, implies_true, forall_const, ne_eq, Classical.not_not, reduceCtorEq]
  refine mu_cI sp_X11_personAt (mu_fr_fit f3 hL) ?_
  simp (disch := omega) only [md_T0 hM, md_R0 hM, md_T1 hM, md_N1 hM, md_R32 hM, md_T19 hM, md_N19 hM, hw19, mu_T_sI, mu_N_sI, mu_R_sI, hS f3, li_n, nI_add, pk_mul, nI_clamp, nI_ltI, nI_leI, nI_eq, mi_n, Nat.add_zero, true_and, and_true, true_or, or_true, false_or, or_false, not_false_eq_true, not_true_eq_false, implies_true, forall_const, ne_eq, Classical.not_not, reduceCtorEq]
  have f4 := hF 97 (s (20 + 4 * b + 1)) f3
  refine ⟨by omega, by omega, fun h0 => hQ' _ _ ?_ f4, fun h0 => ?_⟩
  · have h0 : rf_last s 1 n < 0 := h0
    rw [bI_f]
    · rfl
    · unfold rf_bar rf_law
      rw [if_pos (by rw [li_lt] at h0; exact h0)]
      simp
  · have h0 : ¬ rf_last s 1 n < 0 := h0
    rcases rf_last_ok (s := s) (key := 1) h14 with e | ⟨t, h1, h2, h3⟩
    · rw [e] at h0
      exact absurd (by decide) h0
    · have e0 : rf_last s (nI 1) n = nI t := h2
      rw [e0]
      have hwt := hT t h1
      refine mu_cIp (sp_X11_worked (d := d) (md_L_fr hM f4) (hS f4) rfl (by omega) (fun _ => rfl) (fun _ => rfl) hwt.1 hwt.2.2.2.1) (mu_fr_fit f4 hL) (fun x g5 hx hX hS5 => ?_)
      have f5 := mu_fr_tr f4 (mu_fr_mono hx.2 (fun a h => Or.inr h))
      have ev : rf_bar s n m a b = x := by
        unfold rf_bar rf_law
        rw [h2, if_neg (by rw [nI_toInt (by omega)]; omega), nI_clamp (by omega), ← tx_val_congr (nm := mu_I (mu_sI (mu_sI (mu_sI (mu_sI g (y + 19) 107 (s (60 + 8 * m + 1))) (y + 19) 115 (s (20 + 4 * a + 1))) (y + 19) 98 (s (60 + 8 * m + 2))) (y + 19) 97 (s (20 + 4 * b + 1))) (y + 19)) hwt, hx.1]
        · rfl
        · intro c hc
          rw [h3] at hc
          have hc : c ∈ [107, 115, 98, 97] := hc
          simp only [List.mem_cons, List.not_mem_nil, or_false] at hc
          rcases hc with rfl | rfl | rfl | rfl <;> simp [mu_I_upd, upd, rf_nmB]
      rw [ev] at hQ'
      refine ⟨fun hz => hQ' _ _ ?_ f5, fun hz => hQ' _ _ ?_ f5⟩
      · exact (bI_f (fun hne => hne hz)).symm
      · exact (bI_t hz).symm
end Rb
