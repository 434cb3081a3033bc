/-! CLIENTS: a person more: both public calls -/
/-- the row with one person more -/
def psR (s : Nat → Int32) (v u : Int32) : Nat → Int32 := upd (upd (upd (upd (upd s (20 + 4 * np s + 0) v) (20 + 4 * np s + 1) u) (20 + 4 * np s + 2) (nI 0)) (20 + 4 * np s + 3) (-1)) 0 (nI (np s + 1))
def adG (b n : Nat) (v u : Int32) (g : mu_H) : mu_H := mu_sI (mu_sI (mu_sI (mu_sI g (b + 13 + n) 0 v) (b + 13 + n) 1 u) (b + 13 + n) 2 (nI 0)) b 10 (nI (n + 1))
noncomputable def pPerson (s : Nat → Int32) (v u : Int32) : Int32 × (Nat → Int32) := cif (isPl v ∧ 0 ≤ u.toInt ∧ u.toInt ≤ 9) (cif (np s < 8) (nI (np s), psR s v u) (-1000000003, s)) (-1000000001, s)
section Ql
variable {w : mu_O} {d x y b E : Nat} {g g1 g2 : mu_H} {s : Nat → Int32}
theorem sp_X4_addPerson {v u : Int32} (hS : sc_L w b g) (hV : sc_V w E b s g) (hc : wf_c s) (hn : np s < 8) : mu_met w mm_X4_addPerson d [.ref b, .int v, .int u] g (some (.int (nI (np s)))) (adG b (np s) v u g) := by
  refine mu_mk mk_X4_addPerson rfl rfl rfl (fun L hL Q hQ => fm_X4_addPerson_0 ?_)
  unfold adG at hQ
  have o : ∀ z a k v, a ≠ b → mu_I (mu_sI z a k v) b 10 = mu_I z b 10 := fun z a k v h => I_sI_a _ _ _ _ (Ne.symm h)
  have e1 : nI (np s + 1) - nI 1 = nI (np s) := nI_pred _
  simp (disch := omega) only [o, I_sI_same, e1, sc_T hS, sc_R0 hS, sc_R1 hS, sc_R2 hS, sc_R3 hS, sc_R4 hS, sc_R5 hS, sc_R6 hS, sc_R7 hS, sc_R8 hS, sc_R9 hS, sc_T1 hS, sc_N1 hS, sc_RP hS, sc_T2 hS, sc_N2 hS, sc_RM hS, sc_T3 hS, sc_N3 hS, sc_T4 hS, sc_N4 hS, sc_T5 hS, sc_N5 hS, sc_T6 hS, sc_N6 hS, sc_T7 hS, sc_N7 hS, sc_T8 hS, sc_N8 hS, sc_T9 hS, sc_N9 hS, sc_T10 hS, sc_RL0 hS, sc_RL1 hS, sc_T11 hS, sc_N11 hS, sc_T12 hS, sc_N12 hS, sc_TP hS, sc_TM hS, sc_w hS, sc_wj hS, sc_wp hS, sv_0 hV hc, sv_1 hV hc, sv_2 hV hc, sv_3 hV hc, sv_4 hV hc, sv_5 hV hc, sv_6 hV hc, sv_7 hV hc, sv_9 hV hc, sv_8 hV, li_n, nI_add, pk_mul, nI_clamp, nI_ltI, nI_leI, nI_eq, mi_n, Nat.add_zero, true_and, and_true, true_or, or_true, false_or, or_false, not_false_eq_true, not_true_eq_false, implies_true, forall_const, ne_eq, Classical.not_not, reduceCtorEq, nor_p, cI_1n, bI_1n, cI_F, cI_T, cI_0, cI_0n, bI_0, bI_0n, cI_01, bI_01, Nat.reduceLeDiff, Nat.reduceLT, Nat.reduceEqDiff, Nat.reduceSub, Nat.reduceAdd, Nat.lt_irrefl, Nat.le_refl, false_implies, true_implies]
  exact ⟨by omega, hQ⟩
theorem ad_V {v u : Int32} (hV : sc_V w E b s g) (hc : wf_c s) (hn : np s < 8) : sc_V w E b (psR s v u) (adG b (np s) v u g) := by
  unfold psR adG
  have n0 : ∀ (c : Nat → Int32) K z, 10 ≤ K → np c = np s → np (upd c K z) = np s := fun c K z h e => (np_u (by omega)).trans e
  have k1 := sb_P (v := v) hV hc (p := np s) (f := 0) (Nat.le_refl _) hn (by omega)
  have m1 := n0 s (20 + 4 * np s + 0) v (by omega) rfl
  have c1 : wf_c (upd s (20 + 4 * np s + 0) v) := wf_c_u hc (by omega)
  have k2 := sb_P (v := u) k1 c1 (p := np s) (f := 1) (by rw [m1]; exact Nat.le_refl _) hn (by omega)
  have m2 := n0 _ (20 + 4 * np s + 1) u (by omega) m1
  have c2 := wf_c_u (K := 20 + 4 * np s + 1) (v := u) c1 (by omega)
  have k3 := sb_P (v := nI 0) k2 c2 (p := np s) (f := 2) (by rw [m2]; exact Nat.le_refl _) hn (by omega)
  have m3 := n0 _ (20 + 4 * np s + 2) (nI 0) (by omega) m2
  have c3 := wf_c_u (K := 20 + 4 * np s + 2) (v := nI 0) c2 (by omega)
  have k4 := su_P3 (v := -1) k3 c3 (p := np s) hn
  have m4 := n0 _ (20 + 4 * np s + 3) (-1) (by omega) m3
  have c4 := wf_c_u (K := 20 + 4 * np s + 3) (v := -1) c3 (by omega)
  refine sm_P (v := nI (np s + 1)) k4 c4 (by rw [m4, nI_clamp (by omega)]) (fun f hf => ?_)
  rw [m4]
  rcases (show f = 0 ∨ f = 1 ∨ f = 2 by omega) with e | e | e
  · subst e
    rw [I_sI_k _ _ _ (by omega), I_sI_k _ _ _ (by omega), I_sI_same, pk_un (by omega), pk_un (by omega), pk_un (by omega), pk_us]
  · subst e
    rw [I_sI_k _ _ _ (by omega), I_sI_same, pk_un (by omega), pk_un (by omega), pk_us]
  · subst e
    rw [I_sI_same, pk_un (by omega), pk_us]
theorem pc_person {v u : Int32} (hC : cl_L w x g) (hV : sc_V w E (x + 1) s g) (hW : wf_s s) : mu_mp w mm_X10_person (d + 2) [.ref x, .int v, .int u] g (cPost w x E (pPerson s v u) g) := by
  refine mu_mkp mk_X10_person rfl (fun L hL Q hQ => fm_X10_person_0 (mu_cI sp_X10_isPlace hL ?_))
  have hc := ws_c hW
  have hb := wc_b hc
  have hN := cl_n hC
  unfold pPerson at hQ
  rw [cI_0]
  refine ⟨fun h => ?_, fun h => mu_cI (sp_X10_wN (a := 0) (b := 9) rfl rfl) hL ?_⟩
  · rw [cif_f (fun q => h q.1)] at hQ
    exact cp_0 (L := L) hC hQ rfl hV
  · replace h := Classical.not_not.mp h
    rw [cI_0]
    refine ⟨fun h2 => ?_, fun h2 => ?_⟩
    · rw [cif_t ⟨h, Classical.not_not.mp h2⟩] at hQ
      simp (disch := omega) only [cl_T hC, cl_R0 hC, sc_T hN, sv_0 hV hc, li_n, nI_add, pk_mul, nI_clamp, nI_ltI, nI_leI, nI_eq, mi_n, Nat.add_zero, true_and, and_true, true_or, or_true, false_or, or_false, not_false_eq_true, not_true_eq_false, implies_true, forall_const, ne_eq, Classical.not_not, reduceCtorEq, nor_p, cI_1n, bI_1n, cI_F, cI_T, cI_0, cI_0n, bI_0, bI_0n, cI_01, bI_01, Nat.reduceLeDiff, Nat.reduceLT, Nat.reduceEqDiff, Nat.reduceSub, Nat.reduceAdd, Nat.lt_irrefl, Nat.le_refl, false_implies, true_implies]
      refine ⟨fun h3 => mu_cI (sp_X4_addPerson hN hV hc h3) hL ?_, fun h3 => ?_⟩
      · rw [cif_t h3] at hQ
        unfold adG at *
        exact cp_ok (L := L) hC hQ (mu_fr_tr (mu_fr_tr (mu_fr_tr (mu_fr_sI (A := fun a => x + 1 ≤ a ∧ a < x + 42) ⟨by omega, by omega⟩) (mu_fr_sI ⟨by omega, by omega⟩)) (mu_fr_sI ⟨by omega, by omega⟩)) (mu_fr_sI ⟨by omega, by omega⟩)) (fun a q => Or.inl q) rfl (ad_V hV hc h3)
      · rw [cif_f h3] at hQ
        exact cp_0 (L := L) hC hQ rfl hV
    · rw [cif_f (fun q => h2 (fun z => z q.2))] at hQ
      exact cp_0 (L := L) hC hQ rfl hV
end Ql
