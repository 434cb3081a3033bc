/-! CLIENTS: a move more: both public calls -/
def mvOK (s : Nat → Int32) (v1 v2 v3 v4 v5 : Int32) : Prop := (0 ≤ v1.toInt ∧ v1.toInt < (np s : Int)) ∧ (0 ≤ v2.toInt ∧ v2.toInt ≤ 5) ∧ isTm v3 ∧ isPl v4 ∧ 0 ≤ v5.toInt ∧ (0 ≤ (v5 / 10).toInt ∧ (v5 / 10).toInt < (np s : Int)) ∧ ¬ v5 / 10 = v1
def mvMt (s : Nat → Int32) (v1 v3 : Int32) (i : Nat) : Prop := vM s i 0 = v1.toNatClampNeg ∧ vM s i 2 < v3.toNatClampNeg / 10 + v3.toNatClampNeg % 10 ∧ v3.toNatClampNeg / 10 < vM s i 2 + vM s i 3
/-- the row with one move more -/
def mvU (s : Nat → Int32) (m : Nat) (v1 v2 v3 v4 v5 : Int32) : Nat → Int32 := upd (upd (upd (upd (upd (upd (upd (upd s (60 + 8 * m + 0) v1) (60 + 8 * m + 1) v2) (60 + 8 * m + 2) (v3 / 10)) (60 + 8 * m + 3) (v3 % 10)) (60 + 8 * m + 4) v4) (60 + 8 * m + 5) (v5 / 10)) (60 + 8 * m + 6) (v5 % 10)) (60 + 8 * m + 7) 0
def mvR (s : Nat → Int32) (v1 v2 v3 v4 v5 : Int32) : Nat → Int32 := upd (mvU s (nm s) v1 v2 v3 v4 v5) 1 (nI (nm s + 1))
noncomputable def pMove (s : Nat → Int32) (v1 v2 v3 v4 v5 : Int32) : Int32 × (Nat → Int32) := cif (mvOK s v1 v2 v3 v4 v5) (cif (nm s < 20) (cif (∃ i, i < nm s ∧ mvMt s v1 v3 i) (-1000000002, s) (nI (nm s), mvR s v1 v2 v3 v4 v5)) (-1000000003, s)) (-1000000001, s)
section Qt
variable {w : mu_O} {d x y b E : Nat} {g g1 g2 : mu_H} {s : Nat → Int32} {v1 v2 v3 v4 v5 : Int32}
theorem bc_V0 (hV : sc_V w E b s g) (hc : wf_c s) (hn : nm s < 20) : sc_V w E b s (bcG (b + 21 + nm s) v1 v2 v3 v4 v5 g) := by
  unfold bcG
  have z := Nat.le_refl (nm s)
  exact sb_Mg (sb_Mg (sb_Mg (sb_Mg (sb_Mg (sb_Mg (sb_Mg (sb_Mg hV hc z hn) hc z hn) hc z hn) hc z hn) hc z hn) hc z hn) hc z hn) hc z hn
theorem bc_fr {a : Nat} {A : Nat → Prop} (h : A a) : mu_fr A g (bcG a v1 v2 v3 v4 v5 g) := by
  unfold bcG
  exact mu_fr_tr (mu_fr_tr (mu_fr_tr (mu_fr_tr (mu_fr_tr (mu_fr_tr (mu_fr_tr (mu_fr_sI h) (mu_fr_sI h)) (mu_fr_sI h)) (mu_fr_sI h)) (mu_fr_sI h)) (mu_fr_sI h)) (mu_fr_sI h)) (mu_fr_sI h)
theorem bc_U (hV : sc_V w E b s g) (hc : wf_c s) (hn : nm s < 20) : sc_V w E b (mvU s (nm s) v1 v2 v3 v4 v5) (bcG (b + 21 + nm s) v1 v2 v3 v4 v5 g) ∧ wf_c (mvU s (nm s) v1 v2 v3 v4 v5) ∧ nm (mvU s (nm s) v1 v2 v3 v4 v5) = nm s := by
  have st : ∀ (c : Nat → Int32) (h : mu_H) (f : Nat) (v : Int32), f < 8 → sc_V w E b c h ∧ wf_c c ∧ nm c = nm s → sc_V w E b (upd c (60 + 8 * nm s + f) v) (mu_sI h (b + 21 + nm s) f v) ∧ wf_c (upd c (60 + 8 * nm s + f) v) ∧ nm (upd c (60 + 8 * nm s + f) v) = nm s := fun c h f v hf q => ⟨sb_M q.1 q.2.1 (by rw [q.2.2]; exact Nat.le_refl _) hn hf, wf_c_u q.2.1 (by omega), (nm_u (by omega)).trans q.2.2⟩
  unfold mvU bcG
  exact st _ _ 7 _ (by omega) (st _ _ 6 _ (by omega) (st _ _ 5 _ (by omega) (st _ _ 4 _ (by omega) (st _ _ 3 _ (by omega) (st _ _ 2 _ (by omega) (st _ _ 1 _ (by omega) (st _ _ 0 _ (by omega) ⟨hV, hc, rfl⟩)))))))
theorem mvU_o {m k : Nat} (h : ∀ f, f < 8 → k ≠ 60 + 8 * m + f) : mvU s m v1 v2 v3 v4 v5 k = s k := by
  unfold mvU
  rw [pk_un (h 7 (by omega)), pk_un (h 6 (by omega)), pk_un (h 5 (by omega)), pk_un (h 4 (by omega)), pk_un (h 3 (by omega)), pk_un (h 2 (by omega)), pk_un (h 1 (by omega)), pk_un (h 0 (by omega))]
theorem bc_I {a : Nat} : mu_I (bcG a v1 v2 v3 v4 v5 g) a 0 = v1 ∧ mu_I (bcG a v1 v2 v3 v4 v5 g) a 1 = v2 ∧ mu_I (bcG a v1 v2 v3 v4 v5 g) a 2 = v3 / 10 ∧ mu_I (bcG a v1 v2 v3 v4 v5 g) a 3 = v3 % 10 ∧ mu_I (bcG a v1 v2 v3 v4 v5 g) a 4 = v4 ∧ mu_I (bcG a v1 v2 v3 v4 v5 g) a 5 = v5 / 10 ∧ mu_I (bcG a v1 v2 v3 v4 v5 g) a 6 = v5 % 10 ∧ mu_I (bcG a v1 v2 v3 v4 v5 g) a 7 = 0 := by
  unfold bcG
  refine ⟨?_, ?_, ?_, ?_, ?_, ?_, ?_, ?_⟩ <;> simp (disch := omega) only [I_sI_same, I_sI_k]
theorem mvU_I {m : Nat} : mvU s m v1 v2 v3 v4 v5 (60 + 8 * m + 0) = v1 ∧ mvU s m v1 v2 v3 v4 v5 (60 + 8 * m + 1) = v2 ∧ mvU s m v1 v2 v3 v4 v5 (60 + 8 * m + 2) = v3 / 10 ∧ mvU s m v1 v2 v3 v4 v5 (60 + 8 * m + 3) = v3 % 10 ∧ mvU s m v1 v2 v3 v4 v5 (60 + 8 * m + 4) = v4 ∧ mvU s m v1 v2 v3 v4 v5 (60 + 8 * m + 5) = v5 / 10 ∧ mvU s m v1 v2 v3 v4 v5 (60 + 8 * m + 6) = v5 % 10 ∧ mvU s m v1 v2 v3 v4 v5 (60 + 8 * m + 7) = 0 := by
  unfold mvU
  refine ⟨?_, ?_, ?_, ?_, ?_, ?_, ?_, ?_⟩ <;> simp (disch := omega) only [pk_us, pk_un]
theorem f8 {P : Nat → Prop} (h0 : P 0) (h1 : P 1) (h2 : P 2) (h3 : P 3) (h4 : P 4) (h5 : P 5) (h6 : P 6) (h7 : P 7) : ∀ f, f < 8 → P f := fun f hf => by
  rcases (show f = 0 ∨ f = 1 ∨ f = 2 ∨ f = 3 ∨ f = 4 ∨ f = 5 ∨ f = 6 ∨ f = 7 by omega) with e | e | e | e | e | e | e | e <;> subst e <;> assumption
theorem bc_V (hV : sc_V w E b s g) (hc : wf_c s) (hn : nm s < 20) : sc_V w E b (mvR s v1 v2 v3 v4 v5) (mu_sI (bcG (b + 21 + nm s) v1 v2 v3 v4 v5 g) b 11 (nI (nm s + 1))) := by
  obtain ⟨k1, k2, k3⟩ := bc_U (v1 := v1) (v2 := v2) (v3 := v3) (v4 := v4) (v5 := v5) hV hc hn
  refine sm_M (v := nI (nm s + 1)) k1 k2 (by rw [k3, nI_clamp (by omega)]) ?_
  rw [k3]
  obtain ⟨a0, a1, a2, a3, a4, a5, a6, a7⟩ := bc_I (a := b + 21 + nm s) (v1 := v1) (v2 := v2) (v3 := v3) (v4 := v4) (v5 := v5) (g := g)
  obtain ⟨c0, c1, c2, c3, c4, c5, c6, c7⟩ := mvU_I (s := s) (m := nm s) (v1 := v1) (v2 := v2) (v3 := v3) (v4 := v4) (v5 := v5)
  exact f8 (a0.trans c0.symm) (a1.trans c1.symm) (a2.trans c2.symm) (a3.trans c3.symm) (a4.trans c4.symm) (a5.trans c5.symm) (a6.trans c6.symm) (a7.trans c7.symm)
theorem pc_move (hC : cl_L w x g) (hV : sc_V w E (x + 1) s g) (hW : wf_s s) : mu_mp w mm_X10_move (d + 3) [.ref x, .int v1, .int v2, .int v3, .int v4, .int v5] g (cPost w x E (pMove s v1 v2 v3 v4 v5) g) := by
  refine mu_mkp mk_X10_move rfl (fun L hL Q hQ => fm_X10_move_0 ?_)
  have hc := ws_c hW
  have hb := wc_b hc
  have hN := cl_n hC
  have nlt : v5 < 0 ↔ v5.toInt < 0 := li_lt
  have bad : ¬ mvOK s v1 v2 v3 v4 v5 → Q (some (.int (-1000000001))) g := fun h => by
    unfold pMove at hQ
    rw [cif_f h] at hQ
    exact cp_0 (L := L) hC hQ rfl hV
  refine ⟨cl_T hC, by rw [cl_R0 hC]; exact sc_T hN, ?_⟩
  rw [cl_R0 hC]
  refine mu_cI (sp_X4_hasPerson hN hV hc) hL ?_
  rw [cI_0]
  refine ⟨fun h => bad (fun q => h q.1), fun h => mu_cI sp_X10_isKind hL ?_⟩
  rw [cI_0]
  refine ⟨fun h2 => bad (fun q => h2 q.2.1), fun h2 => mu_cI sp_X10_isTime hL ?_⟩
  rw [cI_0]
  refine ⟨fun h3 => bad (fun q => h3 q.2.2.1), fun h3 => mu_cI sp_X10_isPlace hL ?_⟩
  rw [cI_0]
  refine ⟨fun h4 => ⟨fun h5 => bad (fun q => by have := q.2.2.2.2.1; rw [nlt] at h5; omega), fun h5 => ⟨cl_T hC, by decide, by rw [cl_R0 hC]; exact sc_T hN, ?_⟩⟩, fun h4 => bad (fun q => h4 (fun z => z q.2.2.2.1))⟩
  rw [cl_R0 hC]
  refine mu_cI (sp_X4_hasPerson hN hV hc) hL ?_
  rw [cI_0]
  refine ⟨fun h6 => bad (fun q => h6 q.2.2.2.2.2.1), fun h6 => ⟨by decide, fun h7 => ?_, fun h7 => bad (fun q => h7 q.2.2.2.2.2.2)⟩⟩
  replace h := Classical.not_not.mp h
  replace h2 := Classical.not_not.mp h2
  replace h3 := Classical.not_not.mp h3
  replace h4 := Classical.not_not.mp h4
  replace h6 := Classical.not_not.mp h6
  rw [nlt] at h5
  have hok : mvOK s v1 v2 v3 v4 v5 := ⟨h, h2, h3, h4, by omega, h6, h7⟩
  unfold pMove at hQ
  rw [cif_t hok] at hQ
  obtain ⟨k1, hk1, e1, -, hk2⟩ := ix_of h
  obtain ⟨t, e3, ht1, ht2, ht3⟩ := h3
  refine ⟨cl_T hC, by rw [cl_R0 hC]; exact sc_T hN, ?_⟩
  rw [cl_R0 hC, sv_1 hV hc]
  have h20 : nI (nm s) < 20 ↔ nm s < 20 := nI_ltI (b := 20) (by omega) (by decide)
  rw [h20]
  refine ⟨fun h8 => ?_, fun h8 => ?_⟩
  · rw [cif_t h8] at hQ
    simp (disch := omega) only [cl_T hC, cl_R0 hC, sv_1 hV hc, sc_T hN, sc_R0 hN, sc_R1 hN, sc_R2 hN, sc_R3 hN, sc_R4 hN, sc_R5 hN, sc_R6 hN, sc_R7 hN, sc_R8 hN, sc_R9 hN, sc_T1 hN, sc_N1 hN, sc_RP hN, sc_T2 hN, sc_N2 hN, sc_RM hN, sc_T3 hN, sc_N3 hN, sc_T4 hN, sc_N4 hN, sc_T5 hN, sc_N5 hN, sc_T6 hN, sc_N6 hN, sc_T7 hN, sc_N7 hN, sc_T8 hN, sc_N8 hN, sc_T9 hN, sc_N9 hN, sc_T10 hN, sc_RL0 hN, sc_RL1 hN, sc_T11 hN, sc_N11 hN, sc_T12 hN, sc_N12 hN, sc_TP hN, sc_TM hN, sc_w hN, sc_wj hN, sc_wp hN, mi_n, nI_clamp, true_and, Nat.reduceLeDiff, Nat.reduceLT]
    refine ⟨by omega, mu_cV (sp_X1_become (sc_TM hN (by omega))) hL ?_⟩
    have hf : mu_fr (fun a => x + 1 ≤ a ∧ a < x + 42) g (bcG (x + 1 + 21 + nm s) v1 v2 v3 v4 v5 g) := bc_fr ⟨by omega, by omega⟩
    have C1 := cl_fr hC hf
    have N1 := cl_n C1
    have V1 := bc_V0 (v1 := v1) (v2 := v2) (v3 := v3) (v4 := v4) (v5 := v5) hV hc h8
    have V2 := bc_V (v1 := v1) (v2 := v2) (v3 := v3) (v4 := v4) (v5 := v5) hV hc h8
    obtain ⟨a0, -, a2, a3, -⟩ := bc_I (a := x + 1 + 21 + nm s) (v1 := v1) (v2 := v2) (v3 := v3) (v4 := v4) (v5 := v5) (g := g)
    replace a0 := a0.trans e1
    have a2' : mu_I (bcG (x + 1 + 21 + nm s) v1 v2 v3 v4 v5 g) (x + 1 + 21 + nm s) 2 = nI (t / 10) := by rw [a2, e3]; exact dv_n (b := 10) (by omega) (by omega) (by omega)
    have a3' : mu_I (bcG (x + 1 + 21 + nm s) v1 v2 v3 v4 v5 g) (x + 1 + 21 + nm s) 3 = nI (t % 10) := by rw [a3, e3]; exact rm_n (b := 10) (by omega) (by omega)
    generalize bcG (x + 1 + 21 + nm s) v1 v2 v3 v4 v5 g = G at *
    refine ⟨cl_T C1, cl_T C1, by rw [cl_R0 C1]; exact sc_T N1, by rw [cl_R0 C1]; exact sc_T N1, ?_⟩
    rw [cl_R0 C1, sv_1 V1 hc]
    refine mu_cI (sp_X4_meetsAnother N1 V1 hc (ws_m hW) (by omega) h8 a0 a2' a3' (by omega) (by omega) (by omega)) (mu_fr_fit hf hL) ?_
    have ek1 : v1.toNatClampNeg = k1 := by rw [e1, nI_clamp hk2]
    have ek3 : v3.toNatClampNeg = t := by rw [e3, nI_clamp (by omega)]
    have em : (∃ i, i < nm s ∧ i ≠ nm s ∧ vM s i 0 = k1 ∧ vM s i 2 < t / 10 + t % 10 ∧ t / 10 < vM s i 2 + vM s i 3) ↔ ∃ i, i < nm s ∧ mvMt s v1 v3 i := by
      unfold mvMt
      rw [ek1, ek3]
      exact exists_congr (fun i => ⟨fun q => ⟨q.1, q.2.2⟩, fun q => ⟨q.1, by omega, q.2⟩⟩)
    rw [em, cI_0]
    refine ⟨fun h9 => ⟨cl_T C1, by rw [cl_R0 C1]; exact sc_T N1, by rw [cl_R0 C1]; exact sc_T N1, cl_T C1, by rw [cl_R0 C1]; exact sc_T N1, ?_⟩, fun h9 => ?_⟩
    · rw [cif_f h9] at hQ
      rw [cl_R0 C1, sv_1 V1 hc, I_sI_same]
      have e1 : nI (nm s) + 1 = nI (nm s + 1) := nI_add _ 1
      have e2 : nI (nm s + 1) - 1 = nI (nm s) := nI_pred _
      rw [e1, e2]
      exact cp_ok (L := L) hC hQ (mu_fr_tr hf (mu_fr_sI ⟨by omega, by omega⟩)) (fun a q => Or.inl q) rfl V2
    · rw [cif_t (Classical.not_not.mp h9)] at hQ
      exact cp_ok (L := L) hC hQ hf (fun a q => Or.inl q) rfl V1
  · rw [cif_f h8] at hQ
    exact cp_0 (L := L) hC hQ rfl hV
end Qt
