/-! CLIENTS: the class's stage: ways are laid down -/
def sg_L (w : mu_O) (S b : Nat) (g : mu_H) : Prop := w.1 < S ∧ mu_T g S = 9 ∧ (mu_R g S 0 = S + 1 ∧ mu_R g S 1 = S + 2 ∧ mu_R g S 2 = S + 3 ∧ mu_R g S 3 = S + 4 ∧ mu_R g S 4 = b) ∧ (mu_T g (S + 1) = 20 ∧ mu_N g (S + 1) = 808) ∧ (mu_T g (S + 2) = 20 ∧ mu_N g (S + 2) = 808) ∧ (mu_T g (S + 3) = 20 ∧ mu_N g (S + 3) = 8) ∧ (mu_T g (S + 4) = 20 ∧ mu_N g (S + 4) = 8)
section Sg
variable {w : mu_O} {S b : Nat} {g : mu_H}
theorem sg_w (h : sg_L w S b g) : w.1 < S := h.1
theorem sg_w1 (h : sg_L w S b g) : w.1 < S + 1 := Nat.lt_add_right 1 h.1
theorem sg_w2 (h : sg_L w S b g) : w.1 < S + 2 := Nat.lt_add_right 2 h.1
theorem sg_w3 (h : sg_L w S b g) : w.1 < S + 3 := Nat.lt_add_right 3 h.1
theorem sg_w4 (h : sg_L w S b g) : w.1 < S + 4 := Nat.lt_add_right 4 h.1
theorem sg_T (h : sg_L w S b g) : mu_T g S = 9 := h.2.1
theorem sg_R0 (h : sg_L w S b g) : mu_R g S 0 = S + 1 := h.2.2.1.1
theorem sg_R1 (h : sg_L w S b g) : mu_R g S 1 = S + 2 := h.2.2.1.2.1
theorem sg_R2 (h : sg_L w S b g) : mu_R g S 2 = S + 3 := h.2.2.1.2.2.1
theorem sg_R3 (h : sg_L w S b g) : mu_R g S 3 = S + 4 := h.2.2.1.2.2.2.1
theorem sg_R4 (h : sg_L w S b g) : mu_R g S 4 = b := h.2.2.1.2.2.2.2
theorem sg_T1 (h : sg_L w S b g) : mu_T g (S + 1) = 20 := h.2.2.2.1.1
theorem sg_N1 (h : sg_L w S b g) : mu_N g (S + 1) = 808 := h.2.2.2.1.2
theorem sg_T2 (h : sg_L w S b g) : mu_T g (S + 2) = 20 := h.2.2.2.2.1.1
theorem sg_N2 (h : sg_L w S b g) : mu_N g (S + 2) = 808 := h.2.2.2.2.1.2
theorem sg_T3 (h : sg_L w S b g) : mu_T g (S + 3) = 20 := h.2.2.2.2.2.1.1
theorem sg_N3 (h : sg_L w S b g) : mu_N g (S + 3) = 8 := h.2.2.2.2.2.1.2
theorem sg_T4 (h : sg_L w S b g) : mu_T g (S + 4) = 20 := h.2.2.2.2.2.2.1
theorem sg_N4 (h : sg_L w S b g) : mu_N g (S + 4) = 8 := h.2.2.2.2.2.2.2
theorem sg_fr {A : Nat → Prop} {g' : mu_H} (h : sg_L w S b g) (hf : mu_fr A g g') : sg_L w S b g' := by
  unfold sg_L
  rw [hf.1, hf.2.1, hf.2.2.1]
  exact h
end Sg
theorem fr_cells {A : Nat → Nat → Prop} {g g' : mu_H} {B : Nat → Prop} (h : mu_f2 A g g') (hA : ∀ a k, A a k → B a) : mu_fr B g g' := f2_fr h hA
/-- the next move by which p goes, from e on, among the first n -/
def ngC (s : Nat → Int32) (p : Nat) (e : Int) (i : Nat) : Prop := vM s i 0 = p ∧ mGo s i ∧ e ≤ (vM s i 2 : Int)
noncomputable def ngF (s : Nat → Int32) (p : Nat) (e : Int) : Nat → Option Nat
  | 0 => none
  | i + 1 => @ite _ (ngC s p e i) (Classical.propDecidable _) (match ngF s p e i with
    | none => some i
    | some j => if vM s i 2 < vM s j 2 then some i else some j) (ngF s p e i)
def ngR (b : Nat) : Option Nat → Nat
  | none => 0
  | some i => b + 21 + i
theorem ngF_ok {s : Nat → Int32} {p : Nat} {e : Int} : ∀ n, (ngF s p e n = none ∧ ∀ i, i < n → ¬ ngC s p e i) ∨ ∃ i, ngF s p e n = some i ∧ i < n ∧ ngC s p e i ∧ ∀ j, j < n → ngC s p e j → vM s i 2 ≤ vM s j 2
  | 0 => Or.inl ⟨rfl, fun i h => absurd h (Nat.not_lt_zero _)⟩
  | n + 1 => by
    by_cases hc : ngC s p e n
    · right
      rcases ngF_ok (s := s) (p := p) (e := e) n with ⟨h1, h2⟩ | ⟨i, h1, h2, h3, h4⟩
      · refine ⟨n, by rw [ngF, if_pos hc, h1], by omega, hc, fun j hj hcj => ?_⟩
        by_cases q : j = n
        · rw [q]; exact Nat.le_refl _
        · exact absurd hcj (h2 j (by omega))
      · by_cases q : vM s n 2 < vM s i 2
        · refine ⟨n, by rw [ngF, if_pos hc, h1]; dsimp only; rw [if_pos q], by omega, hc, fun j hj hcj => ?_⟩
          by_cases q2 : j = n
          · rw [q2]; exact Nat.le_refl _
          · have := h4 j (by omega) hcj; omega
        · refine ⟨i, by rw [ngF, if_pos hc, h1]; dsimp only; rw [if_neg q], by omega, h3, fun j hj hcj => ?_⟩
          by_cases q2 : j = n
          · rw [q2]; omega
          · exact h4 j (by omega) hcj
    · have e1 : ngF s p e (n + 1) = ngF s p e n := by rw [ngF, if_neg hc]
      rcases ngF_ok (s := s) (p := p) (e := e) n with ⟨h1, h2⟩ | ⟨i, h1, h2, h3, h4⟩
      · refine Or.inl ⟨e1.trans h1, fun i hi => ?_⟩
        by_cases q : i = n
        · rw [q]; exact hc
        · exact h2 i (by omega)
      · refine Or.inr ⟨i, e1.trans h1, by omega, h3, fun j hj hcj => ?_⟩
        by_cases q : j = n
        · rw [q] at hcj; exact absurd hcj hc
        · exact h4 j (by omega) hcj
theorem sumN_lt {f h : Nat → Nat} : ∀ {n j : Nat}, (∀ i, i < n → f i ≤ h i) → j < n → f j < h j → sumN f n < sumN h n
  | 0, j, _, hj, _ => absurd hj (Nat.not_lt_zero _)
  | n + 1, j, hle, hj, hlt => by
    unfold sumN
    have hn := hle n (by omega)
    by_cases e : j = n
    · have : sumN f n ≤ sumN h n := by
        clear hj hlt e hn
        induction n with
        | zero => exact Nat.le_refl _
        | succ n ih =>
          unfold sumN
          have := ih (fun i hi => hle i (by omega))
          have := hle n (by omega)
          omega
      rw [e] at hlt
      omega
    · have := sumN_lt (n := n) (j := j) (fun i hi => hle i (by omega)) (by omega) hlt
      omega
/-- a person's way is laid down up to t -/
def trI (S : Nat) (s : Nat → Int32) (p t : Nat) (g : mu_H) : Prop := ∀ T, T < t → mu_I g (S + 1) (101 * p + T) = nI (PL s p T / 10) ∧ mu_I g (S + 2) (101 * p + T) = nI (PL s p T % 10)
/-- places of a row on the stage -/
def trW (S k1 k2 : Nat) : Nat → Nat → Prop := fun a k => (a = S + 1 ∨ a = S + 2) ∧ k1 ≤ k ∧ k < k2
section Cg
variable {w : mu_O} {d b S E : Nat} {g : mu_H} {s : Nat → Int32} {B : Nat}
set_option maxHeartbeats 1000000 in
theorem sp_X4_nextGoing {p : Nat} {v : Int32} (hS : sc_L w b g) (hV : sc_V w E b s g) (hc : wf_c s) (hst : st_L w g) (hm : wf_m B s) (hB : B ≤ 95) (hp : p < 100) : mu_met w mm_X4_nextGoing (d + 1) [.ref b, .int (nI p), .int v] g (some (.ref (ngR b (ngF s p v.toInt (nm s))))) g := by
  refine mu_mk mk_X4_nextGoing rfl rfl rfl (fun L hL Q hQ => fm_X4_nextGoing_0 ?_)
  have hb := wc_b hc
  have hw := sc_w hS
  refine lp (n := nm s) (P := fun i => mu_go w mm_X4_nextGoing (d + 1) L Q 5 [some (.ref b), some (.int (nI p)), some (.int v), some (.ref (ngR b (ngF s p v.toInt i))), some (.int (nI i)), none] [] g) (fm_X4_nextGoing_5 ?_) (fun i hi ih => fm_X4_nextGoing_5 ?_)
  · simp (disch := omega) only [sc_T hS, sc_R0 hS, sc_R1 hS, sc_R2 hS, sc_R3 hS, sc_R4 hS, sc_R5 hS, sc_R6 hS, sc_R7 hS, sc_R8 hS, sc_R9 hS, sc_T1 hS, sc_N1 hS, sc_RP hS, sc_T2 hS, sc_N2 hS, sc_RM hS, sc_T3 hS, sc_N3 hS, sc_T4 hS, sc_N4 hS, sc_T5 hS, sc_N5 hS, sc_T6 hS, sc_N6 hS, sc_T7 hS, sc_N7 hS, sc_T8 hS, sc_N8 hS, sc_T9 hS, sc_N9 hS, sc_T10 hS, sc_RL0 hS, sc_RL1 hS, sc_T11 hS, sc_N11 hS, sc_T12 hS, sc_N12 hS, sc_TP hS, sc_TM hS, sc_w hS, sc_wj hS, sc_wp hS, sv_0 hV hc, sv_1 hV hc, sv_2 hV hc, sv_3 hV hc, sv_4 hV hc, sv_5 hV hc, sv_6 hV hc, sv_7 hV hc, sv_9 hV hc, sv_8 hV, li_n, nI_add, pk_mul, nI_clamp, nI_ltI, nI_leI, nI_eq, mi_n, Nat.add_zero, true_and, and_true, true_or, or_true, false_or, or_false, not_false_eq_true, not_true_eq_false, implies_true, forall_const, ne_eq, Classical.not_not, reduceCtorEq, nor_p, cI_1n, bI_1n, cI_F, cI_T, cI_0, cI_0n, bI_0, bI_0n, cI_01, bI_01, Nat.reduceLeDiff, Nat.reduceLT, Nat.reduceEqDiff, Nat.reduceSub, Nat.reduceAdd, Nat.lt_irrefl, Nat.le_refl, false_implies, true_implies]
    exact hQ
  · have hmb := wm_b hm hi
    have i0 : ¬ ngC s p v.toInt i → mu_go w mm_X4_nextGoing (d + 1) L Q 5 [some (.ref b), some (.int (nI p)), some (.int v), some (.ref (ngR b (ngF s p v.toInt i))), some (.int (nI (i + 1))), none] [] g := fun h => by
      have := ih
      rw [ngF, if_neg h] at this
      exact this
    have i1 : ngC s p v.toInt i → mu_go w mm_X4_nextGoing (d + 1) L Q 5 [some (.ref b), some (.int (nI p)), some (.int v), some (.ref (ngR b (match ngF s p v.toInt i with | none => some i | some j => if vM s i 2 < vM s j 2 then some i else some j))), some (.int (nI (i + 1))), none] [] g := fun h => by
      have := ih
      rw [ngF, if_pos h] at this
      exact this
    clear ih
    simp (disch := omega) only [Nat.not_le_of_lt hi, sv_m hV hm, sc_T hS, sc_R0 hS, sc_R1 hS, sc_R2 hS, sc_R3 hS, sc_R4 hS, sc_R5 hS, sc_R6 hS, sc_R7 hS, sc_R8 hS, sc_R9 hS, sc_T1 hS, sc_N1 hS, sc_RP hS, sc_T2 hS, sc_N2 hS, sc_RM hS, sc_T3 hS, sc_N3 hS, sc_T4 hS, sc_N4 hS, sc_T5 hS, sc_N5 hS, sc_T6 hS, sc_N6 hS, sc_T7 hS, sc_N7 hS, sc_T8 hS, sc_N8 hS, sc_T9 hS, sc_N9 hS, sc_T10 hS, sc_RL0 hS, sc_RL1 hS, sc_T11 hS, sc_N11 hS, sc_T12 hS, sc_N12 hS, sc_TP hS, sc_TM hS, sc_w hS, sc_wj hS, sc_wp hS, sv_0 hV hc, sv_1 hV hc, sv_2 hV hc, sv_3 hV hc, sv_4 hV hc, sv_5 hV hc, sv_6 hV hc, sv_7 hV hc, sv_9 hV hc, sv_8 hV, li_n, nI_add, pk_mul, nI_clamp, nI_ltI, nI_leI, nI_eq, mi_n, Nat.add_zero, true_and, and_true, true_or, or_true, false_or, or_false, not_false_eq_true, not_true_eq_false, implies_true, forall_const, ne_eq, Classical.not_not, reduceCtorEq, nor_p, cI_1n, bI_1n, cI_F, cI_T, cI_0, cI_0n, bI_0, bI_0n, cI_01, bI_01, Nat.reduceLeDiff, Nat.reduceLT, Nat.reduceEqDiff, Nat.reduceSub, Nat.reduceAdd, Nat.lt_irrefl, Nat.le_refl, false_implies, true_implies]
    refine ⟨by omega, fun h => i0 (fun q => h q.1), fun h => mu_cI (sp_X1_goesOn hst (sc_TM hS (by omega)) (sv_m hV hm hi (by omega)) hmb.2.1 (sv_m hV hm hi (by omega)) hmb.2.2.2.2.2.2.2.2.2.2) hL ?_⟩
    have hlt : (nI (vM s i 2) < v) ↔ ¬ v.toInt ≤ (vM s i 2 : Int) := by rw [li_lt, nI_toInt (by omega)]; omega
    simp (disch := omega) only [sv_m hV hm, hlt, sc_T hS, sc_R0 hS, sc_R1 hS, sc_R2 hS, sc_R3 hS, sc_R4 hS, sc_R5 hS, sc_R6 hS, sc_R7 hS, sc_R8 hS, sc_R9 hS, sc_T1 hS, sc_N1 hS, sc_RP hS, sc_T2 hS, sc_N2 hS, sc_RM hS, sc_T3 hS, sc_N3 hS, sc_T4 hS, sc_N4 hS, sc_T5 hS, sc_N5 hS, sc_T6 hS, sc_N6 hS, sc_T7 hS, sc_N7 hS, sc_T8 hS, sc_N8 hS, sc_T9 hS, sc_N9 hS, sc_T10 hS, sc_RL0 hS, sc_RL1 hS, sc_T11 hS, sc_N11 hS, sc_T12 hS, sc_N12 hS, sc_TP hS, sc_TM hS, sc_w hS, sc_wj hS, sc_wp hS, sv_0 hV hc, sv_1 hV hc, sv_2 hV hc, sv_3 hV hc, sv_4 hV hc, sv_5 hV hc, sv_6 hV hc, sv_7 hV hc, sv_9 hV hc, sv_8 hV, li_n, nI_add, pk_mul, nI_clamp, nI_ltI, nI_leI, nI_eq, mi_n, Nat.add_zero, true_and, and_true, true_or, or_true, false_or, or_false, not_false_eq_true, not_true_eq_false, implies_true, forall_const, ne_eq, Classical.not_not, reduceCtorEq, nor_p, cI_1n, bI_1n, cI_F, cI_T, cI_0, cI_0n, bI_0, bI_0n, cI_01, bI_01, Nat.reduceLeDiff, Nat.reduceLT, Nat.reduceEqDiff, Nat.reduceSub, Nat.reduceAdd, Nat.lt_irrefl, Nat.le_refl, false_implies, true_implies]
    refine ⟨fun h2 => i0 (fun q => h2 q.2.1), fun h2 => ⟨fun h3 => i0 (fun q => h3 q.2.2), fun h3 => ?_⟩⟩
    have i1 := i1 ⟨h, h2, h3⟩
    rcases ngF_ok (s := s) (p := p) (e := v.toInt) i with ⟨h4, -⟩ | ⟨j, h4, h5, -, -⟩
    · rw [h4] at i1 ⊢
      exact ⟨fun _ => i1, fun q => absurd rfl q⟩
    · rw [h4] at i1 ⊢
      have e : ngR b (some j) = b + 21 + j := rfl
      have hne : ¬ b + 21 + j = 0 := by omega
      have hmj := wm_b hm (show j < nm s by omega)
      dsimp only at i1
      simp (disch := omega) only [e, hne, sv_m hV hm, sc_T hS, sc_R0 hS, sc_R1 hS, sc_R2 hS, sc_R3 hS, sc_R4 hS, sc_R5 hS, sc_R6 hS, sc_R7 hS, sc_R8 hS, sc_R9 hS, sc_T1 hS, sc_N1 hS, sc_RP hS, sc_T2 hS, sc_N2 hS, sc_RM hS, sc_T3 hS, sc_N3 hS, sc_T4 hS, sc_N4 hS, sc_T5 hS, sc_N5 hS, sc_T6 hS, sc_N6 hS, sc_T7 hS, sc_N7 hS, sc_T8 hS, sc_N8 hS, sc_T9 hS, sc_N9 hS, sc_T10 hS, sc_RL0 hS, sc_RL1 hS, sc_T11 hS, sc_N11 hS, sc_T12 hS, sc_N12 hS, sc_TP hS, sc_TM hS, sc_w hS, sc_wj hS, sc_wp hS, sv_0 hV hc, sv_1 hV hc, sv_2 hV hc, sv_3 hV hc, sv_4 hV hc, sv_5 hV hc, sv_6 hV hc, sv_7 hV hc, sv_9 hV hc, sv_8 hV, li_n, nI_add, pk_mul, nI_clamp, nI_ltI, nI_leI, nI_eq, mi_n, Nat.add_zero, true_and, and_true, true_or, or_true, false_or, or_false, not_false_eq_true, not_true_eq_false, implies_true, forall_const, ne_eq, Classical.not_not, reduceCtorEq, nor_p, cI_1n, bI_1n, cI_F, cI_T, cI_0, cI_0n, bI_0, bI_0n, cI_01, bI_01, Nat.reduceLeDiff, Nat.reduceLT, Nat.reduceEqDiff, Nat.reduceSub, Nat.reduceAdd, Nat.lt_irrefl, Nat.le_refl, false_implies, true_implies]
      refine ⟨fun h6 => ?_, fun h6 => ?_⟩
      · rw [if_neg (by omega)] at i1; exact i1
      · rw [if_pos (by omega)] at i1; exact i1
theorem sp_X8_spotAt {p : Nat} {v : Int32} (hp : p < 100) (hv : v.toInt < 1000) : mu_met w mm_X8_spotAt (d + 1) [.int (nI p), .int v] g (some (.int (nI (101 * p + (v.toInt + 1).toNat)))) g := by
  refine mu_mk mk_X8_spotAt rfl rfl rfl (fun L hL Q hQ => fm_X8_spotAt_0 ?_)
  have e : (nI p * 101 + 1 + mu_max (-1) v : Int32) = nI (101 * p + (v.toInt + 1).toNat) := by
    have e1 : (nI p * 101 + 1 : Int32) = nI (p * 101 + 1) := by rw [show (101 : Int32) = nI 101 from rfl, pk_mul, nI_1]
    have e2 : (nI (p * 101 + 1)).toInt = ((p * 101 + 1 : Nat) : Int) := nI_toInt (by omega)
    have hm : (mu_max (-1) v).toInt = if -1 < v.toInt then v.toInt else -1 := by
      unfold mu_max
      simp only [li_lt]
      have : (-1 : Int32).toInt = -1 := rfl
      rw [this]
      split <;> simp [this]
    apply li_nI
    rw [e1, li_add] <;> rw [e2, hm] <;> split <;> omega
  rw [e]
  exact hQ
theorem sp_X8_stay {p v : Nat} {u1 u2 : Int32} (hG : sg_L w S b g) (hp : p < 8) (hv : v < 1000) (h1 : u1.toInt < 1000) (h2 : u2.toInt < 1000) (h3 : (u1.toInt + 1).toNat ≤ 101) :
    mu_mp w mm_X8_stay (d + 2) [.ref S, .int (nI p), .int u1, .int u2, .int (nI v)] g (fun r g' => r = none ∧ (mu_f2 (trW S (101 * p + (u1.toInt + 1).toNat) (101 * p + min (u2.toInt + 1).toNat 101)) g g' ∧ ∀ T, (u1.toInt + 1).toNat ≤ T → T < min (u2.toInt + 1).toNat 101 → mu_I g' (S + 1) (101 * p + T) = nI (v / 10) ∧ mu_I g' (S + 2) (101 * p + T) = nI (v % 10))) := by
  refine mu_mkp mk_X8_stay rfl (fun L hL Q hQ => fm_X8_stay_0 ?_)
  refine ⟨by decide, by decide, mu_cI (sp_X8_spotAt (by omega) h2) hL (mu_cI (sp_X8_spotAt (by omega) (by decide)) hL (mu_cI (sp_X8_spotAt (by omega) h1) hL ?_))⟩
  have e100 : ((100 : Int32).toInt + 1).toNat = 101 := rfl
  rw [e100]
  have h4 : (u2.toInt + 1).toNat ≤ 1000 := by omega
  generalize (u1.toInt + 1).toNat = E1 at *
  generalize (u2.toInt + 1).toNat = E2 at *
  simp (disch := omega) only [dv_n, rm_n, mn_n, li_n, nI_add, pk_mul, nI_clamp, nI_ltI, nI_leI, nI_eq, mi_n, Nat.add_zero, true_and, and_true, true_or, or_true, false_or, or_false, not_false_eq_true, not_true_eq_false, implies_true, forall_const, ne_eq, Classical.not_not, reduceCtorEq, nor_p, cI_1n, bI_1n, cI_F, cI_T, cI_0, cI_0n, bI_0, bI_0n, cI_01, bI_01, Nat.reduceLeDiff, Nat.reduceLT, Nat.reduceEqDiff, Nat.reduceSub, Nat.reduceAdd, Nat.lt_irrefl, Nat.le_refl, false_implies, true_implies]
  rw [show min (101 * p + E2) (101 * p + 101) = 101 * p + min E2 101 by omega]
  have : ∀ k t g', (t + k = min E2 101 ∨ (k = 0 ∧ min E2 101 ≤ t)) → t ≤ 101 → mu_f2 (trW S (101 * p + E1) (101 * p + min E2 101)) g g' → (∀ T, E1 ≤ T → T < t → T < min E2 101 → mu_I g' (S + 1) (101 * p + T) = nI (v / 10) ∧ mu_I g' (S + 2) (101 * p + T) = nI (v % 10)) → E1 ≤ t → mu_go w mm_X8_stay (d + 2) L Q 37 [some (.ref S), none, none, none, none, some (.int (nI (v / 10))), some (.int (nI (v % 10))), some (.int (nI (101 * p + min E2 101))), some (.int (nI (101 * p + t)))] [] g' := by
    intro k
    induction k with
    | zero =>
      intro t g' htk ht hf hI hE
      refine fm_X8_stay_37 ?_
      simp (disch := omega) only [show (101 * p + min E2 101 ≤ 101 * p + t) = True from eq_true (by omega), li_n, nI_add, pk_mul, nI_clamp, nI_ltI, nI_leI, nI_eq, mi_n, Nat.add_zero, true_and, and_true, true_or, or_true, false_or, or_false, not_false_eq_true, not_true_eq_false, implies_true, forall_const, ne_eq, Classical.not_not, reduceCtorEq, nor_p, cI_1n, bI_1n, cI_F, cI_T, cI_0, cI_0n, bI_0, bI_0n, cI_01, bI_01, Nat.reduceLeDiff, Nat.reduceLT, Nat.reduceEqDiff, Nat.reduceSub, Nat.reduceAdd, Nat.lt_irrefl, Nat.le_refl, false_implies, true_implies]
      exact hQ _ _ ⟨rfl, hf, fun T q1 q2 => hI T q1 (by omega) q2⟩ hf.2.2.2.1 hf.2.2.2.2.1
    | succ k ih =>
      intro t g' htk ht hf hI hE
      have hG' := sg_fr hG (f2_T hf)
      refine fm_X8_stay_37 ?_
      simp (disch := omega) only [show (101 * p + min E2 101 ≤ 101 * p + t) = False from eq_false (by omega), sg_T hG', sg_R0 hG', sg_R1 hG', sg_R2 hG', sg_R3 hG', sg_R4 hG', sg_T1 hG', sg_N1 hG', sg_T2 hG', sg_N2 hG', sg_T3 hG', sg_N3 hG', sg_T4 hG', sg_N4 hG', sg_w1 hG', sg_w2 hG', sg_w3 hG', sg_w4 hG', li_n, nI_add, pk_mul, nI_clamp, nI_ltI, nI_leI, nI_eq, mi_n, Nat.add_zero, true_and, and_true, true_or, or_true, false_or, or_false, not_false_eq_true, not_true_eq_false, implies_true, forall_const, ne_eq, Classical.not_not, reduceCtorEq, nor_p, cI_1n, bI_1n, cI_F, cI_T, cI_0, cI_0n, bI_0, bI_0n, cI_01, bI_01, Nat.reduceLeDiff, Nat.reduceLT, Nat.reduceEqDiff, Nat.reduceSub, Nat.reduceAdd, Nat.lt_irrefl, Nat.le_refl, false_implies, true_implies]
      refine ⟨by omega, by omega, ih (t + 1) _ (by omega) (by omega) (f2_tr (f2_tr hf (f2_sI ⟨Or.inl rfl, by omega⟩)) (f2_sI ⟨Or.inr rfl, by omega⟩)) (fun T q1 q2 q3 => ?_) (by omega)⟩
      by_cases e : T = t
      · rw [e, I_sI_a _ _ _ _ (by omega), I_sI_same, I_sI_same]; exact ⟨rfl, rfl⟩
      · rw [I_sI_a _ _ _ _ (by omega), I_sI_k _ _ _ (by omega), I_sI_k _ _ _ (by omega), I_sI_a _ _ _ _ (by omega)]; exact hI T q1 (by omega) q3
  exact this (min E2 101 - E1) E1 g (by omega) (by omega) f2_rf (fun T q1 q2 => by omega) (Nat.le_refl _)
set_option maxHeartbeats 1000000 in
theorem sp_X8_go {m v : Nat} (hS : sc_L w b g) (hV : sc_V w E b s g) (hc : wf_c s) (hG : sg_L w S b g) (hSE : b + 41 ≤ S ∧ S + 5 ≤ E) (hm : wf_m 90 s) (hi : m < nm s) (hv : okP v) :
    mu_mp w mm_X8_go (d + 2) [.ref S, .ref (b + 21 + m), .int (nI v)] g (fun r g' => r = none ∧ (mu_f2 (trW S (101 * vM s m 0 + vM s m 2 + 1) (101 * vM s m 0 + vM s m 2 + 1 + vM s m 3)) g g' ∧ ∀ i, i < vM s m 3 → mu_I g' (S + 1) (101 * vM s m 0 + (vM s m 2 + i + 1)) = nI (bw v (vM s m 4) (i + 1) (vM s m 3) / 10) ∧ mu_I g' (S + 2) (101 * vM s m 0 + (vM s m 2 + i + 1)) = nI (bw v (vM s m 4) (i + 1) (vM s m 3) % 10))) := by
  refine mu_mkp mk_X8_go rfl (fun L hL Q hQ => fm_X8_go_0 ?_)
  have hb := wc_b hc
  have hmb := wm_b hm hi
  obtain ⟨v1, v2⟩ := id hv
  simp (disch := omega) only [dv_n, rm_n, mx_n, sv_m hV hm, sc_T hS, sc_R0 hS, sc_R1 hS, sc_R2 hS, sc_R3 hS, sc_R4 hS, sc_R5 hS, sc_R6 hS, sc_R7 hS, sc_R8 hS, sc_R9 hS, sc_T1 hS, sc_N1 hS, sc_RP hS, sc_T2 hS, sc_N2 hS, sc_RM hS, sc_T3 hS, sc_N3 hS, sc_T4 hS, sc_N4 hS, sc_T5 hS, sc_N5 hS, sc_T6 hS, sc_N6 hS, sc_T7 hS, sc_N7 hS, sc_T8 hS, sc_N8 hS, sc_T9 hS, sc_N9 hS, sc_T10 hS, sc_RL0 hS, sc_RL1 hS, sc_T11 hS, sc_N11 hS, sc_T12 hS, sc_N12 hS, sc_TP hS, sc_TM hS, sc_w hS, sc_wj hS, sc_wp hS, sv_0 hV hc, sv_1 hV hc, sv_2 hV hc, sv_3 hV hc, sv_4 hV hc, sv_5 hV hc, sv_6 hV hc, sv_7 hV hc, sv_9 hV hc, sv_8 hV, li_n, nI_add, pk_mul, nI_clamp, nI_ltI, nI_leI, nI_eq, mi_n, Nat.add_zero, true_and, and_true, true_or, or_true, false_or, or_false, not_false_eq_true, not_true_eq_false, implies_true, forall_const, ne_eq, Classical.not_not, reduceCtorEq, nor_p, cI_1n, bI_1n, cI_F, cI_T, cI_0, cI_0n, bI_0, bI_0n, cI_01, bI_01, Nat.reduceLeDiff, Nat.reduceLT, Nat.reduceEqDiff, Nat.reduceSub, Nat.reduceAdd, Nat.lt_irrefl, Nat.le_refl, false_implies, true_implies]
  rw [show max 1 (vM s m 3) = vM s m 3 by omega]
  have : ∀ k i g', i + k = vM s m 3 → mu_f2 (trW S (101 * vM s m 0 + vM s m 2 + 1) (101 * vM s m 0 + vM s m 2 + 1 + vM s m 3)) g g' → (∀ j, j < i → mu_I g' (S + 1) (101 * vM s m 0 + (vM s m 2 + j + 1)) = nI (bw v (vM s m 4) (j + 1) (vM s m 3) / 10) ∧ mu_I g' (S + 2) (101 * vM s m 0 + (vM s m 2 + j + 1)) = nI (bw v (vM s m 4) (j + 1) (vM s m 3) % 10)) → mu_go w mm_X8_go (d + 2) L Q 24 [some (.ref S), some (.ref (b + 21 + m)), none, some (.int (nI (v / 10))), some (.int (nI (v % 10))), some (.int (nI (vM s m 3))), some (.int (nI (i + 1))), none] [] g' := by
    intro k
    induction k with
    | zero =>
      intro i g' hik hf hI
      refine fm_X8_go_24 ?_
      rw [show i = vM s m 3 by omega] at hI ⊢
      simp (disch := omega) only [show (vM s m 3 < vM s m 3 + 1) = True from eq_true (by omega), li_n, nI_add, pk_mul, nI_clamp, nI_ltI, nI_leI, nI_eq, mi_n, Nat.add_zero, true_and, and_true, true_or, or_true, false_or, or_false, not_false_eq_true, not_true_eq_false, implies_true, forall_const, ne_eq, Classical.not_not, reduceCtorEq, nor_p, cI_1n, bI_1n, cI_F, cI_T, cI_0, cI_0n, bI_0, bI_0n, cI_01, bI_01, Nat.reduceLeDiff, Nat.reduceLT, Nat.reduceEqDiff, Nat.reduceSub, Nat.reduceAdd, Nat.lt_irrefl, Nat.le_refl, false_implies, true_implies]
      exact hQ _ _ ⟨rfl, hf, hI⟩ hf.2.2.2.1 hf.2.2.2.2.1
    | succ k ih =>
      intro i g' hik hf hI
      have hfr : mu_fr (fun a => a = S + 1 ∨ a = S + 2) g g' := f2_fr hf (fun a k q => q.1)
      have hS' := sc_L_fr hS hfr
      have hV' := sv_fr' hV hc hfr (fun a q => by omega)
      have hG' := sg_fr hG hfr
      have hL' := f2_fit hf hL
      have e1 : nI (vM s m 2 + (i + 1)) - nI 1 = nI (vM s m 2 + i) := nI_pred _
      refine fm_X8_go_24 ?_
      simp (disch := omega) only [show (vM s m 3 < i + 1) = False from eq_false (by omega), sv_m hV' hm, sc_T hS', sc_R0 hS', sc_R1 hS', sc_R2 hS', sc_R3 hS', sc_R4 hS', sc_R5 hS', sc_R6 hS', sc_R7 hS', sc_R8 hS', sc_R9 hS', sc_T1 hS', sc_N1 hS', sc_RP hS', sc_T2 hS', sc_N2 hS', sc_RM hS', sc_T3 hS', sc_N3 hS', sc_T4 hS', sc_N4 hS', sc_T5 hS', sc_N5 hS', sc_T6 hS', sc_N6 hS', sc_T7 hS', sc_N7 hS', sc_T8 hS', sc_N8 hS', sc_T9 hS', sc_N9 hS', sc_T10 hS', sc_RL0 hS', sc_RL1 hS', sc_T11 hS', sc_N11 hS', sc_T12 hS', sc_N12 hS', sc_TP hS', sc_TM hS', sc_w hS', sc_wj hS', sc_wp hS', e1, li_n, nI_add, pk_mul, nI_clamp, nI_ltI, nI_leI, nI_eq, mi_n, Nat.add_zero, true_and, and_true, true_or, or_true, false_or, or_false, not_false_eq_true, not_true_eq_false, implies_true, forall_const, ne_eq, Classical.not_not, reduceCtorEq, nor_p, cI_1n, bI_1n, cI_F, cI_T, cI_0, cI_0n, bI_0, bI_0n, cI_01, bI_01, Nat.reduceLeDiff, Nat.reduceLT, Nat.reduceEqDiff, Nat.reduceSub, Nat.reduceAdd, Nat.lt_irrefl, Nat.le_refl, false_implies, true_implies]
      refine mu_cI (sp_X8_spotAt (by omega) (by rw [nI_toInt (by omega)]; omega)) hL' ?_
      rw [nI_toInt (by omega), show (((vM s m 2 + i : Nat) : Int) + 1).toNat = vM s m 2 + i + 1 by omega]
      have b1 := (bwc_all (v / 10) (by omega) (vM s m 4 / 10) (by omega) (vM s m 3) (by omega) (i + 1) (by omega) (by omega) (by omega)).1
      have b2 := (bwc_all (v % 10) (by omega) (vM s m 4 % 10) (by omega) (vM s m 3) (by omega) (i + 1) (by omega) (by omega) (by omega)).1
      have hbw := bw_ok hv ⟨hmb.2.2.2.2.2.1, hmb.2.2.2.2.2.2.1⟩ hmb.2.2.2.1 hmb.2.2.2.2.1 (show i + 1 ≤ vM s m 3 by omega)
      have e0 : ¬ vM s m 3 = 0 := by omega
      have hofs : ∀ x, mu_I (mu_sI g' (S + 1) (101 * vM s m 0 + (vM s m 2 + i + 1)) x) (b + 21 + m) 4 = nI (vM s m 4) := fun x => by
        rw [I_sI_a _ _ _ _ (by omega)]
        exact sv_m hV' hm hi (by omega)
      simp (disch := omega) only [dv_n, rm_n, sv_m hV' hm, hofs, sc_T hS', sc_R0 hS', sc_R1 hS', sc_R2 hS', sc_R3 hS', sc_R4 hS', sc_R5 hS', sc_R6 hS', sc_R7 hS', sc_R8 hS', sc_R9 hS', sc_T1 hS', sc_N1 hS', sc_RP hS', sc_T2 hS', sc_N2 hS', sc_RM hS', sc_T3 hS', sc_N3 hS', sc_T4 hS', sc_N4 hS', sc_T5 hS', sc_N5 hS', sc_T6 hS', sc_N6 hS', sc_T7 hS', sc_N7 hS', sc_T8 hS', sc_N8 hS', sc_T9 hS', sc_N9 hS', sc_T10 hS', sc_RL0 hS', sc_RL1 hS', sc_T11 hS', sc_N11 hS', sc_T12 hS', sc_N12 hS', sc_TP hS', sc_TM hS', sc_w hS', sc_wj hS', sc_wp hS', sg_T hG', sg_R0 hG', sg_R1 hG', sg_R2 hG', sg_R3 hG', sg_R4 hG', sg_T1 hG', sg_N1 hG', sg_T2 hG', sg_N2 hG', sg_T3 hG', sg_N3 hG', sg_T4 hG', sg_N4 hG', sg_w1 hG', sg_w2 hG', sg_w3 hG', sg_w4 hG', b1, b2, e0, li_n, nI_add, pk_mul, nI_clamp, nI_ltI, nI_leI, nI_eq, mi_n, Nat.add_zero, true_and, and_true, true_or, or_true, false_or, or_false, not_false_eq_true, not_true_eq_false, implies_true, forall_const, ne_eq, Classical.not_not, reduceCtorEq, nor_p, cI_1n, bI_1n, cI_F, cI_T, cI_0, cI_0n, bI_0, bI_0n, cI_01, bI_01, Nat.reduceLeDiff, Nat.reduceLT, Nat.reduceEqDiff, Nat.reduceSub, Nat.reduceAdd, Nat.lt_irrefl, Nat.le_refl, false_implies, true_implies]
      refine ⟨by omega, by omega, ih (i + 1) _ (by omega) (f2_tr (f2_tr hf (f2_sI ⟨Or.inl rfl, by omega⟩)) (f2_sI ⟨Or.inr rfl, by omega⟩)) (fun j hj => ?_)⟩
      by_cases e : j = i
      · rw [e, I_sI_a _ _ _ _ (by omega), I_sI_same, I_sI_same, hbw.2.1, hbw.2.2]; exact ⟨rfl, rfl⟩
      · rw [I_sI_a _ _ _ _ (by omega), I_sI_k _ _ _ (by omega), I_sI_k _ _ _ (by omega), I_sI_a _ _ _ _ (by omega)]; exact hI j (by omega)
  exact this (vM s m 3) 0 g (by omega) f2_rf (fun j hj => absurd hj (Nat.not_lt_zero _))
end Cg
