/-! CLIENTS: a scene becomes like another one -/
theorem I_sC (g : mu_H) (a sp b dp n x z : Nat) : mu_I (mu_sC g a sp b dp n) x z = if x = b ∧ (dp ≤ z ∧ z < dp + n) then mu_I g a (sp + (z - dp)) else mu_I g x z := rfl
theorem I_sC_in (g : mu_H) {a b n z : Nat} (h : z < n) : mu_I (mu_sC g a 0 b 0 n) b z = mu_I g a z := by
  rw [I_sC, if_pos ⟨rfl, by omega, by omega⟩, Nat.zero_add, Nat.sub_zero]
theorem I_sC_off (g : mu_H) {a sp b dp n x : Nat} (z : Nat) (h : x ≠ b) : mu_I (mu_sC g a sp b dp n) x z = mu_I g x z := if_neg (fun q => h q.1)
theorem fr_sC {A : Nat → Prop} {g : mu_H} {a sp b dp n : Nat} (h : A b) : mu_fr A g (mu_sC g a sp b dp n) := ⟨rfl, rfl, rfl, rfl, rfl, fun x hx => funext fun z => if_neg (fun q => hx (by rw [q.1]; exact h))⟩
/-- ints of the cells A, and the references of the cell r, may differ -/
def mu_fq (A : Nat → Prop) (r : Nat) (g g' : mu_H) : Prop := mu_T g' = mu_T g ∧ mu_N g' = mu_N g ∧ (∀ a, a ≠ r → mu_R g' a = mu_R g a) ∧ mu_X g' = mu_X g ∧ mu_S g' = mu_S g ∧ ∀ a, ¬ A a → mu_I g' a = mu_I g a
theorem fq_of {A : Nat → Prop} {r : Nat} {g g' : mu_H} (h : mu_fr A g g') : mu_fq A r g g' := ⟨h.1, h.2.1, fun a _ => by rw [h.2.2.1], h.2.2.2.1, h.2.2.2.2.1, h.2.2.2.2.2⟩
theorem fq_tr {A : Nat → Prop} {r : Nat} {g g1 g2 : mu_H} (h1 : mu_fq A r g g1) (h2 : mu_fq A r g1 g2) : mu_fq A r g g2 :=
  ⟨h2.1.trans h1.1, h2.2.1.trans h1.2.1, fun a ha => (h2.2.2.1 a ha).trans (h1.2.2.1 a ha), h2.2.2.2.1.trans h1.2.2.2.1, h2.2.2.2.2.1.trans h1.2.2.2.2.1, fun a ha => (h2.2.2.2.2.2 a ha).trans (h1.2.2.2.2.2 a ha)⟩
theorem fq_rf {A : Nat → Prop} {r : Nat} {g : mu_H} : mu_fq A r g g := fq_of mu_fr_rf
theorem fq_fit {A : Nat → Prop} {r : Nat} {g g' : mu_H} {L : Nat × Nat} (h : mu_fq A r g g') (hL : mu_fit2 L g) : mu_fit2 L g' := by
  unfold mu_fit2
  rw [h.2.2.2.1, h.2.2.2.2.1]
  exact hL
theorem fq_mono {A B : Nat → Prop} {r : Nat} {g g1 : mu_H} (h : mu_fq A r g g1) (hAB : ∀ a, A a → B a) : mu_fq B r g g1 :=
  ⟨h.1, h.2.1, h.2.2.1, h.2.2.2.1, h.2.2.2.2.1, fun a ha => h.2.2.2.2.2 a (fun q => ha (hAB a q))⟩
section Tk
variable {w : mu_O} {d a c b e E : Nat} {g : mu_H} {s : Nat → Int32}
theorem sp_X2_takeFrom (hT : mu_T g a = 3) (hT' : mu_T g c = 3) (hne : c ≠ a) : mu_mp w mm_X2_takeFrom d [.ref a, .ref c] g (fun r g' => r = none ∧ (mu_fr (fun x => x = a) g g' ∧ ∀ f, f < 3 → mu_I g' a f = mu_I g c f)) := by
  refine mu_mkp mk_X2_takeFrom rfl (fun L hL Q hQ => fm_X2_takeFrom_0 ?_)
  have o : ∀ x k v j, mu_I (mu_sI x a k v) c j = mu_I x c j := fun x k v j => I_sI_a _ _ _ _ hne
  simp only [hT, hT', o, true_and]
  refine hQ _ _ ⟨rfl, mu_fr_tr (mu_fr_tr (mu_fr_sI rfl) (mu_fr_sI rfl)) (mu_fr_sI rfl), fun f hf => ?_⟩ rfl rfl
  rcases (show f = 0 ∨ f = 1 ∨ f = 2 by omega) with rfl | rfl | rfl
  · rw [I_sI_k _ _ _ (by omega), I_sI_k _ _ _ (by omega), I_sI_same]
  · rw [I_sI_k _ _ _ (by omega), I_sI_same]
  · rw [I_sI_same]
theorem sp_X1_takeFrom (hT : mu_T g a = 2) (hT' : mu_T g c = 2) (hne : c ≠ a) (h7 : mu_I g c 7 = 0 ∨ mu_I g c 7 = 1) : mu_mp w mm_X1_takeFrom d [.ref a, .ref c] g (fun r g' => r = none ∧ (mu_fr (fun x => x = a) g g' ∧ ∀ f, f < 8 → mu_I g' a f = mu_I g c f)) := by
  refine mu_mkp mk_X1_takeFrom rfl (fun L hL Q hQ => fm_X1_takeFrom_0 ?_)
  have o : ∀ x k v j, mu_I (mu_sI x a k v) c j = mu_I x c j := fun x k v j => I_sI_a _ _ _ _ hne
  simp only [hT, hT', o, true_and]
  refine ⟨h7, hQ _ _ ⟨rfl, mu_fr_tr (mu_fr_tr (mu_fr_tr (mu_fr_tr (mu_fr_tr (mu_fr_tr (mu_fr_tr (mu_fr_sI rfl) (mu_fr_sI rfl)) (mu_fr_sI rfl)) (mu_fr_sI rfl)) (mu_fr_sI rfl)) (mu_fr_sI rfl)) (mu_fr_sI rfl)) (mu_fr_sI rfl), fun f hf => ?_⟩ rfl rfl⟩
  rcases (show f = 0 ∨ f = 1 ∨ f = 2 ∨ f = 3 ∨ f = 4 ∨ f = 5 ∨ f = 6 ∨ f = 7 by omega) with rfl | rfl | rfl | rfl | rfl | rfl | rfl | rfl
  all_goals (repeat rw [I_sI_k _ _ _ (by omega)])
  all_goals rw [I_sI_same]
theorem sp_X0_takeFrom (hS : sc_L w b g) (hS' : sc_L w e g) (hne : e + 41 ≤ b ∨ b + 41 ≤ e) : mu_mp w mm_X0_takeFrom (d + 1) [.ref (b + 10), .ref (e + 10)] g (fun r g' => r = none ∧ (mu_fr (fun x => x = b + 10 ∨ x = b + 11) g g' ∧ mu_I g' (b + 10) 2 = mu_I g (e + 10) 2 ∧ ∀ k, k < 90 → mu_I g' (b + 11) k = mu_I g (e + 11) k)) := by
  refine mu_mkp mk_X0_takeFrom rfl (fun L hL Q hQ => fm_X0_takeFrom_0 ?_)
  have w1 : w.1 < e + 11 := sc_wj hS'
  have w2 : w.1 < b + 11 := sc_wj hS
  have e1 : (Int32.ofNat 90).toNatClampNeg = 90 := rfl
  have e2 : (Int32.ofNat 90).toInt = 90 := rfl
  simp only [sc_T10 hS, sc_T10 hS', sc_RL0 hS, sc_RL0 hS', sc_T11 hS, sc_T11 hS', sc_N11 hS, sc_N11 hS', w1, w2, e1, true_and, and_true, true_or]
  refine ⟨by decide, by decide, by decide, by decide, by decide, by decide, ?_⟩
  refine hQ _ _ ⟨rfl, mu_fr_tr (mu_fr_sI (Or.inl rfl)) (fr_sC (Or.inr rfl)), ?_, fun k hk => ?_⟩ rfl rfl
  · rw [I_sC_off _ _ (by omega), I_sI_same]
  · rw [I_sC_in _ hk, I_sI_a _ _ _ _ (by omega)]
set_option maxHeartbeats 2000000 in
theorem sp_X4_takeFrom (hS : sc_L w b g) (hS' : sc_L w e g) (hV : sc_V w E e s g) (hW : wf_s s) (hne : e + 41 ≤ b ∨ b + 41 ≤ e) (hE : b + 41 ≤ E) :
    mu_mp w mm_X4_takeFrom (d + 2) [.ref b, .ref e] g (fun r g' => r = none ∧ (mu_fq (fun x => b ≤ x ∧ x < b + 41) (b + 5) g g' ∧ sc_L w b g' ∧ sc_V w E b s g')) := by
  refine mu_mkp mk_X4_takeFrom rfl (fun L hL Q hQ => fm_X4_takeFrom_0 ?_)
  have hc := ws_c hW
  have hb := wc_b hc
  have hEe := sv_E hV
  have wb := sc_w hS
  have we := sc_w hS'
  have A1 : ∀ {g' : mu_H}, mu_fr (fun x => b ≤ x ∧ x < b + 41) g g' → ∀ a, ¬ (b ≤ a ∧ a < b + 41) → mu_I g' a = mu_I g a := fun h a ha => h.2.2.2.2.2 a ha
  -- texts and the rest
  have third : ∀ k t g', t + k = 14 → mu_fq (fun x => b ≤ x ∧ x < b + 41) (b + 5) g g' → (∀ p f, p < np s → f < 3 → mu_I g' (b + 13 + p) f = s (20 + 4 * p + f)) → (∀ m f, m < nm s → f < 8 → mu_I g' (b + 21 + m) f = s (60 + 8 * m + f)) → (∀ i, i < t → mu_R g' (b + 5) i = mu_R g (e + 5) i) → (∀ i, t ≤ i → mu_R g' (b + 5) i = mu_R g (b + 5) i) → mu_go w mm_X4_takeFrom (d + 2) L Q 64 [some (.ref b), some (.ref e), some (.int (nI t))] [] g' := by
    intro k
    induction k with
    | zero =>
      intro t g' htk hf hPs hMs hR hR2
      have ht : t = 14 := by omega
      subst ht
      have hSb : sc_L w b g' := by
        obtain ⟨h0, h1, h2, h3, h4, h5, h6, h7, h8, h9⟩ := hS
        unfold sc_L
        rw [hf.1, hf.2.1, hf.2.2.1 b (by omega), hf.2.2.1 (b + 1) (by omega), hf.2.2.1 (b + 2) (by omega), hf.2.2.1 (b + 10) (by omega)]
        exact ⟨h0, h1, h2, h3, h4, h5, ⟨h6.1, h6.2.1, fun i hi => by rw [hR i hi]; exact sc_RX hS' hi⟩, h7, h8, h9⟩
      have hSe : sc_L w e g' := by
        unfold sc_L
        rw [hf.1, hf.2.1, hf.2.2.1 e (by omega), hf.2.2.1 (e + 1) (by omega), hf.2.2.1 (e + 2) (by omega), hf.2.2.1 (e + 5) (by omega), hf.2.2.1 (e + 10) (by omega)]
        exact hS'
      have hfI : ∀ x, ¬ (b ≤ x ∧ x < b + 41) → mu_I g' x = mu_I g x := hf.2.2.2.2.2
      refine fm_X4_takeFrom_64 ?_
      have wj : ∀ j, w.1 < b + j := fun j => by omega
      have wj' : ∀ j, w.1 < e + j := fun j => by omega
      have n20 : (nI 20).toInt = 20 := rfl
      have n64 : (nI 64).toInt = 64 := rfl
      have n6 : (nI 6).toInt = 6 := rfl
      have n0 : (nI 0).toInt = 0 := rfl
      simp (disch := omega) only [sc_T hSb, sc_R0 hSb, sc_R1 hSb, sc_R2 hSb, sc_R3 hSb, sc_R4 hSb, sc_R5 hSb, sc_R6 hSb, sc_R7 hSb, sc_R8 hSb, sc_R9 hSb, sc_T1 hSb, sc_N1 hSb, sc_RP hSb, sc_T2 hSb, sc_N2 hSb, sc_RM hSb, sc_T3 hSb, sc_N3 hSb, sc_T4 hSb, sc_N4 hSb, sc_T5 hSb, sc_N5 hSb, sc_T6 hSb, sc_N6 hSb, sc_T7 hSb, sc_N7 hSb, sc_T8 hSb, sc_N8 hSb, sc_T9 hSb, sc_N9 hSb, sc_T10 hSb, sc_RL0 hSb, sc_RL1 hSb, sc_T11 hSb, sc_N11 hSb, sc_T12 hSb, sc_N12 hSb, sc_TP hSb, sc_TM hSb, sc_w hSb, sc_wj hSb, sc_wp hSb, sc_T hSe, sc_R0 hSe, sc_R1 hSe, sc_R2 hSe, sc_R3 hSe, sc_R4 hSe, sc_R5 hSe, sc_R6 hSe, sc_R7 hSe, sc_R8 hSe, sc_R9 hSe, sc_T1 hSe, sc_N1 hSe, sc_RP hSe, sc_T2 hSe, sc_N2 hSe, sc_RM hSe, sc_T3 hSe, sc_N3 hSe, sc_T4 hSe, sc_N4 hSe, sc_T5 hSe, sc_N5 hSe, sc_T6 hSe, sc_N6 hSe, sc_T7 hSe, sc_N7 hSe, sc_T8 hSe, sc_N8 hSe, sc_T9 hSe, sc_N9 hSe, sc_T10 hSe, sc_RL0 hSe, sc_RL1 hSe, sc_T11 hSe, sc_N11 hSe, sc_T12 hSe, sc_N12 hSe, sc_TP hSe, sc_TM hSe, sc_w hSe, sc_wj hSe, sc_wp hSe, wj, wj', n20, n64, n6, n0, li_n, nI_add, pk_mul, nI_clamp, nI_ltI, nI_leI, nI_eq, mi_n, Nat.add_zero, true_and, and_true, true_or, or_true, false_or, or_false, not_false_eq_true, not_true_eq_false, implies_true, forall_const, ne_eq, Classical.not_not, reduceCtorEq, nor_p, cI_1n, bI_1n, cI_F, cI_T, cI_0, cI_0n, bI_0, bI_0n, cI_01, bI_01, Nat.reduceLeDiff, Nat.reduceLT, Nat.reduceEqDiff, Nat.reduceSub, Nat.reduceAdd, Nat.lt_irrefl, Nat.le_refl, false_implies, true_implies]
      repeat (refine And.intro (by decide) ?_)
      have F1 : mu_fr (fun x => b ≤ x ∧ x < b + 41) g' (mu_sC (mu_sC (mu_sC (mu_sC (mu_sC (mu_sC g' (e + 3) 0 (b + 3) 0 20) (e + 4) 0 (b + 4) 0 20) (e + 6) 0 (b + 6) 0 64) (e + 7) 0 (b + 7) 0 6) (e + 8) 0 (b + 8) 0 6) (e + 9) 0 (b + 9) 0 6) := mu_fr_tr (mu_fr_tr (mu_fr_tr (mu_fr_tr (mu_fr_tr (fr_sC ⟨by omega, by omega⟩) (fr_sC ⟨by omega, by omega⟩)) (fr_sC ⟨by omega, by omega⟩)) (fr_sC ⟨by omega, by omega⟩)) (fr_sC ⟨by omega, by omega⟩)) (fr_sC ⟨by omega, by omega⟩)
      have O1 : ∀ x z, x ≠ b + 3 → x ≠ b + 4 → x ≠ b + 6 → x ≠ b + 7 → x ≠ b + 8 → x ≠ b + 9 → mu_I (mu_sC (mu_sC (mu_sC (mu_sC (mu_sC (mu_sC g' (e + 3) 0 (b + 3) 0 20) (e + 4) 0 (b + 4) 0 20) (e + 6) 0 (b + 6) 0 64) (e + 7) 0 (b + 7) 0 6) (e + 8) 0 (b + 8) 0 6) (e + 9) 0 (b + 9) 0 6) x z = mu_I g' x z := fun x z h3 h4 h6 h7 h8 h9 => by
        rw [I_sC_off _ _ h9, I_sC_off _ _ h8, I_sC_off _ _ h7, I_sC_off _ _ h6, I_sC_off _ _ h4, I_sC_off _ _ h3]
      have K3 : ∀ z, z < 20 → mu_I (mu_sC (mu_sC (mu_sC (mu_sC (mu_sC (mu_sC g' (e + 3) 0 (b + 3) 0 20) (e + 4) 0 (b + 4) 0 20) (e + 6) 0 (b + 6) 0 64) (e + 7) 0 (b + 7) 0 6) (e + 8) 0 (b + 8) 0 6) (e + 9) 0 (b + 9) 0 6) (b + 3) z = mu_I g (e + 3) z := fun z hz => by
        rw [I_sC_off _ _ (by omega), I_sC_off _ _ (by omega), I_sC_off _ _ (by omega), I_sC_off _ _ (by omega), I_sC_off _ _ (by omega), I_sC_in _ hz, hfI _ (by omega)]
      have K4 : ∀ z, z < 20 → mu_I (mu_sC (mu_sC (mu_sC (mu_sC (mu_sC (mu_sC g' (e + 3) 0 (b + 3) 0 20) (e + 4) 0 (b + 4) 0 20) (e + 6) 0 (b + 6) 0 64) (e + 7) 0 (b + 7) 0 6) (e + 8) 0 (b + 8) 0 6) (e + 9) 0 (b + 9) 0 6) (b + 4) z = mu_I g (e + 4) z := fun z hz => by
        rw [I_sC_off _ _ (by omega), I_sC_off _ _ (by omega), I_sC_off _ _ (by omega), I_sC_off _ _ (by omega), I_sC_in _ hz, I_sC_off _ _ (by omega), hfI _ (by omega)]
      have K6 : ∀ z, z < 64 → mu_I (mu_sC (mu_sC (mu_sC (mu_sC (mu_sC (mu_sC g' (e + 3) 0 (b + 3) 0 20) (e + 4) 0 (b + 4) 0 20) (e + 6) 0 (b + 6) 0 64) (e + 7) 0 (b + 7) 0 6) (e + 8) 0 (b + 8) 0 6) (e + 9) 0 (b + 9) 0 6) (b + 6) z = mu_I g (e + 6) z := fun z hz => by
        rw [I_sC_off _ _ (by omega), I_sC_off _ _ (by omega), I_sC_off _ _ (by omega), I_sC_in _ hz, I_sC_off _ _ (by omega), I_sC_off _ _ (by omega), hfI _ (by omega)]
      have K7 : ∀ z, z < 6 → mu_I (mu_sC (mu_sC (mu_sC (mu_sC (mu_sC (mu_sC g' (e + 3) 0 (b + 3) 0 20) (e + 4) 0 (b + 4) 0 20) (e + 6) 0 (b + 6) 0 64) (e + 7) 0 (b + 7) 0 6) (e + 8) 0 (b + 8) 0 6) (e + 9) 0 (b + 9) 0 6) (b + 7) z = mu_I g (e + 7) z := fun z hz => by
        rw [I_sC_off _ _ (by omega), I_sC_off _ _ (by omega), I_sC_in _ hz, I_sC_off _ _ (by omega), I_sC_off _ _ (by omega), I_sC_off _ _ (by omega), hfI _ (by omega)]
      have K8 : ∀ z, z < 6 → mu_I (mu_sC (mu_sC (mu_sC (mu_sC (mu_sC (mu_sC g' (e + 3) 0 (b + 3) 0 20) (e + 4) 0 (b + 4) 0 20) (e + 6) 0 (b + 6) 0 64) (e + 7) 0 (b + 7) 0 6) (e + 8) 0 (b + 8) 0 6) (e + 9) 0 (b + 9) 0 6) (b + 8) z = mu_I g (e + 8) z := fun z hz => by
        rw [I_sC_off _ _ (by omega), I_sC_in _ hz, I_sC_off _ _ (by omega), I_sC_off _ _ (by omega), I_sC_off _ _ (by omega), I_sC_off _ _ (by omega), hfI _ (by omega)]
      have K9 : ∀ z, z < 6 → mu_I (mu_sC (mu_sC (mu_sC (mu_sC (mu_sC (mu_sC g' (e + 3) 0 (b + 3) 0 20) (e + 4) 0 (b + 4) 0 20) (e + 6) 0 (b + 6) 0 64) (e + 7) 0 (b + 7) 0 6) (e + 8) 0 (b + 8) 0 6) (e + 9) 0 (b + 9) 0 6) (b + 9) z = mu_I g (e + 9) z := fun z hz => by
        rw [I_sC_in _ hz, I_sC_off _ _ (by omega), I_sC_off _ _ (by omega), I_sC_off _ _ (by omega), I_sC_off _ _ (by omega), I_sC_off _ _ (by omega), hfI _ (by omega)]
      generalize (mu_sC (mu_sC (mu_sC (mu_sC (mu_sC (mu_sC g' (e + 3) 0 (b + 3) 0 20) (e + 4) 0 (b + 4) 0 20) (e + 6) 0 (b + 6) 0 64) (e + 7) 0 (b + 7) 0 6) (e + 8) 0 (b + 8) 0 6) (e + 9) 0 (b + 9) 0 6) = g1 at *
      have hq1 := fq_tr hf (fq_of F1)
      refine mu_cVp (sp_X0_takeFrom (sc_L_fr hSb F1) (sc_L_fr hSe F1) hne) (fq_fit hq1 hL) (fun g2 h2 hX2 hS2 => ?_)
      obtain ⟨F2, l1, l2⟩ := h2
      have hSb2 := sc_L_fr (sc_L_fr hSb F1) F2
      have hSe2 := sc_L_fr (sc_L_fr hSe F1) F2
      have o : ∀ x k v j, mu_I (mu_sI x b k v) e j = mu_I x e j := fun x k v j => I_sI_a _ _ _ _ (by omega)
      have O2 : ∀ x z, x ≠ b + 10 → x ≠ b + 11 → mu_I g2 x z = mu_I g1 x z := fun x z h1 h2 => by rw [F2.2.2.2.2.2 x (by omega)]
      have cE : ∀ j, mu_I g2 e j = mu_I g e j := fun j => by rw [O2 _ _ (by omega) (by omega), O1 _ _ (by omega) (by omega) (by omega) (by omega) (by omega) (by omega), hfI _ (by omega)]
      simp only [sc_T hSb2, sc_T hSe2, o, cE, true_and]
      have F3 : mu_fr (fun x => b ≤ x ∧ x < b + 41) g2 (mu_sI (mu_sI (mu_sI (mu_sI (mu_sI (mu_sI (mu_sI (mu_sI (mu_sI g2 b 10 (mu_I g e 10)) b 11 (mu_I g e 11)) b 12 (mu_I g e 12)) b 13 (mu_I g e 13)) b 14 (mu_I g e 14)) b 15 (mu_I g e 15)) b 16 (mu_I g e 16)) b 17 (mu_I g e 17)) b 18 (mu_I g e 18)) := mu_fr_tr (mu_fr_tr (mu_fr_tr (mu_fr_tr (mu_fr_tr (mu_fr_tr (mu_fr_tr (mu_fr_tr (mu_fr_sI ⟨by omega, by omega⟩) (mu_fr_sI ⟨by omega, by omega⟩)) (mu_fr_sI ⟨by omega, by omega⟩)) (mu_fr_sI ⟨by omega, by omega⟩)) (mu_fr_sI ⟨by omega, by omega⟩)) (mu_fr_sI ⟨by omega, by omega⟩)) (mu_fr_sI ⟨by omega, by omega⟩)) (mu_fr_sI ⟨by omega, by omega⟩)) (mu_fr_sI ⟨by omega, by omega⟩)
      have O3 : ∀ x z, x ≠ b → mu_I (mu_sI (mu_sI (mu_sI (mu_sI (mu_sI (mu_sI (mu_sI (mu_sI (mu_sI g2 b 10 (mu_I g e 10)) b 11 (mu_I g e 11)) b 12 (mu_I g e 12)) b 13 (mu_I g e 13)) b 14 (mu_I g e 14)) b 15 (mu_I g e 15)) b 16 (mu_I g e 16)) b 17 (mu_I g e 17)) b 18 (mu_I g e 18)) x z = mu_I g2 x z := fun x z h => by
        rw [I_sI_a _ _ _ _ h, I_sI_a _ _ _ _ h, I_sI_a _ _ _ _ h, I_sI_a _ _ _ _ h, I_sI_a _ _ _ _ h, I_sI_a _ _ _ _ h, I_sI_a _ _ _ _ h, I_sI_a _ _ _ _ h, I_sI_a _ _ _ _ h]
      have C3 : ∀ j, 10 ≤ j → j ≤ 18 → mu_I (mu_sI (mu_sI (mu_sI (mu_sI (mu_sI (mu_sI (mu_sI (mu_sI (mu_sI g2 b 10 (mu_I g e 10)) b 11 (mu_I g e 11)) b 12 (mu_I g e 12)) b 13 (mu_I g e 13)) b 14 (mu_I g e 14)) b 15 (mu_I g e 15)) b 16 (mu_I g e 16)) b 17 (mu_I g e 17)) b 18 (mu_I g e 18)) b j = mu_I g e j := fun j h1 h2 => by
        rcases (show j = 10 ∨ j = 11 ∨ j = 12 ∨ j = 13 ∨ j = 14 ∨ j = 15 ∨ j = 16 ∨ j = 17 ∨ j = 18 by omega) with rfl | rfl | rfl | rfl | rfl | rfl | rfl | rfl | rfl
        all_goals (repeat rw [I_sI_k _ _ _ (by omega)])
        all_goals rw [I_sI_same]
      have R3 : ∀ i, i < 14 → mu_R (mu_sI (mu_sI (mu_sI (mu_sI (mu_sI (mu_sI (mu_sI (mu_sI (mu_sI g2 b 10 (mu_I g e 10)) b 11 (mu_I g e 11)) b 12 (mu_I g e 12)) b 13 (mu_I g e 13)) b 14 (mu_I g e 14)) b 15 (mu_I g e 15)) b 16 (mu_I g e 16)) b 17 (mu_I g e 17)) b 18 (mu_I g e 18)) (b + 5) i = mu_R g (e + 5) i := fun i hi => by
        rw [F3.2.2.1, F2.2.2.1, F1.2.2.1]; exact hR i hi
      generalize (mu_sI (mu_sI (mu_sI (mu_sI (mu_sI (mu_sI (mu_sI (mu_sI (mu_sI g2 b 10 (mu_I g e 10)) b 11 (mu_I g e 11)) b 12 (mu_I g e 12)) b 13 (mu_I g e 13)) b 14 (mu_I g e 14)) b 15 (mu_I g e 15)) b 16 (mu_I g e 16)) b 17 (mu_I g e 17)) b 18 (mu_I g e 18)) = g3 at *
      have hq3 : mu_fq (fun x => b ≤ x ∧ x < b + 41) (b + 5) g g3 := fq_tr (fq_tr hq1 (fq_of (mu_fr_mono F2 (fun a q => by omega)))) (fq_of F3)
      refine hQ _ _ ⟨rfl, hq3, sc_L_fr hSb2 F3, ?_⟩ hq3.2.2.2.1 hq3.2.2.2.2.1
      obtain ⟨v0, ⟨c0, c1, c2, c3, c4, c5, c9, c6, c8, c7⟩, v2, v3, v4, v5, v6, v7, v8, v9⟩ := id hV
      have O13 : ∀ x z, x ≠ b → x ≠ b + 10 → x ≠ b + 11 → mu_I g3 x z = mu_I g1 x z := fun x z h1 h2 h3 => by rw [O3 _ _ h1, O2 _ _ h2 h3]
      refine ⟨hE, ⟨(C3 10 (by omega) (by omega)).trans c0, (C3 11 (by omega) (by omega)).trans c1, (C3 12 (by omega) (by omega)).trans c2, (C3 13 (by omega) (by omega)).trans c3, (C3 14 (by omega) (by omega)).trans c4, (C3 15 (by omega) (by omega)).trans c5, (C3 16 (by omega) (by omega)).trans c9, (C3 17 (by omega) (by omega)).trans c6, (C3 18 (by omega) (by omega)).trans c8, ?_⟩, fun p f hp hf2 => ?_, fun m f hm hf2 => ?_, fun i hi => ⟨?_, ?_⟩, fun i hi => ?_, fun i hi => ?_, fun i hi => ?_, fun i hi => ⟨?_, ?_⟩, fun i f hi hf2 => ?_⟩
      · rw [O3 _ _ (by omega), l1, O1 _ _ (by omega) (by omega) (by omega) (by omega) (by omega) (by omega), hfI _ (by omega)]; exact c7
      · rw [O13 _ _ (by omega) (by omega) (by omega), O1 _ _ (by omega) (by omega) (by omega) (by omega) (by omega) (by omega)]; exact hPs p f hp hf2
      · rw [O13 _ _ (by omega) (by omega) (by omega), O1 _ _ (by omega) (by omega) (by omega) (by omega) (by omega) (by omega)]; exact hMs m f hm hf2
      · rw [O13 _ _ (by omega) (by omega) (by omega), K3 _ (by omega)]; exact (v4 i hi).1
      · rw [O13 _ _ (by omega) (by omega) (by omega), K4 _ (by omega)]; exact (v4 i hi).2
      · obtain ⟨a1, a2, a3, a4, a5, a6, a7, a8, a9, a10, a11, a12⟩ := v5 i hi
        rw [R3 i (by omega)]
        have z1 := a2.2.2.1
        have z2 := a2.2.2.2
        have eI : ∀ x, E ≤ x → mu_I g3 x = mu_I g x := fun x hx => hq3.2.2.2.2.2 x (by omega)
        have eR : mu_R g3 (mu_R g (e + 5) i) = mu_R g (mu_R g (e + 5) i) := hq3.2.2.1 _ (by omega)
        unfold tx_R
        rw [eR, hq3.1, hq3.2.1, eI _ z1, eI _ z2]
        exact ⟨a1, a2, a3, a4, a5, a6, a7, a8, a9, a10, a11, a12⟩
      · rw [O13 _ _ (by omega) (by omega) (by omega), K6 _ (by omega)]; exact v6 i hi
      · rw [O13 _ _ (by omega) (by omega) (by omega), K7 _ (by omega)]; exact v7 i hi
      · rw [O13 _ _ (by omega) (by omega) (by omega), K8 _ (by omega)]; exact (v8 i hi).1
      · rw [O13 _ _ (by omega) (by omega) (by omega), K9 _ (by omega)]; exact (v8 i hi).2
      · rw [O3 _ _ (by omega), l2 _ (by omega), O1 _ _ (by omega) (by omega) (by omega) (by omega) (by omega) (by omega), hfI _ (by omega)]; exact v9 i f hi hf2
    | succ k ih =>
      intro t g' htk hf hPs hMs hR hR2
      have hlt : t < 14 := by omega
      have eb4 : mu_R g' b 4 = b + 5 := by rw [hf.2.2.1 b (by omega)]; exact sc_R4 hS
      have ee4 : mu_R g' e 4 = e + 5 := by rw [hf.2.2.1 e (by omega)]; exact sc_R4 hS'
      have tb : mu_T g' b = 5 := by rw [hf.1]; exact sc_T hS
      have te : mu_T g' e = 5 := by rw [hf.1]; exact sc_T hS'
      have tb5 : mu_T g' (b + 5) = 24 := by rw [hf.1]; exact sc_T5 hS
      have te5 : mu_T g' (e + 5) = 24 := by rw [hf.1]; exact sc_T5 hS'
      have nb5 : mu_N g' (b + 5) = 14 := by rw [hf.2.1]; exact sc_N5 hS
      have ne5 : mu_N g' (e + 5) = 14 := by rw [hf.2.1]; exact sc_N5 hS'
      have er : mu_R g' (e + 5) t = mu_R g (e + 5) t := by rw [hf.2.2.1 (e + 5) (by omega)]
      have w5 : w.1 < b + 5 := by omega
      have hac : mu_Ac 4 = 9 := rfl
      refine fm_X4_takeFrom_64 ?_
      simp (disch := omega) only [Nat.not_le_of_lt hlt, eb4, ee4, tb, te, tb5, te5, nb5, ne5, er, w5, hac, li_n, nI_add, pk_mul, nI_clamp, nI_ltI, nI_leI, nI_eq, mi_n, Nat.add_zero, true_and, and_true, true_or, or_true, false_or, or_false, not_false_eq_true, not_true_eq_false, implies_true, forall_const, ne_eq, Classical.not_not, reduceCtorEq, nor_p, cI_1n, bI_1n, cI_F, cI_T, cI_0, cI_0n, bI_0, bI_0n, cI_01, bI_01, Nat.reduceLeDiff, Nat.reduceLT, Nat.reduceEqDiff, Nat.reduceSub, Nat.reduceAdd, Nat.lt_irrefl, Nat.le_refl, false_implies, true_implies]
      refine ⟨by omega, (sc_RX hS' hlt).imp id (fun h => by rw [hf.1]; exact h), by omega, ih (t + 1) _ (by omega) ?_ hPs hMs (fun i hi => ?_) (fun i hi => ?_)⟩
      · exact fq_tr hf ⟨rfl, rfl, fun a ha => funext fun z => if_neg (fun q => ha q.1), rfl, rfl, fun _ _ => rfl⟩
      · by_cases q : i = t
        · rw [q, sR_same]
        · rw [sR_R _ _ (by omega)]; exact hR i (by omega)
      · rw [sR_R _ _ (by omega)]; exact hR2 i (by omega)
  -- moves
  have second : ∀ k i g', i + k = nm s → mu_fr (fun x => b ≤ x ∧ x < b + 41) g g' → (∀ p f, p < np s → f < 3 → mu_I g' (b + 13 + p) f = s (20 + 4 * p + f)) → (∀ m f, m < i → f < 8 → mu_I g' (b + 21 + m) f = s (60 + 8 * m + f)) → mu_go w mm_X4_takeFrom (d + 2) L Q 33 [some (.ref b), some (.ref e), some (.int (nI i))] [] g' := by
    intro k
    induction k with
    | zero =>
      intro i g' hik hf hPs hMs
      have hSb := sc_L_fr hS hf
      have hSe := sc_L_fr hS' hf
      have hV' := sv_fr' hV hc hf (fun a q => Or.inl ⟨by omega, by omega⟩)
      refine fm_X4_takeFrom_33 ?_
      rw [show i = nm s by omega] at hMs ⊢
      simp (disch := omega) only [sc_T hSe, sc_R0 hSe, sc_R1 hSe, sc_R2 hSe, sc_R3 hSe, sc_R4 hSe, sc_R5 hSe, sc_R6 hSe, sc_R7 hSe, sc_R8 hSe, sc_R9 hSe, sc_T1 hSe, sc_N1 hSe, sc_RP hSe, sc_T2 hSe, sc_N2 hSe, sc_RM hSe, sc_T3 hSe, sc_N3 hSe, sc_T4 hSe, sc_N4 hSe, sc_T5 hSe, sc_N5 hSe, sc_T6 hSe, sc_N6 hSe, sc_T7 hSe, sc_N7 hSe, sc_T8 hSe, sc_N8 hSe, sc_T9 hSe, sc_N9 hSe, sc_T10 hSe, sc_RL0 hSe, sc_RL1 hSe, sc_T11 hSe, sc_N11 hSe, sc_T12 hSe, sc_N12 hSe, sc_TP hSe, sc_TM hSe, sc_w hSe, sc_wj hSe, sc_wp hSe, sv_0 hV' hc, sv_1 hV' hc, sv_2 hV' hc, sv_3 hV' hc, sv_4 hV' hc, sv_5 hV' hc, sv_6 hV' hc, sv_7 hV' hc, sv_9 hV' hc, sv_8 hV', li_n, nI_add, pk_mul, nI_clamp, nI_ltI, nI_leI, nI_eq, mi_n, Nat.add_zero, true_and, and_true, true_or, or_true, false_or, or_false, not_false_eq_true, not_true_eq_false, implies_true, forall_const, ne_eq, Classical.not_not, reduceCtorEq, nor_p, cI_1n, bI_1n, cI_F, cI_T, cI_0, cI_0n, bI_0, bI_0n, cI_01, bI_01, Nat.reduceLeDiff, Nat.reduceLT, Nat.reduceEqDiff, Nat.reduceSub, Nat.reduceAdd, Nat.lt_irrefl, Nat.le_refl, false_implies, true_implies]
      exact third 14 0 g' (by omega) (fq_of hf) hPs hMs (fun i hi => absurd hi (Nat.not_lt_zero _)) (fun i _ => by rw [hf.2.2.1])
    | succ k ih =>
      intro i g' hik hf hPs hMs
      have hSb := sc_L_fr hS hf
      have hSe := sc_L_fr hS' hf
      have hV' := sv_fr' hV hc hf (fun a q => Or.inl ⟨by omega, by omega⟩)
      have hi : i < nm s := by omega
      have hmb := wm_b (ws_m hW) hi
      refine fm_X4_takeFrom_33 ?_
      simp (disch := omega) only [Nat.not_le_of_lt hi, sc_T hSb, sc_R0 hSb, sc_R1 hSb, sc_R2 hSb, sc_R3 hSb, sc_R4 hSb, sc_R5 hSb, sc_R6 hSb, sc_R7 hSb, sc_R8 hSb, sc_R9 hSb, sc_T1 hSb, sc_N1 hSb, sc_RP hSb, sc_T2 hSb, sc_N2 hSb, sc_RM hSb, sc_T3 hSb, sc_N3 hSb, sc_T4 hSb, sc_N4 hSb, sc_T5 hSb, sc_N5 hSb, sc_T6 hSb, sc_N6 hSb, sc_T7 hSb, sc_N7 hSb, sc_T8 hSb, sc_N8 hSb, sc_T9 hSb, sc_N9 hSb, sc_T10 hSb, sc_RL0 hSb, sc_RL1 hSb, sc_T11 hSb, sc_N11 hSb, sc_T12 hSb, sc_N12 hSb, sc_TP hSb, sc_TM hSb, sc_w hSb, sc_wj hSb, sc_wp hSb, sc_T hSe, sc_R0 hSe, sc_R1 hSe, sc_R2 hSe, sc_R3 hSe, sc_R4 hSe, sc_R5 hSe, sc_R6 hSe, sc_R7 hSe, sc_R8 hSe, sc_R9 hSe, sc_T1 hSe, sc_N1 hSe, sc_RP hSe, sc_T2 hSe, sc_N2 hSe, sc_RM hSe, sc_T3 hSe, sc_N3 hSe, sc_T4 hSe, sc_N4 hSe, sc_T5 hSe, sc_N5 hSe, sc_T6 hSe, sc_N6 hSe, sc_T7 hSe, sc_N7 hSe, sc_T8 hSe, sc_N8 hSe, sc_T9 hSe, sc_N9 hSe, sc_T10 hSe, sc_RL0 hSe, sc_RL1 hSe, sc_T11 hSe, sc_N11 hSe, sc_T12 hSe, sc_N12 hSe, sc_TP hSe, sc_TM hSe, sc_w hSe, sc_wj hSe, sc_wp hSe, sv_0 hV' hc, sv_1 hV' hc, sv_2 hV' hc, sv_3 hV' hc, sv_4 hV' hc, sv_5 hV' hc, sv_6 hV' hc, sv_7 hV' hc, sv_9 hV' hc, sv_8 hV', li_n, nI_add, pk_mul, nI_clamp, nI_ltI, nI_leI, nI_eq, mi_n, Nat.add_zero, true_and, and_true, true_or, or_true, false_or, or_false, not_false_eq_true, not_true_eq_false, implies_true, forall_const, ne_eq, Classical.not_not, reduceCtorEq, nor_p, cI_1n, bI_1n, cI_F, cI_T, cI_0, cI_0n, bI_0, bI_0n, cI_01, bI_01, Nat.reduceLeDiff, Nat.reduceLT, Nat.reduceEqDiff, Nat.reduceSub, Nat.reduceAdd, Nat.lt_irrefl, Nat.le_refl, false_implies, true_implies]
      refine ⟨by omega, by omega, mu_cVp (sp_X1_takeFrom (sc_TM hSb (by omega)) (sc_TM hSe (by omega)) (by omega) ?_) (mu_fr_fit hf hL) (fun g2 h2 hX2 hS2 => ?_)⟩
      · rw [sv_m hV' (ws_m hW) hi (by omega)]
        rcases (show vM s i 7 = 0 ∨ vM s i 7 = 1 by omega) with q | q <;> rw [q]
        · exact Or.inl rfl
        · exact Or.inr rfl
      · have hf2 := mu_fr_tr hf (mu_fr_mono h2.1 (B := fun x => b ≤ x ∧ x < b + 41) (fun a q => by omega))
        refine ih (i + 1) g2 (by omega) hf2 (fun p f hp hf3 => ?_) (fun m f hm hf3 => ?_)
        · rw [h2.1.2.2.2.2.2 _ (by omega)]; exact hPs p f hp hf3
        · by_cases q : m = i
          · rw [q, h2.2 f hf3]; exact hV'.2.2.2.1 i f hi hf3
          · rw [h2.1.2.2.2.2.2 _ (by omega)]; exact hMs m f (by omega) hf3
  -- people
  have first : ∀ k i g', i + k = np s → mu_fr (fun x => b ≤ x ∧ x < b + 41) g g' → (∀ p f, p < i → f < 3 → mu_I g' (b + 13 + p) f = s (20 + 4 * p + f)) → mu_go w mm_X4_takeFrom (d + 2) L Q 2 [some (.ref b), some (.ref e), some (.int (nI i))] [] g' := by
    intro k
    induction k with
    | zero =>
      intro i g' hik hf hPs
      have hSe := sc_L_fr hS' hf
      have hV' := sv_fr' hV hc hf (fun a q => Or.inl ⟨by omega, by omega⟩)
      refine fm_X4_takeFrom_2 ?_
      rw [show i = np s by omega] at hPs ⊢
      simp (disch := omega) only [sc_T hSe, sc_R0 hSe, sc_R1 hSe, sc_R2 hSe, sc_R3 hSe, sc_R4 hSe, sc_R5 hSe, sc_R6 hSe, sc_R7 hSe, sc_R8 hSe, sc_R9 hSe, sc_T1 hSe, sc_N1 hSe, sc_RP hSe, sc_T2 hSe, sc_N2 hSe, sc_RM hSe, sc_T3 hSe, sc_N3 hSe, sc_T4 hSe, sc_N4 hSe, sc_T5 hSe, sc_N5 hSe, sc_T6 hSe, sc_N6 hSe, sc_T7 hSe, sc_N7 hSe, sc_T8 hSe, sc_N8 hSe, sc_T9 hSe, sc_N9 hSe, sc_T10 hSe, sc_RL0 hSe, sc_RL1 hSe, sc_T11 hSe, sc_N11 hSe, sc_T12 hSe, sc_N12 hSe, sc_TP hSe, sc_TM hSe, sc_w hSe, sc_wj hSe, sc_wp hSe, sv_0 hV' hc, sv_1 hV' hc, sv_2 hV' hc, sv_3 hV' hc, sv_4 hV' hc, sv_5 hV' hc, sv_6 hV' hc, sv_7 hV' hc, sv_9 hV' hc, sv_8 hV', li_n, nI_add, pk_mul, nI_clamp, nI_ltI, nI_leI, nI_eq, mi_n, Nat.add_zero, true_and, and_true, true_or, or_true, false_or, or_false, not_false_eq_true, not_true_eq_false, implies_true, forall_const, ne_eq, Classical.not_not, reduceCtorEq, nor_p, cI_1n, bI_1n, cI_F, cI_T, cI_0, cI_0n, bI_0, bI_0n, cI_01, bI_01, Nat.reduceLeDiff, Nat.reduceLT, Nat.reduceEqDiff, Nat.reduceSub, Nat.reduceAdd, Nat.lt_irrefl, Nat.le_refl, false_implies, true_implies]
      exact second (nm s) 0 g' (by omega) hf hPs (fun m f hm => absurd hm (Nat.not_lt_zero _))
    | succ k ih =>
      intro i g' hik hf hPs
      have hSb := sc_L_fr hS hf
      have hSe := sc_L_fr hS' hf
      have hV' := sv_fr' hV hc hf (fun a q => Or.inl ⟨by omega, by omega⟩)
      have hi : i < np s := by omega
      refine fm_X4_takeFrom_2 ?_
      simp (disch := omega) only [Nat.not_le_of_lt hi, sc_T hSb, sc_R0 hSb, sc_R1 hSb, sc_R2 hSb, sc_R3 hSb, sc_R4 hSb, sc_R5 hSb, sc_R6 hSb, sc_R7 hSb, sc_R8 hSb, sc_R9 hSb, sc_T1 hSb, sc_N1 hSb, sc_RP hSb, sc_T2 hSb, sc_N2 hSb, sc_RM hSb, sc_T3 hSb, sc_N3 hSb, sc_T4 hSb, sc_N4 hSb, sc_T5 hSb, sc_N5 hSb, sc_T6 hSb, sc_N6 hSb, sc_T7 hSb, sc_N7 hSb, sc_T8 hSb, sc_N8 hSb, sc_T9 hSb, sc_N9 hSb, sc_T10 hSb, sc_RL0 hSb, sc_RL1 hSb, sc_T11 hSb, sc_N11 hSb, sc_T12 hSb, sc_N12 hSb, sc_TP hSb, sc_TM hSb, sc_w hSb, sc_wj hSb, sc_wp hSb, sc_T hSe, sc_R0 hSe, sc_R1 hSe, sc_R2 hSe, sc_R3 hSe, sc_R4 hSe, sc_R5 hSe, sc_R6 hSe, sc_R7 hSe, sc_R8 hSe, sc_R9 hSe, sc_T1 hSe, sc_N1 hSe, sc_RP hSe, sc_T2 hSe, sc_N2 hSe, sc_RM hSe, sc_T3 hSe, sc_N3 hSe, sc_T4 hSe, sc_N4 hSe, sc_T5 hSe, sc_N5 hSe, sc_T6 hSe, sc_N6 hSe, sc_T7 hSe, sc_N7 hSe, sc_T8 hSe, sc_N8 hSe, sc_T9 hSe, sc_N9 hSe, sc_T10 hSe, sc_RL0 hSe, sc_RL1 hSe, sc_T11 hSe, sc_N11 hSe, sc_T12 hSe, sc_N12 hSe, sc_TP hSe, sc_TM hSe, sc_w hSe, sc_wj hSe, sc_wp hSe, sv_0 hV' hc, sv_1 hV' hc, sv_2 hV' hc, sv_3 hV' hc, sv_4 hV' hc, sv_5 hV' hc, sv_6 hV' hc, sv_7 hV' hc, sv_9 hV' hc, sv_8 hV', li_n, nI_add, pk_mul, nI_clamp, nI_ltI, nI_leI, nI_eq, mi_n, Nat.add_zero, true_and, and_true, true_or, or_true, false_or, or_false, not_false_eq_true, not_true_eq_false, implies_true, forall_const, ne_eq, Classical.not_not, reduceCtorEq, nor_p, cI_1n, bI_1n, cI_F, cI_T, cI_0, cI_0n, bI_0, bI_0n, cI_01, bI_01, Nat.reduceLeDiff, Nat.reduceLT, Nat.reduceEqDiff, Nat.reduceSub, Nat.reduceAdd, Nat.lt_irrefl, Nat.le_refl, false_implies, true_implies]
      refine ⟨by omega, by omega, mu_cVp (sp_X2_takeFrom (sc_TP hSb (by omega)) (sc_TP hSe (by omega)) (by omega)) (mu_fr_fit hf hL) (fun g2 h2 hX2 hS2 => ?_)⟩
      have hf2 := mu_fr_tr hf (mu_fr_mono h2.1 (B := fun x => b ≤ x ∧ x < b + 41) (fun a q => by omega))
      refine ih (i + 1) g2 (by omega) hf2 (fun p f hp hf3 => ?_)
      by_cases q : p = i
      · rw [q, h2.2 f hf3]; exact hV'.2.2.1 i f hi hf3
      · rw [h2.1.2.2.2.2.2 _ (by omega)]; exact hPs p f (by omega) hf3
  exact first (np s) 0 g (by omega) mu_fr_rf (fun p f hp => absurd hp (Nat.not_lt_zero _))
end Tk
