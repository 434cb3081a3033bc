/-! CLIENTS: slots laid: both public calls -/
def lyOK (s : Nat → Int32) (v1 v2 v3 : Int32) : Prop := (0 ≤ v1.toInt ∧ v1.toInt ≤ 4) ∧ (v2 = 0 ∨ v2 = 3 ∨ (v2 = 1 ∧ 0 ≤ v3.toInt ∧ v3.toInt < (nm s : Int)) ∨ (v2 = 2 ∧ 0 ≤ v3.toInt ∧ v3.toInt ≤ 3))
noncomputable def pLay (s A4 A5 A6 B7 B8 B9 B10 : Nat → Int32) (v1 v2 v3 : Int32) : r4 := cif (lyOK s v1 v2 v3) (cif (v2 = 2 ∧ A4 v3.toNatClampNeg = -1) (-1000000011, B7, B8, B9, B10) (B7 v1.toNatClampNeg, upd B7 v1.toNatClampNeg v2, upd B8 v1.toNatClampNeg (cif (v2 = 1) (s (60 + 8 * v3.toNatClampNeg + 1)) v3), cif (v2 = 2) (upd B9 v1.toNatClampNeg (A5 v3.toNatClampNeg)) B9, cif (v2 = 2) (cpy B10 (24 * v1.toNatClampNeg) A6 (24 * v3.toNatClampNeg) 24) B10)) (-1000000001, B7, B8, B9, B10)
section Sh9
variable {w : mu_O} {d x y E : Nat} {g g1 : mu_H} {s A4 A5 A6 B7 B8 B9 B10 B7' B8' B9' B10' : Nat → Int32} {v1 v2 v3 : Int32}
theorem sdh_one {i : Nat} (hH : sd_H x B7 B8 B9 B10 g) (hf : mu_fr (fun z => z = x + 146 + 3 * i ∨ z = x + 147 + 3 * i ∨ z = x + 148 + 3 * i) g g1)
    (h : mu_I g1 (x + 146 + 3 * i) 1 = B7' i ∧ (B7' i = 1 → mu_I g1 (x + 146 + 3 * i) 2 = B8' i) ∧ (B7' i = 3 → mu_I g1 (x + 146 + 3 * i) 3 = B8' i) ∧ (B7' i = 2 → mu_I g1 (x + 147 + 3 * i) 2 = B9' i ∧ ∀ k, k < 24 → mu_I g1 (x + 148 + 3 * i) k = B10' (24 * i + k)))
    (o7 : ∀ j, j ≠ i → B7' j = B7 j) (o8 : ∀ j, j ≠ i → B8' j = B8 j) (o9 : ∀ j, j ≠ i → B9' j = B9 j) (o10 : ∀ j, ¬ (24 * i ≤ j ∧ j < 24 * i + 24) → B10' j = B10 j) : sd_H x B7' B8' B9' B10' g1 := fun j hj => by
  by_cases e : j = i
  · rw [e]; exact h
  · rw [hf.2.2.2.2.2 _ (by omega), hf.2.2.2.2.2 _ (by omega), hf.2.2.2.2.2 _ (by omega), o7 j e, o8 j e, o9 j e]
    obtain ⟨t1, t2, t3, t4⟩ := hH j hj
    exact ⟨t1, t2, t3, fun q => ⟨(t4 q).1, fun k hk => by rw [o10 _ (by omega)]; exact (t4 q).2 k hk⟩⟩
theorem sp_X5_takeFrom {a c a1 c1 : Nat} (hT : mu_T g a = 6) (hR : mu_R g a 0 = c) (hw : w.1 < c) (hT2 : mu_T g c = 21) (hN : mu_N g c = 24) (kT : mu_T g a1 = 6) (kR : mu_R g a1 0 = c1) (kw : w.1 < c1) (kT2 : mu_T g c1 = 21) (kN : mu_N g c1 = 24) (n1 : a1 ≠ a) (n2 : c1 ≠ a) (n3 : c ≠ a) : mu_mp w mm_X5_takeFrom (d + 1) [.ref a, .ref a1] g (fun r g' => r = none ∧ (mu_fr (fun z => z = a ∨ z = c) g g' ∧ mu_I g' a 2 = mu_I g a1 2 ∧ ∀ k, k < 24 → mu_I g' c k = mu_I g c1 k)) := by
  refine mu_mkp mk_X5_takeFrom rfl (fun L hL Q hQ => fm_X5_takeFrom_0 ?_)
  rw [hT, hR, hT2, hN, kT, kR, kT2, kN]
  refine ⟨rfl, rfl, rfl, rfl, rfl, rfl, kw, hw, Or.inr ⟨rfl, rfl⟩, by decide, by decide, by decide, by decide, by decide, ?_⟩
  refine hQ _ _ ⟨rfl, mu_fr_tr (mu_fr_tr (mu_fr_sI (Or.inl rfl)) (mu_fr_sI (Or.inl rfl))) (sC_fr _ _ _ _ _ _ (Or.inr rfl)), ?_, fun k hk => ?_⟩ rfl rfl
  · rw [sC_I _ _ _ _ _ _ _ (Ne.symm n3), I_sI_same, I_sI_a _ _ _ _ n1]
  · rw [sC_i _ _ _ _ _ _ _ ⟨by omega, by omega⟩, I_sI_a _ _ _ _ n2, I_sI_a _ _ _ _ n2]
    congr 1
    omega
theorem sl_0 {Q : Option Value → mu_H → Prop} {q : r4} {v : Int32} (hC : cl_L w x g) (hQ : ∀ r g', cSl w x q g r g' → mu_X g' = mu_X g → mu_S g' = mu_S g → Q r g') (hv : v = q.1) (hH : sd_H x q.2.1 q.2.2.1 q.2.2.2.1 q.2.2.2.2 g) : Q (some (.int v)) g := hQ _ _ ⟨_, rfl, hv, hC, hH, mu_fr_rf⟩ rfl rfl
theorem sl_1 {Q : Option Value → mu_H → Prop} {q : r4} {v : Int32} (hQ : ∀ r g', mSl y q g r g' → mu_X g' = mu_X g → mu_S g' = mu_S g → Q r g') (hv : v = q.1) (h7 : mu_I g (y + 7) = q.2.1) (h8 : mu_I g (y + 8) = q.2.2.1) (h9 : mu_I g (y + 9) = q.2.2.2.1) (h10 : mu_I g (y + 10) = q.2.2.2.2) : Q (some (.int v)) g := hQ _ _ ⟨_, rfl, hv, ⟨h7, h8, h9, h10⟩, mu_fr_rf⟩ rfl rfl
theorem v03 {v : Int32} (h : 0 ≤ v.toInt ∧ v.toInt ≤ 3) : v = nI 0 ∨ v = nI 1 ∨ v = nI 2 ∨ v = nI 3 := by
  obtain ⟨k, k1, e, -, -⟩ := ix_of (v := v) (n := 4) ⟨h.1, by omega⟩
  rcases (show k = 0 ∨ k = 1 ∨ k = 2 ∨ k = 3 by omega) with rfl | rfl | rfl | rfl
  · exact Or.inl e
  · exact Or.inr (Or.inl e)
  · exact Or.inr (Or.inr (Or.inl e))
  · exact Or.inr (Or.inr (Or.inr e))
theorem v03' {v : Int32} (h : ¬ (0 ≤ v.toInt ∧ v.toInt ≤ 3)) : ¬ v = 0 ∧ ¬ v = 1 ∧ ¬ v = 2 ∧ ¬ v = 3 := ⟨fun e => h (by rw [e]; decide), fun e => h (by rw [e]; decide), fun e => h (by rw [e]; decide), fun e => h (by rw [e]; decide)⟩
theorem ly_1 (h : ¬ (0 ≤ v3.toInt ∧ v3.toInt < (nm s : Int))) : ¬ lyOK s v1 (nI 1) v3 := fun q => by
  rcases q.2 with q | q | q | q
  · exact absurd q (by decide)
  · exact absurd q (by decide)
  · exact h q.2
  · exact absurd q.1 (by decide)
theorem ly_2 (h : ¬ (0 ≤ v3.toInt ∧ v3.toInt ≤ 3)) : ¬ lyOK s v1 (nI 2) v3 := fun q => by
  rcases q.2 with q | q | q | q
  · exact absurd q (by decide)
  · exact absurd q (by decide)
  · exact absurd q.1 (by decide)
  · exact h q.2
theorem ly_x (h : ¬ (0 ≤ v2.toInt ∧ v2.toInt ≤ 3)) : ¬ lyOK s v1 v2 v3 := fun q => by
  obtain ⟨a, b, c, d⟩ := v03' h
  rcases q.2 with q | q | q | q
  · exact a q
  · exact d q
  · exact b q.1
  · exact c q.1
theorem pc_lay (hC : cl_L w x g) (hV : sc_V w E (x + 1) s g) (hW : wf_s s) (hS : sd_S x A4 A5 A6 g) (hH : sd_H x B7 B8 B9 B10 g) : mu_mp w mm_X10_lay (d + 2) [.ref x, .int v1, .int v2, .int v3] g (cSl w x (pLay s A4 A5 A6 B7 B8 B9 B10 v1 v2 v3) g) := by
  refine mu_mkp mk_X10_lay rfl (fun L hL Q hQ => fm_X10_lay_0 (mu_cI sp_X10_isSlot hL ?_))
  have hw := cl_w hC
  have hc := ws_c hW
  have hb := wc_b hc
  have hN := cl_n hC
  have bad : ¬ lyOK s v1 v2 v3 → Q (some (.int (-1000000001))) g := fun h => by
    unfold pLay at hQ
    rw [cif_f h] at hQ
    exact sl_0 hC hQ rfl hH
  rw [cI_0]
  refine ⟨fun h => bad (fun q => h q.1), fun h => mu_cI (sp_X10_wN (a := 0) (b := 3) rfl rfl) hL ?_⟩
  replace h := Classical.not_not.mp h
  rw [cI_0]
  refine ⟨fun h2 => ?_, fun h2 => bad (ly_x (fun z => h2 (fun k => k z)))⟩
  replace h2 := Classical.not_not.mp h2
  obtain ⟨i, i1, rfl, i3, i2⟩ := ix_of (v := v1) (n := 5) ⟨h.1, by omega⟩
  have hin : mu_in (nI i) 5 := mu_in_n i1 (by omega)
  have t1 := (hH i i1).1
  unfold pLay at hQ
  have nb : ∀ a b, a < 2 ^ 31 → b < 2 ^ 31 → (nI a = nI b ↔ a = b) := fun a b ha hb => nI_eq ha hb
  rcases v03 h2 with rfl | rfl | rfl | rfl
  · rw [cif_t ⟨h, Or.inl rfl⟩, cif_f (fun q => absurd q.1 (by decide)), cif_f (by decide), cif_f (by decide), cif_f (by decide), i3] at hQ
    simp (disch := omega) only [cl_T hC, cl_R9 hC, cl_T9 hC, cl_N9 hC, cl_RO hC, cl_O1 hC, t1, li_n, nI_add, pk_mul, nI_clamp, nI_ltI, nI_leI, nI_eq, mi_n, Nat.add_zero, true_and, and_true, true_or, or_true, false_or, or_false, not_false_eq_true, not_true_eq_false, implies_true, forall_const, ne_eq, Classical.not_not, reduceCtorEq, nor_p, cI_1n, bI_1n, cI_F, cI_T, cI_0, cI_0n, bI_0, bI_0n, cI_01, bI_01, Nat.reduceLeDiff, Nat.reduceLT, Nat.reduceEqDiff, Nat.reduceSub, Nat.reduceAdd, Nat.lt_irrefl, Nat.le_refl, false_implies, true_implies]
    have f1 : mu_fr (fun z => z = x + 146 + 3 * i ∨ z = x + 147 + 3 * i ∨ z = x + 148 + 3 * i) g (mu_sI g (x + 146 + 3 * i) 1 (nI 0)) := mu_fr_sI (Or.inl rfl)
    refine ⟨i1, hQ _ _ ⟨_, rfl, rfl, cl_fr hC f1, sdh_one hH f1 ⟨?_, ?_, ?_, ?_⟩ (fun j hj => pk_un hj) (fun j hj => pk_un hj) (fun _ _ => rfl) (fun _ _ => rfl), mu_fr_mono f1 (fun a q => by omega)⟩ rfl rfl⟩
    · dsimp only; rw [I_sI_same, pk_us]
    · dsimp only; rw [pk_us]; exact fun q => absurd q (by decide)
    · dsimp only; rw [pk_us]; exact fun q => absurd q (by decide)
    · dsimp only; rw [pk_us]; exact fun q => absurd q (by decide)
  · simp (disch := omega) only [cl_T hC, cl_R0 hC, sc_T hN, li_n, nI_add, pk_mul, nI_clamp, nI_ltI, nI_leI, nI_eq, mi_n, Nat.add_zero, true_and, and_true, true_or, or_true, false_or, or_false, not_false_eq_true, not_true_eq_false, implies_true, forall_const, ne_eq, Classical.not_not, reduceCtorEq, nor_p, cI_1n, bI_1n, cI_F, cI_T, cI_0, cI_0n, bI_0, bI_0n, cI_01, bI_01, Nat.reduceLeDiff, Nat.reduceLT, Nat.reduceEqDiff, Nat.reduceSub, Nat.reduceAdd, Nat.lt_irrefl, Nat.le_refl, false_implies, true_implies]
    refine mu_cI (sp_X4_hasMove hN hV hc) hL ?_
    simp (disch := omega) only [cl_T hC, cl_R0 hC, cl_R9 hC, cl_T9 hC, cl_N9 hC, cl_RO hC, cl_O1 hC, t1, sc_T hN, sc_R0 hN, sc_R1 hN, sc_R2 hN, sc_R3 hN, sc_R4 hN, sc_R5 hN, sc_R6 hN, sc_R7 hN, sc_R8 hN, sc_R9 hN, sc_T1 hN, sc_N1 hN, sc_RP hN, sc_T2 hN, sc_N2 hN, sc_RM hN, sc_T3 hN, sc_N3 hN, sc_T4 hN, sc_N4 hN, sc_T5 hN, sc_N5 hN, sc_T6 hN, sc_N6 hN, sc_T7 hN, sc_N7 hN, sc_T8 hN, sc_N8 hN, sc_T9 hN, sc_N9 hN, sc_T10 hN, sc_RL0 hN, sc_RL1 hN, sc_T11 hN, sc_N11 hN, sc_T12 hN, sc_N12 hN, sc_TP hN, sc_TM hN, sc_w hN, sc_wj hN, sc_wp hN, li_n, nI_add, pk_mul, nI_clamp, nI_ltI, nI_leI, nI_eq, mi_n, Nat.add_zero, true_and, and_true, true_or, or_true, false_or, or_false, not_false_eq_true, not_true_eq_false, implies_true, forall_const, ne_eq, Classical.not_not, reduceCtorEq, nor_p, cI_1n, bI_1n, cI_F, cI_T, cI_0, cI_0n, bI_0, bI_0n, cI_01, bI_01, Nat.reduceLeDiff, Nat.reduceLT, Nat.reduceEqDiff, Nat.reduceSub, Nat.reduceAdd, Nat.lt_irrefl, Nat.le_refl, false_implies, true_implies]
    refine ⟨fun h3 => bad (ly_1 h3), fun h3 => ?_⟩
    rw [cif_t ⟨h, Or.inr (Or.inr (Or.inl ⟨rfl, h3⟩))⟩, cif_f (fun q => absurd q.1 (by decide)), cif_t (show nI 1 = 1 from rfl), cif_f (by decide), cif_f (by decide), i3] at hQ
    obtain ⟨k, k1, rfl, k3, k2⟩ := ix_of h3
    rw [k3] at hQ
    simp (disch := omega) only [sc_T hN, sc_R0 hN, sc_R1 hN, sc_R2 hN, sc_R3 hN, sc_R4 hN, sc_R5 hN, sc_R6 hN, sc_R7 hN, sc_R8 hN, sc_R9 hN, sc_T1 hN, sc_N1 hN, sc_RP hN, sc_T2 hN, sc_N2 hN, sc_RM hN, sc_T3 hN, sc_N3 hN, sc_T4 hN, sc_N4 hN, sc_T5 hN, sc_N5 hN, sc_T6 hN, sc_N6 hN, sc_T7 hN, sc_N7 hN, sc_T8 hN, sc_N8 hN, sc_T9 hN, sc_N9 hN, sc_T10 hN, sc_RL0 hN, sc_RL1 hN, sc_T11 hN, sc_N11 hN, sc_T12 hN, sc_N12 hN, sc_TP hN, sc_TM hN, sc_w hN, sc_wj hN, sc_wp hN, li_n, nI_add, pk_mul, nI_clamp, nI_ltI, nI_leI, nI_eq, mi_n, Nat.add_zero, true_and, and_true, true_or, or_true, false_or, or_false, not_false_eq_true, not_true_eq_false, implies_true, forall_const, ne_eq, Classical.not_not, reduceCtorEq, nor_p, cI_1n, bI_1n, cI_F, cI_T, cI_0, cI_0n, bI_0, bI_0n, cI_01, bI_01, Nat.reduceLeDiff, Nat.reduceLT, Nat.reduceEqDiff, Nat.reduceSub, Nat.reduceAdd, Nat.lt_irrefl, Nat.le_refl, false_implies, true_implies]
    have ek : mu_I (mu_sI g (x + 146 + 3 * i) 1 (nI 1)) (x + 1 + 21 + k) 1 = s (60 + 8 * k + 1) := by
      rw [I_sI_a _ _ _ _ (by omega)]
      exact hV.2.2.2.1 k 1 k1 (by omega)
    rw [ek]
    have f1 : mu_fr (fun z => z = x + 146 + 3 * i ∨ z = x + 147 + 3 * i ∨ z = x + 148 + 3 * i) g (mu_sI (mu_sI g (x + 146 + 3 * i) 1 (nI 1)) (x + 146 + 3 * i) 2 (s (60 + 8 * k + 1))) := mu_fr_tr (mu_fr_sI (Or.inl rfl)) (mu_fr_sI (Or.inl rfl))
    refine ⟨i1, by omega, hQ _ _ ⟨_, rfl, rfl, cl_fr hC f1, sdh_one hH f1 ⟨?_, ?_, ?_, ?_⟩ (fun j hj => pk_un hj) (fun j hj => pk_un hj) (fun _ _ => rfl) (fun _ _ => rfl), mu_fr_mono f1 (fun a q => by omega)⟩ rfl rfl⟩
    · dsimp only; rw [I_sI_k _ _ _ (by omega), I_sI_same, pk_us]
    · dsimp only; rw [I_sI_same, pk_us]; exact fun _ => pk_us.symm
    · dsimp only; rw [pk_us]; exact fun q => absurd q (by decide)
    · dsimp only; rw [pk_us]; exact fun q => absurd q (by decide)
  · simp (disch := omega) only [li_n, nI_add, pk_mul, nI_clamp, nI_ltI, nI_leI, nI_eq, mi_n, Nat.add_zero, true_and, and_true, true_or, or_true, false_or, or_false, not_false_eq_true, not_true_eq_false, implies_true, forall_const, ne_eq, Classical.not_not, reduceCtorEq, nor_p, cI_1n, bI_1n, cI_F, cI_T, cI_0, cI_0n, bI_0, bI_0n, cI_01, bI_01, Nat.reduceLeDiff, Nat.reduceLT, Nat.reduceEqDiff, Nat.reduceSub, Nat.reduceAdd, Nat.lt_irrefl, Nat.le_refl, false_implies, true_implies]
    refine mu_cI sp_X10_isSheet hL ?_
    simp (disch := omega) only [cl_T hC, cl_R8 hC, cl_T8 hC, cl_N8 hC, li_n, nI_add, pk_mul, nI_clamp, nI_ltI, nI_leI, nI_eq, mi_n, Nat.add_zero, true_and, and_true, true_or, or_true, false_or, or_false, not_false_eq_true, not_true_eq_false, implies_true, forall_const, ne_eq, Classical.not_not, reduceCtorEq, nor_p, cI_1n, bI_1n, cI_F, cI_T, cI_0, cI_0n, bI_0, bI_0n, cI_01, bI_01, Nat.reduceLeDiff, Nat.reduceLT, Nat.reduceEqDiff, Nat.reduceSub, Nat.reduceAdd, Nat.lt_irrefl, Nat.le_refl, false_implies, true_implies]
    refine ⟨fun h3 => ?_, fun h3 => bad (ly_2 h3)⟩
    rw [cif_t ⟨h, Or.inr (Or.inr (Or.inr ⟨rfl, h3⟩))⟩] at hQ
    obtain ⟨j, j1, rfl, j3, j2⟩ := ix_of (v := v3) (n := 4) ⟨h3.1, by omega⟩
    rw [j3, i3] at hQ
    obtain ⟨s1, s2, s3⟩ := hS j j1
    simp (disch := omega) only [cl_RS hC, cl_S1 hC, li_n, nI_add, pk_mul, nI_clamp, nI_ltI, nI_leI, nI_eq, mi_n, Nat.add_zero, true_and, and_true, true_or, or_true, false_or, or_false, not_false_eq_true, not_true_eq_false, implies_true, forall_const, ne_eq, Classical.not_not, reduceCtorEq, nor_p, cI_1n, bI_1n, cI_F, cI_T, cI_0, cI_0n, bI_0, bI_0n, cI_01, bI_01, Nat.reduceLeDiff, Nat.reduceLT, Nat.reduceEqDiff, Nat.reduceSub, Nat.reduceAdd, Nat.lt_irrefl, Nat.le_refl, false_implies, true_implies]
    refine ⟨by omega, mu_cI (sp_X5_isMissing (cl_S1 hC j1)) hL ?_⟩
    simp (disch := omega) only [cl_T hC, cl_R8 hC, cl_T8 hC, cl_N8 hC, cl_RS hC, cl_R9 hC, cl_T9 hC, cl_N9 hC, cl_RO hC, cl_O1 hC, cl_O2 hC, cl_O3 hC, t1, s1, li_n, nI_add, pk_mul, nI_clamp, nI_ltI, nI_leI, nI_eq, mi_n, Nat.add_zero, true_and, and_true, true_or, or_true, false_or, or_false, not_false_eq_true, not_true_eq_false, implies_true, forall_const, ne_eq, Classical.not_not, reduceCtorEq, nor_p, cI_1n, bI_1n, cI_F, cI_T, cI_0, cI_0n, bI_0, bI_0n, cI_01, bI_01, Nat.reduceLeDiff, Nat.reduceLT, Nat.reduceEqDiff, Nat.reduceSub, Nat.reduceAdd, Nat.lt_irrefl, Nat.le_refl, false_implies, true_implies]
    refine ⟨fun h4 => ?_, fun h4 => ?_⟩
    · rw [cif_f (fun q => h4 q.2), cif_f (show ¬ (nI 2 = 1) by decide), cif_t (show nI 2 = 2 from rfl), cif_t (show nI 2 = 2 from rfl)] at hQ
      have f0 : mu_fr (fun z => z = x + 146 + 3 * i ∨ z = x + 147 + 3 * i ∨ z = x + 148 + 3 * i) g (mu_sI g (x + 146 + 3 * i) 1 (nI 2)) := mu_fr_sI (Or.inl rfl)
      have C0 := cl_fr hC f0
      refine ⟨i1, by omega, mu_cVp (sp_X5_takeFrom (c := x + 148 + 3 * i) (c1 := x + 139 + 2 * j) (cl_O3 C0 i1) (cl_O4 C0 i1) (by omega) (cl_O5 C0 i1) (cl_O6 C0 i1) (cl_S1 C0 j1) (cl_S2 C0 j1) (by omega) (cl_S3 C0 j1) (cl_S4 C0 j1) (by omega) (by omega) (by omega)) hL (fun g1 hz _ _ => ?_)⟩
      obtain ⟨f1, e1, e2⟩ := hz
      have f2 : mu_fr (fun z => z = x + 146 + 3 * i ∨ z = x + 147 + 3 * i ∨ z = x + 148 + 3 * i) g g1 := mu_fr_tr f0 (mu_fr_mono f1 (fun a q => by omega))
      refine hQ _ _ ⟨_, rfl, rfl, cl_fr hC f2, sdh_one hH f2 ⟨?_, ?_, ?_, ?_⟩ (fun j hj => pk_un hj) (fun j hj => pk_un hj) (fun j hj => pk_un hj) (fun j hj => cpy_o hj), mu_fr_mono f2 (fun a q => by omega)⟩ f2.2.2.2.1 f2.2.2.2.2.1
      · dsimp only; rw [f1.2.2.2.2.2 _ (by omega), I_sI_same, pk_us]
      · dsimp only; rw [pk_us]; exact fun q => absurd q (by decide)
      · dsimp only; rw [pk_us]; exact fun q => absurd q (by decide)
      · dsimp only; rw [pk_us, pk_us]
        intro _
        refine ⟨?_, fun k hk => ?_⟩
        · rw [e1, I_sI_a _ _ _ _ (by omega)]; exact s2
        · rw [e2 k hk, I_sI_a _ _ _ _ (by omega), s3 k hk]
          exact (cpy_i hk).symm
    · rw [cif_t (show nI 2 = 2 ∧ A4 j = -1 from ⟨rfl, h4⟩)] at hQ
      exact sl_0 hC hQ rfl hH
  · rw [cif_t ⟨h, Or.inr (Or.inl rfl)⟩, cif_f (fun q => absurd q.1 (by decide)), cif_f (by decide), cif_f (by decide), cif_f (by decide), i3] at hQ
    simp (disch := omega) only [cl_T hC, cl_R9 hC, cl_T9 hC, cl_N9 hC, cl_RO hC, cl_O1 hC, t1, li_n, nI_add, pk_mul, nI_clamp, nI_ltI, nI_leI, nI_eq, mi_n, Nat.add_zero, true_and, and_true, true_or, or_true, false_or, or_false, not_false_eq_true, not_true_eq_false, implies_true, forall_const, ne_eq, Classical.not_not, reduceCtorEq, nor_p, cI_1n, bI_1n, cI_F, cI_T, cI_0, cI_0n, bI_0, bI_0n, cI_01, bI_01, Nat.reduceLeDiff, Nat.reduceLT, Nat.reduceEqDiff, Nat.reduceSub, Nat.reduceAdd, Nat.lt_irrefl, Nat.le_refl, false_implies, true_implies]
    have f1 : mu_fr (fun z => z = x + 146 + 3 * i ∨ z = x + 147 + 3 * i ∨ z = x + 148 + 3 * i) g (mu_sI (mu_sI g (x + 146 + 3 * i) 1 (nI 3)) (x + 146 + 3 * i) 3 v3) := mu_fr_tr (mu_fr_sI (Or.inl rfl)) (mu_fr_sI (Or.inl rfl))
    refine ⟨i1, hQ _ _ ⟨_, rfl, rfl, cl_fr hC f1, sdh_one hH f1 ⟨?_, ?_, ?_, ?_⟩ (fun j hj => pk_un hj) (fun j hj => pk_un hj) (fun _ _ => rfl) (fun _ _ => rfl), mu_fr_mono f1 (fun a q => by omega)⟩ rfl rfl⟩
    · dsimp only; rw [I_sI_k _ _ _ (by omega), I_sI_same, pk_us]
    · dsimp only; rw [pk_us]; exact fun q => absurd q (by decide)
    · dsimp only; rw [I_sI_same, pk_us]; exact fun _ => pk_us.symm
    · dsimp only; rw [pk_us]; exact fun q => absurd q (by decide)
end Sh9
