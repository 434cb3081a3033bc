/-! CLIENTS: frames by places; the reference finds the order of moves -/
/-- only ints at the places A may differ -/
def mu_f2 (A : Nat → Nat → Prop) (g g' : mu_H) : Prop := mu_T g' = mu_T g ∧ mu_N g' = mu_N g ∧ mu_R g' = mu_R g ∧ mu_X g' = mu_X g ∧ mu_S g' = mu_S g ∧ ∀ a k, ¬ A a k → mu_I g' a k = mu_I g a k
section F2
variable {A : Nat → Nat → Prop} {g g1 g2 : mu_H}
theorem f2_rf : mu_f2 A g g := ⟨rfl, rfl, rfl, rfl, rfl, fun _ _ _ => rfl⟩
theorem f2_tr (h1 : mu_f2 A g g1) (h2 : mu_f2 A g1 g2) : mu_f2 A g g2 :=
  ⟨h2.1.trans h1.1, h2.2.1.trans h1.2.1, h2.2.2.1.trans h1.2.2.1, h2.2.2.2.1.trans h1.2.2.2.1, h2.2.2.2.2.1.trans h1.2.2.2.2.1, fun a k ha => (h2.2.2.2.2.2 a k ha).trans (h1.2.2.2.2.2 a k ha)⟩
theorem f2_mono {B : Nat → Nat → Prop} (h : mu_f2 A g g1) (hAB : ∀ a k, A a k → B a k) : mu_f2 B g g1 :=
  ⟨h.1, h.2.1, h.2.2.1, h.2.2.2.1, h.2.2.2.2.1, fun a k ha => h.2.2.2.2.2 a k (fun q => ha (hAB a k q))⟩
theorem f2_sI {a k : Nat} {v : Int32} (h : A a k) : mu_f2 A g (mu_sI g a k v) :=
  ⟨rfl, rfl, rfl, rfl, rfl, fun x z hx => if_neg (fun q => hx (by rw [q.1, q.2]; exact h))⟩
theorem f2_of {B : Nat → Prop} (h : mu_fr B g g1) (hB : ∀ a k, B a → A a k) : mu_f2 A g g1 :=
  ⟨h.1, h.2.1, h.2.2.1, h.2.2.2.1, h.2.2.2.2.1, fun a k ha => by rw [h.2.2.2.2.2 a (fun q => ha (hB a k q))]⟩
theorem f2_fr {B : Nat → Prop} (h : mu_f2 A g g1) (hB : ∀ a k, A a k → B a) : mu_fr B g g1 :=
  ⟨h.1, h.2.1, h.2.2.1, h.2.2.2.1, h.2.2.2.2.1, fun a ha => funext fun k => h.2.2.2.2.2 a k (fun q => ha (hB a k q))⟩
theorem f2_T (h : mu_f2 A g g1) : mu_fr (fun _ => True) g g1 := f2_fr h (fun _ _ _ => trivial)
theorem f2_I (h : mu_f2 A g g1) {a : Nat} (ha : ∀ k, ¬ A a k) : mu_I g1 a = mu_I g a := funext fun k => h.2.2.2.2.2 a k (ha k)
theorem f2_fit {L : Nat × Nat} (h : mu_f2 A g g1) (hL : mu_fit2 L g) : mu_fit2 L g1 := mu_fr_fit (f2_T h) hL
end F2
theorem I_sI_same (g : mu_H) (a k : Nat) (v : Int32) : mu_I (mu_sI g a k v) a k = v := if_pos ⟨rfl, rfl⟩
theorem I_sI_k (g : mu_H) (a : Nat) {k j : Nat} (v : Int32) (h : j ≠ k) : mu_I (mu_sI g a k v) a j = mu_I g a j := if_neg (fun q => h q.2)
theorem I_sI_a (g : mu_H) {a b : Nat} (k j : Nat) (v : Int32) (h : b ≠ a) : mu_I (mu_sI g a k v) b j = mu_I g b j := if_neg (fun q => h q.1)
/-- o names the first n moves by their beats -/
def isOrd (s : Nat → Int32) (n : Nat) (o : Nat → Nat) : Prop := (∀ i, i < n → o i < n) ∧ (∀ i j, i < n → j < n → o i = o j → i = j) ∧ (∀ m, m < n → ∃ i, i < n ∧ o i = m) ∧ ∀ i j, i < j → j < n → vM s (o i) 2 ≤ vM s (o j) 2
def ins (o : Nat → Nat) (a m i : Nat) : Nat := if i < a then o i else if i = a then m else o (i - 1)
theorem ins_l {o : Nat → Nat} {a m i : Nat} (h : i < a) : ins o a m i = o i := if_pos h
theorem ins_e {o : Nat → Nat} {a m : Nat} : ins o a m a = m := by unfold ins; rw [if_neg (Nat.lt_irrefl _), if_pos rfl]
theorem ins_g {o : Nat → Nat} {a m i : Nat} (h : a < i) : ins o a m i = o (i - 1) := by unfold ins; rw [if_neg (by omega), if_neg (by omega)]
theorem isOrd_ins {s : Nat → Int32} {m a : Nat} {o : Nat → Nat} (h : isOrd s m o) (ha : a ≤ m) (h1 : ∀ i, a ≤ i → i < m → vM s m 2 < vM s (o i) 2) (h2 : ∀ i, i < a → vM s (o i) 2 ≤ vM s m 2) : isOrd s (m + 1) (ins o a m) := by
  obtain ⟨k1, k2, k3, k4⟩ := h
  have c : ∀ i, i < m + 1 → (i < a ∧ ins o a m i = o i ∧ o i < m) ∨ (i = a ∧ ins o a m i = m) ∨ (a < i ∧ ins o a m i = o (i - 1) ∧ o (i - 1) < m) := fun i hi => by
    rcases Nat.lt_trichotomy i a with q | q | q
    · exact Or.inl ⟨q, ins_l q, k1 i (by omega)⟩
    · exact Or.inr (Or.inl ⟨q, by rw [q]; exact ins_e⟩)
    · exact Or.inr (Or.inr ⟨q, ins_g q, k1 _ (by omega)⟩)
  refine ⟨fun i hi => ?_, fun i j hi hj e => ?_, fun p hp => ?_, fun i j hij hj => ?_⟩
  · rcases c i hi with ⟨q1, q2, q3⟩ | ⟨q1, q2⟩ | ⟨q1, q2, q3⟩ <;> omega
  · rcases c i hi with ⟨q1, q2, q3⟩ | ⟨q1, q2⟩ | ⟨q1, q2, q3⟩ <;> rcases c j hj with ⟨r1, r2, r3⟩ | ⟨r1, r2⟩ | ⟨r1, r2, r3⟩
    · exact k2 i j (by omega) (by omega) (by omega)
    · omega
    · have := k2 i (j - 1) (by omega) (by omega) (by omega); omega
    · omega
    · omega
    · omega
    · have := k2 (i - 1) j (by omega) (by omega) (by omega); omega
    · omega
    · have := k2 (i - 1) (j - 1) (by omega) (by omega) (by omega); omega
  · by_cases e : p = m
    · exact ⟨a, by omega, by rw [ins_e, e]⟩
    · obtain ⟨i, i1, i2⟩ := k3 p (by omega)
      by_cases q : i < a
      · exact ⟨i, by omega, by rw [ins_l q]; exact i2⟩
      · exact ⟨i + 1, by omega, by rw [ins_g (by omega)]; exact i2⟩
  · rcases c i (by omega) with ⟨q1, q2, q3⟩ | ⟨q1, q2⟩ | ⟨q1, q2, q3⟩ <;> rcases c j hj with ⟨r1, r2, r3⟩ | ⟨r1, r2⟩ | ⟨r1, r2, r3⟩
    · rw [q2, r2]; exact k4 i j hij (by omega)
    · rw [q2, r2]; exact h2 i q1
    · rw [q2, r2]
      have := h2 i q1
      have := h1 (j - 1) (by omega) (by omega)
      omega
    · omega
    · omega
    · rw [q2, r2]; exact Nat.le_of_lt (h1 (j - 1) (by omega) (by omega))
    · omega
    · omega
    · rw [q2, r2]; exact k4 (i - 1) (j - 1) (by omega) (by omega)
section Ro
variable {w : mu_O} {d y : Nat} {g : mu_H} {s : Nat → Int32} {B : Nat}
theorem fr_s {A : Nat → Nat → Prop} {g' : mu_H} (h : mu_f2 A g g') (hA : ∀ k, ¬ A (y + 1) k) (hs : mu_I g (y + 1) = s) : mu_I g' (y + 1) = s := (f2_I h hA).trans hs
theorem sp_X11_findOrder (hM : md_L w y g) (hs : mu_I g (y + 1) = s) (hc : wf_c s) (hm : wf_m B s) (hB : B ≤ 95) :
    mu_mp w mm_X11_findOrder (d + 2) [.ref y] g (fun r g' => r = none ∧ (mu_f2 (fun a _ => a = y + 16) g g' ∧ ∃ o, isOrd s (nm s) o ∧ ∀ i, i < nm s → mu_I g' (y + 16) i = nI (o i))) := by
  refine mu_mkp mk_X11_findOrder rfl (fun L hL Q hQ => fm_X11_findOrder_0 ?_)
  have hb := wc_b hc
  have hw16 := md_wj hM 16
  refine lp (n := nm s) (P := fun m => ∀ g', mu_f2 (fun a _ => a = y + 16) g g' → (∃ o, isOrd s m o ∧ ∀ i, i < m → mu_I g' (y + 16) i = nI (o i)) → mu_go w mm_X11_findOrder (d + 2) L Q 2 [some (.ref y), some (.int (nI m)), none] [] g') (fun g' hf ho => fm_X11_findOrder_2 ?_) (fun m hi ih g' hf ho => fm_X11_findOrder_2 ?_) g f2_rf ⟨fun i => i, ⟨fun i h => absurd h (Nat.not_lt_zero _), fun i j h => absurd h (Nat.not_lt_zero _), fun i h => absurd h (Nat.not_lt_zero _), fun i j _ h => absurd h (Nat.not_lt_zero _)⟩, fun i h => absurd h (Nat.not_lt_zero _)⟩
  · have hM' := md_L_fr hM (f2_T hf)
    have hs' := fr_s (y := y) hf (fun k => by omega) hs
    simp (disch := omega) only [md_T0 hM', md_R0 hM', md_T1 hM', md_N1 hM', hs', wc_1 hc, li_n, nI_add, pk_mul, nI_clamp, nI_ltI, nI_leI, nI_eq, mi_n, Nat.add_zero, true_and, and_true, true_or, or_true, false_or, or_false, not_false_eq_true, not_true_eq_false, implies_true, forall_const, ne_eq, Classical.not_not, reduceCtorEq, nor_p, cI_1n, bI_1n, cI_F, cI_T, cI_0, cI_0n, bI_0, bI_0n, cI_01, bI_01, Nat.reduceLeDiff, Nat.reduceLT, Nat.reduceEqDiff, Nat.reduceSub, Nat.reduceAdd, Nat.lt_irrefl, Nat.le_refl, false_implies, true_implies]
    exact hQ _ _ ⟨rfl, hf, ho⟩ hf.2.2.2.1 hf.2.2.2.2.1
  · have hM' := md_L_fr hM (f2_T hf)
    have hs' := fr_s (y := y) hf (fun k => by omega) hs
    simp (disch := omega) only [Nat.not_le_of_lt hi, md_T0 hM', md_R0 hM', md_T1 hM', md_N1 hM', hs', wc_1 hc, li_n, nI_add, pk_mul, nI_clamp, nI_ltI, nI_leI, nI_eq, mi_n, Nat.add_zero, true_and, and_true, true_or, or_true, false_or, or_false, not_false_eq_true, not_true_eq_false, implies_true, forall_const, ne_eq, Classical.not_not, reduceCtorEq, nor_p, cI_1n, bI_1n, cI_F, cI_T, cI_0, cI_0n, bI_0, bI_0n, cI_01, bI_01, Nat.reduceLeDiff, Nat.reduceLT, Nat.reduceEqDiff, Nat.reduceSub, Nat.reduceAdd, Nat.lt_irrefl, Nat.le_refl, false_implies, true_implies]
    obtain ⟨o, ho, hoI⟩ := ho
    have fin : ∀ (a : Nat) (g2 : mu_H), a ≤ m → mu_f2 (fun a _ => a = y + 16) g g2 → (∀ i, i < a → mu_I g2 (y + 16) i = nI (o i)) → (∀ i, a ≤ i → i < m → mu_I g2 (y + 16) (i + 1) = nI (o i) ∧ vM s m 2 < vM s (o i) 2) → (∀ i, i < a → vM s (o i) 2 ≤ vM s m 2) → mu_go w mm_X11_findOrder (d + 2) L Q 2 [some (.ref y), some (.int (nI (m + 1))), none] [] (mu_sI g2 (y + 16) a (nI m)) := fun a g2 ha hf2 h1 h2 h3 => by
      refine ih _ (f2_tr hf2 (f2_sI rfl)) ⟨ins o a m, isOrd_ins ho ha (fun i q1 q2 => (h2 i q1 q2).2) h3, fun i hi2 => ?_⟩
      rcases Nat.lt_trichotomy i a with q | q | q
      · rw [ins_l q, I_sI_k _ _ _ (by omega)]; exact h1 i q
      · rw [q, ins_e, I_sI_same]
      · rw [ins_g q, I_sI_k _ _ _ (by omega)]
        have := (h2 (i - 1) (by omega) (by omega)).1
        rw [show i - 1 + 1 = i by omega] at this
        exact this
    have inn : ∀ (a : Nat) (g2 : mu_H), a ≤ m → mu_f2 (fun a _ => a = y + 16) g g2 → (∀ i, i < a → mu_I g2 (y + 16) i = nI (o i)) → (∀ i, a ≤ i → i < m → mu_I g2 (y + 16) (i + 1) = nI (o i) ∧ vM s m 2 < vM s (o i) 2) → mu_go w mm_X11_findOrder (d + 2) L Q 14 [some (.ref y), some (.int (nI m)), some (.int (nI a))] [] g2 := by
      intro a
      induction a with
      | zero =>
        intro g2 ha hf2 h1 h2
        have hM2 := md_L_fr hM (f2_T hf2)
        refine fm_X11_findOrder_14 ?_
        simp (disch := omega) only [md_T0 hM2, md_R16 hM2, md_T16 hM2, md_N16 hM2, hw16, li_n, nI_add, pk_mul, nI_clamp, nI_ltI, nI_leI, nI_eq, mi_n, Nat.add_zero, true_and, and_true, true_or, or_true, false_or, or_false, not_false_eq_true, not_true_eq_false, implies_true, forall_const, ne_eq, Classical.not_not, reduceCtorEq, nor_p, cI_1n, bI_1n, cI_F, cI_T, cI_0, cI_0n, bI_0, bI_0n, cI_01, bI_01, Nat.reduceLeDiff, Nat.reduceLT, Nat.reduceEqDiff, Nat.reduceSub, Nat.reduceAdd, Nat.lt_irrefl, Nat.le_refl, false_implies, true_implies]
        exact fin 0 g2 ha hf2 h1 h2 (fun i h => absurd h (Nat.not_lt_zero _))
      | succ a iha =>
        intro g2 ha hf2 h1 h2
        have hM2 := md_L_fr hM (f2_T hf2)
        have hs2 := fr_s (y := y) hf2 (fun k => by omega) hs
        have hL2 := f2_fit hf2 hL
        have hoa := ho.1 a (by omega)
        have e1 : nI (a + 1) - nI 1 = nI a := nI_pred a
        have e2 : nI (a + 1) + -nI 1 = nI a := pk_m1 a
        have hba := wm_b hm (show o a < nm s by omega)
        have hbm := wm_b hm hi
        refine fm_X11_findOrder_14 ?_
        simp (disch := omega) only [md_T0 hM2, md_R16 hM2, md_T16 hM2, md_N16 hM2, hw16, e1, e2, h1 a (by omega), li_n, nI_add, pk_mul, nI_clamp, nI_ltI, nI_leI, nI_eq, mi_n, Nat.add_zero, true_and, and_true, true_or, or_true, false_or, or_false, not_false_eq_true, not_true_eq_false, implies_true, forall_const, ne_eq, Classical.not_not, reduceCtorEq, nor_p, cI_1n, bI_1n, cI_F, cI_T, cI_0, cI_0n, bI_0, bI_0n, cI_01, bI_01, Nat.reduceLeDiff, Nat.reduceLT, Nat.reduceEqDiff, Nat.reduceSub, Nat.reduceAdd, Nat.lt_irrefl, Nat.le_refl, false_implies, true_implies]
        refine ⟨by omega, mu_cI (sp_X11_fieldN (f := 2) hM2 hs2 hc hm (by omega) (by omega)) hL2 ?_⟩
        simp (disch := omega) only [md_T0 hM2, li_n, nI_add, pk_mul, nI_clamp, nI_ltI, nI_leI, nI_eq, mi_n, Nat.add_zero, true_and, and_true, true_or, or_true, false_or, or_false, not_false_eq_true, not_true_eq_false, implies_true, forall_const, ne_eq, Classical.not_not, reduceCtorEq, nor_p, cI_1n, bI_1n, cI_F, cI_T, cI_0, cI_0n, bI_0, bI_0n, cI_01, bI_01, Nat.reduceLeDiff, Nat.reduceLT, Nat.reduceEqDiff, Nat.reduceSub, Nat.reduceAdd, Nat.lt_irrefl, Nat.le_refl, false_implies, true_implies]
        refine mu_cI (sp_X11_fieldN (f := 2) hM2 hs2 hc hm hi (by omega)) hL2 ?_
        simp (disch := omega) only [md_T0 hM2, md_R16 hM2, md_T16 hM2, md_N16 hM2, hw16, h1 a (by omega), li_n, nI_add, pk_mul, nI_clamp, nI_ltI, nI_leI, nI_eq, mi_n, Nat.add_zero, true_and, and_true, true_or, or_true, false_or, or_false, not_false_eq_true, not_true_eq_false, implies_true, forall_const, ne_eq, Classical.not_not, reduceCtorEq, nor_p, cI_1n, bI_1n, cI_F, cI_T, cI_0, cI_0n, bI_0, bI_0n, cI_01, bI_01, Nat.reduceLeDiff, Nat.reduceLT, Nat.reduceEqDiff, Nat.reduceSub, Nat.reduceAdd, Nat.lt_irrefl, Nat.le_refl, false_implies, true_implies]
        refine ⟨fun h => ⟨by omega, ?_⟩, fun h => ⟨by omega, by omega, ?_⟩⟩
        · refine fin (a + 1) g2 ha hf2 h1 h2 (fun i hi2 => ?_)
          by_cases e : i = a
          · rw [e]; exact h
          · have := ho.2.2.2 i a (by omega) (by omega); omega
        · refine iha _ (by omega) (f2_tr hf2 (f2_sI rfl)) (fun i hi2 => ?_) (fun i q1 q2 => ?_)
          · rw [I_sI_k _ _ _ (by omega)]; exact h1 i (by omega)
          · by_cases e : i = a
            · rw [e, I_sI_same]; exact ⟨rfl, by omega⟩
            · rw [I_sI_k _ _ _ (by omega)]; exact h2 i (by omega) q2
    exact inn m g' (Nat.le_refl _) hf hoI (fun i q1 q2 => by omega)
theorem sp_X11_between {f t i n : Nat} (hf : okP f) (ht : okP t) (hn : 1 ≤ n) (hn4 : n ≤ 4) (hi : i ≤ n) : mu_met w mm_X11_between d [.int (nI f), .int (nI t), .int (nI i), .int (nI n)] g (some (.int (nI (bw f t i n)))) g := by
  refine mu_mk mk_X11_between rfl rfl rfl (fun L hL Q hQ => fm_X11_between_0 ?_)
  obtain ⟨f1, f2⟩ := hf
  obtain ⟨t1, t2⟩ := ht
  have h1 := (bwc_all (f / 10) (by omega) (t / 10) (by omega) n (by omega) i (by omega) hn hi).1
  have h2 := (bwc_all (f % 10) (by omega) (t % 10) (by omega) n (by omega) i (by omega) hn hi).1
  have e : ¬ n = 0 := by omega
  simp (disch := omega) only [dv_n, rm_n, h1, h2, e, li_n, nI_add, pk_mul, nI_clamp, nI_ltI, nI_leI, nI_eq, mi_n, Nat.add_zero, true_and, and_true, true_or, or_true, false_or, or_false, not_false_eq_true, not_true_eq_false, implies_true, forall_const, ne_eq, Classical.not_not, reduceCtorEq, nor_p, cI_1n, bI_1n, cI_F, cI_T, cI_0, cI_0n, bI_0, bI_0n, cI_01, bI_01, Nat.reduceLeDiff, Nat.reduceLT, Nat.reduceEqDiff, Nat.reduceSub, Nat.reduceAdd, Nat.lt_irrefl, Nat.le_refl, false_implies, true_implies]
  exact hQ
end Ro
