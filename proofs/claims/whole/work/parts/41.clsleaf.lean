/-! CLIENTS: the class's leaves -/
/-- a place: x up to 11, y up to 7 -/
def isPl (v : Int32) : Prop := ∃ k : Nat, v = nI k ∧ k / 10 ≤ 11 ∧ k % 10 ≤ 7
def isTm (v : Int32) : Prop := ∃ k : Nat, v = nI k ∧ k / 10 ≤ 90 ∧ 1 ≤ k % 10 ∧ k % 10 ≤ 4
def isOf (k o : Nat) : Prop := o = 0 ∨ k = o ∨ (o = 2 ∧ 2 ≤ k ∧ k ≤ 4)
section Cl
variable {w : mu_O} {d a b c : Nat} {g : mu_H} {s : Nat → Int32} {E : Nat}
theorem sp_X10_asInt {v : Int32} : mu_met w mm_X10_asInt d [.int v] g (some (.int (cI (¬ v = 0)))) g := by
  refine mu_mk mk_X10_asInt rfl rfl rfl (fun L hL Q hQ => fm_X10_asInt_0 ?_)
  have h0 := cq hQ
  clear hQ
  grind
theorem sp_X10_held {v lo hi : Int32} : mu_met w mm_X10_held (d + 1) [.int v, .int lo, .int hi] g (some (.int (mu_max lo (mu_min hi v)))) g :=
  mu_mk mk_X10_held rfl rfl rfl (fun L hL Q hQ => fm_X10_held_0 hQ)
theorem sp_X10_isKind {v : Int32} : mu_met w mm_X10_isKind (d + 1) [.int v] g (some (.int (cI (0 ≤ v.toInt ∧ v.toInt ≤ 5)))) g := by
  refine mu_mk mk_X10_isKind rfl rfl rfl (fun L hL Q hQ => fm_X10_isKind_0 (mu_cI sp_X10_isWithin hL ⟨bI_01 _, ?_⟩))
  rw [bI_cI]
  exact hQ
theorem sp_X10_isSheet {v : Int32} : mu_met w mm_X10_isSheet (d + 1) [.int v] g (some (.int (cI (0 ≤ v.toInt ∧ v.toInt ≤ 3)))) g := by
  refine mu_mk mk_X10_isSheet rfl rfl rfl (fun L hL Q hQ => fm_X10_isSheet_0 (mu_cI sp_X10_isWithin hL ⟨bI_01 _, ?_⟩))
  rw [bI_cI]
  exact hQ
theorem sp_X10_isSlot {v : Int32} : mu_met w mm_X10_isSlot (d + 1) [.int v] g (some (.int (cI (0 ≤ v.toInt ∧ v.toInt ≤ 4)))) g := by
  refine mu_mk mk_X10_isSlot rfl rfl rfl (fun L hL Q hQ => fm_X10_isSlot_0 (mu_cI sp_X10_isWithin hL ⟨bI_01 _, ?_⟩))
  rw [bI_cI]
  exact hQ
theorem isPl_n {k : Nat} (hk : k < 2 ^ 31) : isPl (nI k) ↔ k / 10 ≤ 11 ∧ k % 10 ≤ 7 := by
  refine ⟨fun ⟨j, e, h1, h2⟩ => ?_, fun h => ⟨k, rfl, h⟩⟩
  rw [nI_eq hk (by omega)] at e
  rw [e]
  exact ⟨h1, h2⟩
theorem isTm_n {k : Nat} (hk : k < 2 ^ 31) : isTm (nI k) ↔ k / 10 ≤ 90 ∧ 1 ≤ k % 10 ∧ k % 10 ≤ 4 := by
  refine ⟨fun ⟨j, e, h1, h2⟩ => ?_, fun h => ⟨k, rfl, h⟩⟩
  rw [nI_eq hk (by omega)] at e
  rw [e]
  exact ⟨h1, h2⟩
theorem isPl_neg {v : Int32} (h : v.toInt < 0) : ¬ isPl v := fun ⟨j, e, h1, h2⟩ => by rw [e, nI_toInt (by omega)] at h; omega
theorem isTm_neg {v : Int32} (h : v.toInt < 0) : ¬ isTm v := fun ⟨j, e, h1, h2⟩ => by rw [e, nI_toInt (by omega)] at h; omega
theorem neg_lt {v : Int32} : v < 0 ↔ v.toInt < 0 := li_lt
theorem sp_X10_isPlace {v : Int32} : mu_met w mm_X10_isPlace d [.int v] g (some (.int (cI (isPl v)))) g := by
  refine mu_mk mk_X10_isPlace rfl rfl rfl (fun L hL Q hQ => fm_X10_isPlace_0 ?_)
  have h0 := cq' hQ
  clear hQ
  rcases ix_n v with h | ⟨k, hk, rfl⟩
  · exact ⟨fun _ => ⟨Or.inl rfl, h0.2 (isPl_neg h)⟩, fun h2 => absurd (neg_lt.mpr h) h2⟩
  · rw [isPl_n hk] at h0
    simp (disch := omega) only [dv_n, rm_n, li_n, nI_add, pk_mul, nI_clamp, nI_ltI, nI_leI, nI_eq, mi_n, Nat.add_zero, true_and, and_true, true_or, or_true, false_or, or_false, not_false_eq_true, not_true_eq_false, implies_true, forall_const, ne_eq, Classical.not_not, reduceCtorEq, nor_p, cI_1n, bI_1n, cI_F, cI_T, cI_0, cI_0n, bI_0, bI_0n, cI_01, bI_01, Nat.reduceLeDiff, Nat.reduceLT, Nat.reduceEqDiff, Nat.reduceSub, Nat.reduceAdd, Nat.lt_irrefl, Nat.le_refl, false_implies, true_implies]
    grind
theorem sp_X10_isTime {v : Int32} : mu_met w mm_X10_isTime (d + 1) [.int v] g (some (.int (cI (isTm v)))) g := by
  refine mu_mk mk_X10_isTime rfl rfl rfl (fun L hL Q hQ => fm_X10_isTime_0 ?_)
  have h0 := cq' hQ
  clear hQ
  rcases ix_n v with h | ⟨k, hk, rfl⟩
  · exact ⟨fun _ => ⟨Or.inl rfl, h0.2 (isTm_neg h)⟩, fun h2 => absurd (neg_lt.mpr h) h2⟩
  · rw [isTm_n hk] at h0
    simp (disch := omega) only [dv_n, rm_n, li_n, nI_add, pk_mul, nI_clamp, nI_ltI, nI_leI, nI_eq, mi_n, Nat.add_zero, true_and, and_true, true_or, or_true, false_or, or_false, not_false_eq_true, not_true_eq_false, implies_true, forall_const, ne_eq, Classical.not_not, reduceCtorEq, nor_p, cI_1n, bI_1n, cI_F, cI_T, cI_0, cI_0n, bI_0, bI_0n, cI_01, bI_01, Nat.reduceLeDiff, Nat.reduceLT, Nat.reduceEqDiff, Nat.reduceSub, Nat.reduceAdd, Nat.lt_irrefl, Nat.le_refl, false_implies, true_implies]
    refine ⟨fun h => by omega, fun _ => ⟨fun h => ?_, fun h => mu_cI sp_X10_isWithin hL ?_⟩⟩
    · exact h0.2 (by omega)
    · simp (disch := omega) only [nI_toInt, li_n, nI_add, pk_mul, nI_clamp, nI_ltI, nI_leI, nI_eq, mi_n, Nat.add_zero, true_and, and_true, true_or, or_true, false_or, or_false, not_false_eq_true, not_true_eq_false, implies_true, forall_const, ne_eq, Classical.not_not, reduceCtorEq, nor_p, cI_1n, bI_1n, cI_F, cI_T, cI_0, cI_0n, bI_0, bI_0n, cI_01, bI_01, Nat.reduceLeDiff, Nat.reduceLT, Nat.reduceEqDiff, Nat.reduceSub, Nat.reduceAdd, Nat.lt_irrefl, Nat.le_refl, false_implies, true_implies]
      exact ⟨fun h2 => h0.2 (by omega), fun h2 => h0.1 (by omega)⟩
theorem sp_X10_isOfKind {k o : Nat} (hs : st_L w g) (hk : k ≤ 5) (ho : o ≤ 5) : mu_met w mm_X10_isOfKind d [.int (nI k), .int (nI o)] g (some (.int (cI (isOf k o)))) g := by
  refine mu_mk mk_X10_isOfKind rfl rfl rfl (fun L hL Q hQ => fm_X10_isOfKind_0 ?_)
  have h0 := cq' hQ
  clear hQ
  simp (disch := omega) only [st_T hs, st_N hs, st_0 hs, st_1 hs, st_2 hs, st_3 hs, st_4 hs, st_5 hs, li_n, nI_add, pk_mul, nI_clamp, nI_ltI, nI_leI, nI_eq, mi_n, Nat.add_zero, true_and, and_true, true_or, or_true, false_or, or_false, not_false_eq_true, not_true_eq_false, implies_true, forall_const, ne_eq, Classical.not_not, reduceCtorEq, nor_p, cI_1n, bI_1n, cI_F, cI_T, cI_0, cI_0n, bI_0, bI_0n, cI_01, bI_01, Nat.reduceLeDiff, Nat.reduceLT, Nat.reduceEqDiff, Nat.reduceSub, Nat.reduceAdd, Nat.lt_irrefl, Nat.le_refl, false_implies, true_implies]
  refine ⟨fun h => h0.1 (Or.inr (Or.inl h)), fun h => ⟨fun h2 => h0.1 (Or.inl h2), fun h2 => ⟨by omega, ?_⟩⟩⟩
  have e : kAbove k = nI o ↔ isOf k o := by
    unfold isOf
    have : k = 0 ∨ k = 1 ∨ k = 2 ∨ k = 3 ∨ k = 4 ∨ k = 5 := by omega
    have : o = 1 ∨ o = 2 ∨ o = 3 ∨ o = 4 ∨ o = 5 := by omega
    rcases ‹k = 0 ∨ _› with rfl | rfl | rfl | rfl | rfl | rfl <;> rcases ‹o = 1 ∨ _› with rfl | rfl | rfl | rfl | rfl <;> first | (exact absurd rfl h) | decide
  rw [e]
  exact ⟨h0.2, h0.1⟩
theorem sp_X1_isBlow {k : Nat} (hs : st_L w g) (hT : mu_T g a = 2) (hk : mu_I g a 1 = nI k) (h5 : k ≤ 5) : mu_met w mm_X1_isBlow (d + 1) [.ref a] g (some (.int (cI (2 ≤ k ∧ k ≤ 4)))) g := by
  refine mu_mk mk_X1_isBlow rfl rfl rfl (fun L hL Q hQ => fm_X1_isBlow_0 ⟨hT, ?_⟩)
  rw [hk]
  refine mu_cI (sp_X10_isOfKind (o := 2) hs h5 (by omega)) hL ⟨cI_01 _, ?_⟩
  rw [cI_c (show isOf k 2 ↔ 2 ≤ k ∧ k ≤ 4 by unfold isOf; omega)]
  exact hQ
theorem sp_X1_isBlowToDo {k c : Nat} (hs : st_L w g) (hT : mu_T g a = 2) (hk : mu_I g a 1 = nI k) (h5 : k ≤ 5) (hc : mu_I g a 7 = nI c) (h1 : c ≤ 1) : mu_met w mm_X1_isBlowToDo (d + 2) [.ref a] g (some (.int (cI (c = 0 ∧ 2 ≤ k ∧ k ≤ 4)))) g := by
  refine mu_mk mk_X1_isBlowToDo rfl rfl rfl (fun L hL Q hQ => fm_X1_isBlowToDo_0 ?_)
  have h0 := cq' hQ
  clear hQ
  simp (disch := omega) only [hT, hc, li_n, nI_add, pk_mul, nI_clamp, nI_ltI, nI_leI, nI_eq, mi_n, Nat.add_zero, true_and, and_true, true_or, or_true, false_or, or_false, not_false_eq_true, not_true_eq_false, implies_true, forall_const, ne_eq, Classical.not_not, reduceCtorEq, nor_p, cI_1n, bI_1n, cI_F, cI_T, cI_0, cI_0n, bI_0, bI_0n, cI_01, bI_01, Nat.reduceLeDiff, Nat.reduceLT, Nat.reduceEqDiff, Nat.reduceSub, Nat.reduceAdd, Nat.lt_irrefl, Nat.le_refl, false_implies, true_implies]
  refine ⟨fun h => h0.2 (by omega), fun h => mu_cI (sp_X1_isBlow hs hT hk h5) hL ?_⟩
  simp (disch := omega) only [li_n, nI_add, pk_mul, nI_clamp, nI_ltI, nI_leI, nI_eq, mi_n, Nat.add_zero, true_and, and_true, true_or, or_true, false_or, or_false, not_false_eq_true, not_true_eq_false, implies_true, forall_const, ne_eq, Classical.not_not, reduceCtorEq, nor_p, cI_1n, bI_1n, cI_F, cI_T, cI_0, cI_0n, bI_0, bI_0n, cI_01, bI_01, Nat.reduceLeDiff, Nat.reduceLT, Nat.reduceEqDiff, Nat.reduceSub, Nat.reduceAdd, Nat.lt_irrefl, Nat.le_refl, false_implies, true_implies]
  exact ⟨fun h2 => h0.2 (by omega), fun h2 => h0.1 (by omega)⟩
theorem sp_X1_goesOn {k c : Nat} (hs : st_L w g) (hT : mu_T g a = 2) (hk : mu_I g a 1 = nI k) (h5 : k ≤ 5) (hc : mu_I g a 7 = nI c) (h1 : c ≤ 1) : mu_met w mm_X1_goesOn d [.ref a] g (some (.int (cI (c = 0 ∧ kGoes k = 1)))) g := by
  refine mu_mk mk_X1_goesOn rfl rfl rfl (fun L hL Q hQ => fm_X1_goesOn_0 ?_)
  have h0 := cq' hQ
  clear hQ
  have : kGoes k ≤ 1 := by unfold kGoes; split <;> omega
  simp (disch := omega) only [hT, hc, hk, st_T hs, st_N hs, st_0 hs, st_1 hs, st_2 hs, st_3 hs, st_4 hs, st_5 hs, li_n, nI_add, pk_mul, nI_clamp, nI_ltI, nI_leI, nI_eq, mi_n, Nat.add_zero, true_and, and_true, true_or, or_true, false_or, or_false, not_false_eq_true, not_true_eq_false, implies_true, forall_const, ne_eq, Classical.not_not, reduceCtorEq, nor_p, cI_1n, bI_1n, cI_F, cI_T, cI_0, cI_0n, bI_0, bI_0n, cI_01, bI_01, Nat.reduceLeDiff, Nat.reduceLT, Nat.reduceEqDiff, Nat.reduceSub, Nat.reduceAdd, Nat.lt_irrefl, Nat.le_refl, false_implies, true_implies]
  exact ⟨fun h => h0.2 (by omega), fun h => ⟨by omega, fun h2 => h0.2 (by omega), fun h2 => h0.1 (by omega)⟩⟩
theorem sp_X1_becomeCut {v : Int32} (hT : mu_T g a = 2) (hv : v = 0 ∨ v = 1) : mu_met w mm_X1_becomeCut d [.ref a, .int v] g (some (.int (cI (¬ mu_I g a 7 = v)))) (mu_sI g a 7 v) := by
  refine mu_mk mk_X1_becomeCut rfl rfl rfl (fun L hL Q hQ => fm_X1_becomeCut_0 ?_)
  have h0 := cq hQ
  clear hQ
  exact ⟨hT, fun h => ⟨hT, hv, Or.inl rfl, h0.2 (fun h2 => h2 h)⟩, fun h => ⟨hT, hv, Or.inr rfl, h0.1 h⟩⟩
theorem sp_X1_sharesBeat {p q e l e' l' : Nat} (hT : mu_T g a = 2) (hT' : mu_T g c = 2) (h1 : mu_I g a 0 = nI p) (h2 : mu_I g a 2 = nI e) (h3 : mu_I g a 3 = nI l) (h4 : mu_I g c 0 = nI q) (h5 : mu_I g c 2 = nI e') (h6 : mu_I g c 3 = nI l') (hb : p < 100 ∧ q < 100 ∧ e < 100 ∧ l < 100 ∧ e' < 100 ∧ l' < 100) :
    mu_met w mm_X1_sharesBeat d [.ref a, .ref c] g (some (.int (cI (p = q ∧ e < e' + l' ∧ e' < e + l)))) g := by
  refine mu_mk mk_X1_sharesBeat rfl rfl rfl (fun L hL Q hQ => fm_X1_sharesBeat_0 ?_)
  have h0 := cq' hQ
  clear hQ
  simp (disch := omega) only [hT, hT', h1, h2, h3, h4, h5, h6, li_n, nI_add, pk_mul, nI_clamp, nI_ltI, nI_leI, nI_eq, mi_n, Nat.add_zero, true_and, and_true, true_or, or_true, false_or, or_false, not_false_eq_true, not_true_eq_false, implies_true, forall_const, ne_eq, Classical.not_not, reduceCtorEq, nor_p, cI_1n, bI_1n, cI_F, cI_T, cI_0, cI_0n, bI_0, bI_0n, cI_01, bI_01, Nat.reduceLeDiff, Nat.reduceLT, Nat.reduceEqDiff, Nat.reduceSub, Nat.reduceAdd, Nat.lt_irrefl, Nat.le_refl, false_implies, true_implies]
  exact ⟨fun h => h0.2 (by omega), fun h => ⟨fun h => h0.2 (by omega), fun h => ⟨fun h => h0.2 (by omega), fun h => h0.1 (by omega)⟩⟩⟩
theorem sp_X1_spanTo {o m n : Nat} (hT : mu_T g a = 2) (h5 : mu_I g a 5 = nI m) (h6 : mu_I g a 6 = nI n) (hb : o < 100 ∧ m < 100 ∧ n < 100) : mu_met w mm_X1_spanTo d [.ref a, .int (nI o)] g (some (.int (nI (if o = m then n / 2 else n)))) g := by
  refine mu_mk mk_X1_spanTo rfl rfl rfl (fun L hL Q hQ => fm_X1_spanTo_0 ?_)
  simp (disch := omega) only [hT, h5, h6, dv_n, li_n, nI_add, pk_mul, nI_clamp, nI_ltI, nI_leI, nI_eq, mi_n, Nat.add_zero, true_and, and_true, true_or, or_true, false_or, or_false, not_false_eq_true, not_true_eq_false, implies_true, forall_const, ne_eq, Classical.not_not, reduceCtorEq, nor_p, cI_1n, bI_1n, cI_F, cI_T, cI_0, cI_0n, bI_0, bI_0n, cI_01, bI_01, Nat.reduceLeDiff, Nat.reduceLT, Nat.reduceEqDiff, Nat.reduceSub, Nat.reduceAdd, Nat.lt_irrefl, Nat.le_refl, false_implies, true_implies]
  exact ⟨fun h => by rw [if_neg h] at hQ; exact hQ, fun h => by rw [if_pos h] at hQ; exact hQ⟩
theorem sp_X1_part {f : Nat} (hT : mu_T g a = 2) (hf : f < 8) (hc : mu_I g a 7 = 0 ∨ mu_I g a 7 = 1) : mu_met w mm_X1_part (d + 1) [.ref a, .int (nI f)] g (some (.int (mu_I g a f))) g := by
  refine mu_mk mk_X1_part rfl rfl rfl (fun L hL Q hQ => fm_X1_part_0 ?_)
  have h7 : ∀ (K : Int32 → mu_H → Prop), K (mu_I g a 7) g → mu_callI w mm_X10_asInt d L [.int (mu_I g a 7)] g K := fun K hK => mu_cI sp_X10_asInt hL (by
    rcases hc with h | h
    · rw [h] at hK ⊢; rw [cI_f (by decide)]; exact hK
    · rw [h] at hK ⊢; rw [cI_t (by decide)]; exact hK)
  simp (disch := omega) only [nI_toInt, hT, li_n, nI_add, pk_mul, nI_clamp, nI_ltI, nI_leI, nI_eq, mi_n, Nat.add_zero, true_and, and_true, true_or, or_true, false_or, or_false, not_false_eq_true, not_true_eq_false, implies_true, forall_const, ne_eq, Classical.not_not, reduceCtorEq, nor_p, cI_1n, bI_1n, cI_F, cI_T, cI_0, cI_0n, bI_0, bI_0n, cI_01, bI_01, Nat.reduceLeDiff, Nat.reduceLT, Nat.reduceEqDiff, Nat.reduceSub, Nat.reduceAdd, Nat.lt_irrefl, Nat.le_refl, false_implies, true_implies]
  rcases (show f = 0 ∨ f = 1 ∨ f = 2 ∨ f = 3 ∨ f = 4 ∨ f = 5 ∨ f = 6 ∨ f = 7 by omega) with rfl | rfl | rfl | rfl | rfl | rfl | rfl | rfl
  all_goals first | (refine ⟨fun h => by omega, fun h => ?_, fun h => ?_, fun h => ?_, fun h => ?_, fun h => ?_, fun h => ?_, fun h => ?_⟩ <;> first | omega | exact hQ) | skip
  refine ⟨fun h => h7 _ hQ, fun h => ?_, fun h => ?_, fun h => ?_, fun h => ?_, fun h => ?_, fun h => ?_, fun h => ?_⟩ <;> omega
end Cl
