/-! CLIENTS: the reference's questions -/
/-- where finding places and lates writes -/
def fW (y : Nat) : Nat → Nat → Prop := fun a k => a = y + 15 ∨ a = y + 16 ∨ (a = y ∧ k = 17) ∨ a = y + 17 ∨ a = y + 19 ∨ a = y + 20
theorem plC_c {y : Nat} {s : Nat → Int32} {g g' : mu_H} (h : plC y s g) (e : mu_I g' (y + 15) = mu_I g (y + 15)) : plC y s g' := fun p hp T hT => by rw [e]; exact h p hp T hT
theorem md_K_c {y : Nat} {g g' : mu_H} (h : md_K y g) (e : ∀ k, 11 ≤ k → k ≤ 14 → mu_I g' (y + k) = mu_I g (y + k)) : md_K y g' := fun k hk => by
  rw [e 11 (by omega) (by omega), e 12 (by omega) (by omega), e 13 (by omega) (by omega), e 14 (by omega) (by omega)]
  exact h k hk
theorem fs_step {c : Nat → Prop} {i : Nat} (h : ¬ c i) : (if fsN c (i + 1) < i + 1 then nI (fsN c (i + 1)) else (-1 : Int32)) = if fsN c i < i then nI (fsN c i) else -1 := by
  rcases fsN_ok (c := c) (n := i) with ⟨h1, h2, h3⟩ | ⟨h1, h2⟩
  · rw [fsN_at h2 h3 (show fsN c i < i + 1 by omega), if_pos (by omega), if_pos h1]
  · rw [fsN_no (c := c) (n := i + 1) (fun j hj => by
      by_cases e : j = i
      · rw [e]; exact h
      · exact h2 j (by omega)), if_neg (Nat.lt_irrefl _), h1, if_neg (Nat.lt_irrefl _)]
section Rq
variable {w : mu_O} {d y : Nat} {g : mu_H} {s : Nat → Int32} {l : Nat → Nat}
theorem sp_X11_firstBreach (hM : md_L w y g) (hs : mu_I g (y + 1) = s) (hc : wf_c s) (hK : md_K y g) (hp : wf_p s) (hm : wf_m 90 s) (ha : wf_a s) (hT : wf_texts s (ntx s)) (h17 : mu_I g y 17 = 0 ∨ (mu_I g y 17 = 1 ∧ plC y s g)) :
    mu_mp w mm_X11_firstBreach (d + 5) [.ref y] g (fun r g' => ∃ x, r = some (.int x) ∧ (x = (if fBr s (lateN s) < nm s then nI (fBr s (lateN s)) else -1) ∧ mu_f2 (fW y) g g' ∧ mu_I g' y 17 = 1 ∧ plC y s g' ∧ lt_C y s (lateN s) g')) := by
  refine mu_mkp mk_X11_firstBreach rfl (fun L hL Q hQ => fm_X11_firstBreach_0 ⟨md_T0 hM, mu_cVp (sp_X11_findPlaces hM hs hc hp hm ha h17) hL (fun g1 h1 hX1 hS1 => ?_)⟩)
  obtain ⟨f1, p1, c1⟩ := h1
  have hM1 := md_L_fr hM (f2_T f1)
  have hs1 : mu_I g1 (y + 1) = s := fr_s (y := y) f1 (fun k => by unfold plW; omega) hs
  refine ⟨md_T0 hM1, mu_cVp (sp_X11_findLates hM1 hs1 hc hT) (f2_fit f1 hL) (fun g2 h2 hX2 hS2 => ?_)⟩
  obtain ⟨f2, t2⟩ := h2
  have ff : mu_f2 (fW y) g g2 := f2_tr (f2_mono f1 (fun a k q => by unfold plW at q; unfold fW; omega)) (f2_of f2 (fun a k q => by unfold fW; omega))
  have hM2 := md_L_fr hM (f2_T ff)
  have hs2 : mu_I g2 (y + 1) = s := fr_s (y := y) ff (fun k => by unfold fW; omega) hs
  have hL2 := f2_fit ff hL
  have hb := wc_b hc
  have c2 : plC y s g2 := plC_c c1 (f2.2.2.2.2.2 _ (by omega))
  have p2 : mu_I g2 y 17 = 1 := by rw [f2.2.2.2.2.2 _ (by omega)]; exact p1
  have hK2 : md_K y g2 := md_K_c hK (fun k q1 q2 => f2_I ff (fun j => by unfold fW; omega))
  unfold fBr at hQ
  refine lp (n := nm s) (P := fun i => (∀ j, j < i → ¬ (mDo s j ∧ brkA s (lateN s) j)) → mu_go w mm_X11_firstBreach (d + 5) L Q 10 [some (.ref y), some (.int (nI i))] [] g2) (fun hj => fm_X11_firstBreach_10 ?_) (fun i hi ih hj => fm_X11_firstBreach_10 ?_) (fun j hj => absurd hj (Nat.not_lt_zero j))
  · simp (disch := omega) only [md_T0 hM2, md_R0 hM2, md_T1 hM2, md_N1 hM2, hs2, wc_1 hc, li_n, nI_add, pk_mul, nI_clamp, nI_ltI, nI_leI, nI_eq, mi_n, Nat.add_zero, true_and, and_true, true_or, or_true, false_or, or_false, not_false_eq_true, not_true_eq_false, implies_true, forall_const, ne_eq, Classical.not_not, reduceCtorEq, nor_p, cI_1n, bI_1n, cI_F, cI_T, cI_0, cI_0n, bI_0, bI_0n, cI_01, bI_01, Nat.reduceLeDiff, Nat.reduceLT, Nat.reduceEqDiff, Nat.reduceSub, Nat.reduceAdd, Nat.lt_irrefl, Nat.le_refl, false_implies, true_implies]
    refine hQ _ _ ⟨_, rfl, ?_, ff, p2, c2, t2⟩ ff.2.2.2.1 ff.2.2.2.2.1
    rw [fsN_no hj, if_neg (Nat.lt_irrefl _)]
    rfl
  · have ih2 : ¬ (mDo s i ∧ brkA s (lateN s) i) → mu_go w mm_X11_firstBreach (d + 5) L Q 10 [some (.ref y), some (.int (nI (i + 1)))] [] g2 := fun h => ih (fun j h2 => by
      by_cases e : j = i
      · rw [e]; exact h
      · exact hj j (by omega))
    simp (disch := omega) only [Nat.not_le_of_lt hi, md_T0 hM2, md_R0 hM2, md_T1 hM2, md_N1 hM2, hs2, wc_1 hc, li_n, nI_add, pk_mul, nI_clamp, nI_ltI, nI_leI, nI_eq, mi_n, Nat.add_zero, true_and, and_true, true_or, or_true, false_or, or_false, not_false_eq_true, not_true_eq_false, implies_true, forall_const, ne_eq, Classical.not_not, reduceCtorEq, nor_p, cI_1n, bI_1n, cI_F, cI_T, cI_0, cI_0n, bI_0, bI_0n, cI_01, bI_01, Nat.reduceLeDiff, Nat.reduceLT, Nat.reduceEqDiff, Nat.reduceSub, Nat.reduceAdd, Nat.lt_irrefl, Nat.le_refl, false_implies, true_implies]
    refine mu_cI (sp_X11_isDoneN hM2 hs2 hc hm hi) hL2 ?_
    simp (disch := omega) only [md_T0 hM2, li_n, nI_add, pk_mul, nI_clamp, nI_ltI, nI_leI, nI_eq, mi_n, Nat.add_zero, true_and, and_true, true_or, or_true, false_or, or_false, not_false_eq_true, not_true_eq_false, implies_true, forall_const, ne_eq, Classical.not_not, reduceCtorEq, nor_p, cI_1n, bI_1n, cI_F, cI_T, cI_0, cI_0n, bI_0, bI_0n, cI_01, bI_01, Nat.reduceLeDiff, Nat.reduceLT, Nat.reduceEqDiff, Nat.reduceSub, Nat.reduceAdd, Nat.lt_irrefl, Nat.le_refl, false_implies, true_implies]
    refine ⟨fun h => ih2 (fun q => h q.1), fun h => mu_cI (sp_X11_broken hM2 hs2 hc hK2 hp hm ha c2 t2 hi ⟨h.2.1, h.2.2⟩) hL2 ?_⟩
    by_cases hb2 : brkA s (lateN s) i
    · have hlt := fs_lt.mpr hb2
      rw [if_pos hlt]
      refine ⟨fun q => absurd q (nI_pos (by omega)), fun _ => ?_⟩
      refine hQ _ _ ⟨_, rfl, ?_, ff, p2, c2, t2⟩ ff.2.2.2.1 ff.2.2.2.2.1
      rw [fsN_at (c := fun m => mDo s m ∧ brkA s (lateN s) m) ⟨h, hb2⟩ hj hi, if_pos hi]
    · rw [if_neg (fun q => hb2 (fs_lt.mp q))]
      exact ⟨fun _ => ih2 (fun q => hb2 q.2), fun q => absurd (by decide) q⟩
theorem sp_X11_isUnready {m : Nat} (hM : md_L w y g) (hs : mu_I g (y + 1) = s) (hc : wf_c s) (hm : wf_m 90 s) (hg : wf_g s) (hi : m < nm s) : mu_met w mm_X11_isUnready (d + 2) [.ref y, .int (nI m)] g (some (.int (cI (mUn s m)))) g := by
  refine mu_mk mk_X11_isUnready rfl rfl rfl (fun L hL Q hQ => fm_X11_isUnready_0 ?_)
  have hb := wc_b hc
  have hmb := wm_b hm hi
  have e0 : nI 1 = cI (¬ ∃ i, i < 0 ∧ vG s i 0 = vM s m 5 ∧ vG s i 1 + 1 ≤ vM s m 2 ∧ vM s m 2 ≤ vG s i 1 + 3) := by rw [cI_t (fun ⟨i, q, _⟩ => absurd q (Nat.not_lt_zero i))]; rfl
  have st : ∀ {v : Int32}, v = nI 1 → mu_go w mm_X11_isUnready (d + 2) L Q 4 [some (.ref y), some (.int (nI m)), some (.int v), some (.int (nI 0)), none] [] g → mu_go w mm_X11_isUnready (d + 2) L Q 4 [some (.ref y), some (.int (nI m)), some (.int (nI 1)), some (.int (nI 0)), none] [] g := fun e h => by rw [e] at h; exact h
  refine st e0.symm (lp (n := nsg s) (P := fun k => mu_go w mm_X11_isUnready (d + 2) L Q 4 [some (.ref y), some (.int (nI m)), some (.int (cI (¬ ∃ i, i < k ∧ vG s i 0 = vM s m 5 ∧ vG s i 1 + 1 ≤ vM s m 2 ∧ vM s m 2 ≤ vG s i 1 + 3))), some (.int (nI k)), none] [] g) (fm_X11_isUnready_4 ?_) (fun i hi2 ih => fm_X11_isUnready_4 ?_))
  · simp (disch := omega) only [md_T0 hM, md_R0 hM, md_T1 hM, md_N1 hM, hs, wc_0 hc, wc_1 hc, wc_2 hc, wc_3 hc, wc_4 hc, wc_5 hc, wc_6 hc, wc_7 hc, wc_9 hc, li_n, nI_add, pk_mul, nI_clamp, nI_ltI, nI_leI, nI_eq, mi_n, Nat.add_zero, true_and, and_true, true_or, or_true, false_or, or_false, not_false_eq_true, not_true_eq_false, implies_true, forall_const, ne_eq, Classical.not_not, reduceCtorEq, nor_p, cI_1n, bI_1n, cI_F, cI_T, cI_0, cI_0n, bI_0, bI_0n, cI_01, bI_01, Nat.reduceLeDiff, Nat.reduceLT, Nat.reduceEqDiff, Nat.reduceSub, Nat.reduceAdd, Nat.lt_irrefl, Nat.le_refl, false_implies, true_implies]
    exact ⟨(cI_01 _).imp (fun h => by rw [cI_0, Classical.not_not] at h; exact h) (fun h => cI_1.mp h), hQ⟩
  · obtain ⟨g1, g2, g3⟩ := hg i hi2
    have i1 : (∃ j, j < i + 1 ∧ vG s j 0 = vM s m 5 ∧ vG s j 1 + 1 ≤ vM s m 2 ∧ vM s m 2 ≤ vG s j 1 + 3) → mu_go w mm_X11_isUnready (d + 2) L Q 4 [some (.ref y), some (.int (nI m)), some (.int (nI 0)), some (.int (nI (i + 1))), none] [] g := fun h => by
      have := ih
      rw [cI_f (fun q => q h)] at this
      exact this
    have i0 : ¬ (∃ j, j < i + 1 ∧ vG s j 0 = vM s m 5 ∧ vG s j 1 + 1 ≤ vM s m 2 ∧ vM s m 2 ≤ vG s j 1 + 3) → mu_go w mm_X11_isUnready (d + 2) L Q 4 [some (.ref y), some (.int (nI m)), some (.int (nI 1)), some (.int (nI (i + 1))), none] [] g := fun h => by
      have := ih
      rw [cI_t h] at this
      exact this
    have hn : ¬ (∃ j, j < i ∧ vG s j 0 = vM s m 5 ∧ vG s j 1 + 1 ≤ vM s m 2 ∧ vM s m 2 ≤ vG s j 1 + 3) → ¬ (vG s i 0 = vM s m 5 ∧ vG s i 1 + 1 ≤ vM s m 2 ∧ vM s m 2 ≤ vG s i 1 + 3) → ¬ (∃ j, j < i + 1 ∧ vG s j 0 = vM s m 5 ∧ vG s j 1 + 1 ≤ vM s m 2 ∧ vM s m 2 ≤ vG s j 1 + 3) := fun h1 h2 ⟨j, q1, q2⟩ => by
      by_cases e : j = i
      · rw [e] at q2; exact h2 q2
      · exact h1 ⟨j, by omega, q2⟩
    clear ih
    simp (disch := omega) only [Nat.not_le_of_lt hi2, md_T0 hM, md_R0 hM, md_T1 hM, md_N1 hM, hs, wc_0 hc, wc_1 hc, wc_2 hc, wc_3 hc, wc_4 hc, wc_5 hc, wc_6 hc, wc_7 hc, wc_9 hc, li_n, nI_add, pk_mul, nI_clamp, nI_ltI, nI_leI, nI_eq, mi_n, Nat.add_zero, true_and, and_true, true_or, or_true, false_or, or_false, not_false_eq_true, not_true_eq_false, implies_true, forall_const, ne_eq, Classical.not_not, reduceCtorEq, nor_p, cI_1n, bI_1n, cI_F, cI_T, cI_0, cI_0n, bI_0, bI_0n, cI_01, bI_01, Nat.reduceLeDiff, Nat.reduceLT, Nat.reduceEqDiff, Nat.reduceSub, Nat.reduceAdd, Nat.lt_irrefl, Nat.le_refl, false_implies, true_implies]
    refine mu_cI (sp_X11_fieldN (f := 2) hM hs hc hm hi (by omega)) hL ?_
    have s0 : s (220 + 2 * i) = nI (vG s i 0) := g1 0 (by omega)
    have s1 : s (220 + 2 * i + 1) = nI (vG s i 1) := g1 1 (by omega)
    simp (disch := omega) only [s0, s1, md_T0 hM, md_R0 hM, md_T1 hM, md_N1 hM, hs, wc_0 hc, wc_1 hc, wc_2 hc, wc_3 hc, wc_4 hc, wc_5 hc, wc_6 hc, wc_7 hc, wc_9 hc, li_n, nI_add, pk_mul, nI_clamp, nI_ltI, nI_leI, nI_eq, mi_n, Nat.add_zero, true_and, and_true, true_or, or_true, false_or, or_false, not_false_eq_true, not_true_eq_false, implies_true, forall_const, ne_eq, Classical.not_not, reduceCtorEq, nor_p, cI_1n, bI_1n, cI_F, cI_T, cI_0, cI_0n, bI_0, bI_0n, cI_01, bI_01, Nat.reduceLeDiff, Nat.reduceLT, Nat.reduceEqDiff, Nat.reduceSub, Nat.reduceAdd, Nat.lt_irrefl, Nat.le_refl, false_implies, true_implies]
    refine ⟨by omega, fun h => i1 (by obtain ⟨j, q1, q2⟩ := h; exact ⟨j, by omega, q2⟩), fun h => ⟨by omega, mu_cI (sp_X11_fieldN (f := 5) hM hs hc hm hi (by omega)) hL ?_⟩⟩
    simp (disch := omega) only [md_T0 hM, md_R0 hM, md_T1 hM, md_N1 hM, hs, wc_0 hc, wc_1 hc, wc_2 hc, wc_3 hc, wc_4 hc, wc_5 hc, wc_6 hc, wc_7 hc, wc_9 hc, li_n, nI_add, pk_mul, nI_clamp, nI_ltI, nI_leI, nI_eq, mi_n, Nat.add_zero, true_and, and_true, true_or, or_true, false_or, or_false, not_false_eq_true, not_true_eq_false, implies_true, forall_const, ne_eq, Classical.not_not, reduceCtorEq, nor_p, cI_1n, bI_1n, cI_F, cI_T, cI_0, cI_0n, bI_0, bI_0n, cI_01, bI_01, Nat.reduceLeDiff, Nat.reduceLT, Nat.reduceEqDiff, Nat.reduceSub, Nat.reduceAdd, Nat.lt_irrefl, Nat.le_refl, false_implies, true_implies]
    refine ⟨fun h2 => i0 (hn h (fun q => h2 q.1)), fun h2 => mu_cI sp_X11_isIn hL ?_⟩
    have e : ((1 : Int64).toInt ≤ ((nI (vM s m 2) - nI (vG s i 1)).toInt64).toInt ∧ ((nI (vM s m 2) - nI (vG s i 1)).toInt64).toInt ≤ (3 : Int64).toInt) ↔ (vG s i 1 + 1 ≤ vM s m 2 ∧ vM s m 2 ≤ vG s i 1 + 3) := by
      rw [Int32.toInt_toInt64, pk_sub_toInt (by omega) (by omega)]
      have : (1 : Int64).toInt = 1 := rfl
      have : (3 : Int64).toInt = 3 := rfl
      omega
    rw [bI_c e]
    simp (disch := omega) only [li_n, nI_add, pk_mul, nI_clamp, nI_ltI, nI_leI, nI_eq, mi_n, Nat.add_zero, true_and, and_true, true_or, or_true, false_or, or_false, not_false_eq_true, not_true_eq_false, implies_true, forall_const, ne_eq, Classical.not_not, reduceCtorEq, nor_p, cI_1n, bI_1n, cI_F, cI_T, cI_0, cI_0n, bI_0, bI_0n, cI_01, bI_01, Nat.reduceLeDiff, Nat.reduceLT, Nat.reduceEqDiff, Nat.reduceSub, Nat.reduceAdd, Nat.lt_irrefl, Nat.le_refl, false_implies, true_implies]
    exact ⟨fun h3 => i1 ⟨i, by omega, h2, h3⟩, fun h3 => i0 (hn h (fun q => h3 q.2))⟩
set_option maxHeartbeats 1000000 in
theorem sp_X11_isSeen {m : Nat} (hM : md_L w y g) (hs : mu_I g (y + 1) = s) (hc : wf_c s) (hp : wf_p s) (hm : wf_m 90 s) (hC : plC y s g) (hi : m < nm s) : mu_met w mm_X11_isSeen (d + 2) [.ref y, .int (nI m)] g (some (.int (cI (sSeen s m)))) g := by
  refine mu_mk mk_X11_isSeen rfl rfl rfl (fun L hL Q hQ => fm_X11_isSeen_0 ⟨md_T0 hM, mu_cI (sp_X11_fieldN (f := 0) hM hs hc hm hi (by omega)) hL ⟨md_T0 hM, mu_cI (sp_X11_fieldN (f := 2) hM hs hc hm hi (by omega)) hL ⟨md_T0 hM, ?_⟩⟩⟩)
  have hb := wc_b hc
  have hmb := wm_b hm hi
  have ebt : (nI (vM s m 2)).toInt = (vM s m 2 : Int) := nI_toInt (by omega)
  refine mu_cI (sp_X11_placeN hM hs hc hC hmb.1 (by omega)) hL ?_
  rw [ebt, show ((vM s m 2 : Int) + 1).toNat = vM s m 2 + 1 by omega]
  have hw1 := pl_ok hp hm hmb.1 (vM s m 2 + 1)
  have e0 : nI 1 = cI (¬ ∃ q, q < 0 ∧ q ≠ vM s m 5 ∧ PL s q (vM s m 2 + 1) / 10 = PL s (vM s m 0) (vM s m 2 + 1) / 10 ∧ PL s (vM s m 0) (vM s m 2 + 1) % 10 < PL s q (vM s m 2 + 1) % 10) := by rw [cI_t (fun ⟨i, q, _⟩ => absurd q (Nat.not_lt_zero i))]; rfl
  have st : ∀ {v : Int32}, v = nI 1 → mu_go w mm_X11_isSeen (d + 2) L Q 22 [some (.ref y), some (.int (nI m)), some (.int (nI (PL s (vM s m 0) (vM s m 2 + 1)))), some (.int v), some (.int (nI 0)), none, none] [] g → mu_go w mm_X11_isSeen (d + 2) L Q 22 [some (.ref y), some (.int (nI m)), some (.int (nI (PL s (vM s m 0) (vM s m 2 + 1)))), some (.int (nI 1)), some (.int (nI 0)), none, none] [] g := fun e h => by rw [e] at h; exact h
  refine st e0.symm (lp (n := np s) (P := fun k => mu_go w mm_X11_isSeen (d + 2) L Q 22 [some (.ref y), some (.int (nI m)), some (.int (nI (PL s (vM s m 0) (vM s m 2 + 1)))), some (.int (cI (¬ ∃ q, q < k ∧ q ≠ vM s m 5 ∧ PL s q (vM s m 2 + 1) / 10 = PL s (vM s m 0) (vM s m 2 + 1) / 10 ∧ PL s (vM s m 0) (vM s m 2 + 1) % 10 < PL s q (vM s m 2 + 1) % 10))), some (.int (nI k)), none, none] [] g) (fm_X11_isSeen_22 ?_) (fun i hi2 ih => fm_X11_isSeen_22 ?_))
  · simp (disch := omega) only [md_T0 hM, md_R0 hM, md_T1 hM, md_N1 hM, hs, wc_0 hc, wc_1 hc, wc_2 hc, wc_3 hc, wc_4 hc, wc_5 hc, wc_6 hc, wc_7 hc, wc_9 hc, li_n, nI_add, pk_mul, nI_clamp, nI_ltI, nI_leI, nI_eq, mi_n, Nat.add_zero, true_and, and_true, true_or, or_true, false_or, or_false, not_false_eq_true, not_true_eq_false, implies_true, forall_const, ne_eq, Classical.not_not, reduceCtorEq, nor_p, cI_1n, bI_1n, cI_F, cI_T, cI_0, cI_0n, bI_0, bI_0n, cI_01, bI_01, Nat.reduceLeDiff, Nat.reduceLT, Nat.reduceEqDiff, Nat.reduceSub, Nat.reduceAdd, Nat.lt_irrefl, Nat.le_refl, false_implies, true_implies]
    exact ⟨(cI_01 _).imp (fun h => by rw [cI_0, Classical.not_not] at h; exact h) (fun h => cI_1.mp h), hQ⟩
  · have hw2 := pl_ok hp hm hi2 (vM s m 2 + 1)
    unfold okP at hw1 hw2
    have i1 : (∃ q, q < i + 1 ∧ q ≠ vM s m 5 ∧ PL s q (vM s m 2 + 1) / 10 = PL s (vM s m 0) (vM s m 2 + 1) / 10 ∧ PL s (vM s m 0) (vM s m 2 + 1) % 10 < PL s q (vM s m 2 + 1) % 10) → mu_go w mm_X11_isSeen (d + 2) L Q 22 [some (.ref y), some (.int (nI m)), some (.int (nI (PL s (vM s m 0) (vM s m 2 + 1)))), some (.int (nI 0)), some (.int (nI (i + 1))), none, none] [] g := fun h => by
      have := ih
      rw [cI_f (fun q => q h)] at this
      exact this
    have i0 : ¬ (∃ q, q < i + 1 ∧ q ≠ vM s m 5 ∧ PL s q (vM s m 2 + 1) / 10 = PL s (vM s m 0) (vM s m 2 + 1) / 10 ∧ PL s (vM s m 0) (vM s m 2 + 1) % 10 < PL s q (vM s m 2 + 1) % 10) → mu_go w mm_X11_isSeen (d + 2) L Q 22 [some (.ref y), some (.int (nI m)), some (.int (nI (PL s (vM s m 0) (vM s m 2 + 1)))), some (.int (nI 1)), some (.int (nI (i + 1))), none, none] [] g := fun h => by
      have := ih
      rw [cI_t h] at this
      exact this
    generalize hEx : (∃ q, q < i ∧ q ≠ vM s m 5 ∧ PL s q (vM s m 2 + 1) / 10 = PL s (vM s m 0) (vM s m 2 + 1) / 10 ∧ PL s (vM s m 0) (vM s m 2 + 1) % 10 < PL s q (vM s m 2 + 1) % 10) = EX
    have hyes : EX → (∃ q, q < i + 1 ∧ q ≠ vM s m 5 ∧ PL s q (vM s m 2 + 1) / 10 = PL s (vM s m 0) (vM s m 2 + 1) / 10 ∧ PL s (vM s m 0) (vM s m 2 + 1) % 10 < PL s q (vM s m 2 + 1) % 10) := fun h => by
      rw [← hEx] at h
      obtain ⟨j, q1, q2⟩ := h
      exact ⟨j, by omega, q2⟩
    have hn : ¬ EX → ¬ (i ≠ vM s m 5 ∧ PL s i (vM s m 2 + 1) / 10 = PL s (vM s m 0) (vM s m 2 + 1) / 10 ∧ PL s (vM s m 0) (vM s m 2 + 1) % 10 < PL s i (vM s m 2 + 1) % 10) → ¬ (∃ q, q < i + 1 ∧ q ≠ vM s m 5 ∧ PL s q (vM s m 2 + 1) / 10 = PL s (vM s m 0) (vM s m 2 + 1) / 10 ∧ PL s (vM s m 0) (vM s m 2 + 1) % 10 < PL s q (vM s m 2 + 1) % 10) := fun h1 h2 ⟨j, q1, q2⟩ => by
      by_cases e : j = i
      · rw [e] at q2; exact h2 q2
      · rw [← hEx] at h1; exact h1 ⟨j, by omega, q2⟩
    clear ih
    simp (disch := omega) only [Nat.not_le_of_lt hi2, md_T0 hM, md_R0 hM, md_T1 hM, md_N1 hM, hs, wc_0 hc, wc_1 hc, wc_2 hc, wc_3 hc, wc_4 hc, wc_5 hc, wc_6 hc, wc_7 hc, wc_9 hc, li_n, nI_add, pk_mul, nI_clamp, nI_ltI, nI_leI, nI_eq, mi_n, Nat.add_zero, true_and, and_true, true_or, or_true, false_or, or_false, not_false_eq_true, not_true_eq_false, implies_true, forall_const, ne_eq, Classical.not_not, reduceCtorEq, nor_p, cI_1n, bI_1n, cI_F, cI_T, cI_0, cI_0n, bI_0, bI_0n, cI_01, bI_01, Nat.reduceLeDiff, Nat.reduceLT, Nat.reduceEqDiff, Nat.reduceSub, Nat.reduceAdd, Nat.lt_irrefl, Nat.le_refl, false_implies, true_implies]
    refine mu_cI (sp_X11_fieldN (f := 2) hM hs hc hm hi (by omega)) hL ⟨md_T0 hM, mu_cI (sp_X11_placeN hM hs hc hC hi2 (by omega)) hL ⟨md_T0 hM, mu_cI (sp_X11_fieldN (f := 0) hM hs hc hm hi (by omega)) hL ?_⟩⟩
    rw [ebt, show ((vM s m 2 : Int) + 1).toNat = vM s m 2 + 1 by omega]
    simp (disch := omega) only [md_T0 hM, md_R0 hM, md_T1 hM, md_N1 hM, hs, wc_0 hc, wc_1 hc, wc_2 hc, wc_3 hc, wc_4 hc, wc_5 hc, wc_6 hc, wc_7 hc, wc_9 hc, li_n, nI_add, pk_mul, nI_clamp, nI_ltI, nI_leI, nI_eq, mi_n, Nat.add_zero, true_and, and_true, true_or, or_true, false_or, or_false, not_false_eq_true, not_true_eq_false, implies_true, forall_const, ne_eq, Classical.not_not, reduceCtorEq, nor_p, cI_1n, bI_1n, cI_F, cI_T, cI_0, cI_0n, bI_0, bI_0n, cI_01, bI_01, Nat.reduceLeDiff, Nat.reduceLT, Nat.reduceEqDiff, Nat.reduceSub, Nat.reduceAdd, Nat.lt_irrefl, Nat.le_refl, false_implies, true_implies]
    refine ⟨fun h => ⟨fun h2 => i1 (hyes h2), fun h2 => i0 (hn h2 (fun q => by rw [h] at q; omega))⟩, fun h => mu_cI (sp_X11_fieldN (f := 5) hM hs hc hm hi (by omega)) hL ?_⟩
    simp (disch := omega) only [dv_n, rm_n, md_T0 hM, md_R0 hM, md_T1 hM, md_N1 hM, hs, wc_0 hc, wc_1 hc, wc_2 hc, wc_3 hc, wc_4 hc, wc_5 hc, wc_6 hc, wc_7 hc, wc_9 hc, li_n, nI_add, pk_mul, nI_clamp, nI_ltI, nI_leI, nI_eq, mi_n, Nat.add_zero, true_and, and_true, true_or, or_true, false_or, or_false, not_false_eq_true, not_true_eq_false, implies_true, forall_const, ne_eq, Classical.not_not, reduceCtorEq, nor_p, cI_1n, bI_1n, cI_F, cI_T, cI_0, cI_0n, bI_0, bI_0n, cI_01, bI_01, Nat.reduceLeDiff, Nat.reduceLT, Nat.reduceEqDiff, Nat.reduceSub, Nat.reduceAdd, Nat.lt_irrefl, Nat.le_refl, false_implies, true_implies]
    refine ⟨fun h2 => ⟨fun h3 => i1 (hyes h3), fun h3 => i0 (hn h3 (fun q => q.1 h2))⟩, fun h2 => ⟨fun h3 => ⟨fun h4 => i1 (hyes h4), fun h4 => i0 (hn h4 (fun q => h3 q.2.1))⟩, fun h3 => ⟨fun h4 => ⟨fun h5 => i1 (hyes h5), fun h5 => i0 (hn h5 (fun q => by have := q.2.2; omega))⟩, fun h4 => ⟨fun h5 => i1 (hyes h5), fun h5 => i1 ⟨i, by omega, h2, h3, by omega⟩⟩⟩⟩⟩
theorem sp_X11_choiceOf {m : Nat} (hM : md_L w y g) (hs : mu_I g (y + 1) = s) (hc : wf_c s) (hh : wf_ch s) (hm : m < 100) : mu_met w mm_X11_choiceOf d [.ref y, .int (nI m)] g (some (.int (if fsN (fun i => vC s i = m) (nch s) < nch s then nI (fsN (fun i => vC s i = m) (nch s)) else -1))) g := by
  refine mu_mk mk_X11_choiceOf rfl rfl rfl (fun L hL Q hQ => fm_X11_choiceOf_0 ?_)
  have hb := wc_b hc
  refine lp (n := nch s) (P := fun i => mu_go w mm_X11_choiceOf d L Q 4 [some (.ref y), some (.int (nI m)), some (.int (if fsN (fun i => vC s i = m) i < i then nI (fsN (fun i => vC s i = m) i) else -1)), some (.int (nI i))] [] g) (fm_X11_choiceOf_4 ?_) (fun i hi ih => fm_X11_choiceOf_4 ?_)
  · simp (disch := omega) only [md_T0 hM, md_R0 hM, md_T1 hM, md_N1 hM, hs, wc_0 hc, wc_1 hc, wc_2 hc, wc_3 hc, wc_4 hc, wc_5 hc, wc_6 hc, wc_7 hc, wc_9 hc, li_n, nI_add, pk_mul, nI_clamp, nI_ltI, nI_leI, nI_eq, mi_n, Nat.add_zero, true_and, and_true, true_or, or_true, false_or, or_false, not_false_eq_true, not_true_eq_false, implies_true, forall_const, ne_eq, Classical.not_not, reduceCtorEq, nor_p, cI_1n, bI_1n, cI_F, cI_T, cI_0, cI_0n, bI_0, bI_0n, cI_01, bI_01, Nat.reduceLeDiff, Nat.reduceLT, Nat.reduceEqDiff, Nat.reduceSub, Nat.reduceAdd, Nat.lt_irrefl, Nat.le_refl, false_implies, true_implies]
    exact hQ
  · obtain ⟨c1, c2, c3⟩ := hh i hi
    simp (disch := omega) only [Nat.not_le_of_lt hi, c1, md_T0 hM, md_R0 hM, md_T1 hM, md_N1 hM, hs, wc_0 hc, wc_1 hc, wc_2 hc, wc_3 hc, wc_4 hc, wc_5 hc, wc_6 hc, wc_7 hc, wc_9 hc, li_n, nI_add, pk_mul, nI_clamp, nI_ltI, nI_leI, nI_eq, mi_n, Nat.add_zero, true_and, and_true, true_or, or_true, false_or, or_false, not_false_eq_true, not_true_eq_false, implies_true, forall_const, ne_eq, Classical.not_not, reduceCtorEq, nor_p, cI_1n, bI_1n, cI_F, cI_T, cI_0, cI_0n, bI_0, bI_0n, cI_01, bI_01, Nat.reduceLeDiff, Nat.reduceLT, Nat.reduceEqDiff, Nat.reduceSub, Nat.reduceAdd, Nat.lt_irrefl, Nat.le_refl, false_implies, true_implies]
    refine ⟨by omega, fun h => ?_, fun h => ?_⟩
    · rw [fs_step (c := fun i => vC s i = m) h] at ih
      exact ih
    · rw [fsN_at (c := fun i => vC s i = m) h (fun j hj hc => by have := c3 j (by omega) (h.trans hc.symm); omega) (Nat.lt_succ_self i), if_pos (Nat.lt_succ_self i)] at ih
      exact ih
end Rq
