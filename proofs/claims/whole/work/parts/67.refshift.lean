/-! CLIENTS: shifts in the reference -/
def apP (s : Nat → Int32) (a b : Nat) : Prop := vM s a 0 = vM s b 0 ∧ vM s a 2 < vM s b 2 + vM s b 3 ∧ vM s b 2 < vM s a 2 + vM s a 3
theorem wf_a_ap {s : Nat → Int32} : wf_a s ↔ ¬ ∃ a b, b < a ∧ a < nm s ∧ apP s a b := by
  constructor
  · rintro h ⟨a, b, h1, h2, h3, h4, h5⟩
    have := h a b h2 (by omega) (by omega) h3
    omega
  · intro h a b ha hb hne he
    rcases Nat.lt_or_gt_of_ne hne with q | q
    · by_cases q1 : vM s a 2 + vM s a 3 ≤ vM s b 2
      · exact Or.inl q1
      · by_cases q2 : vM s b 2 + vM s b 3 ≤ vM s a 2
        · exact Or.inr q2
        · exact absurd ⟨b, a, q, hb, he.symm, by omega, by omega⟩ h
    · by_cases q1 : vM s a 2 + vM s a 3 ≤ vM s b 2
      · exact Or.inl q1
      · by_cases q2 : vM s b 2 + vM s b 3 ≤ vM s a 2
        · exact Or.inr q2
        · exact absurd ⟨a, b, q, ha, he, by omega, by omega⟩ h
section Ra
variable {w : mu_O} {d y : Nat} {g : mu_H} {s : Nat → Int32}
set_option maxHeartbeats 1000000 in
theorem sp_X11_isApart (hM : md_L w y g) (hs : mu_I g (y + 1) = s) (hc : wf_c s) (hm : wf_m 95 s) : mu_met w mm_X11_isApart (d + 2) [.ref y] g (some (.int (cI (wf_a s)))) g := by
  refine mu_mk mk_X11_isApart rfl rfl rfl (fun L hL Q hQ => fm_X11_isApart_0 ?_)
  have hb := wc_b hc
  rw [cI_c wf_a_ap] at hQ
  have st : ∀ {n : Int32} {p : Prop} {k : Nat} {tl : List (Option Value)} (hh : mu_go w mm_X11_isApart (d + 2) L Q k (some (.ref y) :: some (.int (cI p)) :: tl) [] g) (e : n = cI p), mu_go w mm_X11_isApart (d + 2) L Q k (some (.ref y) :: some (.int n) :: tl) [] g := fun hh e => by rw [e]; exact hh
  refine st (p := ¬ ∃ a b, b < a ∧ a < 0 ∧ apP s a b) (lp (n := nm s) (P := fun i => mu_go w mm_X11_isApart (d + 2) L Q 4 [some (.ref y), some (.int (cI (¬ ∃ a b, b < a ∧ a < i ∧ apP s a b))), some (.int (nI i)), none, none] [] g) (fm_X11_isApart_4 ?_) (fun i hi ih => fm_X11_isApart_4 ?_)) (by rw [cI_t (fun ⟨a, b, q1, q2, _⟩ => absurd q2 (Nat.not_lt_zero a))])
  · simp (disch := omega) only [md_T0 hM, md_R0 hM, md_T1 hM, md_N1 hM, hs, wc_0 hc, wc_1 hc, wc_2 hc, wc_3 hc, wc_4 hc, wc_5 hc, wc_6 hc, wc_7 hc, wc_9 hc, li_n, nI_add, pk_mul, nI_clamp, nI_ltI, nI_leI, nI_eq, mi_n, Nat.add_zero, true_and, and_true, true_or, or_true, false_or, or_false, not_false_eq_true, not_true_eq_false, implies_true, forall_const, ne_eq, Classical.not_not, reduceCtorEq, nor_p, cI_1n, bI_1n, cI_F, cI_T, cI_0, cI_0n, bI_0, bI_0n, cI_01, bI_01, Nat.reduceLeDiff, Nat.reduceLT, Nat.reduceEqDiff, Nat.reduceSub, Nat.reduceAdd, Nat.lt_irrefl, Nat.le_refl, false_implies, true_implies]
    exact ⟨(cI_01 _).imp (fun h => by rw [cI_0, Classical.not_not] at h; exact h) (fun h => cI_1.mp h), hQ⟩
  · simp (disch := omega) only [Nat.not_le_of_lt hi, md_T0 hM, md_R0 hM, md_T1 hM, md_N1 hM, hs, wc_0 hc, wc_1 hc, wc_2 hc, wc_3 hc, wc_4 hc, wc_5 hc, wc_6 hc, wc_7 hc, wc_9 hc, li_n, nI_add, pk_mul, nI_clamp, nI_ltI, nI_leI, nI_eq, mi_n, Nat.add_zero, true_and, and_true, true_or, or_true, false_or, or_false, not_false_eq_true, not_true_eq_false, implies_true, forall_const, ne_eq, Classical.not_not, reduceCtorEq, nor_p, cI_1n, bI_1n, cI_F, cI_T, cI_0, cI_0n, bI_0, bI_0n, cI_01, bI_01, Nat.reduceLeDiff, Nat.reduceLT, Nat.reduceEqDiff, Nat.reduceSub, Nat.reduceAdd, Nat.lt_irrefl, Nat.le_refl, false_implies, true_implies]
    have hmi := wm_b hm hi
    have inner : ∀ k c, c + k = i → mu_go w mm_X11_isApart (d + 2) L Q 16 [some (.ref y), some (.int (cI (¬ ((∃ a b, b < a ∧ a < i ∧ apP s a b) ∨ ∃ b, b < c ∧ apP s i b)))), some (.int (nI i)), some (.int (nI c)), none] [] g := by
      intro k
      induction k with
      | zero =>
        intro c hck
        refine fm_X11_isApart_16 ?_
        rw [show c = i by omega]
        simp (disch := omega) only [li_n, nI_add, pk_mul, nI_clamp, nI_ltI, nI_leI, nI_eq, mi_n, Nat.add_zero, true_and, and_true, true_or, or_true, false_or, or_false, not_false_eq_true, not_true_eq_false, implies_true, forall_const, ne_eq, Classical.not_not, reduceCtorEq, nor_p, cI_1n, bI_1n, cI_F, cI_T, cI_0, cI_0n, bI_0, bI_0n, cI_01, bI_01, Nat.reduceLeDiff, Nat.reduceLT, Nat.reduceEqDiff, Nat.reduceSub, Nat.reduceAdd, Nat.lt_irrefl, Nat.le_refl, false_implies, true_implies]
        have := ih
        rw [cI_c (show (¬ ∃ a b, b < a ∧ a < i + 1 ∧ apP s a b) ↔ ¬ ((∃ a b, b < a ∧ a < i ∧ apP s a b) ∨ ∃ b, b < i ∧ apP s i b) from not_congr ⟨fun ⟨a, b, q1, q2, q3⟩ => by
          by_cases e : a = i
          · rw [e] at q1 q3; exact Or.inr ⟨b, q1, q3⟩
          · exact Or.inl ⟨a, b, q1, by omega, q3⟩, fun q => by
          rcases q with ⟨a, b, q1, q2, q3⟩ | ⟨b, q1, q2⟩
          · exact ⟨a, b, q1, by omega, q3⟩
          · exact ⟨i, b, q1, by omega, q2⟩⟩)] at this
        exact this
      | succ k ih2 =>
        intro c hck
        have hlt : c < i := by omega
        have hmc := wm_b hm (show c < nm s by omega)
        have i1 : ((∃ a b, b < a ∧ a < i ∧ apP s a b) ∨ ∃ b, b < c + 1 ∧ apP s i b) → mu_go w mm_X11_isApart (d + 2) L Q 16 [some (.ref y), some (.int (nI 0)), some (.int (nI i)), some (.int (nI (c + 1))), none] [] g := fun h => by
          have := ih2 (c + 1) (by omega)
          rw [cI_f (fun q => q h)] at this
          exact this
        have i0 : ¬ ((∃ a b, b < a ∧ a < i ∧ apP s a b) ∨ ∃ b, b < c + 1 ∧ apP s i b) → mu_go w mm_X11_isApart (d + 2) L Q 16 [some (.ref y), some (.int (nI 1)), some (.int (nI i)), some (.int (nI (c + 1))), none] [] g := fun h => by
          have := ih2 (c + 1) (by omega)
          rw [cI_t h] at this
          exact this
        have up : ((∃ a b, b < a ∧ a < i ∧ apP s a b) ∨ ∃ b, b < c ∧ apP s i b) → ((∃ a b, b < a ∧ a < i ∧ apP s a b) ∨ ∃ b, b < c + 1 ∧ apP s i b) := fun h => h.imp id (fun ⟨b, q1, q2⟩ => ⟨b, by omega, q2⟩)
        have dn : ¬ ((∃ a b, b < a ∧ a < i ∧ apP s a b) ∨ ∃ b, b < c ∧ apP s i b) → ¬ apP s i c → ¬ ((∃ a b, b < a ∧ a < i ∧ apP s a b) ∨ ∃ b, b < c + 1 ∧ apP s i b) := fun h1 h2 q => by
          rcases q with q | ⟨b, q1, q2⟩
          · exact h1 (Or.inl q)
          · by_cases e : b = c
            · rw [e] at q2; exact h2 q2
            · exact h1 (Or.inr ⟨b, by omega, q2⟩)
        clear ih2
        generalize ((∃ a b, b < a ∧ a < i ∧ apP s a b) ∨ ∃ b, b < c ∧ apP s i b) = EX at *
        refine fm_X11_isApart_16 ?_
        simp (disch := omega) only [Nat.not_le_of_lt hlt, md_T0 hM, md_R0 hM, md_T1 hM, md_N1 hM, hs, wc_0 hc, wc_1 hc, wc_2 hc, wc_3 hc, wc_4 hc, wc_5 hc, wc_6 hc, wc_7 hc, wc_9 hc, li_n, nI_add, pk_mul, nI_clamp, nI_ltI, nI_leI, nI_eq, mi_n, Nat.add_zero, true_and, and_true, true_or, or_true, false_or, or_false, not_false_eq_true, not_true_eq_false, implies_true, forall_const, ne_eq, Classical.not_not, reduceCtorEq, nor_p, cI_1n, bI_1n, cI_F, cI_T, cI_0, cI_0n, bI_0, bI_0n, cI_01, bI_01, Nat.reduceLeDiff, Nat.reduceLT, Nat.reduceEqDiff, Nat.reduceSub, Nat.reduceAdd, Nat.lt_irrefl, Nat.le_refl, false_implies, true_implies]
        refine mu_cI (sp_X11_fieldN (f := 0) hM hs hc hm hi (by omega)) hL ⟨md_T0 hM, mu_cI (sp_X11_fieldN (f := 0) hM hs hc hm (by omega) (by omega)) hL ?_⟩
        simp (disch := omega) only [md_T0 hM, md_R0 hM, md_T1 hM, md_N1 hM, hs, wc_0 hc, wc_1 hc, wc_2 hc, wc_3 hc, wc_4 hc, wc_5 hc, wc_6 hc, wc_7 hc, wc_9 hc, li_n, nI_add, pk_mul, nI_clamp, nI_ltI, nI_leI, nI_eq, mi_n, Nat.add_zero, true_and, and_true, true_or, or_true, false_or, or_false, not_false_eq_true, not_true_eq_false, implies_true, forall_const, ne_eq, Classical.not_not, reduceCtorEq, nor_p, cI_1n, bI_1n, cI_F, cI_T, cI_0, cI_0n, bI_0, bI_0n, cI_01, bI_01, Nat.reduceLeDiff, Nat.reduceLT, Nat.reduceEqDiff, Nat.reduceSub, Nat.reduceAdd, Nat.lt_irrefl, Nat.le_refl, false_implies, true_implies]
        refine ⟨fun h => ⟨fun h2 => i1 (up h2), fun h2 => i0 (dn h2 (fun q => h q.1))⟩, fun h => ⟨fun h2 => i1 (up h2), fun h2 => mu_cI (sp_X11_fieldN (f := 2) hM hs hc hm hi (by omega)) hL ⟨md_T0 hM, mu_cI (sp_X11_fieldN (f := 3) hM hs hc hm hi (by omega)) hL ⟨md_T0 hM, mu_cI (sp_X11_fieldN (f := 2) hM hs hc hm (by omega) (by omega)) hL ⟨md_T0 hM, mu_cI (sp_X11_fieldN (f := 3) hM hs hc hm (by omega) (by omega)) hL (mu_cI sp_X11_meet hL ?_)⟩⟩⟩⟩⟩
        simp (disch := omega) only [li_n, nI_add, pk_mul, nI_clamp, nI_ltI, nI_leI, nI_eq, mi_n, Nat.add_zero, true_and, and_true, true_or, or_true, false_or, or_false, not_false_eq_true, not_true_eq_false, implies_true, forall_const, ne_eq, Classical.not_not, reduceCtorEq, nor_p, cI_1n, bI_1n, cI_F, cI_T, cI_0, cI_0n, bI_0, bI_0n, cI_01, bI_01, Nat.reduceLeDiff, Nat.reduceLT, Nat.reduceEqDiff, Nat.reduceSub, Nat.reduceAdd, Nat.lt_irrefl, Nat.le_refl, false_implies, true_implies]
        exact ⟨fun h3 => i1 (Or.inr ⟨c, by omega, h, h3⟩), fun h3 => i0 (dn h2 (fun q => h3 q.2))⟩
    have := inner i 0 (by omega)
    rw [cI_c (show (¬ ((∃ a b, b < a ∧ a < i ∧ apP s a b) ∨ ∃ b, b < 0 ∧ apP s i b)) ↔ ¬ ∃ a b, b < a ∧ a < i ∧ apP s a b from not_congr ⟨fun q => q.elim id (fun ⟨b, q1, _⟩ => absurd q1 (Nat.not_lt_zero b)), Or.inl⟩)] at this
    exact this
theorem sp_X11_shiftable (hM : md_L w y g) (hs : mu_I g (y + 1) = s) (hc : wf_c s) : mu_met w mm_X11_shiftable (d + 1) [.ref y] g (some (.int (nI (nK s)))) g := by
  refine mu_mk mk_X11_shiftable rfl rfl rfl (fun L hL Q hQ => fm_X11_shiftable_0 ?_)
  have hb := wc_b hc
  simp (disch := omega) only [md_T0 hM, md_R0 hM, md_T1 hM, md_N1 hM, hs, wc_0 hc, wc_1 hc, wc_2 hc, wc_3 hc, wc_4 hc, wc_5 hc, wc_6 hc, wc_7 hc, wc_9 hc, li_n, nI_add, pk_mul, nI_clamp, nI_ltI, nI_leI, nI_eq, mi_n, Nat.add_zero, true_and, and_true, true_or, or_true, false_or, or_false, not_false_eq_true, not_true_eq_false, implies_true, forall_const, ne_eq, Classical.not_not, reduceCtorEq, nor_p, cI_1n, bI_1n, cI_F, cI_T, cI_0, cI_0n, bI_0, bI_0n, cI_01, bI_01, Nat.reduceLeDiff, Nat.reduceLT, Nat.reduceEqDiff, Nat.reduceSub, Nat.reduceAdd, Nat.lt_irrefl, Nat.le_refl, false_implies, true_implies]
  refine mu_cI sp_X11_least hL ?_
  rw [min_n (by omega) (by omega)]
  exact hQ
end Ra
/-- the digits of a row of shifts -/
def dg (K row k : Nat) : Nat := row / 6 ^ (K - 1 - k) % 6
theorem dg_le (K row k : Nat) : dg K row k ≤ 5 := by
  unfold dg
  have := Nat.mod_lt (row / 6 ^ (K - 1 - k)) (show 6 > 0 by omega)
  omega
def t3f (K row : Nat) : Nat := if K = 3 then row / 36 else if K = 2 then row / 6 else if K = 1 then row else 0
def t3u (K row : Nat) : Nat := if K = 3 then row / 6 % 6 else if K = 2 then row % 6 else 0
def t3t (K row : Nat) : Nat := if K = 3 then row % 6 else 0
def rwO (K f u t : Nat) : Nat := if K = 3 then 36 * f + 6 * u + t else if K = 2 then 6 * f + u else if K = 1 then f else 0
def rws (K : Nat) : Nat := if K = 3 then 216 else if K = 2 then 36 else if K = 1 then 6 else 1
theorem t3_ok {K row : Nat} (hK : K ≤ 3) (h : row < rws K) : vd K (t3f K row) (t3u K row) (t3t K row) ∧ row / 36 + row / 6 % 6 + row % 6 = t3f K row + t3u K row + t3t K row ∧ rwO K (t3f K row) (t3u K row) (t3t K row) = row ∧ ∀ k, k < K → dg K row k = tri (t3f K row) (t3u K row) (t3t K row) k := by
  unfold rws at h
  unfold vd t3f t3u t3t rwO dg tri
  rcases (show K = 0 ∨ K = 1 ∨ K = 2 ∨ K = 3 by omega) with rfl | rfl | rfl | rfl
  · simp at h ⊢; omega
  · simp at h ⊢
    omega
  · simp at h ⊢
    refine ⟨by omega, by omega, by omega, fun k hk => ?_⟩
    rcases (show k = 0 ∨ k = 1 by omega) with rfl | rfl <;> simp <;> omega
  · simp at h ⊢
    refine ⟨by omega, by omega, fun k hk => ?_⟩
    rcases (show k = 0 ∨ k = 1 ∨ k = 2 by omega) with rfl | rfl | rfl <;> simp <;> omega
theorem rw_ok {K f u t : Nat} (hK : K ≤ 3) (h : vd K f u t) : rwO K f u t < rws K ∧ t3f K (rwO K f u t) = f ∧ t3u K (rwO K f u t) = u ∧ t3t K (rwO K f u t) = t := by
  unfold vd at h
  unfold rws rwO t3f t3u t3t
  rcases (show K = 0 ∨ K = 1 ∨ K = 2 ∨ K = 3 by omega) with rfl | rfl | rfl | rfl <;> simp at h ⊢ <;> omega
theorem rw_le {K f u t f' u' t' : Nat} (hK : K ≤ 3) (h : vd K f u t) (h' : vd K f' u' t') (hs : f + u + t = f' + u' + t') (hr : rwO K f u t ≤ rwO K f' u' t') : f < f' ∨ (f = f' ∧ u ≤ u') := by
  unfold vd at h h'
  unfold rwO at hr
  rcases (show K = 0 ∨ K = 1 ∨ K = 2 ∨ K = 3 by omega) with rfl | rfl | rfl | rfl <;> simp at h h' hr <;> omega
