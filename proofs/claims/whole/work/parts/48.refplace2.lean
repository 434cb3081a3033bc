/-! CLIENTS: the reference finds the places -/
/-- the places are found -/
def plC (y : Nat) (s : Nat → Int32) (g : mu_H) : Prop := ∀ p, p < np s → ∀ T, T < 121 → mu_I g (y + 15) (121 * p + T) = nI (PL s p (T - 9))
/-- where findPlaces writes -/
def plW (y : Nat) : Nat → Nat → Prop := fun a k => a = y + 15 ∨ a = y + 16 ∨ (a = y ∧ k = 17)
theorem pl_stayT {s : Nat → Int32} {p t : Nat} (h : 10 ≤ t → ∀ m, m < nm s → ¬ goAt s p (t - 10) m) : PL s p (t - 9) = PL s p (t - 10) := by
  by_cases e : 10 ≤ t
  · rw [show t - 9 = t - 10 + 1 by omega]; exact pl_stay (h e)
  · rw [show t - 9 = t - 10 by omega]
section Rp
variable {w : mu_O} {d y : Nat} {g : mu_H} {s : Nat → Int32} {B : Nat}
/-- so far all is laid out: of those ahead of p, and of p up to t -/
def plI (y : Nat) (s : Nat → Int32) (o : Nat → Nat) (g : mu_H) (p t : Nat) (g' : mu_H) : Prop := mu_f2 (plW y) g g' ∧ mu_I g' y 17 = 1 ∧ (∀ i, i < nm s → mu_I g' (y + 16) i = nI (o i)) ∧ (∀ q, q < p → ∀ T, T < 121 → mu_I g' (y + 15) (121 * q + T) = nI (PL s q (T - 9))) ∧ ∀ T, T < t → mu_I g' (y + 15) (121 * p + T) = nI (PL s p (T - 9))
theorem plI_w {o : Nat → Nat} {p t : Nat} {g' : mu_H} {v : Int32} (h : plI y s o g p t g') (ht : t < 121) (hv : v = nI (PL s p (t - 9))) : plI y s o g p (t + 1) (mu_sI g' (y + 15) (121 * p + t) v) := by
  obtain ⟨h1, h2, h3, h4, h5⟩ := h
  refine ⟨f2_tr h1 (f2_sI (Or.inl rfl)), ?_, fun i hi => ?_, fun q hq T hT => ?_, fun T hT => ?_⟩
  · rw [I_sI_a _ _ _ _ (by omega)]; exact h2
  · rw [I_sI_a _ _ _ _ (by omega)]; exact h3 i hi
  · rw [I_sI_k _ _ _ (by omega)]; exact h4 q hq T hT
  · by_cases e : T = t
    · rw [e, I_sI_same]; exact hv
    · rw [I_sI_k _ _ _ (by omega)]; exact h5 T (by omega)
set_option maxHeartbeats 1000000 in
theorem sp_X11_findPlaces (hM : md_L w y g) (hs : mu_I g (y + 1) = s) (hc : wf_c s) (hp : wf_p s) (hm : wf_m 90 s) (ha : wf_a s) (h17 : mu_I g y 17 = 0 ∨ (mu_I g y 17 = 1 ∧ plC y s g)) :
    mu_mp w mm_X11_findPlaces (d + 3) [.ref y] g (fun r g' => r = none ∧ (mu_f2 (plW y) g g' ∧ mu_I g' y 17 = 1 ∧ plC y s g')) := by
  refine mu_mkp mk_X11_findPlaces rfl (fun L hL Q hQ => fm_X11_findPlaces_0 ?_)
  have hb := wc_b hc
  have hw15 := md_wj hM 15
  refine ⟨md_T0 hM, fun h0 => ⟨md_T0 hM, Or.inr rfl, md_T0 hM, ?_⟩, fun h0 => ?_⟩
  rotate_left
  · rcases h17 with h | ⟨h, h2⟩
    · exact absurd h h0
    · exact hQ _ _ ⟨rfl, f2_rf, h, h2⟩ rfl rfl
  have f0 : mu_f2 (plW y) g (mu_sI g y 17 1) := f2_sI (Or.inr (Or.inr ⟨rfl, rfl⟩))
  have hs0 : mu_I (mu_sI g y 17 1) (y + 1) = s := (mu_I_off g 17 1 (by omega)).trans hs
  refine mu_cVp (sp_X11_findOrder (d := d) (md_L_fr hM (f2_T f0)) hs0 hc hm (by omega)) (f2_fit f0 hL) (fun g1 ho hX1 hS1 => ?_)
  obtain ⟨hf1, o, ho, hoI⟩ := ho
  have f1 : mu_f2 (plW y) g g1 := f2_tr f0 (f2_mono hf1 (fun a k h => Or.inr (Or.inl h)))
  have h171 : mu_I g1 y 17 = 1 := by rw [hf1.2.2.2.2.2 y 17 (by omega), I_sI_same]
  have gS : ∀ {g'}, mu_f2 (plW y) g g' → mu_I g' (y + 1) = s := fun h => fr_s (y := y) h (fun k => by unfold plW; omega) hs
  -- the end of one's row
  have tail : ∀ {p : Nat}, p < np s → (∀ g', plI y s o g (p + 1) 0 g' → mu_go w mm_X11_findPlaces (d + 3) L Q 19 [some (.ref y), some (.int (nI (p + 1))), none, none, none, none, none, none, none] [] g') → ∀ k t g', t + k = 121 → plI y s o g p t g' → (∀ m, m < nm s → vM s m 0 = p → mGo s m → vM s m 2 + vM s m 3 + 10 ≤ t) → mu_go w mm_X11_findPlaces (d + 3) L Q 235 [some (.ref y), some (.int (nI p)), some (.int (nI (PL s p (t - 10)))), some (.int (nI t)), none, none, none, none, none] [] g' := by
    intro p hpi hn k
    induction k with
    | zero =>
      intro t g' htk hI hN
      refine fm_X11_findPlaces_235 ?_
      rw [show t = 121 by omega] at hI ⊢
      simp (disch := omega) only [li_n, nI_add, pk_mul, nI_clamp, nI_ltI, nI_leI, nI_eq, mi_n, Nat.add_zero, true_and, and_true, true_or, or_true, false_or, or_false, not_false_eq_true, not_true_eq_false, implies_true, forall_const, ne_eq, Classical.not_not, reduceCtorEq, nor_p, cI_1n, bI_1n, cI_F, cI_T, cI_0, cI_0n, bI_0, bI_0n, cI_01, bI_01, Nat.reduceLeDiff, Nat.reduceLT, Nat.reduceEqDiff, Nat.reduceSub, Nat.reduceAdd, Nat.lt_irrefl, Nat.le_refl, false_implies, true_implies]
      refine hn _ ⟨hI.1, hI.2.1, hI.2.2.1, fun q hq T hT => ?_, fun T hT => absurd hT (Nat.not_lt_zero _)⟩
      by_cases e : q = p
      · rw [e]; exact hI.2.2.2.2 T hT
      · exact hI.2.2.2.1 q (by omega) T hT
    | succ k ih =>
      intro t g' htk hI hN
      have hM' := md_L_fr hM (f2_T hI.1)
      have hlt : t < 121 := by omega
      have e : PL s p (t - 9) = PL s p (t - 10) := pl_stayT (fun h10 m hm2 hg => by
        have := hN m hm2 hg.1 hg.2.1
        have := hg.2.2
        omega)
      refine fm_X11_findPlaces_235 ?_
      simp (disch := omega) only [Nat.not_le_of_lt hlt, md_T0 hM', md_R15 hM', md_T15 hM', md_N15 hM', hw15, li_n, nI_add, pk_mul, nI_clamp, nI_ltI, nI_leI, nI_eq, mi_n, Nat.add_zero, true_and, and_true, true_or, or_true, false_or, or_false, not_false_eq_true, not_true_eq_false, implies_true, forall_const, ne_eq, Classical.not_not, reduceCtorEq, nor_p, cI_1n, bI_1n, cI_F, cI_T, cI_0, cI_0n, bI_0, bI_0n, cI_01, bI_01, Nat.reduceLeDiff, Nat.reduceLT, Nat.reduceEqDiff, Nat.reduceSub, Nat.reduceAdd, Nat.lt_irrefl, Nat.le_refl, false_implies, true_implies]
      refine ⟨by omega, ?_⟩
      have := ih (t + 1) _ (by omega) (plI_w hI hlt (v := nI (PL s p (t - 10))) (by rw [e])) (fun m q1 q2 q3 => by have := hN m q1 q2 q3; omega)
      rw [show t + 1 - 10 = t - 9 by omega, e] at this
      exact this
  have outer : ∀ k p g', p + k = np s → plI y s o g p 0 g' → mu_go w mm_X11_findPlaces (d + 3) L Q 19 [some (.ref y), some (.int (nI p)), none, none, none, none, none, none, none] [] g' := by
    intro k
    induction k with
    | zero =>
      intro p g' hpk hI
      have hM' := md_L_fr hM (f2_T hI.1)
      refine fm_X11_findPlaces_19 ?_
      rw [show p = np s by omega] at hI ⊢
      simp (disch := omega) only [md_T0 hM', md_R0 hM', md_T1 hM', md_N1 hM', gS hI.1, wc_0 hc, li_n, nI_add, pk_mul, nI_clamp, nI_ltI, nI_leI, nI_eq, mi_n, Nat.add_zero, true_and, and_true, true_or, or_true, false_or, or_false, not_false_eq_true, not_true_eq_false, implies_true, forall_const, ne_eq, Classical.not_not, reduceCtorEq, nor_p, cI_1n, bI_1n, cI_F, cI_T, cI_0, cI_0n, bI_0, bI_0n, cI_01, bI_01, Nat.reduceLeDiff, Nat.reduceLT, Nat.reduceEqDiff, Nat.reduceSub, Nat.reduceAdd, Nat.lt_irrefl, Nat.le_refl, false_implies, true_implies]
      exact hQ _ _ ⟨rfl, hI.1, hI.2.1, hI.2.2.2.1⟩ hI.1.2.2.2.1 hI.1.2.2.2.2.1
    | succ k ihp =>
      intro p g' hpk hI
      have hpi : p < np s := by omega
      have hM' := md_L_fr hM (f2_T hI.1)
      have hL' := f2_fit hI.1 hL
      have hPL := fun t => pl_ok hp hm hpi t
      refine fm_X11_findPlaces_19 ?_
      simp (disch := omega) only [Nat.not_le_of_lt hpi, md_T0 hM', md_R0 hM', md_T1 hM', md_N1 hM', gS hI.1, wc_0 hc, li_n, nI_add, pk_mul, nI_clamp, nI_ltI, nI_leI, nI_eq, mi_n, Nat.add_zero, true_and, and_true, true_or, or_true, false_or, or_false, not_false_eq_true, not_true_eq_false, implies_true, forall_const, ne_eq, Classical.not_not, reduceCtorEq, nor_p, cI_1n, bI_1n, cI_F, cI_T, cI_0, cI_0n, bI_0, bI_0n, cI_01, bI_01, Nat.reduceLeDiff, Nat.reduceLT, Nat.reduceEqDiff, Nat.reduceSub, Nat.reduceAdd, Nat.lt_irrefl, Nat.le_refl, false_implies, true_implies]
      refine mu_cI sp_X11_personAt hL' ?_
      simp (disch := omega) only [md_T0 hM', md_R0 hM', md_T1 hM', md_N1 hM', gS hI.1, wp_v0 hp hpi, li_n, nI_add, pk_mul, nI_clamp, nI_ltI, nI_leI, nI_eq, mi_n, Nat.add_zero, true_and, and_true, true_or, or_true, false_or, or_false, not_false_eq_true, not_true_eq_false, implies_true, forall_const, ne_eq, Classical.not_not, reduceCtorEq, nor_p, cI_1n, bI_1n, cI_F, cI_T, cI_0, cI_0n, bI_0, bI_0n, cI_01, bI_01, Nat.reduceLeDiff, Nat.reduceLT, Nat.reduceEqDiff, Nat.reduceSub, Nat.reduceAdd, Nat.lt_irrefl, Nat.le_refl, false_implies, true_implies]
      refine ⟨by omega, ?_⟩
      have tl := tail hpi (ihp (p + 1) · (by omega))
      clear ihp tail
      -- over the moves
      have mid : ∀ j k t g', k + j = nm s → t ≤ 121 → plI y s o g p t g' → (∀ i, i < nm s → vM s (o i) 0 = p → mGo s (o i) → (i < k → vM s (o i) 2 + vM s (o i) 3 + 10 ≤ t) ∧ (k ≤ i → t ≤ vM s (o i) 2 + 10)) → mu_go w mm_X11_findPlaces (d + 3) L Q 45 [some (.ref y), some (.int (nI p)), some (.int (nI (PL s p (t - 10)))), some (.int (nI t)), some (.int (nI k)), none, none, none, none] [] g' := by
        intro j
        induction j with
        | zero =>
          intro k t g' hkj ht hI hN
          have hM' := md_L_fr hM (f2_T hI.1)
          refine fm_X11_findPlaces_45 ?_
          rw [show k = nm s by omega] at hN ⊢
          simp (disch := omega) only [md_T0 hM', md_R0 hM', md_T1 hM', md_N1 hM', gS hI.1, wc_1 hc, li_n, nI_add, pk_mul, nI_clamp, nI_ltI, nI_leI, nI_eq, mi_n, Nat.add_zero, true_and, and_true, true_or, or_true, false_or, or_false, not_false_eq_true, not_true_eq_false, implies_true, forall_const, ne_eq, Classical.not_not, reduceCtorEq, nor_p, cI_1n, bI_1n, cI_F, cI_T, cI_0, cI_0n, bI_0, bI_0n, cI_01, bI_01, Nat.reduceLeDiff, Nat.reduceLT, Nat.reduceEqDiff, Nat.reduceSub, Nat.reduceAdd, Nat.lt_irrefl, Nat.le_refl, false_implies, true_implies]
          refine tl (121 - t) t g' (by omega) hI (fun m q1 q2 q3 => ?_)
          obtain ⟨i, r1, r2⟩ := ho.2.2.1 m q1
          have := hN i r1 (by rw [r2]; exact q2) (by rw [r2]; exact q3)
          rw [r2] at this
          exact this.1 r1
        | succ j ihj =>
          intro k t g' hkj ht hI hN
          have hlt : k < nm s := by omega
          have hM' := md_L_fr hM (f2_T hI.1)
          have hL' := f2_fit hI.1 hL
          have hoI := hI.2.2.1 k hlt
          have hok := ho.1 k hlt
          have hmb := wm_b hm hok
          -- it isn't p's, or doesn't go
          have k0 : ¬ (vM s (o k) 0 = p ∧ mGo s (o k)) → mu_go w mm_X11_findPlaces (d + 3) L Q 115 [some (.ref y), some (.int (nI p)), some (.int (nI (PL s p (t - 10)))), some (.int (nI t)), some (.int (nI k)), some (.int (nI (o k))), none, some (.int (nI 0)), none] [] g' := fun hno => by
            refine fm_X11_findPlaces_115 ?_
            simp (disch := omega) only [li_n, nI_add, pk_mul, nI_clamp, nI_ltI, nI_leI, nI_eq, mi_n, Nat.add_zero, true_and, and_true, true_or, or_true, false_or, or_false, not_false_eq_true, not_true_eq_false, implies_true, forall_const, ne_eq, Classical.not_not, reduceCtorEq, nor_p, cI_1n, bI_1n, cI_F, cI_T, cI_0, cI_0n, bI_0, bI_0n, cI_01, bI_01, Nat.reduceLeDiff, Nat.reduceLT, Nat.reduceEqDiff, Nat.reduceSub, Nat.reduceAdd, Nat.lt_irrefl, Nat.le_refl, false_implies, true_implies]
            refine fm_X11_findPlaces_155 ?_
            simp (disch := omega) only [li_n, nI_add, pk_mul, nI_clamp, nI_ltI, nI_leI, nI_eq, mi_n, Nat.add_zero, true_and, and_true, true_or, or_true, false_or, or_false, not_false_eq_true, not_true_eq_false, implies_true, forall_const, ne_eq, Classical.not_not, reduceCtorEq, nor_p, cI_1n, bI_1n, cI_F, cI_T, cI_0, cI_0n, bI_0, bI_0n, cI_01, bI_01, Nat.reduceLeDiff, Nat.reduceLT, Nat.reduceEqDiff, Nat.reduceSub, Nat.reduceAdd, Nat.lt_irrefl, Nat.le_refl, false_implies, true_implies]
            refine ihj (k + 1) t g' (by omega) ht hI (fun i q1 q2 q3 => ?_)
            have := hN i q1 q2 q3
            by_cases e : i = k
            · rw [e] at q2 q3; exact absurd ⟨q2, q3⟩ hno
            · exact ⟨fun h => this.1 (by omega), fun h => this.2 (by omega)⟩
          -- p goes by it
          have k1 : vM s (o k) 0 = p → mGo s (o k) → mu_go w mm_X11_findPlaces (d + 3) L Q 115 [some (.ref y), some (.int (nI p)), some (.int (nI (PL s p (t - 10)))), some (.int (nI t)), some (.int (nI k)), some (.int (nI (o k))), none, some (.int (nI 1)), none] [] g' := fun hwho hgo => by
            have htb := (hN k hlt hwho hgo).2 (Nat.le_refl _)
            have hbase : PL s p (vM s (o k) 2 + 10 - 10) = PL s p (vM s (o k) 2) := by rw [Nat.add_sub_cancel]
            have go : ∀ r i g2, i + r = vM s (o k) 3 → plI y s o g p (vM s (o k) 2 + 10 + i) g2 → mu_go w mm_X11_findPlaces (d + 3) L Q 155 [some (.ref y), some (.int (nI p)), some (.int (nI (PL s p (vM s (o k) 2)))), some (.int (nI (vM s (o k) 2 + 10 + i))), some (.int (nI k)), some (.int (nI (o k))), none, some (.int (nI 1)), some (.int (nI (i + 1)))] [] g2 := by
              intro r
              induction r with
              | zero =>
                intro i g2 hir hI2
                have hM2 := md_L_fr hM (f2_T hI2.1)
                have hL2 := f2_fit hI2.1 hL
                refine fm_X11_findPlaces_155 ?_
                simp (disch := omega) only [md_T0 hM2, li_n, nI_add, pk_mul, nI_clamp, nI_ltI, nI_leI, nI_eq, mi_n, Nat.add_zero, true_and, and_true, true_or, or_true, false_or, or_false, not_false_eq_true, not_true_eq_false, implies_true, forall_const, ne_eq, Classical.not_not, reduceCtorEq, nor_p, cI_1n, bI_1n, cI_F, cI_T, cI_0, cI_0n, bI_0, bI_0n, cI_01, bI_01, Nat.reduceLeDiff, Nat.reduceLT, Nat.reduceEqDiff, Nat.reduceSub, Nat.reduceAdd, Nat.lt_irrefl, Nat.le_refl, false_implies, true_implies]
                refine mu_cI (sp_X11_fieldN (f := 3) hM2 (gS hI2.1) hc hm hok (by omega)) hL2 ?_
                simp (disch := omega) only [md_T0 hM2, show (vM s (o k) 3 < i + 1) = True from eq_true (by omega), li_n, nI_add, pk_mul, nI_clamp, nI_ltI, nI_leI, nI_eq, mi_n, Nat.add_zero, true_and, and_true, true_or, or_true, false_or, or_false, not_false_eq_true, not_true_eq_false, implies_true, forall_const, ne_eq, Classical.not_not, reduceCtorEq, nor_p, cI_1n, bI_1n, cI_F, cI_T, cI_0, cI_0n, bI_0, bI_0n, cI_01, bI_01, Nat.reduceLeDiff, Nat.reduceLT, Nat.reduceEqDiff, Nat.reduceSub, Nat.reduceAdd, Nat.lt_irrefl, Nat.le_refl, false_implies, true_implies]
                refine mu_cI (sp_X11_fieldN (f := 4) hM2 (gS hI2.1) hc hm hok (by omega)) hL2 ?_
                have := ihj (k + 1) (vM s (o k) 2 + 10 + i) g2 (by omega) (by omega) hI2 (fun i2 q1 q2 q3 => ?_)
                · rw [show vM s (o k) 2 + 10 + i - 10 = vM s (o k) 2 + vM s (o k) 3 by omega, pl_end hp hm ha hpi hok hwho hgo] at this
                  exact this
                · have h2 := hN i2 q1 q2 q3
                  by_cases e : i2 = k
                  · rw [e]; exact ⟨fun _ => by omega, fun h => by omega⟩
                  · refine ⟨fun h => by have := h2.1 (by omega); omega, fun h => ?_⟩
                    have s1 := ho.2.2.2 k i2 (by omega) q1
                    have s2 := ha (o k) (o i2) hok (ho.1 i2 q1) (fun q => e (ho.2.1 k i2 hlt q1 q).symm) (by rw [hwho, q2])
                    have s3 := wm_b hm (ho.1 i2 q1)
                    omega
              | succ r ihr =>
                intro i g2 hir hI2
                have hM2 := md_L_fr hM (f2_T hI2.1)
                have hL2 := f2_fit hI2.1 hL
                refine fm_X11_findPlaces_155 ?_
                simp (disch := omega) only [md_T0 hM2, li_n, nI_add, pk_mul, nI_clamp, nI_ltI, nI_leI, nI_eq, mi_n, Nat.add_zero, true_and, and_true, true_or, or_true, false_or, or_false, not_false_eq_true, not_true_eq_false, implies_true, forall_const, ne_eq, Classical.not_not, reduceCtorEq, nor_p, cI_1n, bI_1n, cI_F, cI_T, cI_0, cI_0n, bI_0, bI_0n, cI_01, bI_01, Nat.reduceLeDiff, Nat.reduceLT, Nat.reduceEqDiff, Nat.reduceSub, Nat.reduceAdd, Nat.lt_irrefl, Nat.le_refl, false_implies, true_implies]
                refine mu_cI (sp_X11_fieldN (f := 3) hM2 (gS hI2.1) hc hm hok (by omega)) hL2 ?_
                simp (disch := omega) only [md_T0 hM2, show (vM s (o k) 3 < i + 1) = False from eq_false (by omega), li_n, nI_add, pk_mul, nI_clamp, nI_ltI, nI_leI, nI_eq, mi_n, Nat.add_zero, true_and, and_true, true_or, or_true, false_or, or_false, not_false_eq_true, not_true_eq_false, implies_true, forall_const, ne_eq, Classical.not_not, reduceCtorEq, nor_p, cI_1n, bI_1n, cI_F, cI_T, cI_0, cI_0n, bI_0, bI_0n, cI_01, bI_01, Nat.reduceLeDiff, Nat.reduceLT, Nat.reduceEqDiff, Nat.reduceSub, Nat.reduceAdd, Nat.lt_irrefl, Nat.le_refl, false_implies, true_implies]
                refine mu_cI (sp_X11_fieldN (f := 4) hM2 (gS hI2.1) hc hm hok (by omega)) hL2 ?_
                simp (disch := omega) only [md_T0 hM2, li_n, nI_add, pk_mul, nI_clamp, nI_ltI, nI_leI, nI_eq, mi_n, Nat.add_zero, true_and, and_true, true_or, or_true, false_or, or_false, not_false_eq_true, not_true_eq_false, implies_true, forall_const, ne_eq, Classical.not_not, reduceCtorEq, nor_p, cI_1n, bI_1n, cI_F, cI_T, cI_0, cI_0n, bI_0, bI_0n, cI_01, bI_01, Nat.reduceLeDiff, Nat.reduceLT, Nat.reduceEqDiff, Nat.reduceSub, Nat.reduceAdd, Nat.lt_irrefl, Nat.le_refl, false_implies, true_implies]
                refine mu_cI (sp_X11_fieldN (f := 3) hM2 (gS hI2.1) hc hm hok (by omega)) hL2 ?_
                refine mu_cI (sp_X11_between (hPL _) ⟨hmb.2.2.2.2.2.1, hmb.2.2.2.2.2.2.1⟩ hmb.2.2.2.1 hmb.2.2.2.2.1 (by omega)) hL2 ?_
                simp (disch := omega) only [md_T0 hM2, md_R15 hM2, md_T15 hM2, md_N15 hM2, hw15, li_n, nI_add, pk_mul, nI_clamp, nI_ltI, nI_leI, nI_eq, mi_n, Nat.add_zero, true_and, and_true, true_or, or_true, false_or, or_false, not_false_eq_true, not_true_eq_false, implies_true, forall_const, ne_eq, Classical.not_not, reduceCtorEq, nor_p, cI_1n, bI_1n, cI_F, cI_T, cI_0, cI_0n, bI_0, bI_0n, cI_01, bI_01, Nat.reduceLeDiff, Nat.reduceLT, Nat.reduceEqDiff, Nat.reduceSub, Nat.reduceAdd, Nat.lt_irrefl, Nat.le_refl, false_implies, true_implies]
                refine ⟨by omega, ihr (i + 1) _ (by omega) ?_⟩
                refine plI_w (t := vM s (o k) 2 + 10 + i) hI2 (by omega) ?_
                rw [show vM s (o k) 2 + 10 + i - 9 = vM s (o k) 2 + i + 1 by omega, pl_goP ha hok hwho hgo (by omega)]
            have fill : ∀ r t g2, t + r = vM s (o k) 2 + 10 → plI y s o g p t g2 → (∀ i, i < nm s → vM s (o i) 0 = p → mGo s (o i) → (i < k → vM s (o i) 2 + vM s (o i) 3 + 10 ≤ t)) → mu_go w mm_X11_findPlaces (d + 3) L Q 115 [some (.ref y), some (.int (nI p)), some (.int (nI (PL s p (t - 10)))), some (.int (nI t)), some (.int (nI k)), some (.int (nI (o k))), none, some (.int (nI 1)), none] [] g2 := by
              intro r
              induction r with
              | zero =>
                intro t g2 htr hI2 hN2
                have hM2 := md_L_fr hM (f2_T hI2.1)
                have hL2 := f2_fit hI2.1 hL
                refine fm_X11_findPlaces_115 ?_
                simp (disch := omega) only [md_T0 hM2, li_n, nI_add, pk_mul, nI_clamp, nI_ltI, nI_leI, nI_eq, mi_n, Nat.add_zero, true_and, and_true, true_or, or_true, false_or, or_false, not_false_eq_true, not_true_eq_false, implies_true, forall_const, ne_eq, Classical.not_not, reduceCtorEq, nor_p, cI_1n, bI_1n, cI_F, cI_T, cI_0, cI_0n, bI_0, bI_0n, cI_01, bI_01, Nat.reduceLeDiff, Nat.reduceLT, Nat.reduceEqDiff, Nat.reduceSub, Nat.reduceAdd, Nat.lt_irrefl, Nat.le_refl, false_implies, true_implies]
                refine mu_cI (sp_X11_fieldN (f := 2) hM2 (gS hI2.1) hc hm hok (by omega)) hL2 ?_
                rw [show t = vM s (o k) 2 + 10 by omega] at hI2 ⊢
                simp (disch := omega) only [md_T0 hM2, Nat.add_sub_cancel, li_n, nI_add, pk_mul, nI_clamp, nI_ltI, nI_leI, nI_eq, mi_n, Nat.add_zero, true_and, and_true, true_or, or_true, false_or, or_false, not_false_eq_true, not_true_eq_false, implies_true, forall_const, ne_eq, Classical.not_not, reduceCtorEq, nor_p, cI_1n, bI_1n, cI_F, cI_T, cI_0, cI_0n, bI_0, bI_0n, cI_01, bI_01, Nat.reduceLeDiff, Nat.reduceLT, Nat.reduceEqDiff, Nat.reduceSub, Nat.reduceAdd, Nat.lt_irrefl, Nat.le_refl, false_implies, true_implies]
                exact go _ 0 g2 (Nat.zero_add _) hI2
              | succ r ihr =>
                intro t g2 htr hI2 hN2
                have hM2 := md_L_fr hM (f2_T hI2.1)
                have hL2 := f2_fit hI2.1 hL
                have hlt2 : t < vM s (o k) 2 + 10 := by omega
                refine fm_X11_findPlaces_115 ?_
                simp (disch := omega) only [md_T0 hM2, li_n, nI_add, pk_mul, nI_clamp, nI_ltI, nI_leI, nI_eq, mi_n, Nat.add_zero, true_and, and_true, true_or, or_true, false_or, or_false, not_false_eq_true, not_true_eq_false, implies_true, forall_const, ne_eq, Classical.not_not, reduceCtorEq, nor_p, cI_1n, bI_1n, cI_F, cI_T, cI_0, cI_0n, bI_0, bI_0n, cI_01, bI_01, Nat.reduceLeDiff, Nat.reduceLT, Nat.reduceEqDiff, Nat.reduceSub, Nat.reduceAdd, Nat.lt_irrefl, Nat.le_refl, false_implies, true_implies]
                refine mu_cI (sp_X11_fieldN (f := 2) hM2 (gS hI2.1) hc hm hok (by omega)) hL2 ?_
                simp (disch := omega) only [md_T0 hM2, md_R15 hM2, md_T15 hM2, md_N15 hM2, hw15, Nat.not_le_of_lt hlt2, li_n, nI_add, pk_mul, nI_clamp, nI_ltI, nI_leI, nI_eq, mi_n, Nat.add_zero, true_and, and_true, true_or, or_true, false_or, or_false, not_false_eq_true, not_true_eq_false, implies_true, forall_const, ne_eq, Classical.not_not, reduceCtorEq, nor_p, cI_1n, bI_1n, cI_F, cI_T, cI_0, cI_0n, bI_0, bI_0n, cI_01, bI_01, Nat.reduceLeDiff, Nat.reduceLT, Nat.reduceEqDiff, Nat.reduceSub, Nat.reduceAdd, Nat.lt_irrefl, Nat.le_refl, false_implies, true_implies]
                refine ⟨by omega, ?_⟩
                have e : PL s p (t - 9) = PL s p (t - 10) := pl_stayT (fun h10 m hm2 hg => by
                  obtain ⟨i, r1, r2⟩ := ho.2.2.1 m hm2
                  have hg2 := hg.2.2
                  by_cases q : i < k
                  · have := hN2 i r1 (by rw [r2]; exact hg.1) (by rw [r2]; exact hg.2.1) q
                    rw [r2] at this
                    omega
                  · by_cases q2 : i = k
                    · rw [← r2, q2] at hg2; omega
                    · have := ho.2.2.2 k i (by omega) r1
                      rw [r2] at this
                      omega)
                have := ihr (t + 1) _ (by omega) (plI_w hI2 (by omega) (v := nI (PL s p (t - 10))) (by rw [e])) (fun i q1 q2 q3 q4 => by have := hN2 i q1 q2 q3 q4; omega)
                rw [show t + 1 - 10 = t - 9 by omega, e] at this
                exact this
            exact fill (vM s (o k) 2 + 10 - t) t g' (by omega) hI (fun i q1 q2 q3 => (hN i q1 q2 q3).1)
          clear ihj
          refine fm_X11_findPlaces_45 ?_
          simp (disch := omega) only [Nat.not_le_of_lt hlt, md_T0 hM', md_R0 hM', md_T1 hM', md_N1 hM', md_R16 hM', md_T16 hM', md_N16 hM', hoI, gS hI.1, wc_1 hc, li_n, nI_add, pk_mul, nI_clamp, nI_ltI, nI_leI, nI_eq, mi_n, Nat.add_zero, true_and, and_true, true_or, or_true, false_or, or_false, not_false_eq_true, not_true_eq_false, implies_true, forall_const, ne_eq, Classical.not_not, reduceCtorEq, nor_p, cI_1n, bI_1n, cI_F, cI_T, cI_0, cI_0n, bI_0, bI_0n, cI_01, bI_01, Nat.reduceLeDiff, Nat.reduceLT, Nat.reduceEqDiff, Nat.reduceSub, Nat.reduceAdd, Nat.lt_irrefl, Nat.le_refl, false_implies, true_implies]
          refine ⟨by omega, mu_cI (sp_X11_fieldN (f := 1) hM' (gS hI.1) hc hm hok (by omega)) hL' ?_⟩
          simp (disch := omega) only [md_T0 hM', li_n, nI_add, pk_mul, nI_clamp, nI_ltI, nI_leI, nI_eq, mi_n, Nat.add_zero, true_and, and_true, true_or, or_true, false_or, or_false, not_false_eq_true, not_true_eq_false, implies_true, forall_const, ne_eq, Classical.not_not, reduceCtorEq, nor_p, cI_1n, bI_1n, cI_F, cI_T, cI_0, cI_0n, bI_0, bI_0n, cI_01, bI_01, Nat.reduceLeDiff, Nat.reduceLT, Nat.reduceEqDiff, Nat.reduceSub, Nat.reduceAdd, Nat.lt_irrefl, Nat.le_refl, false_implies, true_implies]
          refine mu_cI (sp_X11_fieldN (f := 0) hM' (gS hI.1) hc hm hok (by omega)) hL' ?_
          have g1 : mGo s (o k) ↔ vM s (o k) 7 = 0 ∧ (vM s (o k) 1 = 1 ∨ vM s (o k) 1 = 5) := by
            unfold mGo kGoes
            constructor
            · rintro ⟨q1, q2⟩; refine ⟨q1, ?_⟩; split at q2 <;> omega
            · rintro ⟨q1, q2 | q2⟩ <;> exact ⟨q1, by rw [q2]; rfl⟩
          rw [g1] at k0 k1
          simp (disch := omega) only [md_T0 hM', li_n, nI_add, pk_mul, nI_clamp, nI_ltI, nI_leI, nI_eq, mi_n, Nat.add_zero, true_and, and_true, true_or, or_true, false_or, or_false, not_false_eq_true, not_true_eq_false, implies_true, forall_const, ne_eq, Classical.not_not, reduceCtorEq, nor_p, cI_1n, bI_1n, cI_F, cI_T, cI_0, cI_0n, bI_0, bI_0n, cI_01, bI_01, Nat.reduceLeDiff, Nat.reduceLT, Nat.reduceEqDiff, Nat.reduceSub, Nat.reduceAdd, Nat.lt_irrefl, Nat.le_refl, false_implies, true_implies]
          refine ⟨fun h => k0 (by omega), fun h => ⟨fun h2 => mu_cI (sp_X11_fieldN (f := 7) hM' (gS hI.1) hc hm hok (by omega)) hL' ?_, fun h2 => ⟨fun h3 => k0 (by omega), fun h3 => mu_cI (sp_X11_fieldN (f := 7) hM' (gS hI.1) hc hm hok (by omega)) hL' ?_⟩⟩⟩
          · simp (disch := omega) only [li_n, nI_add, pk_mul, nI_clamp, nI_ltI, nI_leI, nI_eq, mi_n, Nat.add_zero, true_and, and_true, true_or, or_true, false_or, or_false, not_false_eq_true, not_true_eq_false, implies_true, forall_const, ne_eq, Classical.not_not, reduceCtorEq, nor_p, cI_1n, bI_1n, cI_F, cI_T, cI_0, cI_0n, bI_0, bI_0n, cI_01, bI_01, Nat.reduceLeDiff, Nat.reduceLT, Nat.reduceEqDiff, Nat.reduceSub, Nat.reduceAdd, Nat.lt_irrefl, Nat.le_refl, false_implies, true_implies]
            exact ⟨fun h3 => k0 (by omega), fun h3 => k1 h ⟨h3, Or.inl h2⟩⟩
          · simp (disch := omega) only [li_n, nI_add, pk_mul, nI_clamp, nI_ltI, nI_leI, nI_eq, mi_n, Nat.add_zero, true_and, and_true, true_or, or_true, false_or, or_false, not_false_eq_true, not_true_eq_false, implies_true, forall_const, ne_eq, Classical.not_not, reduceCtorEq, nor_p, cI_1n, bI_1n, cI_F, cI_T, cI_0, cI_0n, bI_0, bI_0n, cI_01, bI_01, Nat.reduceLeDiff, Nat.reduceLT, Nat.reduceEqDiff, Nat.reduceSub, Nat.reduceAdd, Nat.lt_irrefl, Nat.le_refl, false_implies, true_implies]
            exact ⟨fun h4 => k0 (by omega), fun h4 => k1 h ⟨h4, Or.inr h3⟩⟩
      exact mid (nm s) 0 0 g' (by omega) (by omega) hI (fun i q1 q2 q3 => ⟨fun h => absurd h (Nat.not_lt_zero _), fun _ => Nat.zero_le _⟩)
  exact outer (np s) 0 g1 (by omega) ⟨f1, h171, hoI, fun q hq => absurd hq (Nat.not_lt_zero _), fun T hT => absurd hT (Nat.not_lt_zero _)⟩
end Rp
