/-! CLIENTS: sheets copied: both public calls -/
def cpOK (A5 : Nat → Int32) (v1 v2 v3 v4 v5 : Int32) : Prop := (0 ≤ v2.toInt ∧ 0 ≤ v5.toInt ∧ v2.toInt + v5.toInt ≤ ((A5 v1.toNatClampNeg).toNatClampNeg : Int)) ∧ (0 ≤ v4.toInt ∧ 0 ≤ v5.toInt ∧ v4.toInt + v5.toInt ≤ ((A5 v3.toNatClampNeg).toNatClampNeg : Int))
noncomputable def pCopy (A4 A5 A6 : Nat → Int32) (v1 v2 v3 v4 v5 : Int32) : r3 := cif ((0 ≤ v1.toInt ∧ v1.toInt ≤ 3) ∧ 0 ≤ v3.toInt ∧ v3.toInt ≤ 3) (cif (A4 v1.toNatClampNeg = -1 ∨ A4 v3.toNatClampNeg = -1) (-1000000011, A4, A5, A6) (cif (A4 v1.toNatClampNeg = A4 v3.toNatClampNeg) (cif (cpOK A5 v1 v2 v3 v4 v5) (v5, A4, A5, cpy A6 (24 * v3.toNatClampNeg + v4.toNatClampNeg) A6 (24 * v1.toNatClampNeg + v2.toNatClampNeg) v5.toNatClampNeg) (-1000000013, A4, A5, A6)) (-1000000012, A4, A5, A6))) (-1000000001, A4, A5, A6)
section Sh7
variable {w : mu_O} {d x y : Nat} {g g1 : mu_H} {A4 A5 A6 A4' A5' A6' : Nat → Int32} {v1 v2 v3 v4 v5 : Int32}
theorem sC_I (g : mu_H) (a sp b dp n z : Nat) (h : z ≠ b) : mu_I (mu_sC g a sp b dp n) z = mu_I g z := funext fun k => if_neg (fun q => h q.1)
theorem sC_i (g : mu_H) (a sp b dp n k : Nat) (h : dp ≤ k ∧ k < dp + n) : mu_I (mu_sC g a sp b dp n) b k = mu_I g a (sp + (k - dp)) := if_pos ⟨rfl, h⟩
theorem sC_o (g : mu_H) (a sp b dp n k : Nat) (h : ¬ (dp ≤ k ∧ k < dp + n)) : mu_I (mu_sC g a sp b dp n) b k = mu_I g b k := if_neg (fun q => h q.2)
theorem sC_fr {A : Nat → Prop} (g : mu_H) (a sp b dp n : Nat) (h : A b) : mu_fr A g (mu_sC g a sp b dp n) := ⟨rfl, rfl, rfl, rfl, rfl, fun z hz => sC_I g a sp b dp n z (fun e => hz (by rw [e]; exact h))⟩
theorem pc_copy (hC : cl_L w x g) (hS : sd_S x A4 A5 A6 g) (hwS : sd_wS A4 A5) : mu_mp w mm_X10_copy (d + 2) [.ref x, .int v1, .int v2, .int v3, .int v4, .int v5] g (cSh w x (pCopy A4 A5 A6 v1 v2 v3 v4 v5) g) := by
  refine mu_mkp mk_X10_copy rfl (fun L hL Q hQ => fm_X10_copy_0 (mu_cI sp_X10_isSheet hL ?_))
  have hw := cl_w hC
  have bad : ¬ ((0 ≤ v1.toInt ∧ v1.toInt ≤ 3) ∧ 0 ≤ v3.toInt ∧ v3.toInt ≤ 3) → Q (some (.int (-1000000001))) g := fun h => by
    unfold pCopy at hQ
    rw [cif_f h] at hQ
    exact sh_0 hC hQ rfl hS
  rw [cI_0]
  refine ⟨fun h => bad (fun q => h q.1), fun h => mu_cI sp_X10_isSheet hL ?_⟩
  rw [cI_0]
  refine ⟨fun h2 => ?_, fun h2 => bad (fun q => h2 (fun z => z q.2))⟩
  replace h := Classical.not_not.mp h
  replace h2 := Classical.not_not.mp h2
  unfold pCopy cpOK at hQ
  rw [cif_t ⟨h, h2⟩] at hQ
  obtain ⟨i, i1, rfl, i3, i2⟩ := ix_of (v := v1) (n := 4) ⟨h.1, by omega⟩
  obtain ⟨j, j1, rfl, j3, j2⟩ := ix_of (v := v3) (n := 4) ⟨h2.1, by omega⟩
  rw [i3, j3] at hQ
  obtain ⟨s1, s2, s3⟩ := hS i i1
  obtain ⟨t1, t2, t3⟩ := hS j j1
  obtain ⟨-, n, n1, n2⟩ := hwS i i1
  obtain ⟨-, m, m1, m2⟩ := hwS j j1
  rw [n2, m2, nI_clamp (by omega), nI_clamp (by omega)] at hQ
  have hin : mu_in (nI i) 4 := mu_in_n i1 (by omega)
  have hjn : mu_in (nI j) 4 := mu_in_n j1 (by omega)
  rw [cl_T hC, cl_R8 hC, cl_T8 hC, cl_N8 hC, i3, j3, cl_RS hC i1, cl_RS hC j1, cl_S1 hC i1]
  refine ⟨rfl, ⟨by decide, by decide⟩, hin, rfl, ⟨by decide, by decide⟩, hjn, rfl, mu_cI (sp_X5_isMissing (cl_S1 hC i1)) hL ?_⟩
  rw [cI_0, s1]
  refine ⟨fun h3 => ?_, fun h3 => ⟨cl_S1 hC j1, mu_cI (sp_X5_isMissing (cl_S1 hC j1)) hL ?_⟩⟩
  · rw [cif_t (Or.inl (Classical.not_not.mp h3))] at hQ
    exact sh_0 hC hQ rfl hS
  · replace h3 := Classical.not_not.mp h3
    rw [cI_0, t1]
    refine ⟨fun h4 => ⟨cl_S1 hC i1, cl_S1 hC j1, ?_⟩, fun h4 => ?_⟩
    · rw [cif_f (fun q => q.elim h3 h4)] at hQ
      rw [s1]
      refine ⟨fun h5 => ⟨cl_S1 hC i1, mu_cI (sp_X5_hasPlaces (cl_S1 hC i1) (s2.trans n2) n1) hL ?_⟩, fun h5 => ?_⟩
      · rw [cif_t h5] at hQ
        rw [cI_0]
        refine ⟨fun h6 => ?_, fun h6 => ⟨cl_S1 hC j1, mu_cI (sp_X5_hasPlaces (cl_S1 hC j1) (t2.trans m2) m1) hL ?_⟩⟩
        · rw [cif_f (fun q => h6 q.1)] at hQ
          exact sh_0 hC hQ rfl hS
        · replace h6 := Classical.not_not.mp h6
          rw [cI_0]
          refine ⟨fun h7 => ?_, fun h7 => ?_⟩
          · replace h7 := Classical.not_not.mp h7
            rw [cif_t ⟨h6, h7⟩] at hQ
            obtain ⟨p, p1, rfl, p3, p2⟩ := ix_of (v := v2) (n := 25) ⟨h6.1, by omega⟩
            obtain ⟨q, q1, rfl, q3, q2⟩ := ix_of (v := v4) (n := 25) ⟨h7.1, by omega⟩
            obtain ⟨r, r1, rfl, r3', r2⟩ := ix_of (v := v5) (n := 25) ⟨h6.2.1, by omega⟩
            rw [p3, q3, r3'] at hQ
            rw [nI_toInt p2, nI_toInt r2] at h6
            rw [nI_toInt q2, nI_toInt r2] at h7
            rw [cl_S1 hC i1, cl_S1 hC j1, cl_S2 hC i1, cl_S2 hC j1, cl_S3 hC i1, cl_S3 hC j1, cl_S4 hC i1, cl_S4 hC j1, p3, q3, r3', nI_toInt p2, nI_toInt q2, nI_toInt r2]
            refine ⟨rfl, rfl, by omega, by omega, Or.inr ⟨rfl, rfl⟩, by omega, by omega, by omega, by omega, by omega, ?_⟩
            have f1 : mu_fr (fun z => z = x + 138 + 2 * j ∨ z = x + 139 + 2 * j) g (mu_sC g (x + 139 + 2 * i) p (x + 139 + 2 * j) q r) := sC_fr g _ _ _ _ _ (Or.inr rfl)
            refine hQ _ _ ⟨_, rfl, rfl, cl_fr hC f1, sd_one hS f1 (by rw [sC_I _ _ _ _ _ _ _ (by omega)]; exact t1) (by rw [sC_I _ _ _ _ _ _ _ (by omega)]; exact t2) (fun k hk => ?_) (fun _ _ => rfl) (fun _ _ => rfl) (fun k hk => cpy_o (by omega)), mu_fr_mono f1 (fun a z => by omega)⟩ rfl rfl
            by_cases e : q ≤ k ∧ k < q + r
            · rw [sC_i _ _ _ _ _ _ _ e, s3 _ (by omega)]
              have := cpy_i (A := A6) (B := A6) (a := 24 * j + q) (b := 24 * i + p) (n := r) (k := k - q) (by omega)
              rw [show 24 * j + q + (k - q) = 24 * j + k by omega] at this
              exact (congrArg A6 (by omega)).trans this.symm
            · rw [sC_o _ _ _ _ _ _ _ e, t3 k hk]
              exact (cpy_o (by omega)).symm
          · rw [cif_f (fun q => h7 (fun z => z q.2))] at hQ
            exact sh_0 hC hQ rfl hS
      · rw [cif_f h5] at hQ
        exact sh_0 hC hQ rfl hS
    · rw [cif_t (Or.inr (Classical.not_not.mp h4))] at hQ
      exact sh_0 hC hQ rfl hS
theorem lg_le {a b : Int64} : lg_cmp a b ≤ 0 ↔ a.toInt ≤ b.toInt := by
  unfold lg_cmp
  have h1 : a > b ↔ b.toInt < a.toInt := Int64.lt_iff_toInt_lt
  split
  · simp_all
  · split
    · simp_all
    · simp_all
theorem lg_gt {a b : Int64} : 0 < lg_cmp a b ↔ ¬ a.toInt ≤ b.toInt := by
  unfold lg_cmp
  have h1 : a > b ↔ b.toInt < a.toInt := Int64.lt_iff_toInt_lt
  split
  · simp_all
  · split
    · simp_all
    · simp_all
theorem lg_add (a b : Int32) : (a.toInt64 + b.toInt64).toInt = a.toInt + b.toInt := by
  have ha := li_b a
  have hb := li_b b
  rw [Int64.toInt_add, Int32.toInt_toInt64, Int32.toInt_toInt64, Int.bmod_eq_of_le (by omega) (by omega)]
theorem pm_copy (hM : md_L w y g) (h4 : mu_I g (y + 4) = A4) (h5 : mu_I g (y + 5) = A5) (h6 : mu_I g (y + 6) = A6) (hwS : sd_wS A4 A5) : mu_mp w mm_X11_copy (d + 2) [.ref y, .int v1, .int v2, .int v3, .int v4, .int v5] g (mSh y (pCopy A4 A5 A6 v1 v2 v3 v4 v5) g) := by
  refine mu_mkp mk_X11_copy rfl (fun L hL Q hQ => fm_X11_copy_0 (mu_cI sp_X11_isSheetN hL ?_))
  have hw6 := md_wj hM 6
  have hw23 := md_wj hM 23
  have bad : ¬ ((0 ≤ v1.toInt ∧ v1.toInt ≤ 3) ∧ 0 ≤ v3.toInt ∧ v3.toInt ≤ 3) → Q (some (.int (-1000000001))) g := fun h => by
    unfold pCopy at hQ
    rw [cif_f h] at hQ
    exact mss_0 hQ rfl h4 h5 h6
  rw [cI_0]
  refine ⟨fun h => bad (fun q => h q.1), fun h => mu_cI sp_X11_isSheetN hL ?_⟩
  rw [cI_0]
  refine ⟨fun h2 => ?_, fun h2 => bad (fun q => h2 (fun z => z q.2))⟩
  replace h := Classical.not_not.mp h
  replace h2 := Classical.not_not.mp h2
  unfold pCopy cpOK at hQ
  rw [cif_t ⟨h, h2⟩] at hQ
  obtain ⟨i, i1, rfl, i3, i2⟩ := ix_of (v := v1) (n := 4) ⟨h.1, by omega⟩
  obtain ⟨j, j1, rfl, j3, j2⟩ := ix_of (v := v3) (n := 4) ⟨h2.1, by omega⟩
  rw [i3, j3] at hQ
  obtain ⟨hsi, n, n1, n2⟩ := hwS i i1
  obtain ⟨hsj, m, m1, m2⟩ := hwS j j1
  rw [n2, m2, nI_clamp (by omega), nI_clamp (by omega)] at hQ
  have hin : mu_in (nI i) 4 := mu_in_n i1 (by omega)
  have hjn : mu_in (nI j) 4 := mu_in_n j1 (by omega)
  have mi : A4 i < 0 ↔ A4 i = -1 := by rcases hsi with e | e | e <;> rw [e] <;> decide
  have mj : 0 ≤ A4 j ↔ ¬ A4 j = -1 := by rcases hsj with e | e | e <;> rw [e] <;> decide
  have l2 : v2 < 0 ↔ ¬ 0 ≤ v2.toInt := by rw [li_lt]; show v2.toInt < 0 ↔ _; omega
  have l4 : v4 < 0 ↔ ¬ 0 ≤ v4.toInt := by rw [li_lt]; show v4.toInt < 0 ↔ _; omega
  have l5 : v5 < 0 ↔ ¬ 0 ≤ v5.toInt := by rw [li_lt]; show v5.toInt < 0 ↔ _; omega
  rw [md_T0 hM, md_R4 hM, md_T4 hM, md_N4 hM, md_R5 hM, md_T5 hM, md_N5 hM, h4, h5, i3, j3, n2, m2, mi, mj, l2, l4, l5, lg_gt, lg_le, lg_add, lg_add, Int32.toInt_toInt64, Int32.toInt_toInt64, nI_toInt (by omega), nI_toInt (by omega)]
  have idx : ¬ ((0 ≤ v2.toInt ∧ 0 ≤ v5.toInt ∧ v2.toInt + v5.toInt ≤ (n : Int)) ∧ (0 ≤ v4.toInt ∧ 0 ≤ v5.toInt ∧ v4.toInt + v5.toInt ≤ (m : Int))) → ¬ A4 i = -1 → ¬ A4 j = -1 → A4 i = A4 j → Q (some (.int (-1000000013))) g := fun q a b c => by
    rw [cif_f (fun z => z.elim a b), cif_t c, cif_f q] at hQ
    exact mss_0 hQ rfl h4 h5 h6
  refine ⟨rfl, rfl, hin, fun h3 => ?_, fun h3 => ⟨rfl, rfl, hjn, fun h7 => ⟨rfl, rfl, hin, rfl, rfl, hjn, fun h8 => ⟨fun k2 => idx (fun q => k2 q.1.1) h3 h7 h8, fun k2 => ⟨fun k4 => idx (fun q => k4 q.2.1) h3 h7 h8, fun k4 => ⟨fun k5 => idx (fun q => k5 q.1.2.1) h3 h7 h8, fun k5 => ⟨rfl, rfl, hin, fun k6 => idx (fun q => k6 q.1.2.2) h3 h7 h8, fun k6 => ⟨rfl, rfl, hjn, fun k7 => ?_, fun k7 => idx (fun q => k7 q.2.2.2) h3 h7 h8⟩⟩⟩⟩⟩, fun h8 => ?_⟩, fun h7 => ?_⟩⟩
  · rw [cif_t (Or.inl h3)] at hQ
    exact mss_0 hQ rfl h4 h5 h6
  · replace k2 := Classical.not_not.mp k2
    replace k4 := Classical.not_not.mp k4
    replace k5 := Classical.not_not.mp k5
    replace k6 := Classical.not_not.mp k6
    rw [cif_f (fun z => z.elim h3 h7), cif_t h8, cif_t ⟨⟨k2, k5, k6⟩, k4, k5, k7⟩] at hQ
    obtain ⟨p, p1, rfl, p3, p2⟩ := ix_of (v := v2) (n := 25) ⟨k2, by omega⟩
    obtain ⟨q, q1, rfl, q3, q2⟩ := ix_of (v := v4) (n := 25) ⟨k4, by omega⟩
    obtain ⟨r, r1, rfl, r3', r2⟩ := ix_of (v := v5) (n := 25) ⟨k5, by omega⟩
    rw [p3, q3, r3'] at hQ
    rw [nI_toInt p2, nI_toInt r2] at k6
    rw [nI_toInt q2, nI_toInt r2] at k7
    refine lp (n := r) (P := fun k => ∀ gi, mu_fr (fun a => a = y + 23) g gi → (∀ t, t < k → mu_I gi (y + 23) t = A6 (24 * i + p + t)) → mu_go w mm_X11_copy (d + 2) L Q 113 [some (.ref y), some (.int (nI i)), some (.int (nI p)), some (.int (nI j)), some (.int (nI q)), some (.int (nI r)), some (.int (nI k))] [] gi) (fun gi fi ci => fm_X11_copy_113 ?_) (fun k hk ih gi fi ci => fm_X11_copy_113 ?_) g mu_fr_rf (fun t ht => absurd ht (Nat.not_lt_zero t))
    · refine ⟨fun _ => ?_, fun z => absurd (Int32.le_refl _) z⟩
      have h6i : mu_I gi (y + 6) = A6 := by rw [fi.2.2.2.2.2 _ (by omega)]; exact h6
      refine lp (n := r) (P := fun k => ∀ gk, mu_fr (fun a => a = y + 6) gi gk → mu_I gk (y + 6) = cpy A6 (24 * j + q) A6 (24 * i + p) k → mu_go w mm_X11_copy (d + 2) L Q 150 [some (.ref y), none, none, some (.int (nI j)), some (.int (nI q)), some (.int (nI r)), some (.int (nI k))] [] gk) (fun gk fk ck => fm_X11_copy_150 ?_) (fun k hk ih gk fk ck => fm_X11_copy_150 ?_) gi mu_fr_rf (by rw [cpy_0]; exact h6i)
      · have ff : mu_fr (mShW y) g gk := mu_fr_tr (mu_fr_mono fi (fun a z => Or.inr (Or.inr (Or.inr z)))) (mu_fr_mono fk (fun a z => Or.inr (Or.inr (Or.inl z))))
        refine ⟨fun _ => hQ _ _ ⟨_, rfl, rfl, ?_, ?_, ck, ff⟩ ff.2.2.2.1 ff.2.2.2.2.1, fun z => absurd (Int32.le_refl _) z⟩
        · rw [fk.2.2.2.2.2 _ (by omega), fi.2.2.2.2.2 _ (by omega)]; exact h4
        · rw [fk.2.2.2.2.2 _ (by omega), fi.2.2.2.2.2 _ (by omega)]; exact h5
      · have Mk := md_L_fr (md_L_fr hM fi) fk
        have e23 : mu_I gk (y + 23) k = A6 (24 * i + p + k) := by rw [fk.2.2.2.2.2 _ (by omega)]; exact ci k hk
        simp (disch := omega) only [md_T0 Mk, md_R37 Mk, md_T23 Mk, md_N23 Mk, md_R6 Mk, md_T6 Mk, md_N6 Mk, hw6, e23, li_n, nI_add, pk_mul, nI_clamp, nI_ltI, nI_leI, nI_eq, mi_n, Nat.add_zero, true_and, and_true, true_or, or_true, false_or, or_false, not_false_eq_true, not_true_eq_false, implies_true, forall_const, ne_eq, Classical.not_not, reduceCtorEq, nor_p, cI_1n, bI_1n, cI_F, cI_T, cI_0, cI_0n, bI_0, bI_0n, cI_01, bI_01, Nat.reduceLeDiff, Nat.reduceLT, Nat.reduceEqDiff, Nat.reduceSub, Nat.reduceAdd, Nat.lt_irrefl, Nat.le_refl, false_implies, true_implies]
        refine ⟨fun z => absurd z (by omega), fun _ => ⟨by omega, by omega, ih _ (mu_fr_tr fk (mu_fr_sI rfl)) ?_⟩⟩
        rw [mu_I_upd, ck]
        exact cpy_s
    · have Mi := md_L_fr hM fi
      have h6i : mu_I gi (y + 6) = A6 := by rw [fi.2.2.2.2.2 _ (by omega)]; exact h6
      simp (disch := omega) only [md_T0 Mi, md_R37 Mi, md_T23 Mi, md_N23 Mi, md_R6 Mi, md_T6 Mi, md_N6 Mi, hw23, h6i, li_n, nI_add, pk_mul, nI_clamp, nI_ltI, nI_leI, nI_eq, mi_n, Nat.add_zero, true_and, and_true, true_or, or_true, false_or, or_false, not_false_eq_true, not_true_eq_false, implies_true, forall_const, ne_eq, Classical.not_not, reduceCtorEq, nor_p, cI_1n, bI_1n, cI_F, cI_T, cI_0, cI_0n, bI_0, bI_0n, cI_01, bI_01, Nat.reduceLeDiff, Nat.reduceLT, Nat.reduceEqDiff, Nat.reduceSub, Nat.reduceAdd, Nat.lt_irrefl, Nat.le_refl, false_implies, true_implies]
      refine ⟨fun z => absurd z (by omega), fun _ => ⟨by omega, by omega, ih _ (mu_fr_tr fi (mu_fr_sI rfl)) (fun t ht => ?_)⟩⟩
      by_cases e : t = k
      · rw [e, I_sI_same]
      · rw [I_sI_k _ _ _ e]; exact ci t (by omega)
  · rw [cif_f (fun z => z.elim h3 h7), cif_f h8] at hQ
    exact mss_0 hQ rfl h4 h5 h6
  · rw [cif_t (Or.inr (Classical.not_not.mp h7))] at hQ
    exact mss_0 hQ rfl h4 h5 h6
theorem wS_copy (h : sd_wS A4 A5) : sd_wS (pCopy A4 A5 A6 v1 v2 v3 v4 v5).2.1 (pCopy A4 A5 A6 v1 v2 v3 v4 v5).2.2.1 := by
  have e : (pCopy A4 A5 A6 v1 v2 v3 v4 v5).2.1 = A4 ∧ (pCopy A4 A5 A6 v1 v2 v3 v4 v5).2.2.1 = A5 := by
    unfold pCopy cif
    split
    · split
      · exact ⟨rfl, rfl⟩
      · split
        · split <;> exact ⟨rfl, rfl⟩
        · exact ⟨rfl, rfl⟩
    · exact ⟨rfl, rfl⟩
  rw [e.1, e.2]
  exact h
end Sh7
