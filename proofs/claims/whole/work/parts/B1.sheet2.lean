/-! CLIENTS: sheets: made, marked: both public calls -/
abbrev r3 : Type := Int32 × (Nat → Int32) × (Nat → Int32) × (Nat → Int32)
def cSh (w : mu_O) (x : Nat) (q : r3) (g : mu_H) : Option Value → mu_H → Prop := fun r g' => ∃ v, r = some (.int v) ∧ (v = q.1 ∧ cl_L w x g' ∧ sd_S x q.2.1 q.2.2.1 q.2.2.2 g' ∧ mu_fr (fun a => x + 138 ≤ a ∧ a < x + 146) g g')
def mShW (y : Nat) : Nat → Prop := fun a => a = y + 4 ∨ a = y + 5 ∨ a = y + 6 ∨ a = y + 23
def mSh (y : Nat) (q : r3) (g : mu_H) : Option Value → mu_H → Prop := fun r g' => ∃ v, r = some (.int v) ∧ (v = q.1 ∧ mu_I g' (y + 4) = q.2.1 ∧ mu_I g' (y + 5) = q.2.2.1 ∧ mu_I g' (y + 6) = q.2.2.2 ∧ mu_fr (mShW y) g g')
noncomputable def pSheet (A4 A5 A6 : Nat → Int32) (v1 v2 v3 : Int32) : r3 := cif ((0 ≤ v1.toInt ∧ v1.toInt ≤ 3) ∧ -1 ≤ v2.toInt ∧ v2.toInt ≤ 1) (cif (v2 = -1) (0, upd A4 v1.toNatClampNeg (-1), upd A5 v1.toNatClampNeg 0, fill A6 (24 * v1.toNatClampNeg) 24 0) (cif (v3.toInt ≤ 24) (cif (0 ≤ v3.toInt) (v3, upd A4 v1.toNatClampNeg v2, upd A5 v1.toNatClampNeg v3, fill A6 (24 * v1.toNatClampNeg) 24 0) (-1000000014, A4, A5, A6)) (-1000000001, A4, A5, A6))) (-1000000001, A4, A5, A6)
noncomputable def pMark (A4 A5 A6 : Nat → Int32) (v1 v2 v3 : Int32) : r3 := cif (0 ≤ v1.toInt ∧ v1.toInt ≤ 3) (cif (A4 v1.toNatClampNeg = -1) (-1000000011, A4, A5, A6) (cif (0 ≤ v2.toInt ∧ v2.toInt < ((A5 v1.toNatClampNeg).toNatClampNeg : Int)) (A6 (24 * v1.toNatClampNeg + v2.toNatClampNeg), A4, A5, upd A6 (24 * v1.toNatClampNeg + v2.toNatClampNeg) (kpt (A4 v1.toNatClampNeg) v3)) (-1000000013, A4, A5, A6))) (-1000000001, A4, A5, A6)
section Sh6
variable {w : mu_O} {d x y : Nat} {g g1 : mu_H} {A4 A5 A6 A4' A5' A6' : Nat → Int32} {v1 v2 v3 : Int32}
theorem sd_one {i : Nat} (hS : sd_S x A4 A5 A6 g) (hf : mu_fr (fun z => z = x + 138 + 2 * i ∨ z = x + 139 + 2 * i) g g1) (h1 : mu_I g1 (x + 138 + 2 * i) 1 = A4' i) (h2 : mu_I g1 (x + 138 + 2 * i) 2 = A5' i) (h3 : ∀ k, k < 24 → mu_I g1 (x + 139 + 2 * i) k = A6' (24 * i + k)) (o4 : ∀ j, j ≠ i → A4' j = A4 j) (o5 : ∀ j, j ≠ i → A5' j = A5 j) (o6 : ∀ j, ¬ (24 * i ≤ j ∧ j < 24 * i + 24) → A6' j = A6 j) : sd_S x A4' A5' A6' g1 := fun j hj => by
  by_cases e : j = i
  · rw [e]; exact ⟨h1, h2, h3⟩
  · rw [hf.2.2.2.2.2 _ (by omega), hf.2.2.2.2.2 _ (by omega), o4 j e, o5 j e]
    exact ⟨(hS j hj).1, (hS j hj).2.1, fun k hk => by rw [o6 _ (by omega)]; exact (hS j hj).2.2 k hk⟩
theorem sh_0 {Q : Option Value → mu_H → Prop} {q : r3} {v : Int32} (hC : cl_L w x g) (hQ : ∀ r g', cSh w x q g r g' → mu_X g' = mu_X g → mu_S g' = mu_S g → Q r g') (hv : v = q.1) (hS : sd_S x q.2.1 q.2.2.1 q.2.2.2 g) : Q (some (.int v)) g := hQ _ _ ⟨_, rfl, hv, hC, hS, mu_fr_rf⟩ rfl rfl
theorem mss_0 {Q : Option Value → mu_H → Prop} {q : r3} {v : Int32} (hQ : ∀ r g', mSh y q g r g' → mu_X g' = mu_X g → mu_S g' = mu_S g → Q r g') (hv : v = q.1) (h4 : mu_I g (y + 4) = q.2.1) (h5 : mu_I g (y + 5) = q.2.2.1) (h6 : mu_I g (y + 6) = q.2.2.2) : Q (some (.int v)) g := hQ _ _ ⟨_, rfl, hv, h4, h5, h6, mu_fr_rf⟩ rfl rfl
theorem pc_sheet (hC : cl_L w x g) (hS : sd_S x A4 A5 A6 g) : mu_mp w mm_X10_sheet (d + 2) [.ref x, .int v1, .int v2, .int v3] g (cSh w x (pSheet A4 A5 A6 v1 v2 v3) g) := by
  refine mu_mkp mk_X10_sheet rfl (fun L hL Q hQ => fm_X10_sheet_0 (mu_cI sp_X10_isSheet hL ?_))
  have hw := cl_w hC
  have bad : ¬ ((0 ≤ v1.toInt ∧ v1.toInt ≤ 3) ∧ -1 ≤ v2.toInt ∧ v2.toInt ≤ 1) → Q (some (.int (-1000000001))) g := fun h => by
    unfold pSheet at hQ
    rw [cif_f h] at hQ
    exact sh_0 hC hQ rfl hS
  rw [cI_0]
  refine ⟨fun h => bad (fun q => h q.1), fun h => mu_cI (sp_X10_wN (a := -1) (b := 1) rfl rfl) hL ?_⟩
  rw [cI_0]
  refine ⟨fun h2 => ?_, fun h2 => bad (fun q => h2 (fun z => z q.2))⟩
  replace h := Classical.not_not.mp h
  replace h2 := Classical.not_not.mp h2
  unfold pSheet at hQ
  rw [cif_t ⟨h, h2⟩] at hQ
  obtain ⟨i, i1, rfl, i3, i2⟩ := ix_of (v := v1) (n := 4) ⟨h.1, by omega⟩
  rw [i3] at hQ
  have bc : ∀ (z u r : Int32) (q : r3), q = (r, upd A4 i z, upd A5 i u, fill A6 (24 * i) 24 0) → (∀ r g', cSh w x q g r g' → mu_X g' = mu_X g → mu_S g' = mu_S g → Q r g') → mu_callV w mm_X5_become (d + 1) L [.ref (x + 138 + 2 * i), .int z, .int u] g (fun g6 => Q (some (.int r)) g6) := fun z u r q e hQ => by
    subst e
    refine mu_cVp (sp_X5_become (c := x + 139 + 2 * i) (cl_S1 hC i1) (cl_S2 hC i1) (by omega) (cl_S3 hC i1) (cl_S4 hC i1) (by omega)) hL (fun g1 hz _ _ => ?_)
    obtain ⟨f1, e1, e2, e3⟩ := hz
    refine hQ _ _ ⟨_, rfl, rfl, cl_fr hC f1, sd_one hS f1 (by rw [e1]; exact pk_us.symm) (by rw [e2]; exact pk_us.symm) (fun k hk => by rw [e3 k hk]; exact (fill_i (by omega)).symm) (fun j hj => pk_un hj) (fun j hj => pk_un hj) (fun j hj => fill_o hj), mu_fr_mono f1 (fun a q => by omega)⟩ f1.2.2.2.1 f1.2.2.2.2.1
  have hin : mu_in (nI i) 4 := mu_in_n i1 (by omega)
  have n24 : v3 ≤ 24 ↔ v3.toInt ≤ 24 := li_le
  have n0 : 0 ≤ v3 ↔ 0 ≤ v3.toInt := li_le
  rw [cl_T hC, cl_R8 hC, cl_T8 hC, cl_N8 hC, i3, cl_RS hC i1, cl_S1 hC i1, n24, n0]
  refine ⟨fun h3 => ⟨fun h4 => ⟨fun h5 => ⟨rfl, ⟨by decide, by decide⟩, hin, rfl, ?_⟩, fun h5 => ?_⟩, fun h4 => ?_⟩, fun h3 => ⟨rfl, ⟨by decide, by decide⟩, hin, rfl, ?_⟩⟩
  · rw [cif_f h3, cif_t h4, cif_t h5] at hQ
    exact bc _ _ _ _ rfl hQ
  · rw [cif_f h3, cif_t h4, cif_f h5] at hQ
    exact sh_0 hC hQ rfl hS
  · rw [cif_f h3, cif_f h4] at hQ
    exact sh_0 hC hQ rfl hS
  · rw [cif_t (Classical.not_not.mp h3)] at hQ
    exact bc _ _ _ _ rfl hQ
theorem sp_X11_isSheetN {v : Int32} : mu_met w mm_X11_isSheet (d + 1) [.int v] g (some (.int (cI (0 ≤ v.toInt ∧ v.toInt ≤ 3)))) g :=
  mu_mk mk_X11_isSheet rfl rfl rfl (fun L hL Q hQ => fm_X11_isSheet_0 (mu_cI (sp_X11_iN (a := 0) (b := 3) rfl rfl) hL ⟨cI_01 _, hQ⟩))
theorem sp_X11_isSlotN {v : Int32} : mu_met w mm_X11_isSlot (d + 1) [.int v] g (some (.int (cI (0 ≤ v.toInt ∧ v.toInt ≤ 4)))) g :=
  mu_mk mk_X11_isSlot rfl rfl rfl (fun L hL Q hQ => fm_X11_isSlot_0 (mu_cI (sp_X11_iN (a := 0) (b := 4) rfl rfl) hL ⟨cI_01 _, hQ⟩))
theorem ms_go {L : Nat × Nat} {Q : Option Value → mu_H → Prop} {i : Nat} {z u : Int32} (hM : md_L w y g) (h4 : mu_I g (y + 4) = A4) (h5 : mu_I g (y + 5) = A5) (h6 : mu_I g (y + 6) = A6) (hi : i < 4) (hQ : ∀ r g', mSh y (u, upd A4 i z, upd A5 i u, fill A6 (24 * i) 24 0) g r g' → mu_X g' = mu_X g → mu_S g' = mu_S g → Q r g') :
    mu_go w mm_X11_sheet (d + 2) L Q 69 [some (.ref y), some (.int (nI i)), none, none, some (.int 0)] [] (mu_sI (mu_sI g (y + 4) i z) (y + 5) i u) := by
  have hw6 := md_wj hM 6
  refine lp (n := 24) (P := fun k => ∀ gi, mu_fr (mShW y) g gi → mu_I gi (y + 4) = upd A4 i z → mu_I gi (y + 5) = upd A5 i u → mu_I gi (y + 6) = fill A6 (24 * i) k 0 → mu_go w mm_X11_sheet (d + 2) L Q 69 [some (.ref y), some (.int (nI i)), none, none, some (.int (nI k))] [] gi) (fun gi fi i4 i5 i6 => fm_X11_sheet_69 ?_) (fun k hk ih gi fi i4 i5 i6 => fm_X11_sheet_69 ?_) _ (mu_fr_tr (mu_fr_sI (Or.inl rfl)) (mu_fr_sI (Or.inr (Or.inl rfl)))) (by rw [mu_I_off _ _ _ (by omega), mu_I_upd, h4]) (by rw [mu_I_upd, mu_I_off _ _ _ (by omega), h5]) (by rw [mu_I_off _ _ _ (by omega), mu_I_off _ _ _ (by omega), h6, fill_0])
  · have Mi := md_L_fr hM fi
    rw [md_T0 Mi, md_R5 Mi, md_T5 Mi, md_N5 Mi, i5, nI_clamp (by omega)]
    refine ⟨fun _ => ⟨rfl, rfl, mu_in_n hi (by omega), ?_⟩, fun q => absurd (Int32.le_refl _) q⟩
    rw [pk_us]
    exact hQ _ _ ⟨_, rfl, rfl, i4, i5, i6, fi⟩ fi.2.2.2.1 fi.2.2.2.2.1
  · have Mi := md_L_fr hM fi
    simp (disch := omega) only [md_T0 Mi, md_R6 Mi, md_T6 Mi, md_N6 Mi, hw6, li_n, nI_add, pk_mul, nI_clamp, nI_ltI, nI_leI, nI_eq, mi_n, Nat.add_zero, true_and, and_true, true_or, or_true, false_or, or_false, not_false_eq_true, not_true_eq_false, implies_true, forall_const, ne_eq, Classical.not_not, reduceCtorEq, nor_p, cI_1n, bI_1n, cI_F, cI_T, cI_0, cI_0n, bI_0, bI_0n, cI_01, bI_01, Nat.reduceLeDiff, Nat.reduceLT, Nat.reduceEqDiff, Nat.reduceSub, Nat.reduceAdd, Nat.lt_irrefl, Nat.le_refl, false_implies, true_implies]
    refine ⟨fun q => absurd q (by omega), fun _ => ⟨by omega, ih _ (mu_fr_tr fi (mu_fr_sI (Or.inr (Or.inr (Or.inl rfl))))) (by rw [mu_I_off _ _ _ (by omega)]; exact i4) (by rw [mu_I_off _ _ _ (by omega)]; exact i5) ?_⟩⟩
    rw [mu_I_upd, i6]
    exact fill_s
theorem pm_sheet (hM : md_L w y g) (h4 : mu_I g (y + 4) = A4) (h5 : mu_I g (y + 5) = A5) (h6 : mu_I g (y + 6) = A6) : mu_mp w mm_X11_sheet (d + 2) [.ref y, .int v1, .int v2, .int v3] g (mSh y (pSheet A4 A5 A6 v1 v2 v3) g) := by
  refine mu_mkp mk_X11_sheet rfl (fun L hL Q hQ => fm_X11_sheet_0 (mu_cI sp_X11_isSheetN hL ?_))
  have hw4 := md_wj hM 4
  have hw5 := md_wj hM 5
  have bad : ¬ ((0 ≤ v1.toInt ∧ v1.toInt ≤ 3) ∧ -1 ≤ v2.toInt ∧ v2.toInt ≤ 1) → Q (some (.int (-1000000001))) g := fun h => by
    unfold pSheet at hQ
    rw [cif_f h] at hQ
    exact mss_0 hQ rfl h4 h5 h6
  rw [cI_0]
  refine ⟨fun h => bad (fun q => h q.1), fun h => mu_cI (sp_X11_iN (a := -1) (b := 1) rfl rfl) hL ?_⟩
  rw [cI_0]
  refine ⟨fun h2 => bad (fun q => h2 q.2), fun h2 => ?_⟩
  replace h := Classical.not_not.mp h
  replace h2 := Classical.not_not.mp h2
  unfold pSheet at hQ
  rw [cif_t ⟨h, h2⟩] at hQ
  obtain ⟨i, i1, rfl, i3, i2⟩ := ix_of (v := v1) (n := 4) ⟨h.1, by omega⟩
  rw [i3] at hQ
  have hin : mu_in (nI i) 4 := mu_in_n i1 (by omega)
  have n24 : v3 ≤ 24 ↔ v3.toInt ≤ 24 := li_le
  have n0 : 0 ≤ v3 ↔ 0 ≤ v3.toInt := li_le
  have m0 : v2 < 0 ↔ v2 = -1 := by rw [li_lt, li_eq]; show v2.toInt < 0 ↔ v2.toInt = -1; omega
  have m1 : 0 ≤ v2 ↔ ¬ v2 = -1 := by rw [li_le, li_eq]; show 0 ≤ v2.toInt ↔ ¬ v2.toInt = -1; omega
  rw [md_T0 hM, md_R4 hM, md_T4 hM, md_N4 hM, md_R5 hM, md_T5 hM, md_N5 hM, i3, n24, n0, m0, m1]
  by_cases e : v2 = -1
  · rw [cif_t e] at hQ
    refine ⟨fun _ => ⟨fun _ => ⟨rfl, hw4, rfl, hin, rfl, fun q => absurd e q, fun _ => ⟨hw5, rfl, hin, ?_⟩⟩, fun q => absurd e q⟩, fun q => absurd e q⟩
    rw [e]
    exact ms_go hM h4 h5 h6 i1 hQ
  · rw [cif_f e] at hQ
    refine ⟨fun q => absurd q e, fun _ => ⟨fun h7 => ⟨fun q => absurd q e, fun _ => ⟨fun h8 => ⟨rfl, hw4, rfl, hin, rfl, fun _ => ⟨hw5, rfl, hin, ?_⟩, fun q => absurd e q⟩, fun h8 => ?_⟩⟩, fun h7 => ?_⟩⟩
    · rw [cif_t h7, cif_t h8] at hQ
      exact ms_go hM h4 h5 h6 i1 hQ
    · rw [cif_t h7, cif_f h8] at hQ
      exact mss_0 hQ rfl h4 h5 h6
    · rw [cif_f h7] at hQ
      exact mss_0 hQ rfl h4 h5 h6
theorem wS_sheet (h : sd_wS A4 A5) : sd_wS (pSheet A4 A5 A6 v1 v2 v3).2.1 (pSheet A4 A5 A6 v1 v2 v3).2.2.1 := by
  unfold pSheet
  have go : ∀ (i : Nat) (z u : Int32), (z = -1 ∨ z = 0 ∨ z = 1) → (∃ n : Nat, n ≤ 24 ∧ u = nI n) → sd_wS (upd A4 i z) (upd A5 i u) := fun i z u hz hu j hj => by
    by_cases e : j = i
    · rw [e, pk_us, pk_us]; exact ⟨hz, hu⟩
    · rw [pk_un e, pk_un e]; exact h j hj
  by_cases h1 : (0 ≤ v1.toInt ∧ v1.toInt ≤ 3) ∧ -1 ≤ v2.toInt ∧ v2.toInt ≤ 1
  · rw [cif_t h1]
    by_cases h2 : v2 = -1
    · rw [cif_t h2]; exact go _ _ _ (Or.inl rfl) ⟨0, by omega, rfl⟩
    · rw [cif_f h2]
      by_cases h3 : v3.toInt ≤ 24
      · rw [cif_t h3]
        by_cases h4 : 0 ≤ v3.toInt
        · rw [cif_t h4]
          obtain ⟨n, n1, n2, -, -⟩ := ix_of (v := v3) (n := 25) ⟨h4, by omega⟩
          have hz : v2 = -1 ∨ v2 = 0 ∨ v2 = 1 := by
            rw [li_eq (y := -1), li_eq (y := 0), li_eq (y := 1)]
            show v2.toInt = -1 ∨ v2.toInt = 0 ∨ v2.toInt = 1
            omega
          exact go _ _ _ hz ⟨n, by omega, n2⟩
        · rw [cif_f h4]; exact h
      · rw [cif_f h3]; exact h
  · rw [cif_f h1]; exact h
theorem pc_mark (hC : cl_L w x g) (hS : sd_S x A4 A5 A6 g) (hwS : sd_wS A4 A5) : mu_mp w mm_X10_mark (d + 2) [.ref x, .int v1, .int v2, .int v3] g (cSh w x (pMark A4 A5 A6 v1 v2 v3) g) := by
  refine mu_mkp mk_X10_mark rfl (fun L hL Q hQ => fm_X10_mark_0 (mu_cI sp_X10_isSheet hL ?_))
  have hw := cl_w hC
  unfold pMark at hQ
  rw [cI_0]
  refine ⟨fun h => ?_, fun h => ?_⟩
  · replace h := Classical.not_not.mp h
    rw [cif_t h] at hQ
    obtain ⟨i, i1, rfl, i3, i2⟩ := ix_of (v := v1) (n := 4) ⟨h.1, by omega⟩
    rw [i3] at hQ
    obtain ⟨s1, s2, s3⟩ := hS i i1
    obtain ⟨-, n, n1, n2⟩ := hwS i i1
    have hin : mu_in (nI i) 4 := mu_in_n i1 (by omega)
    rw [n2, nI_clamp (by omega)] at hQ
    rw [cl_T hC, cl_R8 hC, cl_T8 hC, cl_N8 hC, i3, cl_RS hC i1, cl_S1 hC i1]
    refine ⟨rfl, ⟨by decide, by decide⟩, hin, rfl, mu_cI (sp_X5_isMissing (cl_S1 hC i1)) hL ?_⟩
    rw [cI_0, s1]
    refine ⟨fun h2 => ⟨cl_S1 hC i1, mu_cI (sp_X5_hasPlace (cl_S1 hC i1) (s2.trans n2) n1) hL ?_⟩, fun h2 => ?_⟩
    · rw [cif_f h2] at hQ
      rw [cI_0]
      refine ⟨fun h3 => ?_, fun h3 => ?_⟩
      · replace h3 := Classical.not_not.mp h3
        rw [cif_t h3] at hQ
        obtain ⟨k, k1, rfl, k3, k2⟩ := ix_of h3
        rw [k3] at hQ
        rw [cl_S1 hC i1, cl_S2 hC i1, cl_S3 hC i1, cl_S4 hC i1, k3]
        refine ⟨rfl, rfl, mu_in_n (by omega) (by omega), rfl, mu_cV (sp_X5_put (cl_S1 hC i1) (cl_S2 hC i1) (by omega) (cl_S3 hC i1) (cl_S4 hC i1) s1 (by omega)) hL ?_⟩
        have f1 : mu_fr (fun z => z = x + 138 + 2 * i ∨ z = x + 139 + 2 * i) g (mu_sI g (x + 139 + 2 * i) k (kpt (A4 i) v3)) := mu_fr_sI (Or.inr rfl)
        refine hQ _ _ ⟨_, rfl, s3 k (by omega), cl_fr hC f1, sd_one hS f1 (by rw [I_sI_a _ _ _ _ (by omega)]; exact s1) (by rw [I_sI_a _ _ _ _ (by omega)]; exact s2) (fun j hj => ?_) (fun j hj => rfl) (fun j hj => rfl) (fun j hj => pk_un (by omega)), mu_fr_mono f1 (fun a q => by omega)⟩ f1.2.2.2.1 f1.2.2.2.2.1
        by_cases e : j = k
        · rw [e, I_sI_same]; exact pk_us.symm
        · rw [I_sI_k _ _ _ e]
          exact (s3 j hj).trans (pk_un (by omega)).symm
      · rw [cif_f (fun q => h3 (fun z => z q))] at hQ
        exact sh_0 hC hQ rfl hS
    · rw [cif_t (Classical.not_not.mp h2)] at hQ
      exact sh_0 hC hQ rfl hS
  · rw [cif_f (fun q => h (fun z => z q))] at hQ
    exact sh_0 hC hQ rfl hS
theorem sh24 (v : Int32) : (v <<< ((24 : Int32) &&& 31)) >>> ((24 : Int32) &&& 31) = v.toInt8.toInt32 := by
  apply Int32.toInt_inj.mp
  rw [pk_shr _ _ 24 (by decide), Int8.toInt_toInt32, Int32.toInt_toInt8]
  have h := pk_shl v ((24 : Int32) &&& 31) 24 (by decide)
  have hl := v.toBitVec.isLt
  have e1 : (v <<< ((24 : Int32) &&& 31)).toInt = if 2 * (v <<< ((24 : Int32) &&& 31)).toBitVec.toNat < 2 ^ 32 then ((v <<< ((24 : Int32) &&& 31)).toBitVec.toNat : Int) else ((v <<< ((24 : Int32) &&& 31)).toBitVec.toNat : Int) - 2 ^ 32 := BitVec.toInt_eq_toNat_cond _
  have e2 : v.toInt = if 2 * v.toBitVec.toNat < 2 ^ 32 then (v.toBitVec.toNat : Int) else (v.toBitVec.toNat : Int) - 2 ^ 32 := BitVec.toInt_eq_toNat_cond _
  rw [e1, e2, h, Int.shiftRight_eq_div_pow, Int.bmod_def]
  generalize v.toBitVec.toNat = n at *
  omega
theorem pm_mark (hM : md_L w y g) (h4 : mu_I g (y + 4) = A4) (h5 : mu_I g (y + 5) = A5) (h6 : mu_I g (y + 6) = A6) (hwS : sd_wS A4 A5) : mu_mp w mm_X11_mark (d + 2) [.ref y, .int v1, .int v2, .int v3] g (mSh y (pMark A4 A5 A6 v1 v2 v3) g) := by
  refine mu_mkp mk_X11_mark rfl (fun L hL Q hQ => fm_X11_mark_0 (mu_cI sp_X11_isSheetN hL ?_))
  have hw6 := md_wj hM 6
  unfold pMark at hQ
  rw [cI_0]
  refine ⟨fun h => ?_, fun h => ?_⟩
  · replace h := Classical.not_not.mp h
    rw [cif_t h] at hQ
    obtain ⟨i, i1, rfl, i3, i2⟩ := ix_of (v := v1) (n := 4) ⟨h.1, by omega⟩
    rw [i3] at hQ
    obtain ⟨hso, n, n1, n2⟩ := hwS i i1
    have hin : mu_in (nI i) 4 := mu_in_n i1 (by omega)
    rw [n2, nI_clamp (by omega)] at hQ
    have m1 : 0 ≤ A4 i ↔ ¬ A4 i = -1 := by rcases hso with e | e | e <;> rw [e] <;> decide
    rw [md_T0 hM, md_R4 hM, md_T4 hM, md_N4 hM, md_R5 hM, md_T5 hM, md_N5 hM, h4, h5, i3, n2, m1]
    refine ⟨rfl, rfl, hin, fun h2 => ⟨rfl, rfl, hin, mu_cI (sp_X11_iN (a := 0) (b := (n : Int) - 1) rfl (by rw [Int32.toInt_toInt64]; exact li_cnt (by omega))) hL ?_⟩, fun h2 => ?_⟩
    · rw [cif_f h2] at hQ
      have ec : (0 ≤ v2.toInt ∧ v2.toInt ≤ (n : Int) - 1) ↔ (0 ≤ v2.toInt ∧ v2.toInt < (n : Int)) := by omega
      rw [cI_0, ec]
      refine ⟨fun h3 => ?_, fun h3 => ?_⟩
      · replace h3 := Classical.not_not.mp h3
        rw [cif_t h3] at hQ
        obtain ⟨k, k1, rfl, k3, k2⟩ := ix_of h3
        rw [k3] at hQ
        have e24 : (24 : Int32) * nI i + nI k = nI (24 * i + k) := by rw [li_n, pk_mul, nI_add]
        have hin6 : mu_in (nI (24 * i + k)) 96 := mu_in_n (by omega) (by omega)
        have fin : ∀ z, z = kpt (A4 i) v3 → Q (some (.int (A6 (24 * i + k)))) (mu_sI g (y + 6) (24 * i + k) z) := fun z e => by
          rw [e]
          have f1 : mu_fr (mShW y) g (mu_sI g (y + 6) (24 * i + k) (kpt (A4 i) v3)) := mu_fr_sI (Or.inr (Or.inr (Or.inl rfl)))
          exact hQ _ _ ⟨_, rfl, rfl, (mu_I_off _ _ _ (by omega)).trans h4, (mu_I_off _ _ _ (by omega)).trans h5, by rw [mu_I_upd, h6], f1⟩ f1.2.2.2.1 f1.2.2.2.2.1
        rw [md_T0 hM, md_R4 hM, md_T4 hM, md_N4 hM, md_R6 hM, md_T6 hM, md_N6 hM, h4, h6, e24, nI_clamp (by omega)]
        refine ⟨rfl, rfl, hin6, rfl, rfl, rfl, hin, fun h7 => ⟨fun h8 => ⟨hw6, rfl, hin6, fin _ ?_⟩, fun h8 => ⟨hw6, rfl, hin6, fin _ ?_⟩⟩, fun h7 => ⟨hw6, rfl, hin6, fin _ ?_⟩⟩
        · unfold kpt; rw [if_neg h7, if_pos h8]
        · unfold kpt; rw [if_neg h7, if_neg h8]
        · unfold kpt; rw [if_pos (Classical.not_not.mp h7)]; exact sh24 v3
      · rw [cif_f (fun q => h3 (fun z => z q))] at hQ
        exact mss_0 hQ rfl h4 h5 h6
    · rw [cif_t (Classical.not_not.mp h2)] at hQ
      exact mss_0 hQ rfl h4 h5 h6
  · rw [cif_f (fun q => h (fun z => z q))] at hQ
    exact mss_0 hQ rfl h4 h5 h6
theorem wS_mark (h : sd_wS A4 A5) : sd_wS (pMark A4 A5 A6 v1 v2 v3).2.1 (pMark A4 A5 A6 v1 v2 v3).2.2.1 := by
  have e : (pMark A4 A5 A6 v1 v2 v3).2.1 = A4 ∧ (pMark A4 A5 A6 v1 v2 v3).2.2.1 = A5 := by
    unfold pMark cif
    split
    · split
      · exact ⟨rfl, rfl⟩
      · split <;> exact ⟨rfl, rfl⟩
    · exact ⟨rfl, rfl⟩
  rw [e.1, e.2]
  exact h
end Sh6
