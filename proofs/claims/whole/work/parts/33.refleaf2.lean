/-! CLIENTS: the reference's leaves over its row s -/
theorem mi_n {p n : Nat} (h : p < 2 ^ 31) : mu_in (nI p) n ↔ p < n := by
  unfold mu_in
  rw [nI_toInt h]
  omega
theorem li_cnt {n : Nat} (h : n < 2 ^ 31) : (nI n - 1).toInt = (n : Int) - 1 := by
  rw [li_sub] <;> rw [nI_toInt h] <;> simp <;> omega
section Rl2
variable {w : mu_O} {d y : Nat} {g : mu_H} {s : Nat → Int32}
theorem sp_X11_field {m k : Nat} (hM : md_L w y g) (hs : mu_I g (y + 1) = s) (h : 60 + 8 * m + k < 3470) : mu_met w mm_X11_field (d + 1) [.ref y, .int (nI m), .int (nI k)] g (some (.int (s (60 + 8 * m + k)))) g := by
  refine mu_mk mk_X11_field rfl rfl rfl (fun L hL Q hQ => fm_X11_field_0 ⟨md_T0 hM, md_T0 hM, mu_cI sp_X11_moveAt hL ?_⟩)
  simp (disch := omega) only [md_R0 hM, md_T1 hM, md_N1 hM, hs, li_n, nI_add, pk_mul, nI_clamp, nI_ltI, nI_leI, nI_eq, mi_n, Nat.add_zero, true_and, and_true, true_or, or_true, false_or, or_false, not_false_eq_true, not_true_eq_false, implies_true, forall_const, ne_eq, Classical.not_not, reduceCtorEq]
  exact ⟨h, hQ⟩
theorem sp_X11_isBlow {m : Nat} (hM : md_L w y g) (hs : mu_I g (y + 1) = s) (h : m < 400) : mu_met w mm_X11_isBlow (d + 2) [.ref y, .int (nI m)] g (some (.int (bI (2 ≤ (s (60 + 8 * m + 1)).toInt ∧ (s (60 + 8 * m + 1)).toInt ≤ 4)))) g :=
  mu_mk mk_X11_isBlow rfl rfl rfl (fun L hL Q hQ => fm_X11_isBlow_0 ⟨md_T0 hM, mu_cI (sp_X11_field (k := 1) hM hs (by omega)) hL (mu_cI sp_X11_isBlowKind hL ⟨bI_01 _, hQ⟩)⟩)
theorem sp_X11_isDone {m : Nat} (hM : md_L w y g) (hs : mu_I g (y + 1) = s) (h : m < 400) : mu_met w mm_X11_isDone (d + 3) [.ref y, .int (nI m)] g (some (.int (bI ((2 ≤ (s (60 + 8 * m + 1)).toInt ∧ (s (60 + 8 * m + 1)).toInt ≤ 4) ∧ s (60 + 8 * m + 7) = 0)))) g := by
  refine mu_mk mk_X11_isDone rfl rfl rfl (fun L hL Q hQ => fm_X11_isDone_0 ⟨md_T0 hM, mu_cI (sp_X11_isBlow hM hs h) hL ?_⟩)
  have h0 := bq hQ
  simp only [bI_0]
  refine ⟨fun h1 => ?_, fun h1 => ⟨md_T0 hM, mu_cI (sp_X11_field (k := 7) hM hs (by omega)) hL ?_⟩⟩
  · grind
  · grind
theorem sp_X11_wanted {m : Nat} {p : Int32} (hM : md_L w y g) (hs : mu_I g (y + 1) = s) (h : m < 400) : mu_met w mm_X11_wanted (d + 2) [.ref y, .int (nI m), .int p] g (some (.int (if p = s (60 + 8 * m + 5) then s (60 + 8 * m + 6) / 2 else s (60 + 8 * m + 6)))) g := by
  refine mu_mk mk_X11_wanted rfl rfl rfl (fun L hL Q hQ => fm_X11_wanted_0 ⟨md_T0 hM, mu_cI (sp_X11_field (k := 5) hM hs (by omega)) hL ?_⟩)
  refine ⟨fun h1 => ⟨md_T0 hM, mu_cI (sp_X11_field (k := 6) hM hs (by omega)) hL ?_⟩, fun h1 => ⟨md_T0 hM, mu_cI (sp_X11_field (k := 6) hM hs (by omega)) hL ⟨by decide, ?_⟩⟩⟩
  · rw [if_neg h1] at hQ; exact hQ
  · rw [if_pos (Classical.not_not.mp h1)] at hQ; exact hQ
theorem sp_X11_isPersonN {v : Int32} {n : Nat} (hM : md_L w y g) (hs : mu_I g (y + 1) = s) (hn : s 0 = nI n) (h : n < 2 ^ 31) : mu_met w mm_X11_isPerson (d + 1) [.ref y, .int v] g (some (.int (bI (0 ≤ v.toInt ∧ v.toInt < (n : Int))))) g := by
  have := sp_X11_isPerson (d := d) (v := v) hM
  rw [hs, hn, li_cnt h, bI_c (show _ ↔ (0 ≤ v.toInt ∧ v.toInt < (n : Int)) by omega)] at this
  exact this
theorem sp_X11_isMove {v : Int32} {n : Nat} (hM : md_L w y g) (hs : mu_I g (y + 1) = s) (hn : s 1 = nI n) (h : n < 2 ^ 31) : mu_met w mm_X11_isMove (d + 1) [.ref y, .int v] g (some (.int (bI (0 ≤ v.toInt ∧ v.toInt < (n : Int))))) g := by
  refine mu_mk mk_X11_isMove rfl rfl rfl (fun L hL Q hQ => fm_X11_isMove_0 ?_)
  simp only [md_T0 hM, md_R0 hM, md_T1 hM, md_N1 hM, hs, hn, true_and, and_true, true_or, or_true, false_or, or_false, not_false_eq_true, not_true_eq_false, implies_true, forall_const, ne_eq, Classical.not_not, reduceCtorEq]
  refine ⟨mu_in_n (p := 1) (by decide) (by decide), mu_cI sp_X11_isIn hL ⟨bI_01 _, ?_⟩⟩
  rw [bI_c (show _ ↔ (0 ≤ v.toInt ∧ v.toInt < (n : Int)) by simp [li_cnt h]; omega)]
  exact hQ
theorem sp_X11_isWeapon {v : Int32} {n : Nat} (hM : md_L w y g) (hs : mu_I g (y + 1) = s) (hn : s 5 = nI n) (h : n < 2 ^ 31) : mu_met w mm_X11_isWeapon (d + 1) [.ref y, .int v] g (some (.int (bI (0 ≤ v.toInt ∧ v.toInt < (n : Int))))) g := by
  refine mu_mk mk_X11_isWeapon rfl rfl rfl (fun L hL Q hQ => fm_X11_isWeapon_0 ?_)
  simp only [md_T0 hM, md_R0 hM, md_T1 hM, md_N1 hM, hs, hn, true_and, and_true, true_or, or_true, false_or, or_false, not_false_eq_true, not_true_eq_false, implies_true, forall_const, ne_eq, Classical.not_not, reduceCtorEq]
  refine ⟨mu_in_n (p := 5) (by decide) (by decide), mu_cI sp_X11_isIn hL ⟨bI_01 _, ?_⟩⟩
  rw [bI_c (show _ ↔ (0 ≤ v.toInt ∧ v.toInt < (n : Int)) by simp [li_cnt h]; omega)]
  exact hQ
theorem sp_X11_isText {v : Int32} {n : Nat} (hM : md_L w y g) (hs : mu_I g (y + 1) = s) (hn : s 3 = nI n) (h : n < 2 ^ 31) : mu_met w mm_X11_isText (d + 1) [.ref y, .int v] g (some (.int (bI (0 ≤ v.toInt ∧ v.toInt < (n : Int))))) g := by
  refine mu_mk mk_X11_isText rfl rfl rfl (fun L hL Q hQ => fm_X11_isText_0 ?_)
  simp only [md_T0 hM, md_R0 hM, md_T1 hM, md_N1 hM, hs, hn, true_and, and_true, true_or, or_true, false_or, or_false, not_false_eq_true, not_true_eq_false, implies_true, forall_const, ne_eq, Classical.not_not, reduceCtorEq]
  refine ⟨mu_in_n (p := 3) (by decide) (by decide), mu_cI sp_X11_isIn hL ⟨bI_01 _, ?_⟩⟩
  rw [bI_c (show _ ↔ (0 ≤ v.toInt ∧ v.toInt < (n : Int)) by simp [li_cnt h]; omega)]
  exact hQ
theorem sp_X11_isPlace {v : Int32} : mu_met w mm_X11_isPlace (d + 1) [.int v] g (some (.int (bI ((0 ≤ v.toInt ∧ v.toInt ≤ 117) ∧ v % 10 < 8)))) g := by
  refine mu_mk mk_X11_isPlace rfl rfl rfl (fun L hL Q hQ => fm_X11_isPlace_0 (mu_cI sp_X11_isIn hL ?_))
  have h0 := bq hQ
  rw [bI_c (show _ ↔ (0 ≤ v.toInt ∧ v.toInt ≤ 117) by simp)]
  simp only [bI_0, ← Int32.not_lt]
  grind
theorem sp_X11_isTwo {a b : Int32} {n : Nat} (hM : md_L w y g) (hs : mu_I g (y + 1) = s) (hn : s 0 = nI n) (h : n < 2 ^ 31) : mu_met w mm_X11_isTwo (d + 2) [.ref y, .int a, .int b] g (some (.int (bI ((0 ≤ a.toInt ∧ a.toInt < (n : Int)) ∧ (0 ≤ b.toInt ∧ b.toInt < (n : Int)) ∧ a ≠ b)))) g := by
  refine mu_mk mk_X11_isTwo rfl rfl rfl (fun L hL Q hQ => fm_X11_isTwo_0 ⟨md_T0 hM, mu_cI (sp_X11_isPersonN hM hs hn h) hL ?_⟩)
  have h0 := bq hQ
  simp only [bI_0]
  refine ⟨fun h1 => ?_, fun h1 => ⟨md_T0 hM, mu_cI (sp_X11_isPersonN hM hs hn h) hL ?_⟩⟩
  · grind
  · simp only [bI_0]; grind
theorem sp_X11_isSheet {v : Int32} : mu_met w mm_X11_isSheet (d + 1) [.int v] g (some (.int (bI (0 ≤ v.toInt ∧ v.toInt ≤ 3)))) g := by
  refine mu_mk mk_X11_isSheet rfl rfl rfl (fun L hL Q hQ => fm_X11_isSheet_0 (mu_cI sp_X11_isIn hL ⟨bI_01 _, ?_⟩))
  rw [bI_c (show _ ↔ (0 ≤ v.toInt ∧ v.toInt ≤ 3) by simp)]
  exact hQ
theorem sp_X11_isSlot {v : Int32} : mu_met w mm_X11_isSlot (d + 1) [.int v] g (some (.int (bI (0 ≤ v.toInt ∧ v.toInt ≤ 4)))) g := by
  refine mu_mk mk_X11_isSlot rfl rfl rfl (fun L hL Q hQ => fm_X11_isSlot_0 (mu_cI sp_X11_isIn hL ⟨bI_01 _, ?_⟩))
  rw [bI_c (show _ ↔ (0 ≤ v.toInt ∧ v.toInt ≤ 4) by simp)]
  exact hQ
theorem sp_X11_placeOf {p : Nat} {t : Int32} (hM : md_L w y g) (hp : p < 8) (h : 0 ≤ t.toInt + 10 ∧ t.toInt + 10 < 121) : mu_met w mm_X11_placeOf d [.ref y, .int (nI p), .int t] g (some (.int (mu_I g (y + 15) (121 * p + (t.toInt + 10).toNat)))) g := by
  refine mu_mk mk_X11_placeOf rfl rfl rfl (fun L hL Q hQ => fm_X11_placeOf_0 ?_)
  have e : (121 * nI p + t + 10 : Int32) = nI (121 * p + (t.toInt + 10).toNat) := by
    have e1 : (121 * nI p : Int32) = nI (121 * p) := by rw [li_n, pk_mul]
    have e2 : (nI (121 * p)).toInt = ((121 * p : Nat) : Int) := nI_toInt (by omega)
    apply li_nI
    rw [e1, li_add, li_add, e2]
    · simp; omega
    · rw [e2]; omega
    · rw [li_add, e2]
      · simp; omega
      · rw [e2]; omega
  simp only [md_T0 hM, md_R15 hM, md_T15 hM, md_N15 hM, e, true_and, and_true, true_or, or_true, false_or, or_false, not_false_eq_true, not_true_eq_false, implies_true, forall_const, ne_eq, Classical.not_not, reduceCtorEq]
  rw [mi_n (by omega), nI_clamp (by omega)]
  exact ⟨by omega, hQ⟩
end Rl2
