/-! CLIENTS: the reference's leaves -/
section Rl
variable {w : mu_O} {d y : Nat} {g : mu_H}
theorem sp_X11_orNone {v : Int32} : mu_met w mm_X11_orNone d [.int v] g (some (.int (if v.toInt < 0 then -1000000005 else v))) g := by
  refine mu_mk mk_X11_orNone rfl rfl rfl (fun L hL Q hQ => fm_X11_orNone_0 ?_)
  simp only [li_lt, li_le]
  refine ⟨fun h => ?_, fun h => ?_⟩
  · rw [if_neg (by simp at h ⊢; omega)] at hQ; exact hQ
  · rw [if_pos (by simp at h ⊢; omega)] at hQ; exact hQ
theorem sp_X11_least {a b : Int32} : mu_met w mm_X11_least d [.int a, .int b] g (some (.int (if a.toInt < b.toInt then a else b))) g := by
  refine mu_mk mk_X11_least rfl rfl rfl (fun L hL Q hQ => fm_X11_least_0 ?_)
  simp only [li_lt, li_le]
  refine ⟨fun h => ?_, fun h => ?_⟩
  · rw [if_neg (by omega)] at hQ; exact hQ
  · rw [if_pos (by omega)] at hQ; exact hQ
theorem sp_X11_heldIn {v m : Int32} : mu_met w mm_X11_heldIn d [.int v, .int m] g (some (.int (if v.toInt < 0 then 0 else if m.toInt < v.toInt then m else v))) g := by
  refine mu_mk mk_X11_heldIn rfl rfl rfl (fun L hL Q hQ => fm_X11_heldIn_0 ?_)
  simp only [li_lt, li_le]
  refine ⟨fun h => ?_, fun h => ?_⟩
  · rw [if_neg (by simp at h ⊢; omega)] at hQ
    refine ⟨fun h2 => ?_, fun h2 => ?_⟩
    · rw [if_neg (by omega)] at hQ; exact hQ
    · rw [if_pos (by omega)] at hQ; exact hQ
  · rw [if_pos (by simp at h ⊢; omega)] at hQ; exact hQ
/-- what was found is found anew -/
def md_stale (y : Nat) (g : mu_H) : mu_H := mu_sI (mu_sI g y 17 0) y 18 0
theorem sp_X11_stale (hM : md_L w y g) : mu_met w mm_X11_stale d [.ref y] g none (md_stale y g) := by
  refine mu_mk mk_X11_stale rfl rfl rfl (fun L hL Q hQ => fm_X11_stale_0 ?_)
  exact ⟨md_T0 hM, Or.inl rfl, md_T0 hM, Or.inl rfl, hQ⟩
theorem sp_X11_becomes {v x : Int32} (hM : md_L w y g) (hv : mu_in v 3470) : mu_met w mm_X11_becomes (d + 1) [.ref y, .int v, .int x] g (some (.int (mu_I g (y + 1) v.toNatClampNeg))) (mu_sI (md_stale y g) (y + 1) v.toNatClampNeg x) := by
  refine mu_mk mk_X11_becomes rfl rfl rfl (fun L hL Q hQ => fm_X11_becomes_0 ⟨md_T0 hM, mu_cV (sp_X11_stale hM) hL ?_⟩)
  have hM' : md_L w y (md_stale y g) := hM
  simp only [md_T0 hM', md_R0 hM', md_R1 hM', md_R2 hM', md_R4 hM', md_R5 hM', md_R6 hM', md_R7 hM', md_R8 hM', md_R9 hM', md_R10 hM', md_R11 hM', md_R12 hM', md_R13 hM', md_R14 hM', md_R15 hM', md_R16 hM', md_R19 hM', md_R20 hM', md_R32 hM', md_R33 hM', md_R35 hM', md_R36 hM', md_R37 hM', md_R38 hM', md_R40 hM', md_T1 hM', md_T2 hM', md_T3 hM', md_T4 hM', md_T5 hM', md_T6 hM', md_T7 hM', md_T8 hM', md_T9 hM', md_T10 hM', md_T11 hM', md_T12 hM', md_T13 hM', md_T14 hM', md_T15 hM', md_T16 hM', md_T17 hM', md_T18 hM', md_T19 hM', md_T20 hM', md_T21 hM', md_T22 hM', md_T23 hM', md_T24 hM', md_T25 hM', md_N1 hM', md_N2 hM', md_N3 hM', md_N4 hM', md_N5 hM', md_N6 hM', md_N7 hM', md_N8 hM', md_N9 hM', md_N10 hM', md_N11 hM', md_N12 hM', md_N13 hM', md_N14 hM', md_N15 hM', md_N16 hM', md_N17 hM', md_N18 hM', md_N19 hM', md_N20 hM', md_N21 hM', md_N22 hM', md_N23 hM', md_N24 hM', md_N25 hM', true_and, and_true, true_or, or_true, false_or, or_false, not_false_eq_true, not_true_eq_false, implies_true, forall_const, ne_eq, Classical.not_not, reduceCtorEq, hv, md_wj hM']
  have e : mu_I (md_stale y g) (y + 1) v.toNatClampNeg = mu_I g (y + 1) v.toNatClampNeg := by simp [md_stale, mu_I_sI]
  rw [e]
  exact hQ
theorem sp_X11_isPerson {v : Int32} (hM : md_L w y g) : mu_met w mm_X11_isPerson (d + 1) [.ref y, .int v] g (some (.int (bI (0 ≤ v.toInt ∧ v.toInt ≤ (mu_I g (y + 1) 0 - 1).toInt)))) g := by
  refine mu_mk mk_X11_isPerson rfl rfl rfl (fun L hL Q hQ => fm_X11_isPerson_0 ?_)
  simp only [md_T0 hM, md_R0 hM, md_R1 hM, md_R2 hM, md_R4 hM, md_R5 hM, md_R6 hM, md_R7 hM, md_R8 hM, md_R9 hM, md_R10 hM, md_R11 hM, md_R12 hM, md_R13 hM, md_R14 hM, md_R15 hM, md_R16 hM, md_R19 hM, md_R20 hM, md_R32 hM, md_R33 hM, md_R35 hM, md_R36 hM, md_R37 hM, md_R38 hM, md_R40 hM, md_T1 hM, md_T2 hM, md_T3 hM, md_T4 hM, md_T5 hM, md_T6 hM, md_T7 hM, md_T8 hM, md_T9 hM, md_T10 hM, md_T11 hM, md_T12 hM, md_T13 hM, md_T14 hM, md_T15 hM, md_T16 hM, md_T17 hM, md_T18 hM, md_T19 hM, md_T20 hM, md_T21 hM, md_T22 hM, md_T23 hM, md_T24 hM, md_T25 hM, md_N1 hM, md_N2 hM, md_N3 hM, md_N4 hM, md_N5 hM, md_N6 hM, md_N7 hM, md_N8 hM, md_N9 hM, md_N10 hM, md_N11 hM, md_N12 hM, md_N13 hM, md_N14 hM, md_N15 hM, md_N16 hM, md_N17 hM, md_N18 hM, md_N19 hM, md_N20 hM, md_N21 hM, md_N22 hM, md_N23 hM, md_N24 hM, md_N25 hM, true_and, and_true, true_or, or_true, false_or, or_false, not_false_eq_true, not_true_eq_false, implies_true, forall_const, ne_eq, Classical.not_not, reduceCtorEq]
  refine ⟨mu_in_n (p := 0) (by decide) (by decide), mu_cI sp_X11_isIn hL ⟨bI_01 _, ?_⟩⟩
  rw [bI_c (show _ ↔ (0 ≤ v.toInt ∧ v.toInt ≤ (mu_I g (y + 1) 0 - 1).toInt) by simp)]
  exact hQ
theorem bq {C : Prop} [Decidable C] {Q : Option Value → mu_H → Prop} (hQ : Q (some (.int (bI C))) g) : (C → Q (some (.int 1)) g) ∧ (¬ C → Q (some (.int 0)) g) := by
  refine ⟨fun h => ?_, fun h => ?_⟩
  · rw [bI_t h] at hQ; exact hQ
  · rw [bI_f h] at hQ; exact hQ
theorem sp_X11_meet {a n b m : Int32} : mu_met w mm_X11_meet d [.int a, .int n, .int b, .int m] g (some (.int (bI (a < b + m ∧ b < a + n)))) g := by
  refine mu_mk mk_X11_meet rfl rfl rfl (fun L hL Q hQ => fm_X11_meet_0 ?_)
  have h0 := bq hQ
  simp only [← Int32.not_lt]
  grind
theorem sp_X11_isBlowKind {v : Int32} : mu_met w mm_X11_isBlowKind (d + 1) [.int v] g (some (.int (bI (2 ≤ v.toInt ∧ v.toInt ≤ 4)))) g := by
  refine mu_mk mk_X11_isBlowKind rfl rfl rfl (fun L hL Q hQ => fm_X11_isBlowKind_0 (mu_cI sp_X11_isIn hL ⟨bI_01 _, ?_⟩))
  rw [bI_c (show _ ↔ (2 ≤ v.toInt ∧ v.toInt ≤ 4) by simp)]
  exact hQ
theorem sp_X11_isOf {a k : Int32} : mu_met w mm_X11_isOf (d + 2) [.int a, .int k] g (some (.int (bI (k = 0 ∨ a = k ∨ (k = 2 ∧ 2 ≤ a.toInt ∧ a.toInt ≤ 4))))) g := by
  refine mu_mk mk_X11_isOf rfl rfl rfl (fun L hL Q hQ => fm_X11_isOf_0 ?_)
  have h0 := bq hQ
  refine ⟨fun h => ?_, fun h => ⟨fun h1 => ?_, fun h1 => ⟨fun h2 => ?_, fun h2 => mu_cI sp_X11_isBlowKind hL ?_⟩⟩⟩
  · grind
  · grind
  · grind
  · simp only [bI_0]
    grind
end Rl
