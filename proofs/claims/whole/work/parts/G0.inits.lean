/-! CLIENTS: what the constructors leave behind: the small ones -/
def inX0 (g : mu_H) (a : Nat) : mu_H := mu_sI (mu_sR (mu_sN (mu_sR (mu_sN g 20 90 90) a 0 (mu_X g)) 20 20 20) a 1 (mu_X g + 1)) a 2 0
def inX3 (g : mu_H) (a b : Nat) : mu_H := mu_sR (mu_sR (mu_sN g 20 96 96) a 1 (mu_X g)) a 0 b
def inX5 (g : mu_H) (a : Nat) : mu_H := mu_sI (mu_sI (mu_sR (mu_sN g 21 24 24) a 0 (mu_X g)) a 1 (-1)) a 2 0
def inX6 (g : mu_H) (a b c : Nat) : mu_H := mu_sR (mu_sR (mu_sR (mu_sN (mu_sR (mu_sN g 20 3 3) a 2 (mu_X g)) 20 3 3) a 5 (mu_X g + 1)) a 0 b) a 1 c
def inX7 (g : mu_H) (a : Nat) : mu_H := mu_sI (mu_sI (mu_sI (mu_sR (inX5 (mu_sN g 6 0 3) (mu_X g)) a 0 (mu_X g)) a 1 0) a 2 0) a 3 0
def inX8 (g : mu_H) (a b : Nat) : mu_H := mu_sR (mu_sR (mu_sN (mu_sR (mu_sN (mu_sR (mu_sN (mu_sR (mu_sN g 20 808 808) a 0 (mu_X g)) 20 808 808) a 1 (mu_X g + 1)) 20 8 8) a 2 (mu_X g + 2)) 20 8 8) a 3 (mu_X g + 3)) a 4 b
section In
variable {w : mu_O} {d a b c : Nat} {g : mu_H}
theorem sp_X1_init (ha : a ≠ 0) : mu_met w mm_X1_init (d + 1) [.ref a] g none g := mu_mkN mk_X1_init rfl (Nat.le_refl _) (Nat.le_refl _) (fun L hL Q hQ => fm_X1_init_0 ⟨ha, hQ⟩)
theorem sp_X2_init (ha : a ≠ 0) : mu_met w mm_X2_init (d + 1) [.ref a] g none g := mu_mkN mk_X2_init rfl (Nat.le_refl _) (Nat.le_refl _) (fun L hL Q hQ => fm_X2_init_0 ⟨ha, hQ⟩)
theorem sp_X0_init (ha : a ≠ 0) (hT : mu_T g a = 1) (hx : a < mu_X g) : mu_met w mm_X0_init (d + 1) [.ref a] g none (inX0 g a) := by
  refine mu_mkN mk_X0_init rfl (show mu_X g ≤ mu_X g + 2 by omega) (show mu_S g ≤ mu_S g + 90 + 20 by omega) (fun L hL Q hQ => fm_X0_init_0 ?_)
  have l1 : mu_X g + 2 ≤ L.1 := hL.1
  have l2 : mu_S g + 90 + 20 ≤ L.2 := hL.2
  have T1 : mu_T (mu_sN g 20 90 90) a = 1 := by rw [N_T (by omega)]; exact hT
  refine ⟨ha, mu_in_n (p := 90) (by decide) (by decide), by omega, show mu_S g + 90 ≤ _ by omega, fun g1 e1 => ?_⟩
  subst e1
  refine ⟨T1, mu_in_n (p := 20) (by decide) (by decide), l1, l2, fun g2 e2 => ?_⟩
  subst e2
  have T2 : mu_T (mu_sN (mu_sR (mu_sN g 20 90 90) a 0 (mu_X g)) 20 20 20) a = 1 := by rw [N_T (by show a ≠ mu_X g + 1; omega)]; exact T1
  exact ⟨T2, T2, hQ⟩
theorem sp_X3_init (ha : a ≠ 0) (hT : mu_T g a = 4) (hx : a < mu_X g) : mu_met w mm_X3_init (d + 1) [.ref a, .ref b] g none (inX3 g a b) := by
  refine mu_mkN mk_X3_init rfl (show mu_X g ≤ mu_X g + 1 by omega) (show mu_S g ≤ mu_S g + 96 by omega) (fun L hL Q hQ => fm_X3_init_0 ?_)
  have T1 : mu_T (mu_sN g 20 96 96) a = 4 := by rw [N_T (by omega)]; exact hT
  refine ⟨ha, mu_in_n (p := 96) (by decide) (by decide), hL.1, hL.2, fun g1 e1 => ?_⟩
  subst e1
  exact ⟨T1, T1, hQ⟩
theorem sp_X5_init (ha : a ≠ 0) (hT : mu_T g a = 6) (hx : a < mu_X g) : mu_met w mm_X5_init (d + 1) [.ref a] g none (inX5 g a) := by
  refine mu_mkN mk_X5_init rfl (show mu_X g ≤ mu_X g + 1 by omega) (show mu_S g ≤ mu_S g + 24 by omega) (fun L hL Q hQ => fm_X5_init_0 ?_)
  have T1 : mu_T (mu_sN g 21 24 24) a = 6 := by rw [N_T (by omega)]; exact hT
  refine ⟨ha, mu_in_n (p := 24) (by decide) (by decide), hL.1, hL.2, fun g1 e1 => ?_⟩
  subst e1
  exact ⟨T1, T1, T1, hQ⟩
theorem sp_X6_init (ha : a ≠ 0) (hT : mu_T g a = 7) (hx : a < mu_X g) : mu_met w mm_X6_init (d + 1) [.ref a, .ref b, .ref c] g none (inX6 g a b c) := by
  refine mu_mkN mk_X6_init rfl (show mu_X g ≤ mu_X g + 2 by omega) (show mu_S g ≤ mu_S g + 3 + 3 by omega) (fun L hL Q hQ => fm_X6_init_0 ?_)
  have l1 : mu_X g + 2 ≤ L.1 := hL.1
  have l2 : mu_S g + 3 + 3 ≤ L.2 := hL.2
  have T1 : mu_T (mu_sN g 20 3 3) a = 7 := by rw [N_T (by omega)]; exact hT
  refine ⟨ha, mu_in_n (p := 3) (by decide) (by decide), by omega, show mu_S g + 3 ≤ _ by omega, fun g1 e1 => ?_⟩
  subst e1
  refine ⟨T1, mu_in_n (p := 3) (by decide) (by decide), l1, l2, fun g2 e2 => ?_⟩
  subst e2
  have T2 : mu_T (mu_sN (mu_sR (mu_sN g 20 3 3) a 2 (mu_X g)) 20 3 3) a = 7 := by rw [N_T (by show a ≠ mu_X g + 1; omega)]; exact T1
  exact ⟨T2, T2, T2, hQ⟩
theorem sp_X7_init (ha : a ≠ 0) (hT : mu_T g a = 8) (hx : a < mu_X g) : mu_met w mm_X7_init (d + 2) [.ref a] g none (inX7 g a) := by
  refine mu_mkN mk_X7_init rfl (show mu_X g ≤ mu_X g + 2 by omega) (show mu_S g ≤ mu_S g + 3 + 24 by omega) (fun L hL Q hQ => fm_X7_init_0 ?_)
  have l1 : mu_X g + 2 ≤ L.1 := hL.1
  have l2 : mu_S g + 3 + 24 ≤ L.2 := hL.2
  have T1 : mu_T (mu_sN g 6 0 3) a = 8 := by rw [N_T (by omega)]; exact hT
  refine ⟨ha, by omega, by omega, fun g1 e1 => ?_⟩
  subst e1
  refine ⟨by omega, mu_cV (sp_X5_init (d := d) (by omega) N_Tx (show mu_X g < mu_X g + 1 by omega)) hL ?_⟩
  have T2 : mu_T (inX5 (mu_sN g 6 0 3) (mu_X g)) a = 8 := by
    have : mu_T (inX5 (mu_sN g 6 0 3) (mu_X g)) a = mu_T (mu_sN g 6 0 3) a := N_T (t := 21) (n := 24) (v := 24) (by show a ≠ mu_X g + 1; omega)
    rw [this]; exact T1
  exact ⟨T2, T2, T2, T2, hQ⟩
end In
