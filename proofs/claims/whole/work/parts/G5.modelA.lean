/-! REFERENCE: what its constructor leaves behind -/
def cM : Nat → Nat × Nat := fun j => (20, md_N (j + 1))
def fM : Nat → Nat := fun j => md_A.getD j 0
def dM : Nat → Nat → Int32 := fun j => match j with
  | 10 => six 0 0 2 3 1 0
  | 11 => six 0 1 5 7 2 4
  | 12 => six 1 1 2 3 2 3
  | 13 => six 0 0 1 2 0 0
  | _ => oZ
section Im
variable {w : mu_O} {a d f i u : Nat} {g g0 g1 : mu_H} {L : Nat × Nat} {Q : Option Value → mu_H → Prop} {F : Nat → Nat} {c : Nat → Nat × Nat} {D : Nat → Nat → Int32}
theorem aw_E (h : aw_P a g0 F c D f i u g) {t n n' k z : Nat} (en : n' = n) (e : g1 = mu_sN g t n' n') (hT : mu_T g0 a = k + 1) (hz : z = a + 1 + i) : mu_X g1 = a + 1 + (i + 1) ∧ mu_S g1 = mu_S g0 + (u + n) ∧ mu_T g1 a = k + 1 ∧ mu_T g1 z = t ∧ mu_N g1 z = n := by
  have hz : z = mu_X g := hz.trans (aw_X h).symm
  subst en
  subst e
  subst hz
  have hT' := aw_T h hT
  have q : a ≠ mu_X g := by rw [aw_X h]; omega
  refine ⟨?_, ?_, ?_, N_Tx, N_Nx⟩
  · rw [gX_sN, aw_X h]; omega
  · rw [gS_sN, aw_S h]; omega
  · rw [N_T q]; exact hT'
theorem rX {k x : Nat} (h : mu_X g = a + 1 + k) (l : a + x ≤ L.1) (hk : k + 2 ≤ x) : mu_X g + 1 ≤ L.1 := by omega
theorem rS {S u n n' M : Nat} (h : mu_S g = S + u) (en : n' = n) (l : S + M ≤ L.2) (hk : u + n ≤ M) : mu_S g + n' ≤ L.2 := by omega
theorem fM_0 : ∀ j, j < 0 → fM j ≠ 0 := by decide
theorem fM_1 : ∀ j, j < 1 → fM j ≠ 1 := by decide
theorem fM_2 : ∀ j, j < 2 → fM j ≠ 2 := by decide
theorem fM_3 : ∀ j, j < 3 → fM j ≠ 4 := by decide
theorem fM_4 : ∀ j, j < 4 → fM j ≠ 5 := by decide
theorem fM_5 : ∀ j, j < 5 → fM j ≠ 6 := by decide
theorem fM_6 : ∀ j, j < 6 → fM j ≠ 7 := by decide
theorem fM_7 : ∀ j, j < 7 → fM j ≠ 8 := by decide
theorem fM_8 : ∀ j, j < 8 → fM j ≠ 9 := by decide
theorem fM_9 : ∀ j, j < 9 → fM j ≠ 10 := by decide
theorem fM_10 : ∀ j, j < 10 → fM j ≠ 11 := by decide
theorem fM_11 : ∀ j, j < 11 → fM j ≠ 12 := by decide
theorem fM_12 : ∀ j, j < 12 → fM j ≠ 13 := by decide
theorem fM_13 : ∀ j, j < 13 → fM j ≠ 14 := by decide
theorem fM_14 : ∀ j, j < 14 → fM j ≠ 15 := by decide
theorem fM_15 : ∀ j, j < 15 → fM j ≠ 16 := by decide
theorem fM_16 : ∀ j, j < 16 → fM j ≠ 19 := by decide
theorem fM_17 : ∀ j, j < 17 → fM j ≠ 20 := by decide
theorem fM_18 : ∀ j, j < 18 → fM j ≠ 32 := by decide
theorem fM_19 : ∀ j, j < 19 → fM j ≠ 33 := by decide
theorem fM_20 : ∀ j, j < 20 → fM j ≠ 35 := by decide
theorem fM_21 : ∀ j, j < 21 → fM j ≠ 36 := by decide
theorem fM_22 : ∀ j, j < 22 → fM j ≠ 37 := by decide
theorem fM_23 : ∀ j, j < 23 → fM j ≠ 38 := by decide
theorem fM_24 : ∀ j, j < 24 → fM j ≠ 40 := by decide
theorem go_X11_a (ha : w.1 < a) (hX : mu_X g = a + 1) (hZ : Zr g) (hT : mu_T g a = 12) (l1 : a + 26 ≤ L.1) (l2 : mu_S g + 12143 ≤ L.2) (hQ : ∀ g', aw_P a g fM cM dM 25 25 12143 g' → mu_go w mm_X11_init (d + 1) L Q 309 [some (.ref a), some (.int (0 : Int32))] [] (mu_sI g' (a + 1) 8 1)) : mu_go w mm_X11_init (d + 1) L Q 0 [some (.ref a), none] [] g := by
  refine fm_X11_init_0 ?_
  have wa : ∀ {z k : Nat}, z = a + 1 + k → w.1 < z := fun q => by omega
  have h0 := aw_0 (F := fM) (c := cM) (D := dM) hX hZ
  have X0 : mu_X g = a + 1 + 0 := hX
  have S0 : mu_S g = mu_S g + 0 := rfl
  refine ⟨Nat.ne_of_gt (Nat.lt_of_le_of_lt (Nat.zero_le _) ha), mi3470, rX X0 l1 (by decide), rS S0 oi3470 l2 (by decide), fun g1 e1 => ?_⟩
  have b0 := h0
  obtain ⟨X1, S1, T1, t1, n1⟩ := aw_E b0 oi3470 e1 hT (z := mu_X g) X0
  have h1 := aw_N b0 oi3470 e1 rfl rfl
  refine ⟨T1, mi3470, rX X1 l1 (by decide), rS S1 oi3470 l2 (by decide), fun g2 e2 => ?_⟩
  have b1 := aw_R h1 (k := 0) rfl X0 fM_0
  obtain ⟨X2, S2, T2, t2, n2⟩ := aw_E b1 oi3470 e2 hT (z := mu_X g1) X1
  have h2 := aw_N b1 oi3470 e2 rfl rfl
  refine ⟨T2, mi3470, rX X2 l1 (by decide), rS S2 oi3470 l2 (by decide), fun g3 e3 => ?_⟩
  have b2 := aw_R h2 (k := 1) rfl X1 fM_1
  obtain ⟨X3, S3, T3, t3, n3⟩ := aw_E b2 oi3470 e3 hT (z := mu_X g2) X2
  have h3 := aw_N b2 oi3470 e3 rfl rfl
  refine ⟨T3, mi4, rX X3 l1 (by decide), rS S3 oi4 l2 (by decide), fun g4 e4 => ?_⟩
  have b3 := aw_R h3 (k := 2) rfl X2 fM_2
  obtain ⟨X4, S4, T4, t4, n4⟩ := aw_E b3 oi4 e4 hT (z := mu_X g3) X3
  have h4 := aw_N b3 oi4 e4 rfl rfl
  refine ⟨T4, mi4, rX X4 l1 (by decide), rS S4 oi4 l2 (by decide), fun g5 e5 => ?_⟩
  have b4 := aw_R h4 (k := 4) rfl X3 fM_3
  obtain ⟨X5, S5, T5, t5, n5⟩ := aw_E b4 oi4 e5 hT (z := mu_X g4) X4
  have h5 := aw_N b4 oi4 e5 rfl rfl
  refine ⟨T5, mi96, rX X5 l1 (by decide), rS S5 oi96 l2 (by decide), fun g6 e6 => ?_⟩
  have b5 := aw_R h5 (k := 5) rfl X4 fM_4
  obtain ⟨X6, S6, T6, t6, n6⟩ := aw_E b5 oi96 e6 hT (z := mu_X g5) X5
  have h6 := aw_N b5 oi96 e6 rfl rfl
  refine ⟨T6, mi5, rX X6 l1 (by decide), rS S6 oi5 l2 (by decide), fun g7 e7 => ?_⟩
  have b6 := aw_R h6 (k := 6) rfl X5 fM_5
  obtain ⟨X7, S7, T7, t7, n7⟩ := aw_E b6 oi5 e7 hT (z := mu_X g6) X6
  have h7 := aw_N b6 oi5 e7 rfl rfl
  refine ⟨T7, mi5, rX X7 l1 (by decide), rS S7 oi5 l2 (by decide), fun g8 e8 => ?_⟩
  have b7 := aw_R h7 (k := 7) rfl X6 fM_6
  obtain ⟨X8, S8, T8, t8, n8⟩ := aw_E b7 oi5 e8 hT (z := mu_X g7) X7
  have h8 := aw_N b7 oi5 e8 rfl rfl
  refine ⟨T8, mi5, rX X8 l1 (by decide), rS S8 oi5 l2 (by decide), fun g9 e9 => ?_⟩
  have b8 := aw_R h8 (k := 8) rfl X7 fM_7
  obtain ⟨X9, S9, T9, t9, n9⟩ := aw_E b8 oi5 e9 hT (z := mu_X g8) X8
  have h9 := aw_N b8 oi5 e9 rfl rfl
  refine ⟨T9, mi120, rX X9 l1 (by decide), rS S9 oi120 l2 (by decide), fun g10 e10 => ?_⟩
  have b9 := aw_R h9 (k := 9) rfl X8 fM_8
  obtain ⟨X10, S10, T10, t10, n10⟩ := aw_E b9 oi120 e10 hT (z := mu_X g9) X9
  have h10 := aw_N b9 oi120 e10 rfl rfl
  refine ⟨T10, mi6, rX X10 l1 (by decide), rS S10 oi6 l2 (by decide), fun g11 e11 => ?_⟩
  have b10 := aw_R h10 (k := 10) rfl X9 fM_9
  obtain ⟨X11, S11, T11, t11, n11⟩ := aw_E b10 oi6 e11 hT (z := mu_X g10) X10
  have h11 := aw_N6 b10 (z := mu_X g10) (v0 := 0) (v1 := 0) (v2 := 2) (v3 := 3) (v4 := 1) (v5 := 0) oi6 e11 X10 rfl rfl
  refine ⟨wa X10, t11, by rw [n11]; exact mu_in_n (p := 0) (by decide) (by decide), ?_⟩
  refine ⟨wa X10, t11, by rw [n11]; exact mu_in_n (p := 1) (by decide) (by decide), ?_⟩
  refine ⟨wa X10, t11, by rw [n11]; exact mu_in_n (p := 2) (by decide) (by decide), ?_⟩
  refine ⟨wa X10, t11, by rw [n11]; exact mu_in_n (p := 3) (by decide) (by decide), ?_⟩
  refine ⟨wa X10, t11, by rw [n11]; exact mu_in_n (p := 4) (by decide) (by decide), ?_⟩
  refine ⟨wa X10, t11, by rw [n11]; exact mu_in_n (p := 5) (by decide) (by decide), ?_⟩
  refine ⟨T11, mi6, rX X11 l1 (by decide), rS S11 oi6 l2 (by decide), fun g12 e12 => ?_⟩
  have b11 := aw_R h11 (k := 11) rfl X10 fM_10
  obtain ⟨X12, S12, T12, t12, n12⟩ := aw_E b11 oi6 e12 hT (z := mu_X g11) X11
  have h12 := aw_N6 b11 (z := mu_X g11) (v0 := 0) (v1 := 1) (v2 := 5) (v3 := 7) (v4 := 2) (v5 := 4) oi6 e12 X11 rfl rfl
  refine ⟨wa X11, t12, by rw [n12]; exact mu_in_n (p := 0) (by decide) (by decide), ?_⟩
  refine ⟨wa X11, t12, by rw [n12]; exact mu_in_n (p := 1) (by decide) (by decide), ?_⟩
  refine ⟨wa X11, t12, by rw [n12]; exact mu_in_n (p := 2) (by decide) (by decide), ?_⟩
  refine ⟨wa X11, t12, by rw [n12]; exact mu_in_n (p := 3) (by decide) (by decide), ?_⟩
  refine ⟨wa X11, t12, by rw [n12]; exact mu_in_n (p := 4) (by decide) (by decide), ?_⟩
  refine ⟨wa X11, t12, by rw [n12]; exact mu_in_n (p := 5) (by decide) (by decide), ?_⟩
  refine ⟨T12, mi6, rX X12 l1 (by decide), rS S12 oi6 l2 (by decide), fun g13 e13 => ?_⟩
  have b12 := aw_R h12 (k := 12) rfl X11 fM_11
  obtain ⟨X13, S13, T13, t13, n13⟩ := aw_E b12 oi6 e13 hT (z := mu_X g12) X12
  have h13 := aw_N6 b12 (z := mu_X g12) (v0 := 1) (v1 := 1) (v2 := 2) (v3 := 3) (v4 := 2) (v5 := 3) oi6 e13 X12 rfl rfl
  refine ⟨wa X12, t13, by rw [n13]; exact mu_in_n (p := 0) (by decide) (by decide), ?_⟩
  refine ⟨wa X12, t13, by rw [n13]; exact mu_in_n (p := 1) (by decide) (by decide), ?_⟩
  refine ⟨wa X12, t13, by rw [n13]; exact mu_in_n (p := 2) (by decide) (by decide), ?_⟩
  refine ⟨wa X12, t13, by rw [n13]; exact mu_in_n (p := 3) (by decide) (by decide), ?_⟩
  refine ⟨wa X12, t13, by rw [n13]; exact mu_in_n (p := 4) (by decide) (by decide), ?_⟩
  refine ⟨wa X12, t13, by rw [n13]; exact mu_in_n (p := 5) (by decide) (by decide), ?_⟩
  refine ⟨T13, mi6, rX X13 l1 (by decide), rS S13 oi6 l2 (by decide), fun g14 e14 => ?_⟩
  have b13 := aw_R h13 (k := 13) rfl X12 fM_12
  obtain ⟨X14, S14, T14, t14, n14⟩ := aw_E b13 oi6 e14 hT (z := mu_X g13) X13
  have h14 := aw_N6 b13 (z := mu_X g13) (v0 := 0) (v1 := 0) (v2 := 1) (v3 := 2) (v4 := 0) (v5 := 0) oi6 e14 X13 rfl rfl
  refine ⟨wa X13, t14, by rw [n14]; exact mu_in_n (p := 0) (by decide) (by decide), ?_⟩
  refine ⟨wa X13, t14, by rw [n14]; exact mu_in_n (p := 1) (by decide) (by decide), ?_⟩
  refine ⟨wa X13, t14, by rw [n14]; exact mu_in_n (p := 2) (by decide) (by decide), ?_⟩
  refine ⟨wa X13, t14, by rw [n14]; exact mu_in_n (p := 3) (by decide) (by decide), ?_⟩
  refine ⟨wa X13, t14, by rw [n14]; exact mu_in_n (p := 4) (by decide) (by decide), ?_⟩
  refine ⟨wa X13, t14, by rw [n14]; exact mu_in_n (p := 5) (by decide) (by decide), ?_⟩
  refine ⟨T14, mi968, rX X14 l1 (by decide), rS S14 oi968 l2 (by decide), fun g15 e15 => ?_⟩
  have b14 := aw_R h14 (k := 14) rfl X13 fM_13
  obtain ⟨X15, S15, T15, t15, n15⟩ := aw_E b14 oi968 e15 hT (z := mu_X g14) X14
  have h15 := aw_N b14 oi968 e15 rfl rfl
  refine ⟨T15, mi20, rX X15 l1 (by decide), rS S15 oi20 l2 (by decide), fun g16 e16 => ?_⟩
  have b15 := aw_R h15 (k := 15) rfl X14 fM_14
  obtain ⟨X16, S16, T16, t16, n16⟩ := aw_E b15 oi20 e16 hT (z := mu_X g15) X15
  have h16 := aw_N b15 oi20 e16 rfl rfl
  refine ⟨T16, mi8, rX X16 l1 (by decide), rS S16 oi8 l2 (by decide), fun g17 e17 => ?_⟩
  have b16 := aw_R h16 (k := 16) rfl X15 fM_15
  obtain ⟨X17, S17, T17, t17, n17⟩ := aw_E b16 oi8 e17 hT (z := mu_X g16) X16
  have h17 := aw_N b16 oi8 e17 rfl rfl
  refine ⟨T17, mi96, rX X17 l1 (by decide), rS S17 oi96 l2 (by decide), fun g18 e18 => ?_⟩
  have b17 := aw_R h17 (k := 19) rfl X16 fM_16
  obtain ⟨X18, S18, T18, t18, n18⟩ := aw_E b17 oi96 e18 hT (z := mu_X g17) X17
  have h18 := aw_N b17 oi96 e18 rfl rfl
  refine ⟨T18, mi128, rX X18 l1 (by decide), rS S18 oi128 l2 (by decide), fun g19 e19 => ?_⟩
  have b18 := aw_R h18 (k := 20) rfl X17 fM_17
  obtain ⟨X19, S19, T19, t19, n19⟩ := aw_E b18 oi128 e19 hT (z := mu_X g18) X18
  have h19 := aw_N b18 oi128 e19 rfl rfl
  refine ⟨T19, mi100, rX X19 l1 (by decide), rS S19 oi100 l2 (by decide), fun g20 e20 => ?_⟩
  have b19 := aw_R h19 (k := 32) rfl X18 fM_18
  obtain ⟨X20, S20, T20, t20, n20⟩ := aw_E b19 oi100 e20 hT (z := mu_X g19) X19
  have h20 := aw_N b19 oi100 e20 rfl rfl
  refine ⟨T20, mi3, rX X20 l1 (by decide), rS S20 oi3 l2 (by decide), fun g21 e21 => ?_⟩
  have b20 := aw_R h20 (k := 33) rfl X19 fM_19
  obtain ⟨X21, S21, T21, t21, n21⟩ := aw_E b20 oi3 e21 hT (z := mu_X g20) X20
  have h21 := aw_N b20 oi3 e21 rfl rfl
  refine ⟨T21, mi3, rX X21 l1 (by decide), rS S21 oi3 l2 (by decide), fun g22 e22 => ?_⟩
  have b21 := aw_R h21 (k := 35) rfl X20 fM_20
  obtain ⟨X22, S22, T22, t22, n22⟩ := aw_E b21 oi3 e22 hT (z := mu_X g21) X21
  have h22 := aw_N b21 oi3 e22 rfl rfl
  refine ⟨T22, mi24, rX X22 l1 (by decide), rS S22 oi24 l2 (by decide), fun g23 e23 => ?_⟩
  have b22 := aw_R h22 (k := 36) rfl X21 fM_21
  obtain ⟨X23, S23, T23, t23, n23⟩ := aw_E b22 oi24 e23 hT (z := mu_X g22) X22
  have h23 := aw_N b22 oi24 e23 rfl rfl
  refine ⟨T23, mi60, rX X23 l1 (by decide), rS S23 oi60 l2 (by decide), fun g24 e24 => ?_⟩
  have b23 := aw_R h23 (k := 37) rfl X22 fM_22
  obtain ⟨X24, S24, T24, t24, n24⟩ := aw_E b23 oi60 e24 hT (z := mu_X g23) X23
  have h24 := aw_N b23 oi60 e24 rfl rfl
  refine ⟨T24, mi60, rX X24 l1 (by decide), rS S24 oi60 l2 (by decide), fun g25 e25 => ?_⟩
  have b24 := aw_R h24 (k := 38) rfl X23 fM_23
  obtain ⟨X25, S25, T25, t25, n25⟩ := aw_E b24 oi60 e25 hT (z := mu_X g24) X24
  have h25 := aw_N b24 oi60 e25 rfl rfl
  have hF := aw_R h25 (k := 40) rfl X24 fM_24
  have r0 : mu_R (mu_sR g25 a 40 (mu_X g24)) a 0 = a + 1 := aw_r hF (k := 0) (by decide) rfl rfl
  have c0 := aw_c h25 (j := 0) (z := a + 1) (by decide) rfl
  rw [r0]
  exact ⟨T25, T25, wa (k := 0) rfl, c0.1, by rw [c0.2.1]; exact mu_in_n (p := 8) (n := 3470) (by decide) (by decide), hQ _ hF⟩
end Im
