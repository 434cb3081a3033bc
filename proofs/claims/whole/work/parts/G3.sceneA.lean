/-! CLIENTS: what the scene's constructor leaves behind, up to its people -/
def c4 : Nat → Nat × Nat := fun j => match j with
  | 0 => (22, 8)
  | 1 => (23, 20)
  | 2 => (20, 20)
  | 3 => (20, 20)
  | 4 => (24, 14)
  | 5 => (20, 64)
  | 6 => (20, 6)
  | 7 => (20, 6)
  | _ => (20, 6)
/-- a log, made just now -/
def P0 (a : Nat) (g g' : mu_H) : Prop := (Zr g' ∧ mu_X g' = a + 3 ∧ mu_S g' = mu_S g + 113 ∧ mu_ft nO nO g g') ∧ (mu_T g' a = 1 ∧ mu_R g' a 0 = a + 1 ∧ mu_R g' a 1 = a + 2 ∧ mu_I g' a 2 = 0) ∧ (mu_T g' (a + 1) = 20 ∧ mu_N g' (a + 1) = 90) ∧ (mu_T g' (a + 2) = 20 ∧ mu_N g' (a + 2) = 20)
/-- the scene ahead of its people's loop -/
def P4a (a : Nat) (g g' : mu_H) : Prop := (Zr g' ∧ mu_X g' = a + 13 ∧ mu_S g' = mu_S g + 277 ∧ mu_ft (fun z => z = a) (fun z => z = a) g g') ∧ (mu_T g' a = 5 ∧ ∀ k, k < 10 → mu_R g' a k = a + (1 + k)) ∧ (∀ j, j < 9 → mu_T g' (a + 1 + j) = (c4 j).1 ∧ mu_N g' (a + 1 + j) = (c4 j).2 ∧ mu_I g' (a + 1 + j) = oZ ∧ mu_R g' (a + 1 + j) = fun _ => 0) ∧
  ((mu_T g' (a + 10) = 1 ∧ mu_R g' (a + 10) 0 = a + 11 ∧ mu_R g' (a + 10) 1 = a + 12 ∧ mu_I g' (a + 10) 2 = 0) ∧ (mu_T g' (a + 11) = 20 ∧ mu_N g' (a + 11) = 90) ∧ (mu_T g' (a + 12) = 20 ∧ mu_N g' (a + 12) = 20)) ∧ ((∀ k, 10 ≤ k → k < 18 → mu_I g' a k = 0) ∧ mu_I g' a 18 = 1)
section Ia
variable {w : mu_O} {a d : Nat} {g : mu_H} {L : Nat × Nat} {Q : Option Value → mu_H → Prop}
theorem new0 (hZ : Zr g) (ha : mu_X g = a) : P0 a g (inX0 (mu_sN g 1 0 3) a) := by
  subst ha
  have m1 : ¬ mu_X g = mu_X g + 1 := by omega
  have m2 : ¬ mu_X g = mu_X g + 1 + 1 := by omega
  have m3 : ¬ mu_X g + 1 = mu_X g := by omega
  have m4 : ¬ mu_X g + 1 = mu_X g + 1 + 1 := by omega
  have m5 : (mu_X g + 2 = mu_X g + 1 + 1) = True := eq_true (by omega)
  refine ⟨⟨?_, ?_, ?_, ?_⟩, ?_, ?_, ?_⟩
  · exact fun z hz => Zr_sN (t := 20) (n := 20) (v := 20) (g := mu_sR (mu_sN (mu_sN g 1 0 3) 20 90 90) (mu_X g) 0 (mu_X g + 1)) (Zr_sN (t := 20) (n := 90) (v := 90) (Zr_sN (t := 1) (n := 0) (v := 3) hZ)) z hz
  · rfl
  · show mu_S g + 3 + 90 + 20 = _
    omega
  · refine ft_new (t := 1) (n := 0) (v := 3) hZ ?_
    have z1 : Zr (mu_sN g 1 0 3) := Zr_sN hZ
    have z2 : Zr (mu_sN (mu_sN g 1 0 3) 20 90 90) := Zr_sN z1
    exact ft_tr (ft_tr (ft_tr (ft_tr (ft_sN z1) (ft_sR rfl)) (ft_sN z2)) (ft_sR rfl)) (ft_sI rfl)
  · unfold inX0
    simp only [mu_T_sI, mu_R_sI, gT_sR, gR_sR, gT_sN, gR_sN, gX_sR, gX_sN, mu_I_sI, m1, m2, true_and, if_true, and_self, Nat.zero_ne_one, if_false, and_false]
  · unfold inX0
    simp only [mu_T_sI, mu_N_sI, gT_sR, gN_sR, gT_sN, gN_sN, gX_sR, gX_sN, m3, m4, if_true, if_false, and_self]
  · unfold inX0
    simp only [mu_T_sI, mu_N_sI, gT_sR, gN_sR, gT_sN, gN_sN, gX_sR, gX_sN, m5, if_true, and_self]
theorem f1I {A B : Nat → Prop} {z k : Nat} {v : Int32} (h : A z) : mu_fw A B g (mu_sI g z k v) := ⟨rfl, rfl, fun _ _ => rfl, rfl, rfl, fun y q => gI_o (fun e => q (by rw [e]; exact h))⟩
theorem f9 {b v : Nat} : mu_fw (fun z => z = a) (fun z => z = a) g (mu_sI (mu_sI (mu_sI (mu_sI (mu_sI (mu_sI (mu_sI (mu_sI (mu_sI (mu_sR g a b v) a 10 0) a 11 0) a 12 0) a 13 0) a 14 0) a 15 0) a 16 0) a 17 0) a 18 1) :=
  fw_tr (fw_tr (fw_tr (fw_tr (fw_tr (fw_tr (fw_tr (fw_tr (fw_tr (fw_sR rfl) (f1I rfl)) (f1I rfl)) (f1I rfl)) (f1I rfl)) (f1I rfl)) (f1I rfl)) (f1I rfl)) (f1I rfl)) (f1I rfl)
theorem i9 : (∀ k, 10 ≤ k → k < 18 → mu_I (mu_sI (mu_sI (mu_sI (mu_sI (mu_sI (mu_sI (mu_sI (mu_sI (mu_sI g a 10 0) a 11 0) a 12 0) a 13 0) a 14 0) a 15 0) a 16 0) a 17 0) a 18 1) a k = 0) ∧ mu_I (mu_sI (mu_sI (mu_sI (mu_sI (mu_sI (mu_sI (mu_sI (mu_sI (mu_sI g a 10 0) a 11 0) a 12 0) a 13 0) a 14 0) a 15 0) a 16 0) a 17 0) a 18 1) a 18 = 1 := by
  refine ⟨fun k k1 k2 => ?_, by rw [mu_I_sI, if_pos ⟨rfl, rfl⟩]⟩
  rcases (show k = 10 ∨ k = 11 ∨ k = 12 ∨ k = 13 ∨ k = 14 ∨ k = 15 ∨ k = 16 ∨ k = 17 by omega) with rfl | rfl | rfl | rfl | rfl | rfl | rfl | rfl <;> simp only [mu_I_sI, true_and, if_true, and_self, Nat.reduceEqDiff, if_false, and_false]
theorem r9 {b v : Nat} : ∀ k, mu_R (mu_sI (mu_sI (mu_sI (mu_sI (mu_sI (mu_sI (mu_sI (mu_sI (mu_sI (mu_sR g a b v) a 10 0) a 11 0) a 12 0) a 13 0) a 14 0) a 15 0) a 16 0) a 17 0) a 18 1) a k = if k = b then v else mu_R g a k := fun k => by
  rw [mu_R_sI, mu_R_sI, mu_R_sI, mu_R_sI, mu_R_sI, mu_R_sI, mu_R_sI, mu_R_sI, mu_R_sI, gR_sR]
  simp only [true_and]
theorem go_X4_a (ha : w.1 < a) (hX : mu_X g = a + 1) (hZ : Zr g) (hT : mu_T g a = 5) (l1 : a + 13 ≤ L.1) (l2 : mu_S g + 277 ≤ L.2) (hQ : ∀ g', P4a a g g' → mu_go w mm_X4_init (d + 2) L Q 137 [some (.ref a), some (.int (0 : Int32))] [] g') : mu_go w mm_X4_init (d + 2) L Q 0 [some (.ref a), none] [] g := by
  refine fm_X4_init_0 ?_
  have h0 := aw_0 (F := fun k => k) (c := c4) (D := fun _ => oZ) hX hZ
  refine ⟨by omega, mi8, (aw_L h0 oi8 (by omega) (by omega)).1, (aw_L h0 oi8 (by omega) (by omega)).2, fun g1 e1 => ?_⟩
  have h1 := aw_N h0 oi8 e1 rfl rfl
  refine ⟨aw_T h1 hT, mi20, (aw_L h1 oi20 (by omega) (by omega)).1, (aw_L h1 oi20 (by omega) (by omega)).2, fun g2 e2 => ?_⟩
  have h2 := aw_N (aw_R h1 (k := 0) rfl (aw_X h0) (fun j q => Nat.ne_of_lt q)) oi20 e2 rfl rfl
  refine ⟨aw_T h2 hT, mi20, (aw_L h2 oi20 (by omega) (by omega)).1, (aw_L h2 oi20 (by omega) (by omega)).2, fun g3 e3 => ?_⟩
  have h3 := aw_N (aw_R h2 (k := 1) rfl (aw_X h1) (fun j q => Nat.ne_of_lt q)) oi20 e3 rfl rfl
  refine ⟨aw_T h3 hT, mi20, (aw_L h3 oi20 (by omega) (by omega)).1, (aw_L h3 oi20 (by omega) (by omega)).2, fun g4 e4 => ?_⟩
  have h4 := aw_N (aw_R h3 (k := 2) rfl (aw_X h2) (fun j q => Nat.ne_of_lt q)) oi20 e4 rfl rfl
  refine ⟨aw_T h4 hT, mi14, (aw_L h4 oi14 (by omega) (by omega)).1, (aw_L h4 oi14 (by omega) (by omega)).2, fun g5 e5 => ?_⟩
  have h5 := aw_N (aw_R h4 (k := 3) rfl (aw_X h3) (fun j q => Nat.ne_of_lt q)) oi14 e5 rfl rfl
  refine ⟨aw_T h5 hT, mi64, (aw_L h5 oi64 (by omega) (by omega)).1, (aw_L h5 oi64 (by omega) (by omega)).2, fun g6 e6 => ?_⟩
  have h6 := aw_N (aw_R h5 (k := 4) rfl (aw_X h4) (fun j q => Nat.ne_of_lt q)) oi64 e6 rfl rfl
  refine ⟨aw_T h6 hT, mi6, (aw_L h6 oi6 (by omega) (by omega)).1, (aw_L h6 oi6 (by omega) (by omega)).2, fun g7 e7 => ?_⟩
  have h7 := aw_N (aw_R h6 (k := 5) rfl (aw_X h5) (fun j q => Nat.ne_of_lt q)) oi6 e7 rfl rfl
  refine ⟨aw_T h7 hT, mi6, (aw_L h7 oi6 (by omega) (by omega)).1, (aw_L h7 oi6 (by omega) (by omega)).2, fun g8 e8 => ?_⟩
  have h8 := aw_N (aw_R h7 (k := 6) rfl (aw_X h6) (fun j q => Nat.ne_of_lt q)) oi6 e8 rfl rfl
  refine ⟨aw_T h8 hT, mi6, (aw_L h8 oi6 (by omega) (by omega)).1, (aw_L h8 oi6 (by omega) (by omega)).2, fun g9 e9 => ?_⟩
  have h9 := aw_N (aw_R h8 (k := 7) rfl (aw_X h7) (fun j q => Nat.ne_of_lt q)) oi6 e9 rfl rfl
  have hR := aw_R h9 (k := 8) rfl (aw_X h8) (fun j q => Nat.ne_of_lt q)
  have hN := new0 (aw_Z hR) (a := a + 10) (aw_X hR)
  have X9 : mu_X g9 = a + 10 := aw_X h9
  have S9 := aw_S hR
  refine ⟨aw_T h9 hT, by omega, by rw [aw_S h9]; omega, fun g10 e10 => ⟨by omega, ?_⟩⟩
  subst e10
  rw [X9]
  have hm := sp_X0_init (w := w) (d := d) (a := a + 10) (g := mu_sN (mu_sR g9 a 8 (mu_X g8)) 1 0 3) (by omega) (by rw [gT_sN, if_pos (aw_X hR).symm]) (by rw [gX_sN, aw_X hR]; omega)
  generalize inX0 (mu_sN (mu_sR g9 a 8 (mu_X g8)) 1 0 3) (a + 10) = g11 at hm hN
  obtain ⟨⟨n1, n2, n3, n4⟩, ⟨n5, n6, n7, n8⟩, n9, n10⟩ := hN
  refine mu_cV hm ⟨by omega, by omega⟩ ?_
  have T11 : mu_T g11 a = 5 := ft_T n4 (aw_T hR hT)
  refine ⟨T11, T11, T11, T11, T11, T11, T11, T11, T11, T11, ?_⟩
  have hf := f9 (g := g11) (a := a) (b := 9) (v := a + 10)
  have iA := i9 (g := mu_sR g11 a 9 (a + 10)) (a := a)
  have rA := r9 (g := g11) (a := a) (b := 9) (v := a + 10)
  generalize mu_sI (mu_sI (mu_sI (mu_sI (mu_sI (mu_sI (mu_sI (mu_sI (mu_sI (mu_sR g11 a 9 (a + 10)) a 10 0) a 11 0) a 12 0) a 13 0) a 14 0) a 15 0) a 16 0) a 17 0) a 18 1 = gS at hf iA rA ⊢
  obtain ⟨f1, f2, f3, f4, f5, f6⟩ := id hf
  refine hQ _ ⟨⟨fun z hz => ?_, f4.trans (n2.trans (by omega)), f5.trans (n3.trans (by omega)), ft_tr (ft_mono (aw_ft hR) (fun _ q => q.elim) (fun _ q => q)) (ft_tr (ft_mono n4 (fun _ q => q.elim) (fun _ q => q.elim)) (ft_fw hf))⟩, ⟨by rw [f1]; exact T11, fun k hk => ?_⟩, fun j hj => ?_, ⟨⟨by rw [f1]; exact n5, ?_, ?_, ?_⟩, by rw [f1, f2]; exact n9, by rw [f1, f2]; exact n10⟩, iA⟩
  · rw [f1]; exact n1 z (by rw [← f4]; exact hz)
  · by_cases q : k = 9
    · subst q
      rw [rA, if_pos rfl]
    · rw [rA, if_neg q, ft_R n4 (aw_T hR hT) (fun p => p)]
      exact aw_r hR (by omega) rfl (by omega)
  · obtain ⟨p1, p2, p3, p4⟩ := aw_c hR hj rfl
    obtain ⟨q1, q2, q3, q4⟩ := n4 (a + 1 + j) (by rw [p1]; unfold c4; split <;> decide)
    have nA : ¬ (a + 1 + j = a) := by omega
    rw [f1, f2, f3 _ nA, f6 _ nA, q1, q2, q3 (fun p => p), q4 (fun p => p)]
    exact ⟨p1, p2, p3, p4⟩
  · rw [f3 _ (show ¬ (a + 10 = a) by omega)]; exact n6
  · rw [f3 _ (show ¬ (a + 10 = a) by omega)]; exact n7
  · rw [f6 _ (show ¬ (a + 10 = a) by omega)]; exact n8
end Ia
