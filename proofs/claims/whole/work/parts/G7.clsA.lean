/-! CLIENTS: the class's constructor: sheets and slots -/
def P5 (a : Nat) (g g' : mu_H) : Prop := (Zr g' ∧ mu_X g' = a + 2 ∧ mu_S g' = mu_S g + 27 ∧ mu_ft nO nO g g') ∧ (mu_T g' a = 6 ∧ mu_R g' a 0 = a + 1 ∧ mu_T g' (a + 1) = 21 ∧ mu_N g' (a + 1) = 24) ∧ (mu_I g' a 1 = -1 ∧ mu_I g' a 2 = 0 ∧ mu_I g' (a + 1) = oZ)
def P7 (a : Nat) (g g' : mu_H) : Prop := (Zr g' ∧ mu_X g' = a + 3 ∧ mu_S g' = mu_S g + 31 ∧ mu_ft nO nO g g') ∧ (mu_T g' a = 8 ∧ mu_R g' a 0 = a + 1 ∧ mu_T g' (a + 1) = 6 ∧ mu_R g' (a + 1) 0 = a + 2 ∧ mu_T g' (a + 2) = 21 ∧ mu_N g' (a + 2) = 24) ∧ mu_I g' a 1 = 0
def P3 (a b : Nat) (g g' : mu_H) : Prop := (Zr g' ∧ mu_X g' = a + 2 ∧ mu_S g' = mu_S g + 105 ∧ mu_ft nO nO g g') ∧ mu_T g' a = 4 ∧ mu_R g' a 0 = b ∧ mu_R g' a 1 = a + 1 ∧ mu_T g' (a + 1) = 20 ∧ mu_N g' (a + 1) = 96
def P6 (a b c : Nat) (g g' : mu_H) : Prop := (Zr g' ∧ mu_X g' = a + 3 ∧ mu_S g' = mu_S g + 12 ∧ mu_ft nO nO g g') ∧ mu_T g' a = 7 ∧ mu_R g' a 0 = b ∧ mu_R g' a 1 = c ∧ mu_R g' a 2 = a + 1 ∧ mu_R g' a 5 = a + 2 ∧ (mu_T g' (a + 1) = 20 ∧ mu_N g' (a + 1) = 3) ∧ (mu_T g' (a + 2) = 20 ∧ mu_N g' (a + 2) = 3)
section Ic
variable {w : mu_O} {a b c d x r i v : Nat} {g g1 g2 : mu_H} {L : Nat × Nat} {Q : Option Value → mu_H → Prop}
theorem new5 (hZ : Zr g) (ha : mu_X g = a) : P5 a g (inX5 (mu_sN g 6 0 3) a) := by
  subst ha
  have m1 : ¬ mu_X g = mu_X g + 1 := by omega
  have m3 : ¬ mu_X g + 1 = mu_X g := by omega
  have z1 : Zr (mu_sN g 6 0 3) := Zr_sN hZ
  refine ⟨⟨Zr_sN (t := 21) (n := 24) (v := 24) z1, rfl, ?_, ?_⟩, ?_, ?_⟩
  · show mu_S g + 3 + 24 = _
    omega
  · refine ft_new (t := 6) (n := 0) (v := 3) hZ ?_
    exact ft_tr (ft_tr (ft_tr (ft_sN z1) (ft_sR rfl)) (ft_sI rfl)) (ft_sI rfl)
  · unfold inX5
    simp only [mu_T_sI, mu_N_sI, mu_R_sI, gT_sR, gN_sR, gR_sR, gT_sN, gN_sN, gX_sN, m1, m3, if_true, if_false, true_and, and_self]
  · unfold inX5
    refine ⟨?_, ?_, funext fun k => ?_⟩ <;> simp only [mu_I_sI, gI_sR, gI_sN, gX_sN, m1, m3, if_true, if_false, true_and, false_and, and_self, and_false, Nat.reduceEqDiff, oZ]
theorem f4S {a v : Nat} : mu_fw (fun z => z = a) (fun z => z = a) g (mu_sI (mu_sI (mu_sI (mu_sR g a 0 v) a 1 0) a 2 0) a 3 0) := fw_tr (fw_tr (fw_tr (fw_sR rfl) (f1I rfl)) (f1I rfl)) (f1I rfl)
theorem i4S {a v : Nat} : mu_R (mu_sI (mu_sI (mu_sI (mu_sR g a 0 v) a 1 0) a 2 0) a 3 0) a 0 = v ∧ mu_I (mu_sI (mu_sI (mu_sI (mu_sR g a 0 v) a 1 0) a 2 0) a 3 0) a 1 = 0 := by
  constructor
  · rw [mu_R_sI, mu_R_sI, mu_R_sI, gR_sR, if_pos ⟨rfl, rfl⟩]
  · rw [mu_I_sI, if_neg (by omega), mu_I_sI, if_neg (by omega), mu_I_sI, if_pos ⟨rfl, rfl⟩]
theorem inX7_eq {g a} : inX7 g a = mu_sI (mu_sI (mu_sI (mu_sR (inX5 (mu_sN g 6 0 3) (mu_X g)) a 0 (mu_X g)) a 1 0) a 2 0) a 3 0 := rfl
theorem new7 (hZ : Zr g) (ha : mu_X g = a) : P7 a g (inX7 (mu_sN g 8 0 4) a) := by
  have z1 : Zr (mu_sN g 8 0 4) := Zr_sN hZ
  have e1 : mu_X (mu_sN g 8 0 4) = a + 1 := by rw [gX_sN, ha]
  have hs : mu_S (mu_sN g 8 0 4) = mu_S g + 4 := gS_sN
  have T0 : mu_T (mu_sN g 8 0 4) a = 7 + 1 := by rw [← ha]; exact N_Tx
  have I0 : mu_I (mu_sN g 8 0 4) a = oZ := by rw [← ha]; exact gI_x
  rw [inX7_eq, e1]
  have hg : mu_ft (fun z => z = mu_X g) (fun z => z = mu_X g) (mu_sN g 8 0 4) (mu_sN g 8 0 4) := ft_rf
  have hn : ∀ g2, mu_ft (fun z => z = mu_X g) (fun z => z = mu_X g) (mu_sN g 8 0 4) g2 → mu_ft nO nO g g2 := fun g2 q => ft_new hZ q
  generalize mu_sN g 8 0 4 = g0 at z1 e1 hs T0 I0 hg hn ⊢
  obtain ⟨⟨p1, p2, p3, p4⟩, ⟨p5, p6, p7, p8⟩, -⟩ := new5 z1 e1
  generalize inX5 (mu_sN g0 6 0 3) (a + 1) = g1 at p1 p2 p3 p4 p5 p6 p7 p8 ⊢
  have hf := f4S (g := g1) (a := a) (v := a + 1)
  have iA := i4S (g := g1) (a := a) (v := a + 1)
  generalize mu_sI (mu_sI (mu_sI (mu_sR g1 a 0 (a + 1)) a 1 0) a 2 0) a 3 0 = g2 at hf iA ⊢
  obtain ⟨f1, f2, f3, f4, f5, f6⟩ := id hf
  refine ⟨⟨fun z hz => ?_, by omega, by omega, ?_⟩, ⟨?_, iA.1, by rw [f1]; exact p5, ?_, by rw [f1]; exact p7, by rw [f2]; exact p8⟩, iA.2⟩
  · rw [f1]; exact p1 z (by rw [← f4]; exact hz)
  · refine hn g2 (ft_tr (ft_mono p4 (fun _ q => q.elim) (fun _ q => q.elim)) ?_)
    rw [ha]
    exact ft_fw hf
  · rw [f1]; exact ft_T p4 T0
  · rw [f3 (a + 1) (by omega)]; exact p6
theorem new3 (hZ : Zr g) (ha : mu_X g = a) : P3 a b g (inX3 (mu_sN g 4 0 9) a b) := by
  subst ha
  have m1 : ¬ mu_X g = mu_X g + 1 := by omega
  have m3 : ¬ mu_X g + 1 = mu_X g := by omega
  have z1 : Zr (mu_sN g 4 0 9) := Zr_sN hZ
  refine ⟨⟨Zr_sN (t := 20) (n := 96) (v := 96) z1, rfl, ?_, ?_⟩, ?_⟩
  · show mu_S g + 9 + 96 = _
    omega
  · refine ft_new (t := 4) (n := 0) (v := 9) hZ ?_
    exact ft_tr (ft_tr (ft_sN z1) (ft_sR rfl)) (ft_sR rfl)
  · unfold inX3
    simp only [gT_sR, gN_sR, gR_sR, gT_sN, gN_sN, gX_sN, m1, m3, if_true, if_false, true_and, and_self, Nat.one_ne_zero]
theorem new6 (hZ : Zr g) (ha : mu_X g = a) : P6 a b c g (inX6 (mu_sN g 7 0 6) a b c) := by
  subst ha
  have m1 : ¬ mu_X g = mu_X g + 1 := by omega
  have m2 : ¬ mu_X g = mu_X g + 1 + 1 := by omega
  have m3 : ¬ mu_X g + 1 = mu_X g := by omega
  have m4 : ¬ mu_X g + 1 = mu_X g + 1 + 1 := by omega
  have m5 : (mu_X g + 2 = mu_X g + 1 + 1) = True := eq_true (by omega)
  have z1 : Zr (mu_sN g 7 0 6) := Zr_sN hZ
  have z2 : Zr (mu_sN (mu_sN g 7 0 6) 20 3 3) := Zr_sN z1
  refine ⟨⟨?_, rfl, ?_, ?_⟩, ?_⟩
  · exact fun z hz => Zr_sN (t := 20) (n := 3) (v := 3) (g := mu_sR (mu_sN (mu_sN g 7 0 6) 20 3 3) (mu_X g) 2 (mu_X g + 1)) z2 z hz
  · show mu_S g + 6 + 3 + 3 = _
    omega
  · refine ft_new (t := 7) (n := 0) (v := 6) hZ ?_
    exact ft_tr (ft_tr (ft_tr (ft_tr (ft_tr (ft_sN z1) (ft_sR rfl)) (ft_sN z2)) (ft_sR rfl)) (ft_sR rfl)) (ft_sR rfl)
  · unfold inX6
    simp only [gT_sR, gN_sR, gR_sR, gT_sN, gN_sN, gR_sN, gX_sN, gX_sR, m1, m2, m3, m4, m5, if_true, if_false, true_and, and_self, Nat.reduceEqDiff, Nat.zero_ne_one, Nat.one_ne_zero, reduceCtorEq]
/-- what was made just now is put into a row -/
theorem put_1 (hZ : Zr g1) (hf : mu_ft nO nO g g1) (hr : mu_T g r ≠ 0) : Zr (mu_sR g1 r i v) ∧ mu_ft nO (fun z => z = r) g (mu_sR g1 r i v) ∧ mu_X (mu_sR g1 r i v) = mu_X g1 ∧ mu_S (mu_sR g1 r i v) = mu_S g1 ∧ mu_T (mu_sR g1 r i v) = mu_T g1 ∧ mu_N (mu_sR g1 r i v) = mu_N g1 ∧ mu_I (mu_sR g1 r i v) = mu_I g1 ∧ (∀ z, z ≠ r → mu_R (mu_sR g1 r i v) z = mu_R g1 z) ∧ ∀ k, mu_R (mu_sR g1 r i v) r k = if k = i then v else mu_R g r k := by
  refine ⟨hZ, ft_tr (ft_mono hf (fun _ q => q) (fun _ q => q.elim)) (ft_sR rfl), rfl, rfl, rfl, rfl, rfl, fun z q => gR_o q, fun k => ?_⟩
  rw [gR_sR, (hf r hr).2.2.2 (fun q => q)]
  simp only [true_and]
def shP (x k : Nat) (g : mu_H) : Prop := mu_R g (x + 136) k = x + 138 + 2 * k ∧ (mu_T g (x + 138 + 2 * k) = 6 ∧ mu_R g (x + 138 + 2 * k) 0 = x + 139 + 2 * k ∧ mu_T g (x + 139 + 2 * k) = 21 ∧ mu_N g (x + 139 + 2 * k) = 24) ∧ (mu_I g (x + 138 + 2 * k) 1 = -1 ∧ mu_I g (x + 138 + 2 * k) 2 = 0 ∧ mu_I g (x + 139 + 2 * k) = oZ)
def slP (x k : Nat) (g : mu_H) : Prop := mu_R g (x + 137) k = x + 146 + 3 * k ∧ (mu_T g (x + 146 + 3 * k) = 8 ∧ mu_R g (x + 146 + 3 * k) 0 = x + 147 + 3 * k ∧ mu_T g (x + 147 + 3 * k) = 6 ∧ mu_R g (x + 147 + 3 * k) 0 = x + 148 + 3 * k ∧ mu_T g (x + 148 + 3 * k) = 21 ∧ mu_N g (x + 148 + 3 * k) = 24) ∧ mu_I g (x + 146 + 3 * k) 1 = 0
theorem shP_ft {B : Nat → Prop} {k : Nat} (h : shP x k g) (hf : mu_ft nO B g g1) (hB : ∀ z, x + 138 ≤ z → ¬ B z) (e : mu_R g1 (x + 136) k = mu_R g (x + 136) k) : shP x k g1 := by
  obtain ⟨h1, ⟨h2, h3, h4, h5⟩, h6, h7, h8⟩ := h
  refine ⟨e.trans h1, ⟨ft_T hf h2, ?_, ft_T hf h4, ft_N hf h4 h5⟩, ?_, ?_, ?_⟩
  · rw [ft_R hf h2 (hB _ (by omega))]; exact h3
  · rw [ft_I hf h2 (fun q => q)]; exact h6
  · rw [ft_I hf h2 (fun q => q)]; exact h7
  · rw [ft_I hf h4 (fun q => q)]; exact h8
theorem slP_ft {B : Nat → Prop} {k : Nat} (h : slP x k g) (hf : mu_ft nO B g g1) (hB : ∀ z, x + 138 ≤ z → ¬ B z) (e : mu_R g1 (x + 137) k = mu_R g (x + 137) k) : slP x k g1 := by
  obtain ⟨h1, ⟨h2, h3, h4, h5, h6, h7⟩, h8⟩ := h
  refine ⟨e.trans h1, ⟨ft_T hf h2, ?_, ft_T hf h4, ?_, ft_T hf h6, ft_N hf h6 h7⟩, ?_⟩
  · rw [ft_R hf h2 (hB _ (by omega))]; exact h3
  · rw [ft_R hf h4 (hB _ (by omega))]; exact h5
  · rw [ft_I hf h2 (fun q => q)]; exact h8
theorem lp_X10_135 (ha : w.1 < x) (l1 : x + 146 ≤ L.1) : ∀ m i g, i + m = 4 → (mu_T g x = 11 ∧ mu_R g x 8 = x + 136 ∧ mu_T g (x + 136) = 25 ∧ mu_N g (x + 136) = 4) → mu_X g = x + 138 + 2 * i → Zr g → (∀ k, k < i → shP x k g) → mu_S g + 27 * m ≤ L.2 → (∀ g', mu_ft nO (fun z => z = x + 136) g g' → Zr g' → mu_X g' = x + 146 → mu_S g' = mu_S g + 27 * m → (∀ k, k < 4 → shP x k g') → mu_go w mm_X10_init (d + 3) L Q 161 [some (.ref x), some (.int (0 : Int32))] [] g') → mu_go w mm_X10_init (d + 3) L Q 135 [some (.ref x), some (.int (nI i))] [] g := fun m => by
  induction m with
  | zero =>
    intro i g hi h0 hX hZ hR l2 hQ
    have e : i = 4 := by omega
    subst e
    exact fm_X10_init_135 ⟨fun _ => hQ g ft_rf hZ hX rfl hR, fun q => absurd (by decide) q⟩
  | succ m ih =>
    intro i g hi h0 hX hZ hR l2 hQ
    obtain ⟨h1, h2, h3, h4⟩ := h0
    have e4 : ((4 : Int32) ≤ nI i) ↔ 4 ≤ i := nI_leI (a := 4) (by omega) (by omega)
    refine fm_X10_init_135 ⟨fun q => absurd (e4.mp q) (by omega), fun _ => ⟨h1, by omega, by omega, fun g1 e1 => ⟨by omega, ?_⟩⟩⟩
    subst e1
    have hm := sp_X5_init (w := w) (d := d + 1) (a := mu_X g) (g := mu_sN g 6 0 3) (by omega) N_Tx (by rw [gX_sN]; omega)
    obtain ⟨⟨n1, n2, n3, n4⟩, ⟨n5, n6, n7, n8⟩, n9, n10, n11⟩ := new5 hZ rfl
    generalize inX5 (mu_sN g 6 0 3) (mu_X g) = g2 at hm n1 n2 n3 n4 n5 n6 n7 n8 n9 n10 n11
    refine mu_cV hm ⟨by omega, by omega⟩ ?_
    rw [h2, ft_T n4 h3, n5, ft_N n4 h3 h4, nI_clamp (by omega), show nI i + (1 : Int32) = nI (i + 1) from nI_add i 1]
    refine ⟨by omega, by decide, Or.inr rfl, mu_in_n (by omega) (by omega), ?_⟩
    obtain ⟨p1, p2, p3, p4, p5, p6, p7, p8, p9⟩ := put_1 (i := i) (v := mu_X g) n1 n4 (show mu_T g (x + 136) ≠ 0 by omega)
    generalize mu_sR g2 (x + 136) i (mu_X g) = g3 at p1 p2 p3 p4 p5 p6 p7 p8 p9 ⊢
    refine ih (i + 1) g3 (by omega) ⟨ft_T p2 h1, ?_, ft_T p2 h3, ft_N p2 h3 h4⟩ (by omega) p1 (fun k hk => ?_) (by omega) (fun g' q1 q2 q3 q4 q5 => hQ g' (ft_tr p2 q1) q2 q3 (by omega) q5)
    · rw [ft_R p2 h1 (by omega)]; exact h2
    · by_cases q : k = i
      · subst q
        unfold shP
        rw [← hX, show x + 139 + 2 * k = mu_X g + 1 by omega, p9, if_pos rfl, p5, p6, p7, p8 _ (by omega)]
        exact ⟨rfl, ⟨n5, n6, n7, n8⟩, n9, n10, n11⟩
      · exact shP_ft (hR k (by omega)) p2 (fun z hz => by omega) (by rw [p9, if_neg q])
theorem lp_X10_161 (ha : w.1 < x) (l1 : x + 161 ≤ L.1) : ∀ m i g, i + m = 5 → (mu_T g x = 11 ∧ mu_R g x 9 = x + 137 ∧ mu_T g (x + 137) = 26 ∧ mu_N g (x + 137) = 5) → mu_X g = x + 146 + 3 * i → Zr g → (∀ k, k < i → slP x k g) → mu_S g + 31 * m ≤ L.2 → (∀ g', mu_ft nO (fun z => z = x + 137) g g' → Zr g' → mu_X g' = x + 161 → mu_S g' = mu_S g + 31 * m → (∀ k, k < 5 → slP x k g') → Q none g') → mu_go w mm_X10_init (d + 3) L Q 161 [some (.ref x), some (.int (nI i))] [] g := fun m => by
  induction m with
  | zero =>
    intro i g hi h0 hX hZ hR l2 hQ
    have e : i = 5 := by omega
    subst e
    exact fm_X10_init_161 ⟨fun _ => hQ g ft_rf hZ hX rfl hR, fun q => absurd (by decide) q⟩
  | succ m ih =>
    intro i g hi h0 hX hZ hR l2 hQ
    obtain ⟨h1, h2, h3, h4⟩ := h0
    have e4 : ((5 : Int32) ≤ nI i) ↔ 5 ≤ i := nI_leI (a := 5) (by omega) (by omega)
    refine fm_X10_init_161 ⟨fun q => absurd (e4.mp q) (by omega), fun _ => ⟨h1, by omega, by omega, fun g1 e1 => ⟨by omega, ?_⟩⟩⟩
    subst e1
    have hm := sp_X7_init (w := w) (d := d) (a := mu_X g) (g := mu_sN g 8 0 4) (by omega) N_Tx (by rw [gX_sN]; omega)
    obtain ⟨⟨n1, n2, n3, n4⟩, ⟨n5, n6, n7, n8, n9, n10⟩, n11⟩ := new7 hZ rfl
    generalize inX7 (mu_sN g 8 0 4) (mu_X g) = g2 at hm n1 n2 n3 n4 n5 n6 n7 n8 n9 n10 n11
    refine mu_cV hm ⟨by omega, by omega⟩ ?_
    rw [h2, ft_T n4 h3, n5, ft_N n4 h3 h4, nI_clamp (by omega), show nI i + (1 : Int32) = nI (i + 1) from nI_add i 1]
    refine ⟨by omega, by decide, Or.inr rfl, mu_in_n (by omega) (by omega), ?_⟩
    obtain ⟨p1, p2, p3, p4, p5, p6, p7, p8, p9⟩ := put_1 (i := i) (v := mu_X g) n1 n4 (show mu_T g (x + 137) ≠ 0 by omega)
    generalize mu_sR g2 (x + 137) i (mu_X g) = g3 at p1 p2 p3 p4 p5 p6 p7 p8 p9 ⊢
    refine ih (i + 1) g3 (by omega) ⟨ft_T p2 h1, ?_, ft_T p2 h3, ft_N p2 h3 h4⟩ (by omega) p1 (fun k hk => ?_) (by omega) (fun g' q1 q2 q3 q4 q5 => hQ g' (ft_tr p2 q1) q2 q3 (by omega) q5)
    · rw [ft_R p2 h1 (by omega)]; exact h2
    · by_cases q : k = i
      · subst q
        unfold slP
        rw [← hX, show x + 147 + 3 * k = mu_X g + 1 by omega, show x + 148 + 3 * k = mu_X g + 2 by omega, p9, if_pos rfl, p5, p6, p7, p8 _ (by omega), p8 _ (by omega)]
        exact ⟨rfl, ⟨n5, n6, n7, n8, n9, n10⟩, n11⟩
      · exact slP_ft (hR k (by omega)) p2 (fun z hz => by omega) (by rw [p9, if_neg q])
end Ic
