/-! CLIENTS: what the stage's constructor leaves behind -/
def c8 : Nat → Nat × Nat := fun j => match j with
  | 0 => (20, 808)
  | 1 => (20, 808)
  | _ => (20, 8)
section Is
variable {w : mu_O} {a b d f i u : Nat} {g0 g : mu_H} {F : Nat → Nat} {c : Nat → Nat × Nat} {D : Nat → Nat → Int32}
theorem aw_c (h : aw_P a g0 F c D f i u g) {j z : Nat} (hj : j < i) (hz : z = a + 1 + j) : mu_T g z = (c j).1 ∧ mu_N g z = (c j).2 ∧ mu_I g z = D j ∧ mu_R g z = fun _ => 0 := by
  subst hz; exact h.2.2.2.2.2.2 j hj
theorem aw_r (h : aw_P a g0 F c D f i u g) {k k' z : Nat} (hk : k < f) (hF : F k = k') (hz : z = a + 1 + k) : mu_R g a k' = z := by
  subst hz; subst hF; exact h.2.2.2.2.2.1 k hk
theorem aw_Z (h : aw_P a g0 F c D f i u g) : Zr g := h.2.2.2.1
theorem aw_ft (h : aw_P a g0 F c D f i u g) : mu_ft nO (fun z => z = a) g0 g := h.2.2.2.2.1
def P8 (w : mu_O) (a b : Nat) (g g' : mu_H) : Prop := Zr g' ∧ mu_ft (fun z => z = a) (fun z => z = a) g g' ∧ sg_L w a b g'
theorem sp_X8_init (ha : w.1 < a) (hX : mu_X g = a + 1) (hZ : Zr g) (hT : mu_T g a = 9) : mu_mt w mm_X8_init (d + 1) [.ref a, .ref b] g (fun r g' => r = none ∧ P8 w a b g g') (a + 5) (mu_S g + 1632) := by
  refine mu_mkX mk_X8_init rfl (by omega) (by omega) (fun L l1 l2 Q hQ => fm_X8_init_0 ?_)
  have h0 := aw_0 (F := fun k => k) (c := c8) (D := fun _ => oZ) hX hZ
  refine ⟨by omega, mi808, (aw_L h0 oi808 (by omega) (by omega)).1, (aw_L h0 oi808 (by omega) (by omega)).2, fun g1 e1 => ?_⟩
  have h1 := aw_N h0 oi808 e1 rfl rfl
  refine ⟨aw_T h1 hT, mi808, (aw_L h1 oi808 (by omega) (by omega)).1, (aw_L h1 oi808 (by omega) (by omega)).2, fun g2 e2 => ?_⟩
  have h2 := aw_N (aw_R h1 (k := 0) rfl (aw_X h0) (fun j q => Nat.ne_of_lt q)) oi808 e2 rfl rfl
  refine ⟨aw_T h2 hT, mi8, (aw_L h2 oi8 (by omega) (by omega)).1, (aw_L h2 oi8 (by omega) (by omega)).2, fun g3 e3 => ?_⟩
  have h3 := aw_N (aw_R h2 (k := 1) rfl (aw_X h1) (fun j q => Nat.ne_of_lt q)) oi8 e3 rfl rfl
  refine ⟨aw_T h3 hT, mi8, (aw_L h3 oi8 (by omega) (by omega)).1, (aw_L h3 oi8 (by omega) (by omega)).2, fun g4 e4 => ?_⟩
  have h4 := aw_N (aw_R h3 (k := 2) rfl (aw_X h2) (fun j q => Nat.ne_of_lt q)) oi8 e4 rfl rfl
  have h5 := aw_R h4 (k := 3) rfl (aw_X h3) (fun j q => Nat.ne_of_lt q)
  have z5 : Zr (mu_sR g4 a 3 (mu_X g3)) := aw_Z h5
  have r : ∀ k, k < 4 → mu_R (mu_sR (mu_sR g4 a 3 (mu_X g3)) a 4 b) a k = a + 1 + k := fun k hk => by
    rw [gR_sR, if_neg (by omega)]; exact aw_r h5 hk rfl rfl
  refine ⟨aw_T h4 hT, aw_T h4 hT, hQ _ _ ⟨rfl, z5, ft_tr (ft_mono (aw_ft h5) (fun _ q => q.elim) (fun _ q => q)) (ft_sR rfl), ha, aw_T h5 hT, ⟨r 0 (by omega), (r 1 (by omega)).trans (by omega), (r 2 (by omega)).trans (by omega), (r 3 (by omega)).trans (by omega), by rw [gR_sR, if_pos ⟨rfl, rfl⟩]⟩, ?_, ?_, ?_, ?_⟩ ((aw_X h5).trans (by omega)) ((aw_S h5).trans (by omega))⟩
  · exact ⟨(aw_c h5 (j := 0) (by omega) (by omega)).1, (aw_c h5 (j := 0) (by omega) (by omega)).2.1⟩
  · exact ⟨(aw_c h5 (j := 1) (by omega) (by omega)).1, (aw_c h5 (j := 1) (by omega) (by omega)).2.1⟩
  · exact ⟨(aw_c h5 (j := 2) (by omega) (by omega)).1, (aw_c h5 (j := 2) (by omega) (by omega)).2.1⟩
  · exact ⟨(aw_c h5 (j := 3) (by omega) (by omega)).1, (aw_c h5 (j := 3) (by omega) (by omega)).2.1⟩
end Is
