/-! CLIENTS: the class's whole constructor -/
def rx (x : Nat) : Nat → Nat
  | 0 => x + 1
  | 1 => x + 42
  | 2 => x + 83
  | 3 => x + 124
  | 4 => x + 129
  | 5 => x + 132
  | 6 => x + 133
  | 7 => x + 135
  | 8 => x + 136
  | _ => x + 137
def xP (x f n u : Nat) (g0 g : mu_H) : Prop := Zr g ∧ mu_X g = x + n ∧ mu_S g = mu_S g0 + u ∧ mu_T g x = 11 ∧ mu_ft nO (fun z => z = x) g0 g ∧ ∀ k, k < f → mu_R g x k = rx x k
section Id
variable {w : mu_O} {x f n u d t v v' m n' : Nat} {g0 g g1 g2 g3 : mu_H} {L : Nat × Nat} {Q : Option Value → mu_H → Prop}
theorem xp_X (h : xP x f n u g0 g) : mu_X g = x + n := h.2.1
theorem xp_S (h : xP x f n u g0 g) : mu_S g = mu_S g0 + u := h.2.2.1
theorem xp_T (h : xP x f n u g0 g) : mu_T g x = 11 := h.2.2.2.1
theorem xp_R (h : xP x f n u g0 g) (hv : v = rx x f) : xP x (f + 1) n u g0 (mu_sR g x f v) := by
  obtain ⟨h1, h2, h3, h4, h5, h6⟩ := h
  refine ⟨h1, h2, h3, h4, ft_tr h5 (ft_sR rfl), fun k hk => ?_⟩
  by_cases q : k = f
  · subst q
    rw [gR_sR, if_pos ⟨rfl, rfl⟩, hv]
  · rw [gR_sR, if_neg (fun p => q p.2)]; exact h6 k (by omega)
theorem xp_f (h : xP x f n u g0 g) (hf : mu_ft nO nO g g1) (hZ : Zr g1) (hX : mu_X g1 = x + n') (hS : mu_S g1 = mu_S g + v) : xP x f n' (u + v) g0 g1 := by
  obtain ⟨h1, h2, h3, h4, h5, h6⟩ := h
  refine ⟨hZ, hX, by omega, ft_T hf h4, ft_tr h5 (ft_mono hf (fun _ q => q) (fun _ q => q.elim)), fun k hk => ?_⟩
  rw [ft_R hf h4 (fun q => q)]; exact h6 k hk
theorem xp_N (h : xP x f n u g0 g) (en : n' = m) (e : g1 = mu_sN g t n' n') : xP x f (n + 1) (u + m) g0 g1 ∧ mu_ft nO nO g g1 ∧ mu_T g1 (x + n) = t ∧ mu_N g1 (x + n) = m ∧ mu_I g1 (x + n) = oZ := by
  subst en
  subst e
  have hf : mu_ft nO nO g (mu_sN g t n' n') := ft_sN h.1
  refine ⟨xp_f h hf (Zr_sN h.1) ?_ gS_sN, hf, ?_, ?_, ?_⟩
  · rw [gX_sN, xp_X h]; omega
  · rw [← xp_X h]; exact N_Tx
  · rw [← xp_X h]; exact N_Nx
  · rw [← xp_X h]; exact gI_x
theorem xp_o (h : xP x f n u g0 g) (hf : mu_ft (fun z => z = x + n) (fun z => z = x + n) (mu_sN g t 0 v) g2) (hZ : Zr g2) (hX : mu_X g2 = x + n') (hS : mu_S g2 = mu_S (mu_sN g t 0 v) + v') : xP x f n' (u + (v + v')) g0 g2 ∧ mu_ft nO nO g g2 := by
  have hg : mu_ft nO nO g g2 := ft_new h.1 (by rw [xp_X h]; exact hf)
  refine ⟨xp_f h hg hZ hX ?_, hg⟩
  rw [hS, gS_sN]; omega
theorem xs {k : Nat} (hf : mu_ft nO nO (mu_sR g x k v) g1) : mu_ft nO (fun z => z = x) g g1 := ft_tr (ft_sR rfl) (ft_mono hf (fun _ q => q) (fun _ q => q.elim))
theorem xX (h : xP x f n u g0 g) (l1 : x + 161 ≤ L.1) (h1 : n < 161) : mu_X g + 1 ≤ L.1 := by
  rw [xp_X h]; omega
theorem xl (h : xP x f n u g0 g) {M : Nat} (l1 : x + 161 ≤ L.1) (l2 : mu_S g0 + M ≤ L.2) (h1 : n < 161) (h2 : u + v ≤ M) : mu_X g + 1 ≤ L.1 ∧ mu_S g + v ≤ L.2 := by
  rw [xp_X h, xp_S h]; omega
theorem xm (h : xP x f n u g0 g) {n' M : Nat} (en : n' = m) (l1 : x + 161 ≤ L.1) (l2 : mu_S g0 + M ≤ L.2) (h1 : n < 161) (h2 : u + m ≤ M) : mu_X g + 1 ≤ L.1 ∧ mu_S g + n' ≤ L.2 := by
  rw [xp_X h, xp_S h, en]; omega
theorem f4X {v : Nat} : mu_fw (fun z => z = x) (fun z => z = x) g (mu_sI (mu_sI (mu_sI (mu_sR g x 9 v) x 10 0) x 11 0) x 12 0) := fw_tr (fw_tr (fw_tr (fw_sR rfl) (f1I rfl)) (f1I rfl)) (f1I rfl)
theorem i4X : mu_I (mu_sI (mu_sI (mu_sI g x 10 0) x 11 0) x 12 0) x 10 = 0 ∧ mu_I (mu_sI (mu_sI (mu_sI g x 10 0) x 11 0) x 12 0) x 11 = 0 ∧ mu_I (mu_sI (mu_sI (mu_sI g x 10 0) x 11 0) x 12 0) x 12 = 0 := by
  refine ⟨?_, ?_, ?_⟩ <;> simp only [mu_I_sI, true_and, if_true, and_self, Nat.reduceEqDiff, if_false, and_false]
theorem r4X : mu_R (mu_sI (mu_sI (mu_sI g x 10 0) x 11 0) x 12 0) = mu_R g := by rw [mu_R_sI, mu_R_sI, mu_R_sI]
/-- what is known ahead of the two loops -/
def P10a (w : mu_O) (x : Nat) (g g' : mu_H) : Prop := (Zr g' ∧ mu_X g' = x + 138 ∧ mu_S g' = mu_S g + 3359 ∧ mu_ft (fun z => z = x) (fun z => z = x) g g') ∧ (mu_T g' x = 11 ∧ ∀ k, k < 10 → mu_R g' x k = rx x k) ∧ (sc_L w (x + 1) g' ∧ sc_L w (x + 42) g' ∧ sc_L w (x + 83) g') ∧ sg_L w (x + 124) (x + 1) g' ∧ sh_L w (x + 129) (x + 124) (x + 83) g' ∧
  (mu_T g' (x + 132) = 21 ∧ mu_N g' (x + 132) = 96) ∧ (mu_T g' (x + 133) = 4 ∧ mu_R g' (x + 133) 0 = x + 132 ∧ mu_R g' (x + 133) 1 = x + 134 ∧ mu_T g' (x + 134) = 20 ∧ mu_N g' (x + 134) = 96) ∧ (mu_T g' (x + 135) = 20 ∧ mu_N g' (x + 135) = 60) ∧ (mu_T g' (x + 136) = 25 ∧ mu_N g' (x + 136) = 4) ∧ (mu_T g' (x + 137) = 26 ∧ mu_N g' (x + 137) = 5) ∧ sc_0 (x + 1) g' ∧ mu_I g' x 10 = 0 ∧ mu_I g' x 11 = 0 ∧ mu_I g' x 12 = 0
theorem sg_ft {b S : Nat} {A B : Nat → Prop} (h : sg_L w S b g) (hf : mu_ft A B g g1) (hB : ¬ B S) : sg_L w S b g1 := by
  obtain ⟨p1, p2, p3, p4, p5, p6, p7⟩ := h
  exact ⟨p1, ft_T hf p2, by rw [ft_R hf p2 hB]; exact p3, ⟨ft_T hf p4.1, ft_N hf p4.1 p4.2⟩, ⟨ft_T hf p5.1, ft_N hf p5.1 p5.2⟩, ⟨ft_T hf p6.1, ft_N hf p6.1 p6.2⟩, ⟨ft_T hf p7.1, ft_N hf p7.1 p7.2⟩⟩
theorem s0_ft {b : Nat} {A B : Nat → Prop} (h : sc_0 b g) (hS : sc_L w b g) (hf : mu_ft A B g g1) (hA : ∀ z, A z → z < b) : sc_0 b g1 := by
  obtain ⟨⟨h1, h2⟩, h3, h4⟩ := h
  have e0 : mu_I g1 b = mu_I g b := ft_I hf (sc_T hS) (fun q => by have := hA _ q; omega)
  refine ⟨⟨fun k k1 k2 => by rw [e0]; exact h1 k k1 k2, by rw [e0]; exact h2⟩, ?_, ?_⟩
  · rw [ft_I hf (sc_T6 hS) (fun q => by have := hA _ q; omega)]; exact h3
  · rw [ft_I hf (sc_T10 hS) (fun q => by have := hA _ q; omega)]; exact h4
theorem go_X10_a (ha : w.1 < x) (hX : mu_X g = x + 1) (hZ : Zr g) (hT : mu_T g x = 11) (l1 : x + 161 ≤ L.1) (l2 : mu_S g + 3622 ≤ L.2) (hQ : ∀ g', P10a w x g g' → mu_go w mm_X10_init (d + 3) L Q 135 [some (.ref x), some (.int (0 : Int32))] [] g') : mu_go w mm_X10_init (d + 3) L Q 0 [some (.ref x), none] [] g := by
  refine fm_X10_init_0 ?_
  have h0 : xP x 0 1 0 g g := ⟨hZ, hX, rfl, hT, ft_rf, fun k q => absurd q (by omega)⟩
  -- the first scene
  refine ⟨by omega, xX h0 l1 (by omega), (xl h0 l1 l2 (by omega) (by omega)).2, fun g1 e1 => ⟨by omega, ?_⟩⟩
  subst e1
  rw [hX]
  refine ⟨_, _, _, sp_X4_init (d := d) (a := x + 1) (by omega) (by rw [gX_sN, hX]) (Zr_sN hZ) (by rw [← hX]; exact N_Tx), by omega, by rw [gS_sN]; omega, fun r g2 hr X2 S2 => ⟨hr.1, ?_⟩⟩
  obtain ⟨-, z2, f2, L1, V1⟩ := hr
  obtain ⟨h2, -⟩ := xp_o (n' := 42) h0 f2 z2 (by omega) S2
  clear S2 X2 f2 z2
  have X2 := xp_X h2
  -- the second
  refine ⟨xp_T h2, xX h2 l1 (by omega), (xl h2 l1 l2 (by omega) (by omega)).2, fun g3 e3 => ⟨by omega, ?_⟩⟩
  have b2 := xp_R h2 (v := x + 1) rfl
  subst e3
  rw [X2]
  refine ⟨_, _, _, sp_X4_init (d := d) (a := x + 42) (by omega) (by rw [gX_sN, xp_X b2]) (Zr_sN b2.1) (by rw [gT_sN, if_pos (xp_X b2).symm]), by omega, by rw [gS_sN, xp_S b2]; omega, fun r g4 hr X4 S4 => ⟨hr.1, ?_⟩⟩
  obtain ⟨-, z4, f4, L2, -⟩ := hr
  obtain ⟨h4, q4⟩ := xp_o (n' := 83) b2 f4 z4 (by omega) S4
  clear S4 X4 f4 z4 b2
  have s2 := xs q4
  clear q4 X2
  have X4 := xp_X h4
  -- the third
  refine ⟨xp_T h4, xX h4 l1 (by omega), (xl h4 l1 l2 (by omega) (by omega)).2, fun g5 e5 => ⟨by omega, ?_⟩⟩
  have b4 := xp_R h4 (v := x + 42) rfl
  subst e5
  rw [X4]
  refine ⟨_, _, _, sp_X4_init (d := d) (a := x + 83) (by omega) (by rw [gX_sN, xp_X b4]) (Zr_sN b4.1) (by rw [gT_sN, if_pos (xp_X b4).symm]), by omega, by rw [gS_sN, xp_S b4]; omega, fun r g6 hr X6 S6 => ⟨hr.1, ?_⟩⟩
  obtain ⟨-, z6, f6, L3, -⟩ := hr
  obtain ⟨h6, q6⟩ := xp_o (n' := 124) b4 f6 z6 (by omega) S6
  clear S6 X6 f6 z6 b4
  have s4 := xs q6
  clear q6 X4
  have X6 := xp_X h6
  -- the stage
  refine ⟨xp_T h6, xX h6 l1 (by omega), (xl h6 l1 l2 (by omega) (by omega)).2, fun g7 e7 => ?_⟩
  have b6 := xp_R h6 (v := x + 83) rfl
  have c7 : mu_T g7 x = 11 ∧ mu_R g7 x 0 = x + 1 := by
    rw [e7, gT_sN, if_neg (by rw [xp_X b6]; omega), gR_sN, if_neg (by rw [xp_X b6]; omega)]
    exact ⟨xp_T b6, b6.2.2.2.2.2 0 (by omega)⟩
  refine ⟨c7.1, by omega, ?_⟩
  rw [X6, c7.2]
  subst e7
  refine ⟨_, _, _, sp_X8_init (d := d + 1) (a := x + 124) (b := x + 1) (by omega) (by rw [gX_sN, xp_X b6]) (Zr_sN b6.1) (by rw [gT_sN, if_pos (xp_X b6).symm]), by omega, by rw [gS_sN, xp_S b6]; omega, fun r g8 hr X8 S8 => ⟨hr.1, ?_⟩⟩
  obtain ⟨-, z8, f8, LS⟩ := hr
  obtain ⟨h8, q8⟩ := xp_o (n' := 129) b6 f8 z8 (by omega) S8
  clear S8 X8 f8 z8 b6
  have s6 := xs q8
  clear q8 X6 c7
  have X8 := xp_X h8
  -- the shifter
  refine ⟨xp_T h8, xX h8 l1 (by omega), (xl h8 l1 l2 (by omega) (by omega)).2, fun g9 e9 => ?_⟩
  have b8 := xp_R h8 (v := x + 124) rfl
  have c9 : mu_T g9 x = 11 ∧ mu_R g9 x 2 = x + 83 ∧ mu_R g9 x 3 = x + 124 := by
    rw [e9, gT_sN, if_neg (by rw [xp_X b8]; omega), gR_sN, if_neg (by rw [xp_X b8]; omega), gR_sN, if_neg (by rw [xp_X b8]; omega)]
    exact ⟨xp_T b8, b8.2.2.2.2.2 2 (by omega), b8.2.2.2.2.2 3 (by omega)⟩
  refine ⟨c9.1, c9.1, by omega, ?_⟩
  rw [X8, c9.2.1, c9.2.2]
  subst e9
  have m9 := sp_X6_init (w := w) (d := d + 1) (a := x + 129) (b := x + 83) (c := x + 124) (g := mu_sN (mu_sR g8 x 3 (x + 124)) 7 0 6) (by omega) (by rw [gT_sN, if_pos (xp_X b8).symm]) (by rw [gX_sN, xp_X b8]; omega)
  obtain ⟨⟨n1, n2, n3, n4⟩, n5⟩ := new6 (b := x + 83) (c := x + 124) b8.1 (xp_X b8)
  generalize inX6 (mu_sN (mu_sR g8 x 3 (x + 124)) 7 0 6) (x + 129) (x + 83) (x + 124) = g10 at m9 n1 n2 n3 n4 n5
  have h10 := xp_f (n' := 132) b8 n4 n1 (by omega) n3
  refine mu_cV m9 ⟨by rw [xp_X h10]; omega, by rw [xp_S h10]; omega⟩ ?_
  have s8 := xs n4
  clear n4 n1 n2 n3 m9 b8 c9 X8
  have X10 := xp_X h10
  -- the tape
  refine ⟨xp_T h10, mi96, xX h10 l1 (by omega), (xm h10 oi96 l1 l2 (by omega) (by omega)).2, fun g11 e11 => ?_⟩
  obtain ⟨h11, q11, t11, l11, -⟩ := xp_N (xp_R h10 (v := x + 129) rfl) oi96 e11
  have s10 := xs q11
  clear q11 e11
  have X11 := xp_X h11
  -- the reader
  refine ⟨xp_T h11, xX h11 l1 (by omega), (xl h11 l1 l2 (by omega) (by omega)).2, fun g12 e12 => ?_⟩
  rw [X10] at e12
  have b11 := xp_R h11 (v := x + 132) rfl
  have c12 : mu_T g12 x = 11 ∧ mu_R g12 x 5 = x + 132 := by
    rw [e12, gT_sN, if_neg (by rw [xp_X b11]; omega), gR_sN, if_neg (by rw [xp_X b11]; omega)]
    exact ⟨xp_T b11, b11.2.2.2.2.2 5 (by omega)⟩
  refine ⟨c12.1, by omega, ?_⟩
  rw [X11, c12.2]
  subst e12
  have m12 := sp_X3_init (w := w) (d := d + 1) (a := x + 133) (b := x + 132) (g := mu_sN (mu_sR g11 x 5 (x + 132)) 4 0 9) (by omega) (by rw [gT_sN, if_pos (xp_X b11).symm]) (by rw [gX_sN, xp_X b11]; omega)
  obtain ⟨⟨o1, o2, o3, o4⟩, o5⟩ := new3 (b := x + 132) b11.1 (xp_X b11)
  generalize inX3 (mu_sN (mu_sR g11 x 5 (x + 132)) 4 0 9) (x + 133) (x + 132) = g13 at m12 o1 o2 o3 o4 o5
  have h13 := xp_f (n' := 135) b11 o4 o1 (by omega) o3
  refine mu_cV m12 ⟨by rw [xp_X h13]; omega, by rw [xp_S h13]; omega⟩ ?_
  have s11 := xs o4
  clear o4 o1 o2 o3 m12 b11 c12 X11
  have X13 := xp_X h13
  -- what waits, sheets, slots
  refine ⟨xp_T h13, mi60, xX h13 l1 (by omega), (xm h13 oi60 l1 l2 (by omega) (by omega)).2, fun g14 e14 => ?_⟩
  obtain ⟨h14, q14, t14, l14, -⟩ := xp_N (xp_R h13 (v := x + 133) rfl) oi60 e14
  have s13 := xs q14
  clear q14 e14
  refine ⟨xp_T h14, mi4, xX h14 l1 (by omega), (xm h14 oi4 l1 l2 (by omega) (by omega)).2, fun g15 e15 => ?_⟩
  rw [X13] at e15
  obtain ⟨h15, q15, t15, l15, -⟩ := xp_N (xp_R h14 (v := x + 135) rfl) oi4 e15
  have s14 := xs q15
  clear q15 e15
  have X14 := xp_X h14
  refine ⟨xp_T h15, mi5, xX h15 l1 (by omega), (xm h15 oi5 l1 l2 (by omega) (by omega)).2, fun g16 e16 => ?_⟩
  rw [X14] at e16
  obtain ⟨h16, q16, t16, l16, -⟩ := xp_N (xp_R h15 (v := x + 136) rfl) oi5 e16
  have s15 := xs q16
  clear q16 e16
  have T16 := xp_T h16
  refine ⟨T16, T16, T16, T16, Or.inl rfl, ?_⟩
  rw [xp_X h15]
  have b16 := xp_R h16 (v := x + 137) rfl
  have hf := f4X (g := g16) (x := x) (v := x + 137)
  have iX := i4X (g := mu_sR g16 x 9 (x + 137)) (x := x)
  have rX' := r4X (g := mu_sR g16 x 9 (x + 137)) (x := x)
  have R16 := b16.2.2.2.2.2
  rw [← rX'] at R16
  generalize mu_sI (mu_sI (mu_sI (mu_sR g16 x 9 (x + 137)) x 10 0) x 11 0) x 12 0 = gE at hf iX R16 ⊢
  clear rX' b16
  have F16 := ft_fw hf
  have up : ∀ {g g' : mu_H}, mu_ft nO (fun z => z = x) g g' → mu_ft (fun z => z = x) (fun z => z = x) g g' := fun h => ft_mono h (fun _ q => q.elim) (fun _ q => q)
  have F15 := ft_tr (up s15) F16
  have F14 := ft_tr (up s14) F15
  have F13 := ft_tr (up s13) F14
  have F11 := ft_tr (up s11) F13
  have F10 := ft_tr (up s10) F11
  have F8 := ft_tr (up s8) F10
  have F6 := ft_tr (up s6) F8
  have F4 := ft_tr (up s4) F6
  have F2 := ft_tr (up s2) F4
  obtain ⟨f1, f2, f3, f4, f5, f6⟩ := hf
  obtain ⟨n5, n6, n7, n8, n9, n10, n11⟩ := n5
  obtain ⟨o5, o6, o7, o8, o9⟩ := o5
  refine hQ gE ⟨⟨fun z hz => by rw [f1]; exact h16.1 z (by rw [← f4]; exact hz), by rw [f4]; exact xp_X h16, by rw [f5]; exact (xp_S h16).trans (by omega), ft_tr (up h16.2.2.2.2.1) F16⟩, ⟨by rw [f1]; exact T16, R16⟩, ⟨sc_ft0 L1 F2 (fun a q => by omega), sc_ft0 L2 F4 (fun a q => by omega), sc_ft0 L3 F6 (fun a q => by omega)⟩, sg_ft LS F8 (by omega), ?_, ⟨ft_T F11 t11, ft_N F11 t11 l11⟩, ⟨ft_T F13 o5, ?_, ?_, ft_T F13 o8, ft_N F13 o8 o9⟩, ⟨ft_T F14 t14, ft_N F14 t14 l14⟩, ⟨ft_T F15 t15, ft_N F15 t15 l15⟩, ⟨ft_T F16 t16, ft_N F16 t16 l16⟩, s0_ft V1 L1 F2 (fun z q => by omega), iX⟩
  · have eR : mu_R gE (x + 129) = mu_R g10 (x + 129) := ft_R F10 n5 (by omega)
    exact ⟨by omega, ft_T F10 n5, by rw [eR]; exact n6, by rw [eR]; exact n7, by rw [eR]; exact n8, by rw [eR]; exact n9, ⟨ft_T F10 n10.1, ft_N F10 n10.1 n10.2⟩, ⟨ft_T F10 n11.1, ft_N F10 n11.1 n11.2⟩⟩
  · rw [ft_R F13 o5 (by omega)]; exact o6
  · rw [ft_R F13 o5 (by omega)]; exact o7
end Id
