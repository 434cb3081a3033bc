/-! BOTH: after both constructors, all that holds between two calls holds -/
def P10 (w : mu_O) (x : Nat) (g g' : mu_H) : Prop := (Zr g' ∧ mu_ft (fun z => z = x) (fun z => z = x) g g') ∧ cl_L w x g' ∧ sc_0 (x + 1) g' ∧ (∀ k, k < 4 → shP x k g') ∧ (∀ k, k < 5 → slP x k g') ∧ mu_I g' x 10 = 0 ∧ mu_I g' x 11 = 0 ∧ mu_I g' x 12 = 0
section Ie
variable {w : mu_O} {ξ : Nat × Nat × (Nat → Int32)} {x d D : Nat} {g g1 : mu_H} {L : Nat × Nat} {Q : Option Value → mu_H → Prop}
theorem sp_X10_init (ha : w.1 < x) (hX : mu_X g = x + 1) (hZ : Zr g) (hT : mu_T g x = 11) : mu_mt w mm_X10_init (d + 3) [.ref x] g (fun r g' => r = none ∧ P10 w x g g') (x + 161) (mu_S g + 3622) := by
  refine mu_mkX mk_X10_init rfl (by omega) (by omega) (fun L l1 l2 Q hQ => ?_)
  refine go_X10_a ha hX hZ hT l1 l2 (fun g1 h1 => ?_)
  obtain ⟨⟨a1, a2, a3, a4⟩, ⟨b1, b2⟩, ⟨c1, c2, c3⟩, d1, d2, ⟨e1, e2⟩, ⟨e3, e4, e5, e6, e7⟩, ⟨k1, k2⟩, ⟨k3, k4⟩, ⟨k5, k6⟩, v1, i1, i2, i3⟩ := h1
  refine lp_X10_135 ha (by omega) 4 0 g1 rfl ⟨b1, b2 8 (by omega), k3, k4⟩ a2 a1 (fun k q => absurd q (by omega)) (by omega) (fun g2 p1 p2 p3 p4 p5 => ?_)
  refine lp_X10_161 ha (by omega) 5 0 g2 rfl ⟨ft_T p1 b1, ?_, ft_T p1 k5, ft_N p1 k5 k6⟩ p3 p2 (fun k q => absurd q (by omega)) (by omega) (fun g3 q1 q2 q3 q4 q5 => ?_)
  · rw [ft_R p1 b1 (by omega)]; exact b2 9 (by omega)
  have hf : mu_ft nO (fun z => z = x + 136 ∨ z = x + 137) g1 g3 := ft_tr (ft_mono p1 (fun _ q => q) (fun _ q => Or.inl q)) (ft_mono q1 (fun _ q => q) (fun _ q => Or.inr q))
  have s5 : ∀ k, k < 4 → shP x k g3 := fun k hk => shP_ft (p5 k hk) q1 (fun z hz => by omega) (by rw [ft_R q1 (ft_T p1 k3) (by omega)])
  have eX : mu_R g3 x = mu_R g1 x := ft_R hf b1 (by omega)
  have eI : mu_I g3 x = mu_I g1 x := ft_I hf b1 (fun q => q)
  refine hQ none g3 ⟨rfl, ⟨q2, ?_⟩, ⟨⟨ha, ft_T hf b1⟩, ?_, ⟨sc_ft0 c1 hf (fun a q => by omega), sc_ft0 c2 hf (fun a q => by omega), sc_ft0 c3 hf (fun a q => by omega)⟩, ⟨x + 1, sg_ft d1 hf (by omega)⟩, ?_, ⟨ft_T hf e1, ft_N hf e1 e2⟩, ⟨ft_T hf e3, ?_, ?_, ft_T hf e6, ft_N hf e6 e7⟩, ⟨ft_T hf k1, ft_N hf k1 k2⟩, ⟨ft_T hf k3, ft_N hf k3 k4, fun k hk => (s5 k hk).1⟩, ⟨ft_T hf k5, ft_N hf k5 k6, fun k hk => (q5 k hk).1⟩, fun k hk => (s5 k hk).2.1, fun k hk => (q5 k hk).2.1⟩, s0_ft v1 c1 hf (fun z q => q.elim), s5, q5, ?_⟩ (by omega) (by omega)
  · intro z hz
    have hz0 : z < mu_X g := Zr_lt hZ hz
    obtain ⟨s1, s2, s3, s4⟩ := a4 z hz
    obtain ⟨t1, t2, t3, t4⟩ := hf z (by rw [s1]; exact hz)
    exact ⟨t1.trans s1, t2.trans s2, fun q => (t3 (fun q => q)).trans (s3 q), fun q => (t4 (by omega)).trans (s4 q)⟩
  · rw [eX]
    exact ⟨b2 0 (by omega), b2 1 (by omega), b2 2 (by omega), b2 3 (by omega), b2 4 (by omega), b2 5 (by omega), b2 6 (by omega), b2 7 (by omega), b2 8 (by omega), b2 9 (by omega)⟩
  · obtain ⟨r1, r2, r3, r4, r5, r6, r7, r8⟩ := d2
    have eR : mu_R g3 (x + 129) = mu_R g1 (x + 129) := ft_R hf r2 (by omega)
    exact ⟨r1, ft_T hf r2, by rw [eR]; exact r3, by rw [eR]; exact r4, by rw [eR]; exact r5, by rw [eR]; exact r6, ⟨ft_T hf r7.1, ft_N hf r7.1 r7.2⟩, ⟨ft_T hf r8.1, ft_N hf r8.1 r8.2⟩⟩
  · rw [ft_R hf e3 (by omega)]; exact e4
  · rw [ft_R hf e3 (by omega)]; exact e5
  · rw [eI]; exact ⟨i1, i2, i3⟩
/-- the row of the beginning -/
def s00 : Nat → Int32 := fun k => if k = 8 then 1 else 0
theorem s00_z {k : Nat} (h : k ≠ 8) : s00 k = 0 := if_neg h
theorem c00 : (0 : Int32).toNatClampNeg = 0 := by decide
theorem n00 : (0 : Int32) = nI 0 := rfl
theorem w00 : wf_s s00 := by
  have e0 : np s00 = 0 := rfl
  have e1 : nm s00 = 0 := rfl
  have e2 : nsg s00 = 0 := rfl
  have e3 : ntx s00 = 0 := rfl
  have e4 : nch s00 = 0 := rfl
  have e5 : nwp s00 = 0 := rfl
  have e7 : nlg s00 = 0 := rfl
  refine ⟨⟨⟨rfl, by rw [e0]; omega⟩, ⟨rfl, by rw [e1]; omega⟩, ⟨rfl, by rw [e2]; omega⟩, ⟨rfl, by rw [e3]; omega⟩, ⟨rfl, by rw [e4]; omega⟩, ⟨rfl, by rw [e5]; omega⟩, ⟨rfl, by decide⟩, ⟨rfl, by rw [e7]; omega⟩, ⟨rfl, by decide⟩⟩, fun p q => ?_, fun p q => ?_, fun p b q => ?_, fun p q => ?_, fun p q => ?_, ⟨fun p q => ?_, fun p q => ?_⟩, ⟨fun k hk => ?_, fun a b ha hb => ?_⟩, fun p q => ?_, fun p q => ?_⟩
  · exact absurd q (by rw [e0]; omega)
  · exact absurd q (by rw [e1]; omega)
  · exact absurd q (by rw [e1]; omega)
  · exact absurd q (by rw [e2]; omega)
  · exact absurd q (by rw [e4]; omega)
  · exact absurd q (by rw [e5]; omega)
  · exact absurd q (by rw [e0]; omega)
  · have z : s00 (290 + k) = 0 := s00_z (by omega)
    unfold vH
    rw [z, c00]
    exact ⟨rfl, by omega⟩
  · unfold vH
    rw [s00_z (by omega), s00_z (by omega)]
  · exact absurd q (by rw [e7]; omega)
  · exact absurd q (by rw [e3]; omega)
theorem law_go (hn : ξ.2.1 ≤ 3072) (hQ : ∀ g', Q (some (.int 1)) g') (ha : w.1 < mu_X g) (hZ : Zr g) (h1 : st_L w g) (h2 : str_L w g) (h3 : sq w ξ g) (l1 : mu_X g + 1723 ≤ L.1) (l2 : mu_S g + 118219 ≤ L.2) : mu_go w mm_L_law (D + 1500 + 1) L Q 0 [some (.ref ξ.1), none, none, none] [] g := by
  obtain ⟨x, hx⟩ : ∃ x, mu_X g = x := ⟨_, rfl⟩
  refine fm_L_law_0 ⟨by omega, by omega, fun g1 e1 => ⟨by omega, ?_⟩⟩
  rw [hx]
  have a1 : mu_X g1 = x + 1 ∧ mu_S g1 = mu_S g + 13 ∧ Zr g1 ∧ mu_T g1 x = 11 := by
    rw [e1, gX_sN, gS_sN, ← hx]
    exact ⟨rfl, rfl, Zr_sN hZ, N_Tx⟩
  have f1 : ∀ g2, mu_ft (fun z => z = x) (fun z => z = x) g1 g2 → mu_ft nO nO g g2 := fun g2 q => ft_new (t := 11) (n := 0) (v := 13) hZ (by rw [hx, ← e1]; exact q)
  clear e1
  obtain ⟨a1, a2, a3, a4⟩ := a1
  refine ⟨_, _, _, sp_X10_init (d := D + 1497) (by omega) a1 a3 a4, by omega, by omega, fun r g2 hr X2 S2 => ⟨hr.1, by omega, by omega, fun g3 e3 => ⟨by omega, ?_⟩⟩⟩
  obtain ⟨-, ⟨b1, b2⟩, b3, b4, b5, b6, b7, b8, b9⟩ := hr
  have f2 := f1 g2 b2
  have c1 : mu_X g3 = x + 161 + 1 ∧ mu_S g3 = mu_S g2 + 41 ∧ Zr g3 ∧ mu_T g3 (x + 161) = 12 ∧ mu_I g3 (x + 161) = oZ := by
    rw [e3, gX_sN, gS_sN, ← X2]
    exact ⟨rfl, rfl, Zr_sN b1, N_Tx, gI_x⟩
  have f3 : ∀ g4, mu_ft nO (fun z => z = x + 161) g3 g4 → mu_ft nO nO g2 g4 := fun g4 q => ft_new (t := 12) (n := 0) (v := 41) b1 (by rw [X2, ← e3]; exact ft_mono q (fun _ q => q.elim) (fun _ q => q))
  clear e3
  obtain ⟨c1, c2, c3, c4, c5⟩ := c1
  rw [X2]
  refine ⟨_, _, _, sp_X11_init (d := D + 1499) (by omega) c1 c3 c4, by omega, by omega, fun r g4 hr X4 S4 => ⟨hr.1, ?_⟩⟩
  obtain ⟨-, ⟨d1, d2⟩, d3, d4, d5, d6, d7⟩ := hr
  have f4 := f3 g4 d2
  have f5 := ft_tr f2 f4
  have eY : mu_I g4 (x + 161) = oZ := (ft_I d2 c4 (fun q => q)).trans c5
  have e0 : mu_I g4 (x + 161 + 1) = s00 := funext d5
  have B1 := cl_n b3
  have L1 : sc_L w (x + 1) g4 := sc_ft0 B1 f4 (fun a q => q.elim)
  have V1 := s0_ft b4 B1 f4 (fun z q => q.elim)
  have C4 : cl_L w x g4 := cl_ft b3 f4 (fun a q => q.elim) L1 (sc_ft0 (cl_i b3) f4 (fun a q => q.elim)) (sc_ft0 (cl_t b3) f4 (fun a q => q.elim))
  have s5 : ∀ k, k < 4 → shP x k g4 := fun k hk => shP_ft (b5 k hk) f4 (fun z _ q => q) (by rw [ft_R f4 b3.2.2.2.2.2.2.2.2.1.1 (fun q => q)])
  have s6 : ∀ k, k < 5 → slP x k g4 := fun k hk => slP_ft (b6 k hk) f4 (fun z _ q => q) (by rw [ft_R f4 b3.2.2.2.2.2.2.2.2.2.1.1 (fun q => q)])
  have eX : mu_I g4 x = mu_I g2 x := ft_I f4 (cl_T b3) (fun q => q)
  rw [← eX] at b7 b8 b9
  refine law_loop (x := x) (E := x + 187) hn hQ 512 0 g4 (by omega) (by omega) ⟨fun j => if j = 0 then mu_I g4 (x + 161 + 1) else mu_I g4 (x + 161 + j), 0, 0, 0, ?_, ?_, ?_, ?_⟩ (by omega) (by omega)
  · show jW _ _ _ _
    unfold jW
    simp only [if_true, Nat.reduceEqDiff, if_false, e0]
    refine ⟨w00, by decide, fun q => absurd trivial q, fun i hi => ⟨Or.inl (d6 i hi), 0, by omega, ?_⟩, fun i hi => ⟨Or.inl ?_, fun q => ?_, fun q => ?_⟩, ⟨by omega, fun i hi => absurd hi (by omega)⟩, by omega⟩
    · rw [d7 5 (by omega) (by omega) (by omega)]; rfl
    · rw [d7 7 (by omega) (by omega) (by omega)]; rfl
    · rw [d7 7 (by omega) (by omega) (by omega)] at q; exact absurd (show (0 : Int32) = _ from q) (by decide)
    · rw [d7 7 (by omega) (by omega) (by omega)] at q; exact absurd (show (0 : Int32) = _ from q) (by decide)
  · unfold jC
    simp only [if_true, Nat.reduceEqDiff, if_false, e0]
    refine ⟨C4, ?_, fun q => absurd trivial q, fun i hi => ?_, fun i hi => ?_, ⟨b7, fun i hi => absurd hi (by omega)⟩, ⟨b8, fun i hi => absurd hi (by omega)⟩, b9⟩
    · obtain ⟨⟨v1, v2⟩, v3, v4⟩ := V1
      refine ⟨by omega, ⟨v1 10 (by omega) (by omega), v1 11 (by omega) (by omega), v1 12 (by omega) (by omega), v1 13 (by omega) (by omega), v1 14 (by omega) (by omega), v1 15 (by omega) (by omega), v1 16 (by omega) (by omega), v1 17 (by omega) (by omega), v2, v4⟩, fun p f q => absurd q (Nat.not_lt_zero _), fun p f q => absurd q (Nat.not_lt_zero _), fun p q => absurd q (Nat.not_lt_zero _), fun p q => absurd q (Nat.not_lt_zero _), fun k hk => ?_, fun p q => absurd q (Nat.not_lt_zero _), fun p q => absurd q (Nat.not_lt_zero _), fun p f q => absurd q (Nat.not_lt_zero _)⟩
      rw [v3, s00_z (by omega)]; rfl
    · obtain ⟨-, -, q1, q2, q3⟩ := s5 i hi
      rw [d6 i hi, d7 5 (by omega) (by omega) (by omega), d7 6 (by omega) (by omega) (by omega), q3]
      exact ⟨q1, q2, fun k hk => rfl⟩
    · have z7 : mu_I g4 (x + 161 + 7) i = 0 := by rw [d7 7 (by omega) (by omega) (by omega)]; rfl
      rw [z7]
      exact ⟨(s6 i hi).2.2, fun q => absurd q (by decide), fun q => absurd q (by decide), fun q => absurd q (by decide)⟩
  · unfold jR
    simp only [if_true, Nat.reduceEqDiff, if_false]
    refine ⟨d3, d4, trivial, fun q => absurd trivial q, fun j hj => ?_, ?_, ?_⟩
    · have : j ≠ 0 := by
        rintro rfl
        exact absurd hj (by decide)
      rw [if_neg this]
    · rw [eY]; exact ⟨rfl, rfl, rfl⟩
    · unfold caC
      rw [eY]
      exact ⟨Or.inl rfl, Or.inl rfl⟩
  · obtain ⟨q1, q2, q3, q4⟩ := h3
    exact ⟨st_ft h1 f5 (fun a q => q.elim), str_ft h2 f5 (fun a q => q.elim) (fun a q => q.elim), ⟨d1, by omega, by rw [X4]; omega⟩, by omega, by omega, q1, ft_T f5 q2, ft_N f5 q2 q3, (ft_I f5 q2 (fun q => q)).trans q4⟩
end Ie
