/-! CLIENTS: the scene's people and moves are made; the whole constructor -/
section Ib
variable {w : mu_O} {a d r i t s : Nat} {g g0 g1 : mu_H} {L : Nat × Nat} {Q : Option Value → mu_H → Prop}
/-- an object, made just now, is put into a row -/
theorem ob_put (hZ : Zr g) (hr : mu_T g r ≠ 0) : (Zr (mu_sR (mu_sN g t 0 s) r i (mu_X g)) ∧ mu_ft nO (fun z => z = r) g (mu_sR (mu_sN g t 0 s) r i (mu_X g))) ∧ mu_X (mu_sR (mu_sN g t 0 s) r i (mu_X g)) = mu_X g + 1 ∧ mu_S (mu_sR (mu_sN g t 0 s) r i (mu_X g)) = mu_S g + s ∧ mu_T (mu_sR (mu_sN g t 0 s) r i (mu_X g)) (mu_X g) = t ∧ ∀ k, mu_R (mu_sR (mu_sN g t 0 s) r i (mu_X g)) r k = if k = i then mu_X g else mu_R g r k := by
  have q : r ≠ mu_X g := by have := Zr_lt hZ hr; omega
  refine ⟨⟨Zr_sN (t := t) (n := 0) (v := s) hZ, ft_tr (ft_sN hZ) (ft_sR rfl)⟩, rfl, rfl, N_Tx (t := t) (n := 0) (v := s), fun k => ?_⟩
  rw [gR_sR, N_R q]
  simp only [true_and]
theorem lp_X4_137 (ha : w.1 < a) (l1 : a + 21 ≤ L.1) : ∀ m i g, i + m = 8 → (mu_T g a = 5 ∧ mu_R g a 0 = a + 1 ∧ mu_T g (a + 1) = 22 ∧ mu_N g (a + 1) = 8) → mu_X g = a + 13 + i → Zr g → (∀ k, k < i → mu_R g (a + 1) k = a + 13 + k ∧ mu_T g (a + 13 + k) = 3) → mu_S g + 3 * m ≤ L.2 → (∀ g', mu_ft nO (fun z => z = a + 1) g g' → Zr g' → mu_X g' = a + 21 → mu_S g' = mu_S g + 3 * m → (∀ k, k < 8 → mu_R g' (a + 1) k = a + 13 + k ∧ mu_T g' (a + 13 + k) = 3) → mu_go w mm_X4_init (d + 2) L Q 164 [some (.ref a), some (.int (0 : Int32))] [] g') → mu_go w mm_X4_init (d + 2) L Q 137 [some (.ref a), some (.int (nI i))] [] g := fun m => by
  induction m with
  | zero =>
    intro i g hi h0 hX hZ hR l2 hQ
    have e : i = 8 := by omega
    subst e
    refine fm_X4_init_137 ⟨fun _ => hQ g ft_rf hZ hX rfl hR, fun q => absurd (by decide) q⟩
  | succ m ih =>
    intro i g hi h0 hX hZ hR l2 hQ
    obtain ⟨h1, h2, h3, h4⟩ := h0
    have e8 : ((8 : Int32) ≤ nI i) ↔ 8 ≤ i := nI_leI (a := 8) (by omega) (by omega)
    refine fm_X4_init_137 ⟨fun q => absurd (e8.mp q) (by omega), fun _ => ⟨h1, by omega, by omega, fun g1 e1 => ⟨by omega, ?_⟩⟩⟩
    subst e1
    refine mu_cV (sp_X2_init (d := d) (by omega)) ⟨?_, ?_⟩ ?_
    · rw [gX_sN]; omega
    · rw [gS_sN]; omega
    have T1 : mu_T (mu_sN g 3 0 3) (a + 1) = 22 := by rw [N_T (by omega)]; exact h3
    rw [h2, T1, N_Tx, N_N (by omega), h4, nI_clamp (by omega), show nI i + (1 : Int32) = nI (i + 1) from nI_add i 1]
    obtain ⟨⟨p1, p2⟩, p3, p4, p5, p6⟩ := ob_put (t := 3) (s := 3) (i := i) hZ (show mu_T g (a + 1) ≠ 0 by omega)
    refine ⟨by omega, by decide, Or.inr rfl, mu_in_n (by omega) (by omega), ?_⟩
    generalize mu_sR (mu_sN g 3 0 3) (a + 1) i (mu_X g) = g2 at p1 p2 p3 p4 p5 p6 ⊢
    refine ih (i + 1) g2 (by omega) ⟨ft_T p2 h1, ?_, ft_T p2 h3, ft_N p2 h3 h4⟩ (by omega) p1 (fun k hk => ?_) (by omega) (fun g' q1 q2 q3 q4 q5 => hQ g' (ft_tr p2 q1) q2 q3 (by omega) q5)
    · rw [ft_R p2 h1 (by omega)]; exact h2
    · by_cases q : k = i
      · subst q
        rw [p6, if_pos rfl, hX]
        exact ⟨rfl, by rw [← hX]; exact p5⟩
      · rw [p6, if_neg q]
        exact ⟨(hR k (by omega)).1, ft_T p2 (hR k (by omega)).2⟩
theorem lp_X4_164 (ha : w.1 < a) (l1 : a + 41 ≤ L.1) : ∀ m i g, i + m = 20 → (mu_T g a = 5 ∧ mu_R g a 1 = a + 2 ∧ mu_T g (a + 2) = 23 ∧ mu_N g (a + 2) = 20) → mu_X g = a + 21 + i → Zr g → (∀ k, k < i → mu_R g (a + 2) k = a + 21 + k ∧ mu_T g (a + 21 + k) = 2) → mu_S g + 8 * m ≤ L.2 → (∀ g', mu_ft nO (fun z => z = a + 2) g g' → Zr g' → mu_X g' = a + 41 → mu_S g' = mu_S g + 8 * m → (∀ k, k < 20 → mu_R g' (a + 2) k = a + 21 + k ∧ mu_T g' (a + 21 + k) = 2) → Q none g') → mu_go w mm_X4_init (d + 2) L Q 164 [some (.ref a), some (.int (nI i))] [] g := fun m => by
  induction m with
  | zero =>
    intro i g hi h0 hX hZ hR l2 hQ
    have e : i = 20 := by omega
    subst e
    refine fm_X4_init_164 ⟨fun _ => hQ g ft_rf hZ hX rfl hR, fun q => absurd (by decide) q⟩
  | succ m ih =>
    intro i g hi h0 hX hZ hR l2 hQ
    obtain ⟨h1, h2, h3, h4⟩ := h0
    have e8 : ((20 : Int32) ≤ nI i) ↔ 20 ≤ i := nI_leI (a := 20) (by omega) (by omega)
    refine fm_X4_init_164 ⟨fun q => absurd (e8.mp q) (by omega), fun _ => ⟨h1, by omega, by omega, fun g1 e1 => ⟨by omega, ?_⟩⟩⟩
    subst e1
    refine mu_cV (sp_X1_init (d := d) (by omega)) ⟨?_, ?_⟩ ?_
    · rw [gX_sN]; omega
    · rw [gS_sN]; omega
    have T1 : mu_T (mu_sN g 2 0 8) (a + 2) = 23 := by rw [N_T (by omega)]; exact h3
    rw [h2, T1, N_Tx, N_N (by omega), h4, nI_clamp (by omega), show nI i + (1 : Int32) = nI (i + 1) from nI_add i 1]
    obtain ⟨⟨p1, p2⟩, p3, p4, p5, p6⟩ := ob_put (t := 2) (s := 8) (i := i) hZ (show mu_T g (a + 2) ≠ 0 by omega)
    refine ⟨by omega, by decide, Or.inr rfl, mu_in_n (by omega) (by omega), ?_⟩
    generalize mu_sR (mu_sN g 2 0 8) (a + 2) i (mu_X g) = g2 at p1 p2 p3 p4 p5 p6 ⊢
    refine ih (i + 1) g2 (by omega) ⟨ft_T p2 h1, ?_, ft_T p2 h3, ft_N p2 h3 h4⟩ (by omega) p1 (fun k hk => ?_) (by omega) (fun g' q1 q2 q3 q4 q5 => hQ g' (ft_tr p2 q1) q2 q3 (by omega) q5)
    · rw [ft_R p2 h1 (by omega)]; exact h2
    · by_cases q : k = i
      · subst q
        rw [p6, if_pos rfl, hX]
        exact ⟨rfl, by rw [← hX]; exact p5⟩
      · rw [p6, if_neg q]
        exact ⟨(hR k (by omega)).1, ft_T p2 (hR k (by omega)).2⟩
/-- the numbers of a scene that was made just now -/
def sc_0 (a : Nat) (g : mu_H) : Prop := ((∀ k, 10 ≤ k → k < 18 → mu_I g a k = 0) ∧ mu_I g a 18 = 1) ∧ mu_I g (a + 6) = oZ ∧ mu_I g (a + 10) 2 = 0
def P4 (w : mu_O) (a : Nat) (g g' : mu_H) : Prop := Zr g' ∧ mu_ft (fun z => z = a) (fun z => z = a) g g' ∧ sc_L w a g' ∧ sc_0 a g'
theorem c4_k : ∀ k ∈ [3, 4, 6, 7, 8, 9], (c4 (k - 1)).1 = 20 ∧ (c4 (k - 1)).2 = sc_N k ∧ 1 ≤ k ∧ k ≤ 9 := by decide
theorem sp_X4_init (ha : w.1 < a) (hX : mu_X g = a + 1) (hZ : Zr g) (hT : mu_T g a = 5) : mu_mt w mm_X4_init (d + 2) [.ref a] g (fun r g' => r = none ∧ P4 w a g g') (a + 41) (mu_S g + 461) := by
  refine mu_mkX mk_X4_init rfl (by omega) (by omega) (fun L l1 l2 Q hQ => ?_)
  refine go_X4_a ha hX hZ hT (by omega) (by omega) (fun g1 h1 => ?_)
  obtain ⟨⟨a1, a2, a3, a4⟩, ⟨b1, b2⟩, c1, ⟨⟨k1, k2, k3, k4⟩, ⟨k5, k6⟩, k7, k8⟩, i1, i2⟩ := h1
  have x1 := c1 0 (by omega)
  have x2 := c1 1 (by omega)
  refine lp_X4_137 ha (by omega) 8 0 g1 rfl ⟨b1, b2 0 (by omega), x1.1, x1.2.1⟩ a2 a1 (fun k q => absurd q (by omega)) (by omega) (fun g2 p1 p2 p3 p4 p5 => ?_)
  refine lp_X4_164 ha (by omega) 20 0 g2 rfl ⟨ft_T p1 b1, ?_, ft_T p1 x2.1, ft_N p1 x2.1 x2.2.1⟩ p3 p2 (fun k q => absurd q (by omega)) (by omega) (fun g3 q1 q2 q3 q4 q5 => ?_)
  · rw [ft_R p1 b1 (by omega)]; exact b2 1 (by omega)
  have hf : mu_ft nO (fun z => z = a + 1 ∨ z = a + 2) g1 g3 := ft_tr (ft_mono p1 (fun _ q => q) (fun _ q => Or.inl q)) (ft_mono q1 (fun _ q => q) (fun _ q => Or.inr q))
  have y4 := c1 4 (by omega)
  have y5 := c1 5 (by omega)
  have T4 : mu_T g1 (a + 5) = 24 := y4.1
  refine hQ none g3 ⟨rfl, q2, ?_, ⟨ha, ft_T hf b1, fun k hk => ?_, ⟨ft_T hf x1.1, ft_N hf x1.1 x1.2.1, fun k hk => ?_⟩, ⟨ft_T hf x2.1, ft_N hf x2.1 x2.2.1, fun k hk => (q5 k hk).1⟩, fun k hk => ?_, ⟨ft_T hf T4, ft_N hf T4 y4.2.1, fun k hk => Or.inl ?_⟩, ⟨ft_T hf k1, ?_, ?_⟩, fun k hk => ft_T q1 (p5 k hk).2, fun k hk => (q5 k hk).2⟩, ⟨fun k e1 e2 => ?_, ?_⟩, ?_, ?_⟩ (by omega) (by omega)
  · intro z hz
    have hz0 : z < mu_X g := Zr_lt hZ hz
    obtain ⟨s1, s2, s3, s4⟩ := a4 z hz
    obtain ⟨t1, t2, t3, t4⟩ := hf z (by rw [s1]; exact hz)
    exact ⟨t1.trans s1, t2.trans s2, fun q => (t3 (fun q => q)).trans (s3 q), fun q => (t4 (by omega)).trans (s4 q)⟩
  · rw [ft_R hf b1 (by omega)]; exact b2 k hk
  · rw [ft_R q1 (ft_T p1 x1.1) (by omega)]; exact (p5 k hk).1
  · rcases (show k ∈ [3, 4, 6, 7, 8, 9] ∨ k = 11 ∨ k = 12 by revert hk; simp only [List.mem_cons, List.not_mem_nil, or_false]; omega) with q | rfl | rfl
    · obtain ⟨u1, u2, u3, u4⟩ := c4_k k q
      obtain ⟨v1, v2, -, -⟩ := c1 (k - 1) (by omega)
      rw [show a + 1 + (k - 1) = a + k by omega] at v1 v2
      rw [u1] at v1
      exact ⟨ft_T hf v1, (ft_N hf v1 v2).trans u2⟩
    · exact ⟨ft_T hf k5, ft_N hf k5 k6⟩
    · exact ⟨ft_T hf k7, ft_N hf k7 k8⟩
  · rw [ft_R hf T4 (by omega)]; exact congrFun y4.2.2.2 k
  · rw [ft_R hf k1 (by omega)]; exact k2
  · rw [ft_R hf k1 (by omega)]; exact k3
  · rw [ft_I hf b1 (fun q => q)]; exact i1 k e1 e2
  · rw [ft_I hf b1 (fun q => q)]; exact i2
  · rw [ft_I hf (z := a + 6) (k := 19) y5.1 (fun q => q)]; exact y5.2.2.1
  · rw [ft_I hf k1 (fun q => q)]; exact k4
end Ib
