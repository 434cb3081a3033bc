/-! CLIENTS: frames with references; the class seeks shifts -/
/-- ints of the cells A and references of the cells B may differ -/
def mu_fw (A B : Nat → Prop) (g g' : mu_H) : Prop := mu_T g' = mu_T g ∧ mu_N g' = mu_N g ∧ (∀ a, ¬ B a → mu_R g' a = mu_R g a) ∧ mu_X g' = mu_X g ∧ mu_S g' = mu_S g ∧ ∀ a, ¬ A a → mu_I g' a = mu_I g a
section Fw
variable {A B A' B' : Nat → Prop} {g g1 g2 : mu_H}
theorem fw_fr (h : mu_fr A g g1) : mu_fw A B g g1 := ⟨h.1, h.2.1, fun a _ => by rw [h.2.2.1], h.2.2.2.1, h.2.2.2.2.1, h.2.2.2.2.2⟩
theorem fw_fq {r : Nat} (h : mu_fq A r g g1) (hB : B r) : mu_fw A B g g1 := ⟨h.1, h.2.1, fun a ha => h.2.2.1 a (fun e => ha (by rw [e]; exact hB)), h.2.2.2.1, h.2.2.2.2.1, h.2.2.2.2.2⟩
theorem fw_sR {a k v : Nat} (hB : B a) : mu_fw A B g (mu_sR g a k v) := ⟨rfl, rfl, fun x hx => funext fun z => if_neg (fun q => hx (by rw [q.1]; exact hB)), rfl, rfl, fun _ _ => rfl⟩
theorem fw_rf : mu_fw A B g g := fw_fr mu_fr_rf
theorem fw_tr (h1 : mu_fw A B g g1) (h2 : mu_fw A B g1 g2) : mu_fw A B g g2 :=
  ⟨h2.1.trans h1.1, h2.2.1.trans h1.2.1, fun a ha => (h2.2.2.1 a ha).trans (h1.2.2.1 a ha), h2.2.2.2.1.trans h1.2.2.2.1, h2.2.2.2.2.1.trans h1.2.2.2.2.1, fun a ha => (h2.2.2.2.2.2 a ha).trans (h1.2.2.2.2.2 a ha)⟩
theorem fw_mono (h : mu_fw A B g g1) (h1 : ∀ a, A a → A' a) (h2 : ∀ a, B a → B' a) : mu_fw A' B' g g1 :=
  ⟨h.1, h.2.1, fun a ha => h.2.2.1 a (fun q => ha (h2 a q)), h.2.2.2.1, h.2.2.2.2.1, fun a ha => h.2.2.2.2.2 a (fun q => ha (h1 a q))⟩
theorem fw_fit {L : Nat × Nat} (h : mu_fw A B g g1) (hL : mu_fit2 L g) : mu_fit2 L g1 := by
  unfold mu_fit2
  rw [h.2.2.2.1, h.2.2.2.2.1]
  exact hL
theorem sc_L_fw {w : mu_O} {b : Nat} (hS : sc_L w b g) (h : mu_fw A B g g1) (hB : ∀ a, B a → a < b ∨ b + 41 ≤ a) : sc_L w b g1 := by
  unfold sc_L
  rw [h.1, h.2.1, h.2.2.1 b (fun q => by have := hB _ q; omega), h.2.2.1 (b + 1) (fun q => by have := hB _ q; omega), h.2.2.1 (b + 2) (fun q => by have := hB _ q; omega), h.2.2.1 (b + 5) (fun q => by have := hB _ q; omega), h.2.2.1 (b + 10) (fun q => by have := hB _ q; omega)]
  exact hS
theorem sc_V_fw {w : mu_O} {b E : Nat} {s : Nat → Int32} (hV : sc_V w E b s g) (hc : wf_c s) (h : mu_fw A B g g1) (hA : ∀ a, A a → ((a < b ∨ b + 41 ≤ a) ∧ a < E) ∨ jU E a) (hB : ∀ a, B a → (a < b ∨ b + 41 ≤ a) ∧ a < E) : sc_V w E b s g1 := by
  have hE := sv_E hV
  have hb := wc_b hc
  have nj : ∀ a, jU E a → E ≤ a := fun a q => q.1
  have e : ∀ k, k < 41 → mu_I g1 (b + k) = mu_I g (b + k) := fun k hk => h.2.2.2.2.2 _ (fun q => by
    rcases hA _ q with q | q
    · omega
    · have := nj _ q; omega)
  have e0 : mu_I g1 b = mu_I g b := e 0 (by omega)
  have eP : ∀ p, p < 8 → mu_I g1 (b + 13 + p) = mu_I g (b + 13 + p) := fun p hp => by rw [Nat.add_assoc]; exact e _ (by omega)
  have eM : ∀ p, p < 20 → mu_I g1 (b + 21 + p) = mu_I g (b + 21 + p) := fun p hp => by rw [Nat.add_assoc]; exact e _ (by omega)
  obtain ⟨h0, h1, h2, h3, h4, h5, h6, h7, h8, h9⟩ := hV
  unfold sc_V
  rw [e0, e 10 (by omega), e 3 (by omega), e 4 (by omega), e 6 (by omega), e 7 (by omega), e 8 (by omega), e 9 (by omega), e 11 (by omega), h.2.2.1 (b + 5) (fun q => by have := hB _ q; omega)]
  refine ⟨h0, h1, fun p f hp hf2 => ?_, fun m f hm hf2 => ?_, h4, fun t ht => ?_, h6, h7, h8, h9⟩
  · rw [eP p (by omega)]; exact h2 p f hp hf2
  · rw [eM m (by omega)]; exact h3 m f hm hf2
  · obtain ⟨a1, a2, a3, a4, a5, a6, a7, a8, a9, a10, a11, a12⟩ := h5 t ht
    unfold tx_R
    rw [h.1, h.2.1, h.2.2.1 (mu_R g (b + 5) t) (fun q => by have := hB _ q; have := a2.2.2.1; omega), h.2.2.2.2.2 _ (fun q => by rcases hA _ q with q | q; (have := a2.2.2.1; omega); exact a2.2.1 q), h.2.2.2.2.2 _ (fun q => by rcases hA _ q with q | q; (have := a2.2.2.2; omega); exact a6 q)]
    exact ⟨a1, a2, a3, a4, a5, a6, a7, a8, a9, a10, a11, a12⟩
theorem sg_fw {w : mu_O} {S b : Nat} (hG : sg_L w S b g) (h : mu_fw A B g g1) (hB : ¬ B S) : sg_L w S b g1 := by
  unfold sg_L
  rw [h.1, h.2.1, h.2.2.1 S hB]
  exact hG
theorem sh_fw {w : mu_O} {H S b : Nat} (hH : sh_L w H S b g) (h : mu_fw A B g g1) (hB : ¬ B H) : sh_L w H S b g1 := by
  unfold sh_L
  rw [h.1, h.2.1, h.2.2.1 H hB]
  exact hH
theorem st_fw {w : mu_O} (hs : st_L w g) (h : mu_fw A B g g1) (hA : ∀ a, A a → w.1 < a) : st_L w g1 := by
  intro j hj
  obtain ⟨h1, h2, h3, h4⟩ := hs j hj
  rw [h.1, h.2.1, h.2.2.2.2.2 _ (fun q => absurd (hA _ q) (by omega))]
  exact ⟨h1, h2, h3, h4⟩
theorem sg_sR {w : mu_O} {S b b0 : Nat} (hG : sg_L w S b0 g) : sg_L w S b (mu_sR g S 4 b) := by
  obtain ⟨k1, k2, ⟨r0, r1, r2, r3, r4⟩, k3⟩ := hG
  refine ⟨k1, k2, ⟨?_, ?_, ?_, ?_, sR_same g S 4 b⟩, k3⟩
  · rw [sR_R _ _ (by omega)]; exact r0
  · rw [sR_R _ _ (by omega)]; exact r1
  · rw [sR_R _ _ (by omega)]; exact r2
  · rw [sR_R _ _ (by omega)]; exact r3
end Fw
/-- where seeking writes -/
def seA (b S H E : Nat) : Nat → Prop := fun a => (b ≤ a ∧ a < b + 41) ∨ (S ≤ a ∧ a < S + 5) ∨ (H ≤ a ∧ a < H + 3) ∨ jU E a
def seB (b S : Nat) : Nat → Prop := fun a => a = b + 5 ∨ a = S
/-- what seeking answers -/
def seR (s : Nat → Int32) (H : Nat) (v : Int32) (g : mu_H) : Prop := (∃ f u t, mini s f u t ∧ v = nI (f + u + t) ∧ mu_I g (H + 2) 0 = nI f ∧ mu_I g (H + 2) 1 = nI u ∧ mu_I g (H + 2) 2 = nI t) ∨ ((∀ f u t, ¬ good s f u t) ∧ v = -1000000005)
section Cz
variable {w : mu_O} {d b b0 bx S H E : Nat} {g : mu_H} {s : Nat → Int32}
set_option maxHeartbeats 4000000 in
theorem sp_X6_seek (hS0 : sc_L w b0 g) (hV0 : sc_V w E b0 s g) (hS : sc_L w b g) (hG : sg_L w S bx g) (hH : sh_L w H S b g) (hst : st_L w g) (hW : wf_s s) (hne : b0 + 41 ≤ b ∨ b + 41 ≤ b0) (hA : b + 41 ≤ S ∧ S + 5 ≤ H ∧ H + 3 ≤ E) (hA0 : b0 + 41 ≤ S) :
    mu_mp w mm_X6_seek (d + 7) [.ref H, .ref b0] g (fun x g' => ∃ v, x = some (.int v) ∧ (seR s H v g' ∧ mu_I g' H 3 = nI (nK s) ∧ mu_fw (seA b S H E) (seB b S) g g' ∧ sc_L w b g' ∧ sg_L w S b g')) := by
  refine mu_mkp mk_X6_seek rfl (fun L hL Q hQ => fm_X6_seek_0 ?_)
  have hc := ws_c hW
  have hb := wc_b hc
  have hn : nK s ≤ nch s := by unfold nK; omega
  have hn3 : nK s ≤ 3 := by unfold nK; omega
  have hwH := hH.1
  have hwb := sc_w hS
  have nj : ∀ a, jU E a → E ≤ a := fun a q => q.1
  have hB1 : ¬ seB b S H := by unfold seB; omega
  obtain ⟨h0, hT, r0, r1, r2, r5, ⟨t1, n1⟩, t2, n2⟩ := id hH
  refine ⟨hT, by rw [r0]; exact sc_T hS, ?_⟩
  rw [r0]
  refine mu_cVp (sp_X4_takeFrom hS hS0 hV0 hW hne (by omega)) hL (fun g1 h1 hX1 hS1 => ?_)
  obtain ⟨q1, hS1', hV1⟩ := h1
  have W1 : mu_fw (seA b S H E) (seB b S) g g1 := fw_mono (fw_fq (B := seB b S) q1 (Or.inl rfl)) (fun a q => Or.inl q) (fun a q => q)
  have hH1 := sh_fw hH W1 hB1
  have hG1 : sg_L w S bx g1 := sg_fw hG (fw_fq (B := fun a => a = b + 5) q1 rfl) (by omega)
  have hst1 := st_fw hst W1 (fun a q => by rcases q with q | q | q | q; omega; (have := sg_w hG; omega); omega; have := nj _ q; omega)
  obtain ⟨-, hT1, r01, r11, r21, r51, -, -, -⟩ := id hH1
  refine ⟨hT1, hT1, by rw [r11]; exact sg_T hG1, ?_⟩
  rw [r01, r11]
  have hSE : b + 41 ≤ S ∧ S + 5 ≤ E := ⟨hA.1, by omega⟩
  refine mu_cVp (sp_X8_look hS1' hV1 hc hG1 hSE hst1 hW) (fw_fit W1 hL) (fun g2 h2 hX2 hS2 => ?_)
  obtain ⟨f2, hP2, hT2⟩ := h2
  have hS2' := sc_L_fr (sc_L_sR (v := b) hS1' hSE.1) f2
  have hV2 := sv_fr' (sc_V_sR (v := b) hV1 hSE) hc f2 (fun a q => by rcases q with q | q | q | q; left; omega; left; omega; left; omega; exact Or.inr q)
  have hG2 := sg_fr (sg_sR (b := b) hG1) f2
  have W2 : mu_fw (seA b S H E) (seB b S) g g2 := fw_tr (fw_tr W1 (fw_sR (Or.inr rfl))) (fw_fr (mu_fr_mono f2 (fun a q => by rcases q with q | q | q | q; exact Or.inr (Or.inl (by omega)); exact Or.inr (Or.inl (by omega)); exact Or.inr (Or.inl (by omega)); exact Or.inr (Or.inr (Or.inr q)))))
  have hH2 := sh_fw hH W2 hB1
  have hst2 := st_fw hst W2 (fun a q => by rcases q with q | q | q | q; omega; (have := sg_w hG; omega); omega; have := nj _ q; omega)
  obtain ⟨-, hTT, s0, s1, s2, s5, ⟨x1, y1⟩, x2, y2⟩ := id hH2
  have emn : mu_min (nI 3) (mu_I g2 b 14) = nI (nK s) := by rw [sv_4 hV2 hc, mn_n (by omega) (by omega)]; rfl
  simp (disch := omega) only [hTT, s0, sc_T hS2', emn, li_n, nI_add, pk_mul, nI_clamp, nI_ltI, nI_leI, nI_eq, mi_n, Nat.add_zero, true_and, and_true, true_or, or_true, false_or, or_false, not_false_eq_true, not_true_eq_false, implies_true, forall_const, ne_eq, Classical.not_not, reduceCtorEq, nor_p, cI_1n, bI_1n, cI_F, cI_T, cI_0, cI_0n, bI_0, bI_0n, cI_01, bI_01, Nat.reduceLeDiff, Nat.reduceLT, Nat.reduceEqDiff, Nat.reduceSub, Nat.reduceAdd, Nat.lt_irrefl, Nat.le_refl, false_implies, true_implies]
  -- from here on only the tries' cells change
  have hf3 : mu_fr (fun a => a = H ∨ a = H + 1) g2 (mu_sI (mu_sI g2 H 3 (nI (nK s))) H 4 (-nI 1000000005)) := mu_fr_tr (mu_fr_sI (Or.inl rfl)) (mu_fr_sI (Or.inl rfl))
  have i3 : mu_I (mu_sI (mu_sI g2 H 3 (nI (nK s))) H 4 (-nI 1000000005)) H 3 = nI (nK s) := by rw [I_sI_k _ _ _ (by omega), I_sI_same]
  have i4 : mu_I (mu_sI (mu_sI g2 H 3 (nI (nK s))) H 4 (-nI 1000000005)) H 4 = -1000000005 := by rw [I_sI_same]; rfl
  generalize mu_sI (mu_sI g2 H 3 (nI (nK s))) H 4 (-nI 1000000005) = g3 at *
  have toW : ∀ {g'}, mu_fr (fun a => skA b S H a ∨ a = H + 1) g2 g' → mu_fw (seA b S H E) (seB b S) g g' := fun h => fw_tr W2 (fw_fr (mu_fr_mono h (fun a q => by unfold skA at q; unfold seA; omega)))
  have hwA : ∀ a, (skA b S H a ∨ a = H + 1) → w.1 < a := fun a q => by have := sg_w hG2; unfold skA at q; omega
  -- tries
  have tries : ∀ g4, mu_fr (fun a => skA b S H a ∨ a = H + 1) g2 g4 → skI w E b S H s g4 → mu_go w mm_X6_seek (d + 7) L Q 84 [some (.ref H), none, some (.int (nI 0)), none, none] [] g4 := by
    intro g4 hf4 hI4
    have vsum : ∀ f u t, vd (nK s) f u t → f + u + t ≤ nK s * 5 := fun f u t h => by unfold vd at h; omega
    have loop : ∀ k σ g', σ + k = nK s * 5 + 1 → mu_fr (fun a => skA b S H a ∨ a = H + 1) g2 g' → skI w E b S H s g' → (∀ f u t, good s f u t → ¬ f + u + t < σ) → mu_go w mm_X6_seek (d + 7) L Q 84 [some (.ref H), none, some (.int (nI σ)), none, none] [] g' := by
      intro k
      induction k with
      | zero =>
        intro σ g' hk hf hI hno
        have hS' := sc_L_fr hS2' hf
        have hG' := sg_fr hG2 hf
        obtain ⟨-, uT, -⟩ := sh_fr hH2 hf
        refine fm_X6_seek_84 ?_
        simp (disch := omega) only [uT, hI.2.1, show (nK s * 5 < σ) = True from eq_true (by omega), li_n, nI_add, pk_mul, nI_clamp, nI_ltI, nI_leI, nI_eq, mi_n, Nat.add_zero, true_and, and_true, true_or, or_true, false_or, or_false, not_false_eq_true, not_true_eq_false, implies_true, forall_const, ne_eq, Classical.not_not, reduceCtorEq, nor_p, cI_1n, bI_1n, cI_F, cI_T, cI_0, cI_0n, bI_0, bI_0n, cI_01, bI_01, Nat.reduceLeDiff, Nat.reduceLT, Nat.reduceEqDiff, Nat.reduceSub, Nat.reduceAdd, Nat.lt_irrefl, Nat.le_refl, false_implies, true_implies]
        exact hQ _ _ ⟨_, rfl, Or.inr ⟨fun f u t h => hno f u t h (by have := vsum f u t h.1; omega), rfl⟩, hI.2.1, toW hf, hS', hG'⟩ (toW hf).2.2.2.1 (toW hf).2.2.2.2.1
      | succ k ih =>
        intro σ g' hk hf hI hno
        obtain ⟨-, uT, -⟩ := sh_fr hH2 hf
        refine fm_X6_seek_84 ?_
        simp (disch := omega) only [uT, hI.2.1, show (nK s * 5 < σ) = False from eq_false (by omega), li_n, nI_add, pk_mul, nI_clamp, nI_ltI, nI_leI, nI_eq, mi_n, Nat.add_zero, true_and, and_true, true_or, or_true, false_or, or_false, not_false_eq_true, not_true_eq_false, implies_true, forall_const, ne_eq, Classical.not_not, reduceCtorEq, nor_p, cI_1n, bI_1n, cI_F, cI_T, cI_0, cI_0n, bI_0, bI_0n, cI_01, bI_01, Nat.reduceLeDiff, Nat.reduceLT, Nat.reduceEqDiff, Nat.reduceSub, Nat.reduceAdd, Nat.lt_irrefl, Nat.le_refl, false_implies, true_implies]
        have loop1 : ∀ k1 f g', f + k1 = min 5 σ + 1 → mu_fr (fun a => skA b S H a ∨ a = H + 1) g2 g' → skI w E b S H s g' → (∀ f' u' t', good s f' u' t' → ¬ (f' + u' + t' < σ ∨ (f' + u' + t' = σ ∧ f' < f))) → mu_go w mm_X6_seek (d + 7) L Q 96 [some (.ref H), none, some (.int (nI σ)), some (.int (nI f)), none] [] g' := by
          intro k1
          induction k1 with
          | zero =>
            intro f g' hk1 hf hI hno
            refine fm_X6_seek_96 ?_
            simp (disch := omega) only [mn_n, show (min 5 σ < f) = True from eq_true (by omega), li_n, nI_add, pk_mul, nI_clamp, nI_ltI, nI_leI, nI_eq, mi_n, Nat.add_zero, true_and, and_true, true_or, or_true, false_or, or_false, not_false_eq_true, not_true_eq_false, implies_true, forall_const, ne_eq, Classical.not_not, reduceCtorEq, nor_p, cI_1n, bI_1n, cI_F, cI_T, cI_0, cI_0n, bI_0, bI_0n, cI_01, bI_01, Nat.reduceLeDiff, Nat.reduceLT, Nat.reduceEqDiff, Nat.reduceSub, Nat.reduceAdd, Nat.lt_irrefl, Nat.le_refl, false_implies, true_implies]
            refine ih (σ + 1) g' (by omega) hf hI (fun f' u' t' h h2 => hno f' u' t' h ?_)
            have := h.1
            unfold vd at this
            omega
          | succ k1 ih1 =>
            intro f g' hk1 hf hI hno
            refine fm_X6_seek_96 ?_
            simp (disch := omega) only [mn_n, show (min 5 σ < f) = False from eq_false (by omega), li_n, nI_add, pk_mul, nI_clamp, nI_ltI, nI_leI, nI_eq, mi_n, Nat.add_zero, true_and, and_true, true_or, or_true, false_or, or_false, not_false_eq_true, not_true_eq_false, implies_true, forall_const, ne_eq, Classical.not_not, reduceCtorEq, nor_p, cI_1n, bI_1n, cI_F, cI_T, cI_0, cI_0n, bI_0, bI_0n, cI_01, bI_01, Nat.reduceLeDiff, Nat.reduceLT, Nat.reduceEqDiff, Nat.reduceSub, Nat.reduceAdd, Nat.lt_irrefl, Nat.le_refl, false_implies, true_implies]
            have loop2 : ∀ k2 u g', u + k2 = min 5 (σ - f) + 1 → mu_fr (fun a => skA b S H a ∨ a = H + 1) g2 g' → skI w E b S H s g' → (∀ f' u' t', good s f' u' t' → ¬ (f' + u' + t' < σ ∨ (f' + u' + t' = σ ∧ (f' < f ∨ (f' = f ∧ u' < u))))) → mu_go w mm_X6_seek (d + 7) L Q 108 [some (.ref H), none, some (.int (nI σ)), some (.int (nI f)), some (.int (nI u))] [] g' := by
              intro k2
              induction k2 with
              | zero =>
                intro u g' hk2 hf hI hno
                have es : nI σ - nI f = nI (σ - f) := pk_sub (by omega)
                refine fm_X6_seek_108 ?_
                simp (disch := omega) only [es, mn_n, show (min 5 (σ - f) < u) = True from eq_true (by omega), li_n, nI_add, pk_mul, nI_clamp, nI_ltI, nI_leI, nI_eq, mi_n, Nat.add_zero, true_and, and_true, true_or, or_true, false_or, or_false, not_false_eq_true, not_true_eq_false, implies_true, forall_const, ne_eq, Classical.not_not, reduceCtorEq, nor_p, cI_1n, bI_1n, cI_F, cI_T, cI_0, cI_0n, bI_0, bI_0n, cI_01, bI_01, Nat.reduceLeDiff, Nat.reduceLT, Nat.reduceEqDiff, Nat.reduceSub, Nat.reduceAdd, Nat.lt_irrefl, Nat.le_refl, false_implies, true_implies]
                refine ih1 (f + 1) g' (by omega) hf hI (fun f' u' t' h h2 => hno f' u' t' h ?_)
                have := h.1
                unfold vd at this
                omega
              | succ k2 ih2 =>
                intro u g' hk2 hf hI hno
                have hH' := sh_fr hH2 hf
                obtain ⟨-, uT, -⟩ := id hH'
                have es : nI σ - nI f = nI (σ - f) := pk_sub (by omega)
                have es2 : nI (σ - f) - nI u = nI (σ - f - u) := pk_sub (by omega)
                refine fm_X6_seek_108 ?_
                simp (disch := omega) only [uT, es, es2, mn_n, show (min 5 (σ - f) < u) = False from eq_false (by omega), li_n, nI_add, pk_mul, nI_clamp, nI_ltI, nI_leI, nI_eq, mi_n, Nat.add_zero, true_and, and_true, true_or, or_true, false_or, or_false, not_false_eq_true, not_true_eq_false, implies_true, forall_const, ne_eq, Classical.not_not, reduceCtorEq, nor_p, cI_1n, bI_1n, cI_F, cI_T, cI_0, cI_0n, bI_0, bI_0n, cI_01, bI_01, Nat.reduceLeDiff, Nat.reduceLT, Nat.reduceEqDiff, Nat.reduceSub, Nat.reduceAdd, Nat.lt_irrefl, Nat.le_refl, false_implies, true_implies]
                have hf2 : mu_fr (fun a => skA b S H a ∨ a = H + 1) g2 (mu_sI (mu_sI (mu_sI g' (H + 2) 0 (nI f)) (H + 2) 1 (nI u)) (H + 2) 2 (nI (σ - f - u))) := mu_fr_tr (mu_fr_tr (mu_fr_tr hf (mu_fr_sI (by unfold skA; omega))) (mu_fr_sI (by unfold skA; omega))) (mu_fr_sI (by unfold skA; omega))
                refine mu_cI (sp_X6_isToTry hH' hn3 hI.2.1 (by omega) (by omega) (by omega)) (mu_fr_fit hf2 (fw_fit W2 hL)) ?_
                have o : ∀ a, a ≠ H + 2 → mu_I (mu_sI (mu_sI (mu_sI g' (H + 2) 0 (nI f)) (H + 2) 1 (nI u)) (H + 2) 2 (nI (σ - f - u))) a = mu_I g' a := fun a ha => by rw [mu_I_off _ _ _ ha, mu_I_off _ _ _ ha, mu_I_off _ _ _ ha]
                have b0 : mu_I (mu_sI (mu_sI (mu_sI g' (H + 2) 0 (nI f)) (H + 2) 1 (nI u)) (H + 2) 2 (nI (σ - f - u))) (H + 2) 0 = nI f := by rw [I_sI_k _ _ _ (by omega), I_sI_k _ _ _ (by omega), I_sI_same]
                have b1 : mu_I (mu_sI (mu_sI (mu_sI g' (H + 2) 0 (nI f)) (H + 2) 1 (nI u)) (H + 2) 2 (nI (σ - f - u))) (H + 2) 1 = nI u := by rw [I_sI_k _ _ _ (by omega), I_sI_same]
                have b2 : mu_I (mu_sI (mu_sI (mu_sI g' (H + 2) 0 (nI f)) (H + 2) 1 (nI u)) (H + 2) 2 (nI (σ - f - u))) (H + 2) 2 = nI (σ - f - u) := by rw [I_sI_same]
                have hI2 : skI w E b S H s (mu_sI (mu_sI (mu_sI g' (H + 2) 0 (nI f)) (H + 2) 1 (nI u)) (H + 2) 2 (nI (σ - f - u))) := by
                  obtain ⟨⟨ρ, z1, z2⟩, z3, z4, z5, z6, z7⟩ := hI
                  have hfz : mu_fr (fun a => a = H + 2) g' (mu_sI (mu_sI (mu_sI g' (H + 2) 0 (nI f)) (H + 2) 1 (nI u)) (H + 2) 2 (nI (σ - f - u))) := mu_fr_tr (mu_fr_tr (mu_fr_sI rfl) (mu_fr_sI rfl)) (mu_fr_sI rfl)
                  refine ⟨⟨ρ, z1, sv_fr' z2 (ab_c (shR_ag hW hn) hc) hfz (fun a q => by omega)⟩, by rw [o H (by omega)]; exact z3, fun k hk => by rw [o _ (by omega)]; exact z4 k hk, by rw [o H (by omega)]; exact z5, fun p hp hh T hTT => by rw [o _ (by omega), o _ (by omega)]; exact z6 p hp hh T hTT, fun p hp => by rw [o _ (by omega)]; exact z7 p hp⟩
                generalize mu_sI (mu_sI (mu_sI g' (H + 2) 0 (nI f)) (H + 2) 1 (nI u)) (H + 2) 2 (nI (σ - f - u)) = g5 at *
                have next : ∀ g6, mu_fr (fun a => skA b S H a ∨ a = H + 1) g2 g6 → skI w E b S H s g6 → ¬ good s f u (σ - f - u) → mu_go w mm_X6_seek (d + 7) L Q 108 [some (.ref H), none, some (.int (nI σ)), some (.int (nI f)), some (.int (nI (u + 1)))] [] g6 := fun g6 hf6 hI6 hng => ih2 (u + 1) g6 (by omega) hf6 hI6 (fun f' u' t' h h2 => by
                  by_cases e : f' = f ∧ u' = u ∧ t' = σ - f - u
                  · rw [e.1, e.2.1, e.2.2] at h; exact hng h
                  · exact hno f' u' t' h (by omega))
                simp (disch := omega) only [li_n, nI_add, pk_mul, nI_clamp, nI_ltI, nI_leI, nI_eq, mi_n, Nat.add_zero, true_and, and_true, true_or, or_true, false_or, or_false, not_false_eq_true, not_true_eq_false, implies_true, forall_const, ne_eq, Classical.not_not, reduceCtorEq, nor_p, cI_1n, bI_1n, cI_F, cI_T, cI_0, cI_0n, bI_0, bI_0n, cI_01, bI_01, Nat.reduceLeDiff, Nat.reduceLT, Nat.reduceEqDiff, Nat.reduceSub, Nat.reduceAdd, Nat.lt_irrefl, Nat.le_refl, false_implies, true_implies]
                refine ⟨fun hv => next g5 hf2 hI2 (fun q => hv q.1), fun hv => ?_⟩
                have hH5 := sh_fr hH2 hf2
                have htri : ∀ k, k < nK s → mu_I g5 (H + 2) k = nI (tri f u (σ - f - u) k) := fun k hk => by
                  rcases (show k = 0 ∨ k = 1 ∨ k = 2 by omega) with rfl | rfl | rfl
                  · exact b0
                  · exact b1
                  · exact b2
                refine ⟨hH5.2.1, mu_cIp (sp_X6_stands (sc_L_fr hS2' hf2) (sg_fr hG2 hf2) hH5 (st_fr hst2 hf2 hwA) hW hA hI2 htri (fun k => tri_le hv)) (mu_fr_fit hf2 (fw_fit W2 hL)) (fun x g6 hx hX6 hS6 => ?_)⟩
                obtain ⟨ex, f6, e6, I6⟩ := hx
                have hf6 : mu_fr (fun a => skA b S H a ∨ a = H + 1) g2 g6 := mu_fr_tr hf2 (mu_fr_mono f6 (fun a q => Or.inl q))
                rw [ex]
                simp (disch := omega) only [li_n, nI_add, pk_mul, nI_clamp, nI_ltI, nI_leI, nI_eq, mi_n, Nat.add_zero, true_and, and_true, true_or, or_true, false_or, or_false, not_false_eq_true, not_true_eq_false, implies_true, forall_const, ne_eq, Classical.not_not, reduceCtorEq, nor_p, cI_1n, bI_1n, cI_F, cI_T, cI_0, cI_0n, bI_0, bI_0n, cI_01, bI_01, Nat.reduceLeDiff, Nat.reduceLT, Nat.reduceEqDiff, Nat.reduceSub, Nat.reduceAdd, Nat.lt_irrefl, Nat.le_refl, false_implies, true_implies]
                refine ⟨fun hno2 => next g6 hf6 I6 (fun q => hno2 q.2), fun hyes => ?_⟩
                refine hQ _ _ ⟨_, rfl, Or.inl ⟨f, u, σ - f - u, ⟨⟨hv, hyes⟩, fun f' u' t' h => ?_⟩, ?_, by rw [e6]; exact b0, by rw [e6]; exact b1, by rw [e6]; exact b2⟩, I6.2.1, toW hf6, sc_L_fr hS2' hf6, sg_fr hG2 hf6⟩ (toW hf6).2.2.2.1 (toW hf6).2.2.2.2.1
                · have := hno f' u' t' h
                  omega
                · rw [show f + u + (σ - f - u) = σ by omega]
            exact loop2 (min 5 (σ - f) + 1) 0 g' (by omega) hf hI (fun f' u' t' h h2 => hno f' u' t' h (by omega))
        exact loop1 (min 5 σ + 1) 0 g' (by omega) hf hI (fun f' u' t' h h2 => hno f' u' t' h (by omega))
    exact loop (nK s * 5 + 1) 0 g4 (by omega) hf4 hI4 (fun f u t h => Nat.not_lt_zero _)
  -- beats are noted
  have notes : ∀ k i g', i + k = nK s → mu_fr (fun a => a = H ∨ a = H + 1) g2 g' → mu_I g' H 3 = nI (nK s) → mu_I g' H 4 = -1000000005 → (∀ j, j < i → mu_I g' (H + 1) j = nI (vM s (vC s j) 2)) → mu_go w mm_X6_seek (d + 7) L Q 42 [some (.ref H), none, some (.int (nI i)), none, none] [] g' := by
    intro k
    induction k with
    | zero =>
      intro i g' hik hf e3 e4 hj
      have hf' : mu_fr (fun a => skA b S H a ∨ a = H + 1) g2 g' := mu_fr_mono hf (fun a q => by unfold skA; omega)
      obtain ⟨-, uT, -⟩ := sh_fr hH2 hf
      refine fm_X6_seek_42 ?_
      rw [show i = nK s by omega] at hj ⊢
      simp (disch := omega) only [uT, e3, li_n, nI_add, pk_mul, nI_clamp, nI_ltI, nI_leI, nI_eq, mi_n, Nat.add_zero, true_and, and_true, true_or, or_true, false_or, or_false, not_false_eq_true, not_true_eq_false, implies_true, forall_const, ne_eq, Classical.not_not, reduceCtorEq, nor_p, cI_1n, bI_1n, cI_F, cI_T, cI_0, cI_0n, bI_0, bI_0n, cI_01, bI_01, Nat.reduceLeDiff, Nat.reduceLT, Nat.reduceEqDiff, Nat.reduceSub, Nat.reduceAdd, Nat.lt_irrefl, Nat.le_refl, false_implies, true_implies]
      have hz : shR s (fun _ => 0) (nK s) = s := shR_0 (fun k hk => (bI_in hW (by omega)).2.2.2) (fun _ _ => rfl)
      refine tries g' hf' ⟨⟨fun _ => 0, fun _ => Nat.zero_le 5, ?_⟩, e3, hj, Or.inl e4, fun p hp _ T hTT => ?_, fun p hp => ?_⟩
      · rw [hz]; exact sv_fr' hV2 hc hf (fun a q => by omega)
      · rw [hf.2.2.2.2.2 _ (by omega), hf.2.2.2.2.2 _ (by omega)]; exact hP2 p hp T hTT
      · rw [hf.2.2.2.2.2 _ (by omega)]; exact hT2 p hp
    | succ k ih =>
      intro i g' hik hf e3 e4 hj
      have hi : i < nK s := by omega
      have hS' := sc_L_fr hS2' hf
      have hV' := sv_fr' hV2 hc hf (fun a q => by omega)
      obtain ⟨-, uT, u0, u1, u2, u5, ⟨v1, v2⟩, v3, v4⟩ := sh_fr hH2 hf
      have hci := ws_ch hW i (by omega)
      have eC : mu_I g' (b + 7) i = nI (vC s i) := sv_c hV' (ws_ch hW) (by omega)
      have w1 : w.1 < H + 1 := by omega
      refine fm_X6_seek_42 ?_
      simp (disch := omega) only [uT, u0, u2, v1, v2, e3, eC, w1, Nat.not_le_of_lt hi, sv_m hV' (ws_m hW), sc_T hS', sc_R0 hS', sc_R1 hS', sc_R2 hS', sc_R3 hS', sc_R4 hS', sc_R5 hS', sc_R6 hS', sc_R7 hS', sc_R8 hS', sc_R9 hS', sc_T1 hS', sc_N1 hS', sc_RP hS', sc_T2 hS', sc_N2 hS', sc_RM hS', sc_T3 hS', sc_N3 hS', sc_T4 hS', sc_N4 hS', sc_T5 hS', sc_N5 hS', sc_T6 hS', sc_N6 hS', sc_T7 hS', sc_N7 hS', sc_T8 hS', sc_N8 hS', sc_T9 hS', sc_N9 hS', sc_T10 hS', sc_RL0 hS', sc_RL1 hS', sc_T11 hS', sc_N11 hS', sc_T12 hS', sc_N12 hS', sc_TP hS', sc_TM hS', sc_w hS', sc_wj hS', sc_wp hS', li_n, nI_add, pk_mul, nI_clamp, nI_ltI, nI_leI, nI_eq, mi_n, Nat.add_zero, true_and, and_true, true_or, or_true, false_or, or_false, not_false_eq_true, not_true_eq_false, implies_true, forall_const, ne_eq, Classical.not_not, reduceCtorEq, nor_p, cI_1n, bI_1n, cI_F, cI_T, cI_0, cI_0n, bI_0, bI_0n, cI_01, bI_01, Nat.reduceLeDiff, Nat.reduceLT, Nat.reduceEqDiff, Nat.reduceSub, Nat.reduceAdd, Nat.lt_irrefl, Nat.le_refl, false_implies, true_implies]
      refine ⟨by omega, by omega, by omega, ih (i + 1) _ (by omega) (mu_fr_tr hf (mu_fr_sI (Or.inr rfl))) ?_ ?_ (fun j hj2 => ?_)⟩
      · rw [I_sI_a _ _ _ _ (by omega)]; exact e3
      · rw [I_sI_a _ _ _ _ (by omega)]; exact e4
      · by_cases e : j = i
        · rw [e, I_sI_same]
        · rw [I_sI_k _ _ _ (by omega)]; exact hj j (by omega)
  exact notes (nK s) 0 g3 (by omega) hf3 i3 i4 (fun j hj => absurd hj (Nat.not_lt_zero _))
end Cz
