/-! BOTH: the law's loop -/
section Lw
variable {w : mu_O} {ξ : Nat × Nat × (Nat → Int32)} {x E D i tl wl : Nat} {σ : Nat → Nat → Int32} {h : Int32} {g : mu_H} {L : Nat × Nat} {Q : Option Value → mu_H → Prop}
theorem jt_use {K : Int32 → mu_H → Prop} {mc mm : mu_M} {as : List Value} (hT : jT w x E ξ D mc mm as) (hJ : J w x E ξ σ tl wl h g) (hL : mu_X g + 3 ≤ L.1 ∧ mu_S g + 200 ≤ L.2) (hK : ∀ v g1, sq w ξ g1 → mu_T g1 (x + 161) = 12 → (∀ K2 : Int32 → mu_H → Prop, (∀ g2, (∃ σ2 tl2 wl2 h2, J w x E ξ σ2 tl2 wl2 h2 g2) → mu_X g2 ≤ mu_X g + 3 → mu_S g2 ≤ mu_S g + 200 → K2 v g2) → mu_callI w mm D L (.ref (x + 161) :: as) g1 K2) → K v g1) : mu_callI w mc D L (.ref x :: as) g K := by
  obtain ⟨P, X, S, hX, hS, hm, hp⟩ := hT σ tl wl h g hJ
  refine ⟨P, X, S, hm, by omega, by omega, fun r g1 hr X1 S1 => ?_⟩
  obtain ⟨v, rfl, ⟨q1, q2⟩, P2, hm2, hp2⟩ := hp r g1 hr X1 S1
  refine ⟨v, rfl, hK v g1 q1 q2 (fun K2 hK2 => ⟨P2, _, _, hm2, by omega, by omega, fun r2 g2 hr2 X2 S2 => ?_⟩)⟩
  obtain ⟨rfl, hJ2⟩ := hp2 r2 g2 hr2 X2 S2
  exact ⟨v, rfl, hK2 g2 hJ2 (by omega) (by omega)⟩
theorem lw_lt {n i : Nat} (hn : n < 2 ^ 30) (hi : i < 2 ^ 30) : Int32.ofNat n - (6 : Int32) < nI i ↔ n < i + 6 := by
  have e := pk_sub_toInt (a := n) (b := 6) (by omega) (by omega)
  rw [Int32.lt_iff_toInt_lt, show Int32.ofNat n - (6 : Int32) = nI n - nI 6 from rfl, e, nI_toInt (by omega)]
  omega
/-- the walk goes on with the next six numbers -/
def lwN (w : mu_O) (x E : Nat) (ξ : Nat × Nat × (Nat → Int32)) (D i : Nat) (L : Nat × Nat) (Q : Option Value → mu_H → Prop) (g : mu_H) : Prop := ∀ g2, (∃ σ2 tl2 wl2 h2, J w x E ξ σ2 tl2 wl2 h2 g2) → mu_X g2 ≤ mu_X g + 3 → mu_S g2 ≤ mu_S g + 200 → mu_go w mm_L_law (D + 1500 + 1) L Q 18 [some (.ref ξ.1), some (.ref x), some (.ref (x + 161)), some (.int (nI (i + 6)))] [] g2
theorem lc_person (hJ : J w x E ξ σ tl wl h g) (hi : i + 6 ≤ ξ.2.1) (hn : ξ.2.1 ≤ 3072) (hL : mu_X g + 3 ≤ L.1 ∧ mu_S g + 200 ≤ L.2) (ih : lwN w x E ξ D i L Q g) : mu_go w mm_L_law (D + 1500 + 1) L Q 248 [some (.ref ξ.1), some (.ref x), some (.ref (x + 161)), some (.int (nI i))] [] g := by
  obtain ⟨q0, q1, q2, q3⟩ := hJ.2.2.2.2.2.2.2.2
  have T11 := cl_T hJ.2.1.1
  have l6 : nI i + (6 : Int32) = nI (i + 6) := nI_add i 6
  have l1 : nI i + (1 : Int32) = nI (i + 1) := nI_add i 1
  have c1 : (nI (i + 1)).toNatClampNeg = i + 1 := nI_clamp (by omega)
  have m1 : mu_in (nI (i + 1)) ξ.2.1 := mu_in_n (by omega) (by omega)
  have l2 : nI i + (2 : Int32) = nI (i + 2) := nI_add i 2
  have c2 : (nI (i + 2)).toNatClampNeg = i + 2 := nI_clamp (by omega)
  have m2 : mu_in (nI (i + 2)) ξ.2.1 := mu_in_n (by omega) (by omega)
  refine fm_L_law_248 ?_
  simp only [l1, l2, l6, c1, c2, q2, q3]
  refine ⟨q1, m1, q1, m2, T11, jt_use jt_person hJ hL (fun v g1 s1 t1 call => ?_)⟩
  obtain ⟨-, p1, p2, p3⟩ := s1
  simp only [p2, p3]
  exact ⟨p1, m1, p1, m2, t1, call _ (fun g2 J2 x2 s2 => ⟨fun _ => ih g2 J2 x2 s2, fun q => absurd rfl q⟩)⟩
theorem lc_told (hJ : J w x E ξ σ tl wl h g) (hi : i + 6 ≤ ξ.2.1) (hn : ξ.2.1 ≤ 3072) (hL : mu_X g + 3 ≤ L.1 ∧ mu_S g + 200 ≤ L.2) (ih : lwN w x E ξ D i L Q g) : mu_go w mm_L_law (D + 1500 + 1) L Q 281 [some (.ref ξ.1), some (.ref x), some (.ref (x + 161)), some (.int (nI i))] [] g := by
  obtain ⟨q0, q1, q2, q3⟩ := hJ.2.2.2.2.2.2.2.2
  have T11 := cl_T hJ.2.1.1
  have l6 : nI i + (6 : Int32) = nI (i + 6) := nI_add i 6
  have l1 : nI i + (1 : Int32) = nI (i + 1) := nI_add i 1
  have c1 : (nI (i + 1)).toNatClampNeg = i + 1 := nI_clamp (by omega)
  have m1 : mu_in (nI (i + 1)) ξ.2.1 := mu_in_n (by omega) (by omega)
  have l2 : nI i + (2 : Int32) = nI (i + 2) := nI_add i 2
  have c2 : (nI (i + 2)).toNatClampNeg = i + 2 := nI_clamp (by omega)
  have m2 : mu_in (nI (i + 2)) ξ.2.1 := mu_in_n (by omega) (by omega)
  refine fm_L_law_281 ?_
  simp only [l1, l2, l6, c1, c2, q2, q3]
  refine ⟨q1, m1, q1, m2, T11, jt_use jt_told hJ hL (fun v g1 s1 t1 call => ?_)⟩
  obtain ⟨-, p1, p2, p3⟩ := s1
  simp only [p2, p3]
  exact ⟨p1, m1, p1, m2, t1, call _ (fun g2 J2 x2 s2 => ⟨fun _ => ih g2 J2 x2 s2, fun q => absurd rfl q⟩)⟩
theorem lc_set (hJ : J w x E ξ σ tl wl h g) (hi : i + 6 ≤ ξ.2.1) (hn : ξ.2.1 ≤ 3072) (hL : mu_X g + 3 ≤ L.1 ∧ mu_S g + 200 ≤ L.2) (ih : lwN w x E ξ D i L Q g) : mu_go w mm_L_law (D + 1500 + 1) L Q 314 [some (.ref ξ.1), some (.ref x), some (.ref (x + 161)), some (.int (nI i))] [] g := by
  obtain ⟨q0, q1, q2, q3⟩ := hJ.2.2.2.2.2.2.2.2
  have T11 := cl_T hJ.2.1.1
  have l6 : nI i + (6 : Int32) = nI (i + 6) := nI_add i 6
  have l1 : nI i + (1 : Int32) = nI (i + 1) := nI_add i 1
  have c1 : (nI (i + 1)).toNatClampNeg = i + 1 := nI_clamp (by omega)
  have m1 : mu_in (nI (i + 1)) ξ.2.1 := mu_in_n (by omega) (by omega)
  have l2 : nI i + (2 : Int32) = nI (i + 2) := nI_add i 2
  have c2 : (nI (i + 2)).toNatClampNeg = i + 2 := nI_clamp (by omega)
  have m2 : mu_in (nI (i + 2)) ξ.2.1 := mu_in_n (by omega) (by omega)
  have l3 : nI i + (3 : Int32) = nI (i + 3) := nI_add i 3
  have c3 : (nI (i + 3)).toNatClampNeg = i + 3 := nI_clamp (by omega)
  have m3 : mu_in (nI (i + 3)) ξ.2.1 := mu_in_n (by omega) (by omega)
  refine fm_L_law_314 ?_
  simp only [l1, l2, l3, l6, c1, c2, c3, q2, q3]
  refine ⟨q1, m1, q1, m2, q1, m3, T11, jt_use jt_set hJ hL (fun v g1 s1 t1 call => ?_)⟩
  obtain ⟨-, p1, p2, p3⟩ := s1
  simp only [p2, p3]
  exact ⟨p1, m1, p1, m2, p1, m3, t1, call _ (fun g2 J2 x2 s2 => ⟨fun _ => ih g2 J2 x2 s2, fun q => absurd rfl q⟩)⟩
theorem lc_move (hJ : J w x E ξ σ tl wl h g) (hi : i + 6 ≤ ξ.2.1) (hn : ξ.2.1 ≤ 3072) (hL : mu_X g + 3 ≤ L.1 ∧ mu_S g + 200 ≤ L.2) (ih : lwN w x E ξ D i L Q g) : mu_go w mm_L_law (D + 1500 + 1) L Q 357 [some (.ref ξ.1), some (.ref x), some (.ref (x + 161)), some (.int (nI i))] [] g := by
  obtain ⟨q0, q1, q2, q3⟩ := hJ.2.2.2.2.2.2.2.2
  have T11 := cl_T hJ.2.1.1
  have l6 : nI i + (6 : Int32) = nI (i + 6) := nI_add i 6
  have l1 : nI i + (1 : Int32) = nI (i + 1) := nI_add i 1
  have c1 : (nI (i + 1)).toNatClampNeg = i + 1 := nI_clamp (by omega)
  have m1 : mu_in (nI (i + 1)) ξ.2.1 := mu_in_n (by omega) (by omega)
  have l2 : nI i + (2 : Int32) = nI (i + 2) := nI_add i 2
  have c2 : (nI (i + 2)).toNatClampNeg = i + 2 := nI_clamp (by omega)
  have m2 : mu_in (nI (i + 2)) ξ.2.1 := mu_in_n (by omega) (by omega)
  have l3 : nI i + (3 : Int32) = nI (i + 3) := nI_add i 3
  have c3 : (nI (i + 3)).toNatClampNeg = i + 3 := nI_clamp (by omega)
  have m3 : mu_in (nI (i + 3)) ξ.2.1 := mu_in_n (by omega) (by omega)
  have l4 : nI i + (4 : Int32) = nI (i + 4) := nI_add i 4
  have c4 : (nI (i + 4)).toNatClampNeg = i + 4 := nI_clamp (by omega)
  have m4 : mu_in (nI (i + 4)) ξ.2.1 := mu_in_n (by omega) (by omega)
  have l5 : nI i + (5 : Int32) = nI (i + 5) := nI_add i 5
  have c5 : (nI (i + 5)).toNatClampNeg = i + 5 := nI_clamp (by omega)
  have m5 : mu_in (nI (i + 5)) ξ.2.1 := mu_in_n (by omega) (by omega)
  refine fm_L_law_357 ?_
  simp only [l1, l2, l3, l4, l5, l6, c1, c2, c3, c4, c5, q2, q3]
  refine ⟨q1, m1, q1, m2, q1, m3, q1, m4, q1, m5, T11, jt_use jt_move hJ hL (fun v g1 s1 t1 call => ?_)⟩
  obtain ⟨-, p1, p2, p3⟩ := s1
  simp only [p2, p3]
  exact ⟨p1, m1, p1, m2, p1, m3, p1, m4, p1, m5, t1, call _ (fun g2 J2 x2 s2 => ⟨fun _ => ih g2 J2 x2 s2, fun q => absurd rfl q⟩)⟩
theorem lc_of (hJ : J w x E ξ σ tl wl h g) (hi : i + 6 ≤ ξ.2.1) (hn : ξ.2.1 ≤ 3072) (hL : mu_X g + 3 ≤ L.1 ∧ mu_S g + 200 ≤ L.2) (ih : lwN w x E ξ D i L Q g) : mu_go w mm_L_law (D + 1500 + 1) L Q 420 [some (.ref ξ.1), some (.ref x), some (.ref (x + 161)), some (.int (nI i))] [] g := by
  obtain ⟨q0, q1, q2, q3⟩ := hJ.2.2.2.2.2.2.2.2
  have T11 := cl_T hJ.2.1.1
  have l6 : nI i + (6 : Int32) = nI (i + 6) := nI_add i 6
  have l1 : nI i + (1 : Int32) = nI (i + 1) := nI_add i 1
  have c1 : (nI (i + 1)).toNatClampNeg = i + 1 := nI_clamp (by omega)
  have m1 : mu_in (nI (i + 1)) ξ.2.1 := mu_in_n (by omega) (by omega)
  have l2 : nI i + (2 : Int32) = nI (i + 2) := nI_add i 2
  have c2 : (nI (i + 2)).toNatClampNeg = i + 2 := nI_clamp (by omega)
  have m2 : mu_in (nI (i + 2)) ξ.2.1 := mu_in_n (by omega) (by omega)
  refine fm_L_law_420 ?_
  simp only [l1, l2, l6, c1, c2, q2, q3]
  refine ⟨q1, m1, q1, m2, T11, jt_use jt_of hJ hL (fun v g1 s1 t1 call => ?_)⟩
  obtain ⟨-, p1, p2, p3⟩ := s1
  simp only [p2, p3]
  exact ⟨p1, m1, p1, m2, t1, call _ (fun g2 J2 x2 s2 => ⟨fun _ => ih g2 J2 x2 s2, fun q => absurd rfl q⟩)⟩
theorem lc_as (hJ : J w x E ξ σ tl wl h g) (hi : i + 6 ≤ ξ.2.1) (hn : ξ.2.1 ≤ 3072) (hL : mu_X g + 3 ≤ L.1 ∧ mu_S g + 200 ≤ L.2) (ih : lwN w x E ξ D i L Q g) : mu_go w mm_L_law (D + 1500 + 1) L Q 453 [some (.ref ξ.1), some (.ref x), some (.ref (x + 161)), some (.int (nI i))] [] g := by
  obtain ⟨q0, q1, q2, q3⟩ := hJ.2.2.2.2.2.2.2.2
  have T11 := cl_T hJ.2.1.1
  have l6 : nI i + (6 : Int32) = nI (i + 6) := nI_add i 6
  have l1 : nI i + (1 : Int32) = nI (i + 1) := nI_add i 1
  have c1 : (nI (i + 1)).toNatClampNeg = i + 1 := nI_clamp (by omega)
  have m1 : mu_in (nI (i + 1)) ξ.2.1 := mu_in_n (by omega) (by omega)
  have l2 : nI i + (2 : Int32) = nI (i + 2) := nI_add i 2
  have c2 : (nI (i + 2)).toNatClampNeg = i + 2 := nI_clamp (by omega)
  have m2 : mu_in (nI (i + 2)) ξ.2.1 := mu_in_n (by omega) (by omega)
  refine fm_L_law_453 ?_
  simp only [l1, l2, l6, c1, c2, q2, q3]
  refine ⟨q1, m1, q1, m2, T11, jt_use jt_as hJ hL (fun v g1 s1 t1 call => ?_)⟩
  obtain ⟨-, p1, p2, p3⟩ := s1
  simp only [p2, p3]
  exact ⟨p1, m1, p1, m2, t1, call _ (fun g2 J2 x2 s2 => ⟨fun _ => ih g2 J2 x2 s2, fun q => absurd rfl q⟩)⟩
theorem lc_cut (hJ : J w x E ξ σ tl wl h g) (hi : i + 6 ≤ ξ.2.1) (hn : ξ.2.1 ≤ 3072) (hL : mu_X g + 3 ≤ L.1 ∧ mu_S g + 200 ≤ L.2) (ih : lwN w x E ξ D i L Q g) : mu_go w mm_L_law (D + 1500 + 1) L Q 486 [some (.ref ξ.1), some (.ref x), some (.ref (x + 161)), some (.int (nI i))] [] g := by
  obtain ⟨q0, q1, q2, q3⟩ := hJ.2.2.2.2.2.2.2.2
  have T11 := cl_T hJ.2.1.1
  have l6 : nI i + (6 : Int32) = nI (i + 6) := nI_add i 6
  have l1 : nI i + (1 : Int32) = nI (i + 1) := nI_add i 1
  have c1 : (nI (i + 1)).toNatClampNeg = i + 1 := nI_clamp (by omega)
  have m1 : mu_in (nI (i + 1)) ξ.2.1 := mu_in_n (by omega) (by omega)
  have l2 : nI i + (2 : Int32) = nI (i + 2) := nI_add i 2
  have c2 : (nI (i + 2)).toNatClampNeg = i + 2 := nI_clamp (by omega)
  have m2 : mu_in (nI (i + 2)) ξ.2.1 := mu_in_n (by omega) (by omega)
  refine fm_L_law_486 ?_
  simp only [l1, l2, l6, c1, c2, q2, q3]
  refine ⟨q1, m1, q1, m2, fun z => ⟨T11, jt_use (jt_cut (Or.inl rfl)) hJ hL (fun v g1 s1 t1 call => ?_)⟩, fun z => ⟨T11, jt_use (jt_cut (Or.inr rfl)) hJ hL (fun v g1 s1 t1 call => ?_)⟩⟩
  · obtain ⟨-, p1, p2, p3⟩ := s1
    simp only [p2, p3]
    exact ⟨p1, m1, p1, m2, fun _ => ⟨t1, call _ (fun g2 J2 x2 s2 => ⟨fun _ => ih g2 J2 x2 s2, fun q => absurd rfl q⟩)⟩, fun y => absurd z y⟩
  · obtain ⟨-, p1, p2, p3⟩ := s1
    simp only [p2, p3]
    exact ⟨p1, m1, p1, m2, fun y => absurd y z, fun _ => ⟨t1, call _ (fun g2 J2 x2 s2 => ⟨fun _ => ih g2 J2 x2 s2, fun q => absurd rfl q⟩)⟩⟩
theorem lc_wet (hJ : J w x E ξ σ tl wl h g) (hi : i + 6 ≤ ξ.2.1) (hn : ξ.2.1 ≤ 3072) (hL : mu_X g + 3 ≤ L.1 ∧ mu_S g + 200 ≤ L.2) (ih : lwN w x E ξ D i L Q g) : mu_go w mm_L_law (D + 1500 + 1) L Q 535 [some (.ref ξ.1), some (.ref x), some (.ref (x + 161)), some (.int (nI i))] [] g := by
  obtain ⟨q0, q1, q2, q3⟩ := hJ.2.2.2.2.2.2.2.2
  have T11 := cl_T hJ.2.1.1
  have l6 : nI i + (6 : Int32) = nI (i + 6) := nI_add i 6
  have l1 : nI i + (1 : Int32) = nI (i + 1) := nI_add i 1
  have c1 : (nI (i + 1)).toNatClampNeg = i + 1 := nI_clamp (by omega)
  have m1 : mu_in (nI (i + 1)) ξ.2.1 := mu_in_n (by omega) (by omega)
  refine fm_L_law_535 ?_
  simp only [l1, l6, c1, q2, q3]
  refine ⟨q1, m1, T11, jt_use jt_wet hJ hL (fun v g1 s1 t1 call => ?_)⟩
  obtain ⟨-, p1, p2, p3⟩ := s1
  simp only [p2, p3]
  exact ⟨p1, m1, t1, call _ (fun g2 J2 x2 s2 => ⟨fun _ => ih g2 J2 x2 s2, fun q => absurd rfl q⟩)⟩
theorem lc_where (hJ : J w x E ξ σ tl wl h g) (hi : i + 6 ≤ ξ.2.1) (hn : ξ.2.1 ≤ 3072) (hL : mu_X g + 3 ≤ L.1 ∧ mu_S g + 200 ≤ L.2) (ih : lwN w x E ξ D i L Q g) : mu_go w mm_L_law (D + 1500 + 1) L Q 558 [some (.ref ξ.1), some (.ref x), some (.ref (x + 161)), some (.int (nI i))] [] g := by
  obtain ⟨q0, q1, q2, q3⟩ := hJ.2.2.2.2.2.2.2.2
  have T11 := cl_T hJ.2.1.1
  have l6 : nI i + (6 : Int32) = nI (i + 6) := nI_add i 6
  have l1 : nI i + (1 : Int32) = nI (i + 1) := nI_add i 1
  have c1 : (nI (i + 1)).toNatClampNeg = i + 1 := nI_clamp (by omega)
  have m1 : mu_in (nI (i + 1)) ξ.2.1 := mu_in_n (by omega) (by omega)
  have l2 : nI i + (2 : Int32) = nI (i + 2) := nI_add i 2
  have c2 : (nI (i + 2)).toNatClampNeg = i + 2 := nI_clamp (by omega)
  have m2 : mu_in (nI (i + 2)) ξ.2.1 := mu_in_n (by omega) (by omega)
  refine fm_L_law_558 ?_
  simp only [l1, l2, l6, c1, c2, q2, q3]
  refine ⟨q1, m1, q1, m2, T11, jt_use jt_where hJ hL (fun v g1 s1 t1 call => ?_)⟩
  obtain ⟨-, p1, p2, p3⟩ := s1
  simp only [p2, p3]
  exact ⟨p1, m1, p1, m2, t1, call _ (fun g2 J2 x2 s2 => ⟨fun _ => ih g2 J2 x2 s2, fun q => absurd rfl q⟩)⟩
theorem lc_gap (hJ : J w x E ξ σ tl wl h g) (hi : i + 6 ≤ ξ.2.1) (hn : ξ.2.1 ≤ 3072) (hL : mu_X g + 3 ≤ L.1 ∧ mu_S g + 200 ≤ L.2) (ih : lwN w x E ξ D i L Q g) : mu_go w mm_L_law (D + 1500 + 1) L Q 591 [some (.ref ξ.1), some (.ref x), some (.ref (x + 161)), some (.int (nI i))] [] g := by
  obtain ⟨q0, q1, q2, q3⟩ := hJ.2.2.2.2.2.2.2.2
  have T11 := cl_T hJ.2.1.1
  have l6 : nI i + (6 : Int32) = nI (i + 6) := nI_add i 6
  have l1 : nI i + (1 : Int32) = nI (i + 1) := nI_add i 1
  have c1 : (nI (i + 1)).toNatClampNeg = i + 1 := nI_clamp (by omega)
  have m1 : mu_in (nI (i + 1)) ξ.2.1 := mu_in_n (by omega) (by omega)
  have l2 : nI i + (2 : Int32) = nI (i + 2) := nI_add i 2
  have c2 : (nI (i + 2)).toNatClampNeg = i + 2 := nI_clamp (by omega)
  have m2 : mu_in (nI (i + 2)) ξ.2.1 := mu_in_n (by omega) (by omega)
  refine fm_L_law_591 ?_
  simp only [l1, l2, l6, c1, c2, q2, q3]
  refine ⟨q1, m1, q1, m2, T11, jt_use jt_gap hJ hL (fun v g1 s1 t1 call => ?_)⟩
  obtain ⟨-, p1, p2, p3⟩ := s1
  simp only [p2, p3]
  exact ⟨p1, m1, p1, m2, t1, call _ (fun g2 J2 x2 s2 => ⟨fun _ => ih g2 J2 x2 s2, fun q => absurd rfl q⟩)⟩
theorem lc_keeps (hJ : J w x E ξ σ tl wl h g) (hi : i + 6 ≤ ξ.2.1) (hn : ξ.2.1 ≤ 3072) (hL : mu_X g + 3 ≤ L.1 ∧ mu_S g + 200 ≤ L.2) (ih : lwN w x E ξ D i L Q g) : mu_go w mm_L_law (D + 1500 + 1) L Q 624 [some (.ref ξ.1), some (.ref x), some (.ref (x + 161)), some (.int (nI i))] [] g := by
  obtain ⟨q0, q1, q2, q3⟩ := hJ.2.2.2.2.2.2.2.2
  have T11 := cl_T hJ.2.1.1
  have l6 : nI i + (6 : Int32) = nI (i + 6) := nI_add i 6
  have l1 : nI i + (1 : Int32) = nI (i + 1) := nI_add i 1
  have c1 : (nI (i + 1)).toNatClampNeg = i + 1 := nI_clamp (by omega)
  have m1 : mu_in (nI (i + 1)) ξ.2.1 := mu_in_n (by omega) (by omega)
  refine fm_L_law_624 ?_
  simp only [l1, l6, c1, q2, q3]
  refine ⟨q1, m1, T11, jt_use jt_keeps hJ hL (fun v g1 s1 t1 call => ?_)⟩
  obtain ⟨-, p1, p2, p3⟩ := s1
  simp only [p2, p3]
  exact ⟨p1, m1, t1, call _ (fun g2 J2 x2 s2 => ⟨fun _ => ih g2 J2 x2 s2, fun q => absurd rfl q⟩)⟩
theorem lc_breach (hJ : J w x E ξ σ tl wl h g) (hi : i + 6 ≤ ξ.2.1) (hn : ξ.2.1 ≤ 3072) (hL : mu_X g + 3 ≤ L.1 ∧ mu_S g + 200 ≤ L.2) (ih : lwN w x E ξ D i L Q g) : mu_go w mm_L_law (D + 1500 + 1) L Q 647 [some (.ref ξ.1), some (.ref x), some (.ref (x + 161)), some (.int (nI i))] [] g := by
  obtain ⟨q0, q1, q2, q3⟩ := hJ.2.2.2.2.2.2.2.2
  have T11 := cl_T hJ.2.1.1
  have l6 : nI i + (6 : Int32) = nI (i + 6) := nI_add i 6
  have l1 : nI i + (1 : Int32) = nI (i + 1) := nI_add i 1
  have c1 : (nI (i + 1)).toNatClampNeg = i + 1 := nI_clamp (by omega)
  have m1 : mu_in (nI (i + 1)) ξ.2.1 := mu_in_n (by omega) (by omega)
  refine fm_L_law_647 ?_
  simp only [l1, l6, c1, q2, q3]
  refine ⟨q1, m1, T11, jt_use jt_breach hJ hL (fun v g1 s1 t1 call => ?_)⟩
  obtain ⟨-, p1, p2, p3⟩ := s1
  simp only [p2, p3]
  exact ⟨p1, m1, t1, call _ (fun g2 J2 x2 s2 => ⟨fun _ => ih g2 J2 x2 s2, fun q => absurd rfl q⟩)⟩
theorem lc_sign (hJ : J w x E ξ σ tl wl h g) (hi : i + 6 ≤ ξ.2.1) (hn : ξ.2.1 ≤ 3072) (hL : mu_X g + 3 ≤ L.1 ∧ mu_S g + 200 ≤ L.2) (ih : lwN w x E ξ D i L Q g) : mu_go w mm_L_law (D + 1500 + 1) L Q 670 [some (.ref ξ.1), some (.ref x), some (.ref (x + 161)), some (.int (nI i))] [] g := by
  obtain ⟨q0, q1, q2, q3⟩ := hJ.2.2.2.2.2.2.2.2
  have T11 := cl_T hJ.2.1.1
  have l6 : nI i + (6 : Int32) = nI (i + 6) := nI_add i 6
  have l1 : nI i + (1 : Int32) = nI (i + 1) := nI_add i 1
  have c1 : (nI (i + 1)).toNatClampNeg = i + 1 := nI_clamp (by omega)
  have m1 : mu_in (nI (i + 1)) ξ.2.1 := mu_in_n (by omega) (by omega)
  have l2 : nI i + (2 : Int32) = nI (i + 2) := nI_add i 2
  have c2 : (nI (i + 2)).toNatClampNeg = i + 2 := nI_clamp (by omega)
  have m2 : mu_in (nI (i + 2)) ξ.2.1 := mu_in_n (by omega) (by omega)
  refine fm_L_law_670 ?_
  simp only [l1, l2, l6, c1, c2, q2, q3]
  refine ⟨q1, m1, q1, m2, T11, jt_use jt_sign hJ hL (fun v g1 s1 t1 call => ?_)⟩
  obtain ⟨-, p1, p2, p3⟩ := s1
  simp only [p2, p3]
  exact ⟨p1, m1, p1, m2, t1, call _ (fun g2 J2 x2 s2 => ⟨fun _ => ih g2 J2 x2 s2, fun q => absurd rfl q⟩)⟩
theorem lc_unready (hJ : J w x E ξ σ tl wl h g) (hi : i + 6 ≤ ξ.2.1) (hn : ξ.2.1 ≤ 3072) (hL : mu_X g + 3 ≤ L.1 ∧ mu_S g + 200 ≤ L.2) (ih : lwN w x E ξ D i L Q g) : mu_go w mm_L_law (D + 1500 + 1) L Q 703 [some (.ref ξ.1), some (.ref x), some (.ref (x + 161)), some (.int (nI i))] [] g := by
  obtain ⟨q0, q1, q2, q3⟩ := hJ.2.2.2.2.2.2.2.2
  have T11 := cl_T hJ.2.1.1
  have l6 : nI i + (6 : Int32) = nI (i + 6) := nI_add i 6
  have l1 : nI i + (1 : Int32) = nI (i + 1) := nI_add i 1
  have c1 : (nI (i + 1)).toNatClampNeg = i + 1 := nI_clamp (by omega)
  have m1 : mu_in (nI (i + 1)) ξ.2.1 := mu_in_n (by omega) (by omega)
  refine fm_L_law_703 ?_
  simp only [l1, l6, c1, q2, q3]
  refine ⟨q1, m1, T11, jt_use jt_unready hJ hL (fun v g1 s1 t1 call => ?_)⟩
  obtain ⟨-, p1, p2, p3⟩ := s1
  simp only [p2, p3]
  exact ⟨p1, m1, t1, call _ (fun g2 J2 x2 s2 => ⟨fun _ => ih g2 J2 x2 s2, fun q => absurd rfl q⟩)⟩
theorem lc_seen (hJ : J w x E ξ σ tl wl h g) (hi : i + 6 ≤ ξ.2.1) (hn : ξ.2.1 ≤ 3072) (hL : mu_X g + 3 ≤ L.1 ∧ mu_S g + 200 ≤ L.2) (ih : lwN w x E ξ D i L Q g) : mu_go w mm_L_law (D + 1500 + 1) L Q 726 [some (.ref ξ.1), some (.ref x), some (.ref (x + 161)), some (.int (nI i))] [] g := by
  obtain ⟨q0, q1, q2, q3⟩ := hJ.2.2.2.2.2.2.2.2
  have T11 := cl_T hJ.2.1.1
  have l6 : nI i + (6 : Int32) = nI (i + 6) := nI_add i 6
  have l1 : nI i + (1 : Int32) = nI (i + 1) := nI_add i 1
  have c1 : (nI (i + 1)).toNatClampNeg = i + 1 := nI_clamp (by omega)
  have m1 : mu_in (nI (i + 1)) ξ.2.1 := mu_in_n (by omega) (by omega)
  refine fm_L_law_726 ?_
  simp only [l1, l6, c1, q2, q3]
  refine ⟨q1, m1, T11, jt_use jt_seen hJ hL (fun v g1 s1 t1 call => ?_)⟩
  obtain ⟨-, p1, p2, p3⟩ := s1
  simp only [p2, p3]
  exact ⟨p1, m1, t1, call _ (fun g2 J2 x2 s2 => ⟨fun _ => ih g2 J2 x2 s2, fun q => absurd rfl q⟩)⟩
theorem lc_story (hJ : J w x E ξ σ tl wl h g) (hi : i + 6 ≤ ξ.2.1) (hn : ξ.2.1 ≤ 3072) (hL : mu_X g + 3 ≤ L.1 ∧ mu_S g + 200 ≤ L.2) (ih : lwN w x E ξ D i L Q g) : mu_go w mm_L_law (D + 1500 + 1) L Q 749 [some (.ref ξ.1), some (.ref x), some (.ref (x + 161)), some (.int (nI i))] [] g := by
  obtain ⟨q0, q1, q2, q3⟩ := hJ.2.2.2.2.2.2.2.2
  have T11 := cl_T hJ.2.1.1
  have l6 : nI i + (6 : Int32) = nI (i + 6) := nI_add i 6
  refine fm_L_law_749 ?_
  rw [l6]
  exact ⟨T11, jt_use jt_story hJ hL (fun v g1 s1 t1 call => ⟨t1, call _ (fun g2 J2 x2 s2 => ⟨fun _ => ih g2 J2 x2 s2, fun q => absurd rfl q⟩)⟩)⟩
theorem lc_feed (hJ : J w x E ξ σ tl wl h g) (hi : i + 6 ≤ ξ.2.1) (hn : ξ.2.1 ≤ 3072) (hL : mu_X g + 3 ≤ L.1 ∧ mu_S g + 200 ≤ L.2) (ih : lwN w x E ξ D i L Q g) : mu_go w mm_L_law (D + 1500 + 1) L Q 762 [some (.ref ξ.1), some (.ref x), some (.ref (x + 161)), some (.int (nI i))] [] g := by
  obtain ⟨q0, q1, q2, q3⟩ := hJ.2.2.2.2.2.2.2.2
  have T11 := cl_T hJ.2.1.1
  have l6 : nI i + (6 : Int32) = nI (i + 6) := nI_add i 6
  have l1 : nI i + (1 : Int32) = nI (i + 1) := nI_add i 1
  have c1 : (nI (i + 1)).toNatClampNeg = i + 1 := nI_clamp (by omega)
  have m1 : mu_in (nI (i + 1)) ξ.2.1 := mu_in_n (by omega) (by omega)
  have l2 : nI i + (2 : Int32) = nI (i + 2) := nI_add i 2
  have c2 : (nI (i + 2)).toNatClampNeg = i + 2 := nI_clamp (by omega)
  have m2 : mu_in (nI (i + 2)) ξ.2.1 := mu_in_n (by omega) (by omega)
  have l3 : nI i + (3 : Int32) = nI (i + 3) := nI_add i 3
  have c3 : (nI (i + 3)).toNatClampNeg = i + 3 := nI_clamp (by omega)
  have m3 : mu_in (nI (i + 3)) ξ.2.1 := mu_in_n (by omega) (by omega)
  refine fm_L_law_762 ?_
  simp only [l1, l2, l3, l6, c1, c2, c3, q2, q3]
  refine ⟨q1, m1, q1, m2, q1, m3, T11, jt_use jt_feed hJ hL (fun v g1 s1 t1 call => ?_)⟩
  obtain ⟨-, p1, p2, p3⟩ := s1
  simp only [p2, p3]
  exact ⟨p1, m1, p1, m2, p1, m3, t1, call _ (fun g2 J2 x2 s2 => ⟨fun _ => ih g2 J2 x2 s2, fun q => absurd rfl q⟩)⟩
theorem lc_trim (hJ : J w x E ξ σ tl wl h g) (hi : i + 6 ≤ ξ.2.1) (hn : ξ.2.1 ≤ 3072) (hL : mu_X g + 3 ≤ L.1 ∧ mu_S g + 200 ≤ L.2) (ih : lwN w x E ξ D i L Q g) : mu_go w mm_L_law (D + 1500 + 1) L Q 805 [some (.ref ξ.1), some (.ref x), some (.ref (x + 161)), some (.int (nI i))] [] g := by
  obtain ⟨q0, q1, q2, q3⟩ := hJ.2.2.2.2.2.2.2.2
  have T11 := cl_T hJ.2.1.1
  have l6 : nI i + (6 : Int32) = nI (i + 6) := nI_add i 6
  have l1 : nI i + (1 : Int32) = nI (i + 1) := nI_add i 1
  have c1 : (nI (i + 1)).toNatClampNeg = i + 1 := nI_clamp (by omega)
  have m1 : mu_in (nI (i + 1)) ξ.2.1 := mu_in_n (by omega) (by omega)
  refine fm_L_law_805 ?_
  simp only [l1, l6, c1, q2, q3]
  refine ⟨q1, m1, T11, jt_use jt_trim hJ hL (fun v g1 s1 t1 call => ?_)⟩
  obtain ⟨-, p1, p2, p3⟩ := s1
  simp only [p2, p3]
  exact ⟨p1, m1, t1, call _ (fun g2 J2 x2 s2 => ⟨fun _ => ih g2 J2 x2 s2, fun q => absurd rfl q⟩)⟩
theorem lc_text (hJ : J w x E ξ σ tl wl h g) (hi : i + 6 ≤ ξ.2.1) (hn : ξ.2.1 ≤ 3072) (hL : mu_X g + 3 ≤ L.1 ∧ mu_S g + 200 ≤ L.2) (ih : lwN w x E ξ D i L Q g) : mu_go w mm_L_law (D + 1500 + 1) L Q 828 [some (.ref ξ.1), some (.ref x), some (.ref (x + 161)), some (.int (nI i))] [] g := by
  obtain ⟨q0, q1, q2, q3⟩ := hJ.2.2.2.2.2.2.2.2
  have T11 := cl_T hJ.2.1.1
  have l6 : nI i + (6 : Int32) = nI (i + 6) := nI_add i 6
  refine fm_L_law_828 ?_
  rw [l6]
  exact ⟨T11, jt_use jt_text hJ hL (fun v g1 s1 t1 call => ⟨t1, call _ (fun g2 J2 x2 s2 => ⟨fun _ => ih g2 J2 x2 s2, fun q => absurd rfl q⟩)⟩)⟩
theorem lc_textTold (hJ : J w x E ξ σ tl wl h g) (hi : i + 6 ≤ ξ.2.1) (hn : ξ.2.1 ≤ 3072) (hL : mu_X g + 3 ≤ L.1 ∧ mu_S g + 200 ≤ L.2) (ih : lwN w x E ξ D i L Q g) : mu_go w mm_L_law (D + 1500 + 1) L Q 841 [some (.ref ξ.1), some (.ref x), some (.ref (x + 161)), some (.int (nI i))] [] g := by
  obtain ⟨q0, q1, q2, q3⟩ := hJ.2.2.2.2.2.2.2.2
  have T11 := cl_T hJ.2.1.1
  have l6 : nI i + (6 : Int32) = nI (i + 6) := nI_add i 6
  have l1 : nI i + (1 : Int32) = nI (i + 1) := nI_add i 1
  have c1 : (nI (i + 1)).toNatClampNeg = i + 1 := nI_clamp (by omega)
  have m1 : mu_in (nI (i + 1)) ξ.2.1 := mu_in_n (by omega) (by omega)
  have l2 : nI i + (2 : Int32) = nI (i + 2) := nI_add i 2
  have c2 : (nI (i + 2)).toNatClampNeg = i + 2 := nI_clamp (by omega)
  have m2 : mu_in (nI (i + 2)) ξ.2.1 := mu_in_n (by omega) (by omega)
  refine fm_L_law_841 ?_
  simp only [l1, l2, l6, c1, c2, q2, q3]
  refine ⟨q1, m1, q1, m2, T11, jt_use jt_textTold hJ hL (fun v g1 s1 t1 call => ?_)⟩
  obtain ⟨-, p1, p2, p3⟩ := s1
  simp only [p2, p3]
  exact ⟨p1, m1, p1, m2, t1, call _ (fun g2 J2 x2 s2 => ⟨fun _ => ih g2 J2 x2 s2, fun q => absurd rfl q⟩)⟩
theorem lc_hours (hJ : J w x E ξ σ tl wl h g) (hi : i + 6 ≤ ξ.2.1) (hn : ξ.2.1 ≤ 3072) (hL : mu_X g + 3 ≤ L.1 ∧ mu_S g + 200 ≤ L.2) (ih : lwN w x E ξ D i L Q g) : mu_go w mm_L_law (D + 1500 + 1) L Q 874 [some (.ref ξ.1), some (.ref x), some (.ref (x + 161)), some (.int (nI i))] [] g := by
  obtain ⟨q0, q1, q2, q3⟩ := hJ.2.2.2.2.2.2.2.2
  have T11 := cl_T hJ.2.1.1
  have l6 : nI i + (6 : Int32) = nI (i + 6) := nI_add i 6
  have l1 : nI i + (1 : Int32) = nI (i + 1) := nI_add i 1
  have c1 : (nI (i + 1)).toNatClampNeg = i + 1 := nI_clamp (by omega)
  have m1 : mu_in (nI (i + 1)) ξ.2.1 := mu_in_n (by omega) (by omega)
  have l2 : nI i + (2 : Int32) = nI (i + 2) := nI_add i 2
  have c2 : (nI (i + 2)).toNatClampNeg = i + 2 := nI_clamp (by omega)
  have m2 : mu_in (nI (i + 2)) ξ.2.1 := mu_in_n (by omega) (by omega)
  have l3 : nI i + (3 : Int32) = nI (i + 3) := nI_add i 3
  have c3 : (nI (i + 3)).toNatClampNeg = i + 3 := nI_clamp (by omega)
  have m3 : mu_in (nI (i + 3)) ξ.2.1 := mu_in_n (by omega) (by omega)
  refine fm_L_law_874 ?_
  simp only [l1, l2, l3, l6, c1, c2, c3, q2, q3]
  refine ⟨q1, m1, q1, m2, q1, m3, T11, jt_use jt_hours hJ hL (fun v g1 s1 t1 call => ?_)⟩
  obtain ⟨-, p1, p2, p3⟩ := s1
  simp only [p2, p3]
  exact ⟨p1, m1, p1, m2, p1, m3, t1, call _ (fun g2 J2 x2 s2 => ⟨fun _ => ih g2 J2 x2 s2, fun q => absurd rfl q⟩)⟩
theorem lc_practise (hJ : J w x E ξ σ tl wl h g) (hi : i + 6 ≤ ξ.2.1) (hn : ξ.2.1 ≤ 3072) (hL : mu_X g + 3 ≤ L.1 ∧ mu_S g + 200 ≤ L.2) (ih : lwN w x E ξ D i L Q g) : mu_go w mm_L_law (D + 1500 + 1) L Q 917 [some (.ref ξ.1), some (.ref x), some (.ref (x + 161)), some (.int (nI i))] [] g := by
  obtain ⟨q0, q1, q2, q3⟩ := hJ.2.2.2.2.2.2.2.2
  have T11 := cl_T hJ.2.1.1
  have l6 : nI i + (6 : Int32) = nI (i + 6) := nI_add i 6
  have l1 : nI i + (1 : Int32) = nI (i + 1) := nI_add i 1
  have c1 : (nI (i + 1)).toNatClampNeg = i + 1 := nI_clamp (by omega)
  have m1 : mu_in (nI (i + 1)) ξ.2.1 := mu_in_n (by omega) (by omega)
  have l2 : nI i + (2 : Int32) = nI (i + 2) := nI_add i 2
  have c2 : (nI (i + 2)).toNatClampNeg = i + 2 := nI_clamp (by omega)
  have m2 : mu_in (nI (i + 2)) ξ.2.1 := mu_in_n (by omega) (by omega)
  have l3 : nI i + (3 : Int32) = nI (i + 3) := nI_add i 3
  have c3 : (nI (i + 3)).toNatClampNeg = i + 3 := nI_clamp (by omega)
  have m3 : mu_in (nI (i + 3)) ξ.2.1 := mu_in_n (by omega) (by omega)
  refine fm_L_law_917 ?_
  simp only [l1, l2, l3, l6, c1, c2, c3, q2, q3]
  refine ⟨q1, m1, q1, m2, q1, m3, T11, jt_use jt_practise hJ hL (fun v g1 s1 t1 call => ?_)⟩
  obtain ⟨-, p1, p2, p3⟩ := s1
  simp only [p2, p3]
  exact ⟨p1, m1, p1, m2, p1, m3, t1, call _ (fun g2 J2 x2 s2 => ⟨fun _ => ih g2 J2 x2 s2, fun q => absurd rfl q⟩)⟩
theorem lc_may (hJ : J w x E ξ σ tl wl h g) (hi : i + 6 ≤ ξ.2.1) (hn : ξ.2.1 ≤ 3072) (hL : mu_X g + 3 ≤ L.1 ∧ mu_S g + 200 ≤ L.2) (ih : lwN w x E ξ D i L Q g) : mu_go w mm_L_law (D + 1500 + 1) L Q 960 [some (.ref ξ.1), some (.ref x), some (.ref (x + 161)), some (.int (nI i))] [] g := by
  obtain ⟨q0, q1, q2, q3⟩ := hJ.2.2.2.2.2.2.2.2
  have T11 := cl_T hJ.2.1.1
  have l6 : nI i + (6 : Int32) = nI (i + 6) := nI_add i 6
  refine fm_L_law_960 ?_
  rw [l6]
  exact ⟨T11, jt_use jt_may hJ hL (fun v g1 s1 t1 call => ⟨t1, call _ (fun g2 J2 x2 s2 => ⟨fun _ => ih g2 J2 x2 s2, fun q => absurd rfl q⟩)⟩)⟩
theorem lc_choose (hJ : J w x E ξ σ tl wl h g) (hi : i + 6 ≤ ξ.2.1) (hn : ξ.2.1 ≤ 3072) (hL : mu_X g + 3 ≤ L.1 ∧ mu_S g + 200 ≤ L.2) (ih : lwN w x E ξ D i L Q g) : mu_go w mm_L_law (D + 1500 + 1) L Q 973 [some (.ref ξ.1), some (.ref x), some (.ref (x + 161)), some (.int (nI i))] [] g := by
  obtain ⟨q0, q1, q2, q3⟩ := hJ.2.2.2.2.2.2.2.2
  have T11 := cl_T hJ.2.1.1
  have l6 : nI i + (6 : Int32) = nI (i + 6) := nI_add i 6
  have l1 : nI i + (1 : Int32) = nI (i + 1) := nI_add i 1
  have c1 : (nI (i + 1)).toNatClampNeg = i + 1 := nI_clamp (by omega)
  have m1 : mu_in (nI (i + 1)) ξ.2.1 := mu_in_n (by omega) (by omega)
  refine fm_L_law_973 ?_
  simp only [l1, l6, c1, q2, q3]
  refine ⟨q1, m1, T11, jt_use jt_choose hJ hL (fun v g1 s1 t1 call => ?_)⟩
  obtain ⟨-, p1, p2, p3⟩ := s1
  simp only [p2, p3]
  exact ⟨p1, m1, t1, call _ (fun g2 J2 x2 s2 => ⟨fun _ => ih g2 J2 x2 s2, fun q => absurd rfl q⟩)⟩
theorem lc_clear (hJ : J w x E ξ σ tl wl h g) (hi : i + 6 ≤ ξ.2.1) (hn : ξ.2.1 ≤ 3072) (hL : mu_X g + 3 ≤ L.1 ∧ mu_S g + 200 ≤ L.2) (ih : lwN w x E ξ D i L Q g) : mu_go w mm_L_law (D + 1500 + 1) L Q 996 [some (.ref ξ.1), some (.ref x), some (.ref (x + 161)), some (.int (nI i))] [] g := by
  obtain ⟨q0, q1, q2, q3⟩ := hJ.2.2.2.2.2.2.2.2
  have T11 := cl_T hJ.2.1.1
  have l6 : nI i + (6 : Int32) = nI (i + 6) := nI_add i 6
  refine fm_L_law_996 ?_
  rw [l6]
  exact ⟨T11, jt_use jt_clear hJ hL (fun v g1 s1 t1 call => ⟨t1, call _ (fun g2 J2 x2 s2 => ⟨fun _ => ih g2 J2 x2 s2, fun q => absurd rfl q⟩)⟩)⟩
theorem lc_understudy (hJ : J w x E ξ σ tl wl h g) (hi : i + 6 ≤ ξ.2.1) (hn : ξ.2.1 ≤ 3072) (hL : mu_X g + 3 ≤ L.1 ∧ mu_S g + 200 ≤ L.2) (ih : lwN w x E ξ D i L Q g) : mu_go w mm_L_law (D + 1500 + 1) L Q 1009 [some (.ref ξ.1), some (.ref x), some (.ref (x + 161)), some (.int (nI i))] [] g := by
  obtain ⟨q0, q1, q2, q3⟩ := hJ.2.2.2.2.2.2.2.2
  have T11 := cl_T hJ.2.1.1
  have l6 : nI i + (6 : Int32) = nI (i + 6) := nI_add i 6
  have l1 : nI i + (1 : Int32) = nI (i + 1) := nI_add i 1
  have c1 : (nI (i + 1)).toNatClampNeg = i + 1 := nI_clamp (by omega)
  have m1 : mu_in (nI (i + 1)) ξ.2.1 := mu_in_n (by omega) (by omega)
  have l2 : nI i + (2 : Int32) = nI (i + 2) := nI_add i 2
  have c2 : (nI (i + 2)).toNatClampNeg = i + 2 := nI_clamp (by omega)
  have m2 : mu_in (nI (i + 2)) ξ.2.1 := mu_in_n (by omega) (by omega)
  have l3 : nI i + (3 : Int32) = nI (i + 3) := nI_add i 3
  have c3 : (nI (i + 3)).toNatClampNeg = i + 3 := nI_clamp (by omega)
  have m3 : mu_in (nI (i + 3)) ξ.2.1 := mu_in_n (by omega) (by omega)
  refine fm_L_law_1009 ?_
  simp only [l1, l2, l3, l6, c1, c2, c3, q2, q3]
  refine ⟨q1, m1, q1, m2, q1, m3, T11, jt_use jt_understudy hJ hL (fun v g1 s1 t1 call => ?_)⟩
  obtain ⟨-, p1, p2, p3⟩ := s1
  simp only [p2, p3]
  exact ⟨p1, m1, p1, m2, p1, m3, t1, call _ (fun g2 J2 x2 s2 => ⟨fun _ => ih g2 J2 x2 s2, fun q => absurd rfl q⟩)⟩
theorem lc_shifts (hJ : J w x E ξ σ tl wl h g) (hi : i + 6 ≤ ξ.2.1) (hn : ξ.2.1 ≤ 3072) (hL : mu_X g + 3 ≤ L.1 ∧ mu_S g + 200 ≤ L.2) (ih : lwN w x E ξ D i L Q g) : mu_go w mm_L_law (D + 1500 + 1) L Q 1052 [some (.ref ξ.1), some (.ref x), some (.ref (x + 161)), some (.int (nI i))] [] g := by
  obtain ⟨q0, q1, q2, q3⟩ := hJ.2.2.2.2.2.2.2.2
  have T11 := cl_T hJ.2.1.1
  have l6 : nI i + (6 : Int32) = nI (i + 6) := nI_add i 6
  have l1 : nI i + (1 : Int32) = nI (i + 1) := nI_add i 1
  have c1 : (nI (i + 1)).toNatClampNeg = i + 1 := nI_clamp (by omega)
  have m1 : mu_in (nI (i + 1)) ξ.2.1 := mu_in_n (by omega) (by omega)
  refine fm_L_law_1052 ?_
  simp only [l1, l6, c1, q2, q3]
  refine ⟨q1, m1, T11, jt_use jt_shifts hJ hL (fun v g1 s1 t1 call => ?_)⟩
  obtain ⟨-, p1, p2, p3⟩ := s1
  simp only [p2, p3]
  exact ⟨p1, m1, t1, call _ (fun g2 J2 x2 s2 => ⟨fun _ => ih g2 J2 x2 s2, fun q => absurd rfl q⟩)⟩
theorem lc_shift (hJ : J w x E ξ σ tl wl h g) (hi : i + 6 ≤ ξ.2.1) (hn : ξ.2.1 ≤ 3072) (hL : mu_X g + 3 ≤ L.1 ∧ mu_S g + 200 ≤ L.2) (ih : lwN w x E ξ D i L Q g) : mu_go w mm_L_law (D + 1500 + 1) L Q 1075 [some (.ref ξ.1), some (.ref x), some (.ref (x + 161)), some (.int (nI i))] [] g := by
  obtain ⟨q0, q1, q2, q3⟩ := hJ.2.2.2.2.2.2.2.2
  have T11 := cl_T hJ.2.1.1
  have l6 : nI i + (6 : Int32) = nI (i + 6) := nI_add i 6
  refine fm_L_law_1075 ?_
  rw [l6]
  exact ⟨T11, jt_use jt_shift hJ hL (fun v g1 s1 t1 call => ⟨t1, call _ (fun g2 J2 x2 s2 => ⟨fun _ => ih g2 J2 x2 s2, fun q => absurd rfl q⟩)⟩)⟩
theorem lc_weapon (hJ : J w x E ξ σ tl wl h g) (hi : i + 6 ≤ ξ.2.1) (hn : ξ.2.1 ≤ 3072) (hL : mu_X g + 3 ≤ L.1 ∧ mu_S g + 200 ≤ L.2) (ih : lwN w x E ξ D i L Q g) : mu_go w mm_L_law (D + 1500 + 1) L Q 1088 [some (.ref ξ.1), some (.ref x), some (.ref (x + 161)), some (.int (nI i))] [] g := by
  obtain ⟨q0, q1, q2, q3⟩ := hJ.2.2.2.2.2.2.2.2
  have T11 := cl_T hJ.2.1.1
  have l6 : nI i + (6 : Int32) = nI (i + 6) := nI_add i 6
  refine fm_L_law_1088 ?_
  rw [l6]
  exact ⟨T11, jt_use jt_weapon hJ hL (fun v g1 s1 t1 call => ⟨t1, call _ (fun g2 J2 x2 s2 => ⟨fun _ => ih g2 J2 x2 s2, fun q => absurd rfl q⟩)⟩)⟩
theorem lc_out (hJ : J w x E ξ σ tl wl h g) (hi : i + 6 ≤ ξ.2.1) (hn : ξ.2.1 ≤ 3072) (hL : mu_X g + 3 ≤ L.1 ∧ mu_S g + 200 ≤ L.2) (ih : lwN w x E ξ D i L Q g) : mu_go w mm_L_law (D + 1500 + 1) L Q 1101 [some (.ref ξ.1), some (.ref x), some (.ref (x + 161)), some (.int (nI i))] [] g := by
  obtain ⟨q0, q1, q2, q3⟩ := hJ.2.2.2.2.2.2.2.2
  have T11 := cl_T hJ.2.1.1
  have l6 : nI i + (6 : Int32) = nI (i + 6) := nI_add i 6
  have l1 : nI i + (1 : Int32) = nI (i + 1) := nI_add i 1
  have c1 : (nI (i + 1)).toNatClampNeg = i + 1 := nI_clamp (by omega)
  have m1 : mu_in (nI (i + 1)) ξ.2.1 := mu_in_n (by omega) (by omega)
  have l2 : nI i + (2 : Int32) = nI (i + 2) := nI_add i 2
  have c2 : (nI (i + 2)).toNatClampNeg = i + 2 := nI_clamp (by omega)
  have m2 : mu_in (nI (i + 2)) ξ.2.1 := mu_in_n (by omega) (by omega)
  refine fm_L_law_1101 ?_
  simp only [l1, l2, l6, c1, c2, q2, q3]
  refine ⟨q1, m1, q1, m2, T11, jt_use jt_out hJ hL (fun v g1 s1 t1 call => ?_)⟩
  obtain ⟨-, p1, p2, p3⟩ := s1
  simp only [p2, p3]
  exact ⟨p1, m1, p1, m2, t1, call _ (fun g2 J2 x2 s2 => ⟨fun _ => ih g2 J2 x2 s2, fun q => absurd rfl q⟩)⟩
theorem lc_in (hJ : J w x E ξ σ tl wl h g) (hi : i + 6 ≤ ξ.2.1) (hn : ξ.2.1 ≤ 3072) (hL : mu_X g + 3 ≤ L.1 ∧ mu_S g + 200 ≤ L.2) (ih : lwN w x E ξ D i L Q g) : mu_go w mm_L_law (D + 1500 + 1) L Q 1134 [some (.ref ξ.1), some (.ref x), some (.ref (x + 161)), some (.int (nI i))] [] g := by
  obtain ⟨q0, q1, q2, q3⟩ := hJ.2.2.2.2.2.2.2.2
  have T11 := cl_T hJ.2.1.1
  have l6 : nI i + (6 : Int32) = nI (i + 6) := nI_add i 6
  have l1 : nI i + (1 : Int32) = nI (i + 1) := nI_add i 1
  have c1 : (nI (i + 1)).toNatClampNeg = i + 1 := nI_clamp (by omega)
  have m1 : mu_in (nI (i + 1)) ξ.2.1 := mu_in_n (by omega) (by omega)
  refine fm_L_law_1134 ?_
  simp only [l1, l6, c1, q2, q3]
  refine ⟨q1, m1, T11, jt_use jt_in hJ hL (fun v g1 s1 t1 call => ?_)⟩
  obtain ⟨-, p1, p2, p3⟩ := s1
  simp only [p2, p3]
  exact ⟨p1, m1, t1, call _ (fun g2 J2 x2 s2 => ⟨fun _ => ih g2 J2 x2 s2, fun q => absurd rfl q⟩)⟩
theorem lc_wear (hJ : J w x E ξ σ tl wl h g) (hi : i + 6 ≤ ξ.2.1) (hn : ξ.2.1 ≤ 3072) (hL : mu_X g + 3 ≤ L.1 ∧ mu_S g + 200 ≤ L.2) (ih : lwN w x E ξ D i L Q g) : mu_go w mm_L_law (D + 1500 + 1) L Q 1157 [some (.ref ξ.1), some (.ref x), some (.ref (x + 161)), some (.int (nI i))] [] g := by
  obtain ⟨q0, q1, q2, q3⟩ := hJ.2.2.2.2.2.2.2.2
  have T11 := cl_T hJ.2.1.1
  have l6 : nI i + (6 : Int32) = nI (i + 6) := nI_add i 6
  have l1 : nI i + (1 : Int32) = nI (i + 1) := nI_add i 1
  have c1 : (nI (i + 1)).toNatClampNeg = i + 1 := nI_clamp (by omega)
  have m1 : mu_in (nI (i + 1)) ξ.2.1 := mu_in_n (by omega) (by omega)
  have l2 : nI i + (2 : Int32) = nI (i + 2) := nI_add i 2
  have c2 : (nI (i + 2)).toNatClampNeg = i + 2 := nI_clamp (by omega)
  have m2 : mu_in (nI (i + 2)) ξ.2.1 := mu_in_n (by omega) (by omega)
  refine fm_L_law_1157 ?_
  simp only [l1, l2, l6, c1, c2, q2, q3]
  refine ⟨q1, m1, q1, m2, T11, jt_use jt_wear hJ hL (fun v g1 s1 t1 call => ?_)⟩
  obtain ⟨-, p1, p2, p3⟩ := s1
  simp only [p2, p3]
  exact ⟨p1, m1, p1, m2, t1, call _ (fun g2 J2 x2 s2 => ⟨fun _ => ih g2 J2 x2 s2, fun q => absurd rfl q⟩)⟩
theorem lc_seed (hJ : J w x E ξ σ tl wl h g) (hi : i + 6 ≤ ξ.2.1) (hn : ξ.2.1 ≤ 3072) (hL : mu_X g + 3 ≤ L.1 ∧ mu_S g + 200 ≤ L.2) (ih : lwN w x E ξ D i L Q g) : mu_go w mm_L_law (D + 1500 + 1) L Q 1190 [some (.ref ξ.1), some (.ref x), some (.ref (x + 161)), some (.int (nI i))] [] g := by
  obtain ⟨q0, q1, q2, q3⟩ := hJ.2.2.2.2.2.2.2.2
  have T11 := cl_T hJ.2.1.1
  have l6 : nI i + (6 : Int32) = nI (i + 6) := nI_add i 6
  have l1 : nI i + (1 : Int32) = nI (i + 1) := nI_add i 1
  have c1 : (nI (i + 1)).toNatClampNeg = i + 1 := nI_clamp (by omega)
  have m1 : mu_in (nI (i + 1)) ξ.2.1 := mu_in_n (by omega) (by omega)
  refine fm_L_law_1190 ?_
  simp only [l1, l6, c1, q2, q3]
  refine ⟨q1, m1, T11, jt_use jt_seed hJ hL (fun v g1 s1 t1 call => ?_)⟩
  obtain ⟨-, p1, p2, p3⟩ := s1
  simp only [p2, p3]
  exact ⟨p1, m1, t1, call _ (fun g2 J2 x2 s2 => ⟨fun _ => ih g2 J2 x2 s2, fun q => absurd rfl q⟩)⟩
theorem lc_show (hJ : J w x E ξ σ tl wl h g) (hi : i + 6 ≤ ξ.2.1) (hn : ξ.2.1 ≤ 3072) (hL : mu_X g + 3 ≤ L.1 ∧ mu_S g + 200 ≤ L.2) (ih : lwN w x E ξ D i L Q g) : mu_go w mm_L_law (D + 1500 + 1) L Q 1213 [some (.ref ξ.1), some (.ref x), some (.ref (x + 161)), some (.int (nI i))] [] g := by
  obtain ⟨q0, q1, q2, q3⟩ := hJ.2.2.2.2.2.2.2.2
  have T11 := cl_T hJ.2.1.1
  have l6 : nI i + (6 : Int32) = nI (i + 6) := nI_add i 6
  have l1 : nI i + (1 : Int32) = nI (i + 1) := nI_add i 1
  have c1 : (nI (i + 1)).toNatClampNeg = i + 1 := nI_clamp (by omega)
  have m1 : mu_in (nI (i + 1)) ξ.2.1 := mu_in_n (by omega) (by omega)
  refine fm_L_law_1213 ?_
  simp only [l1, l6, c1, q2, q3]
  refine ⟨q1, m1, T11, jt_use jt_show hJ hL (fun v g1 s1 t1 call => ?_)⟩
  obtain ⟨-, p1, p2, p3⟩ := s1
  simp only [p2, p3]
  exact ⟨p1, m1, t1, call _ (fun g2 J2 x2 s2 => ⟨fun _ => ih g2 J2 x2 s2, fun q => absurd rfl q⟩)⟩
theorem lc_restAll (hJ : J w x E ξ σ tl wl h g) (hi : i + 6 ≤ ξ.2.1) (hn : ξ.2.1 ≤ 3072) (hL : mu_X g + 3 ≤ L.1 ∧ mu_S g + 200 ≤ L.2) (ih : lwN w x E ξ D i L Q g) : mu_go w mm_L_law (D + 1500 + 1) L Q 1236 [some (.ref ξ.1), some (.ref x), some (.ref (x + 161)), some (.int (nI i))] [] g := by
  obtain ⟨q0, q1, q2, q3⟩ := hJ.2.2.2.2.2.2.2.2
  have T11 := cl_T hJ.2.1.1
  have l6 : nI i + (6 : Int32) = nI (i + 6) := nI_add i 6
  refine fm_L_law_1236 ?_
  rw [l6]
  exact ⟨T11, jt_use jt_restAll hJ hL (fun v g1 s1 t1 call => ⟨t1, call _ (fun g2 J2 x2 s2 => ⟨fun _ => ih g2 J2 x2 s2, fun q => absurd rfl q⟩)⟩)⟩
theorem lc_log (hJ : J w x E ξ σ tl wl h g) (hi : i + 6 ≤ ξ.2.1) (hn : ξ.2.1 ≤ 3072) (hL : mu_X g + 3 ≤ L.1 ∧ mu_S g + 200 ≤ L.2) (ih : lwN w x E ξ D i L Q g) : mu_go w mm_L_law (D + 1500 + 1) L Q 1249 [some (.ref ξ.1), some (.ref x), some (.ref (x + 161)), some (.int (nI i))] [] g := by
  obtain ⟨q0, q1, q2, q3⟩ := hJ.2.2.2.2.2.2.2.2
  have T11 := cl_T hJ.2.1.1
  have l6 : nI i + (6 : Int32) = nI (i + 6) := nI_add i 6
  have l1 : nI i + (1 : Int32) = nI (i + 1) := nI_add i 1
  have c1 : (nI (i + 1)).toNatClampNeg = i + 1 := nI_clamp (by omega)
  have m1 : mu_in (nI (i + 1)) ξ.2.1 := mu_in_n (by omega) (by omega)
  have l2 : nI i + (2 : Int32) = nI (i + 2) := nI_add i 2
  have c2 : (nI (i + 2)).toNatClampNeg = i + 2 := nI_clamp (by omega)
  have m2 : mu_in (nI (i + 2)) ξ.2.1 := mu_in_n (by omega) (by omega)
  refine fm_L_law_1249 ?_
  simp only [l1, l2, l6, c1, c2, q2, q3]
  refine ⟨q1, m1, q1, m2, T11, jt_use jt_log hJ hL (fun v g1 s1 t1 call => ?_)⟩
  obtain ⟨-, p1, p2, p3⟩ := s1
  simp only [p2, p3]
  exact ⟨p1, m1, p1, m2, t1, call _ (fun g2 J2 x2 s2 => ⟨fun _ => ih g2 J2 x2 s2, fun q => absurd rfl q⟩)⟩
theorem lc_led (hJ : J w x E ξ σ tl wl h g) (hi : i + 6 ≤ ξ.2.1) (hn : ξ.2.1 ≤ 3072) (hL : mu_X g + 3 ≤ L.1 ∧ mu_S g + 200 ≤ L.2) (ih : lwN w x E ξ D i L Q g) : mu_go w mm_L_law (D + 1500 + 1) L Q 1282 [some (.ref ξ.1), some (.ref x), some (.ref (x + 161)), some (.int (nI i))] [] g := by
  obtain ⟨q0, q1, q2, q3⟩ := hJ.2.2.2.2.2.2.2.2
  have T11 := cl_T hJ.2.1.1
  have l6 : nI i + (6 : Int32) = nI (i + 6) := nI_add i 6
  refine fm_L_law_1282 ?_
  rw [l6]
  exact ⟨T11, jt_use jt_led hJ hL (fun v g1 s1 t1 call => ⟨t1, call _ (fun g2 J2 x2 s2 => ⟨fun _ => ih g2 J2 x2 s2, fun q => absurd rfl q⟩)⟩)⟩
theorem lc_sheet (hJ : J w x E ξ σ tl wl h g) (hi : i + 6 ≤ ξ.2.1) (hn : ξ.2.1 ≤ 3072) (hL : mu_X g + 3 ≤ L.1 ∧ mu_S g + 200 ≤ L.2) (ih : lwN w x E ξ D i L Q g) : mu_go w mm_L_law (D + 1500 + 1) L Q 1295 [some (.ref ξ.1), some (.ref x), some (.ref (x + 161)), some (.int (nI i))] [] g := by
  obtain ⟨q0, q1, q2, q3⟩ := hJ.2.2.2.2.2.2.2.2
  have T11 := cl_T hJ.2.1.1
  have l6 : nI i + (6 : Int32) = nI (i + 6) := nI_add i 6
  have l1 : nI i + (1 : Int32) = nI (i + 1) := nI_add i 1
  have c1 : (nI (i + 1)).toNatClampNeg = i + 1 := nI_clamp (by omega)
  have m1 : mu_in (nI (i + 1)) ξ.2.1 := mu_in_n (by omega) (by omega)
  have l2 : nI i + (2 : Int32) = nI (i + 2) := nI_add i 2
  have c2 : (nI (i + 2)).toNatClampNeg = i + 2 := nI_clamp (by omega)
  have m2 : mu_in (nI (i + 2)) ξ.2.1 := mu_in_n (by omega) (by omega)
  have l3 : nI i + (3 : Int32) = nI (i + 3) := nI_add i 3
  have c3 : (nI (i + 3)).toNatClampNeg = i + 3 := nI_clamp (by omega)
  have m3 : mu_in (nI (i + 3)) ξ.2.1 := mu_in_n (by omega) (by omega)
  refine fm_L_law_1295 ?_
  simp only [l1, l2, l3, l6, c1, c2, c3, q2, q3]
  refine ⟨q1, m1, q1, m2, q1, m3, T11, jt_use jt_sheet hJ hL (fun v g1 s1 t1 call => ?_)⟩
  obtain ⟨-, p1, p2, p3⟩ := s1
  simp only [p2, p3]
  exact ⟨p1, m1, p1, m2, p1, m3, t1, call _ (fun g2 J2 x2 s2 => ⟨fun _ => ih g2 J2 x2 s2, fun q => absurd rfl q⟩)⟩
theorem lc_mark (hJ : J w x E ξ σ tl wl h g) (hi : i + 6 ≤ ξ.2.1) (hn : ξ.2.1 ≤ 3072) (hL : mu_X g + 3 ≤ L.1 ∧ mu_S g + 200 ≤ L.2) (ih : lwN w x E ξ D i L Q g) : mu_go w mm_L_law (D + 1500 + 1) L Q 1338 [some (.ref ξ.1), some (.ref x), some (.ref (x + 161)), some (.int (nI i))] [] g := by
  obtain ⟨q0, q1, q2, q3⟩ := hJ.2.2.2.2.2.2.2.2
  have T11 := cl_T hJ.2.1.1
  have l6 : nI i + (6 : Int32) = nI (i + 6) := nI_add i 6
  have l1 : nI i + (1 : Int32) = nI (i + 1) := nI_add i 1
  have c1 : (nI (i + 1)).toNatClampNeg = i + 1 := nI_clamp (by omega)
  have m1 : mu_in (nI (i + 1)) ξ.2.1 := mu_in_n (by omega) (by omega)
  have l2 : nI i + (2 : Int32) = nI (i + 2) := nI_add i 2
  have c2 : (nI (i + 2)).toNatClampNeg = i + 2 := nI_clamp (by omega)
  have m2 : mu_in (nI (i + 2)) ξ.2.1 := mu_in_n (by omega) (by omega)
  have l3 : nI i + (3 : Int32) = nI (i + 3) := nI_add i 3
  have c3 : (nI (i + 3)).toNatClampNeg = i + 3 := nI_clamp (by omega)
  have m3 : mu_in (nI (i + 3)) ξ.2.1 := mu_in_n (by omega) (by omega)
  refine fm_L_law_1338 ?_
  simp only [l1, l2, l3, l6, c1, c2, c3, q2, q3]
  refine ⟨q1, m1, q1, m2, q1, m3, T11, jt_use jt_mark hJ hL (fun v g1 s1 t1 call => ?_)⟩
  obtain ⟨-, p1, p2, p3⟩ := s1
  simp only [p2, p3]
  exact ⟨p1, m1, p1, m2, p1, m3, t1, call _ (fun g2 J2 x2 s2 => ⟨fun _ => ih g2 J2 x2 s2, fun q => absurd rfl q⟩)⟩
theorem lc_cuts (hJ : J w x E ξ σ tl wl h g) (hi : i + 6 ≤ ξ.2.1) (hn : ξ.2.1 ≤ 3072) (hL : mu_X g + 3 ≤ L.1 ∧ mu_S g + 200 ≤ L.2) (ih : lwN w x E ξ D i L Q g) : mu_go w mm_L_law (D + 1500 + 1) L Q 1381 [some (.ref ξ.1), some (.ref x), some (.ref (x + 161)), some (.int (nI i))] [] g := by
  obtain ⟨q0, q1, q2, q3⟩ := hJ.2.2.2.2.2.2.2.2
  have T11 := cl_T hJ.2.1.1
  have l6 : nI i + (6 : Int32) = nI (i + 6) := nI_add i 6
  have l1 : nI i + (1 : Int32) = nI (i + 1) := nI_add i 1
  have c1 : (nI (i + 1)).toNatClampNeg = i + 1 := nI_clamp (by omega)
  have m1 : mu_in (nI (i + 1)) ξ.2.1 := mu_in_n (by omega) (by omega)
  refine fm_L_law_1381 ?_
  simp only [l1, l6, c1, q2, q3]
  refine ⟨q1, m1, T11, jt_use jt_cuts hJ hL (fun v g1 s1 t1 call => ?_)⟩
  obtain ⟨-, p1, p2, p3⟩ := s1
  simp only [p2, p3]
  exact ⟨p1, m1, t1, call _ (fun g2 J2 x2 s2 => ⟨fun _ => ih g2 J2 x2 s2, fun q => absurd rfl q⟩)⟩
theorem lc_copy (hJ : J w x E ξ σ tl wl h g) (hi : i + 6 ≤ ξ.2.1) (hn : ξ.2.1 ≤ 3072) (hL : mu_X g + 3 ≤ L.1 ∧ mu_S g + 200 ≤ L.2) (ih : lwN w x E ξ D i L Q g) : mu_go w mm_L_law (D + 1500 + 1) L Q 1404 [some (.ref ξ.1), some (.ref x), some (.ref (x + 161)), some (.int (nI i))] [] g := by
  obtain ⟨q0, q1, q2, q3⟩ := hJ.2.2.2.2.2.2.2.2
  have T11 := cl_T hJ.2.1.1
  have l6 : nI i + (6 : Int32) = nI (i + 6) := nI_add i 6
  have l1 : nI i + (1 : Int32) = nI (i + 1) := nI_add i 1
  have c1 : (nI (i + 1)).toNatClampNeg = i + 1 := nI_clamp (by omega)
  have m1 : mu_in (nI (i + 1)) ξ.2.1 := mu_in_n (by omega) (by omega)
  have l2 : nI i + (2 : Int32) = nI (i + 2) := nI_add i 2
  have c2 : (nI (i + 2)).toNatClampNeg = i + 2 := nI_clamp (by omega)
  have m2 : mu_in (nI (i + 2)) ξ.2.1 := mu_in_n (by omega) (by omega)
  have l3 : nI i + (3 : Int32) = nI (i + 3) := nI_add i 3
  have c3 : (nI (i + 3)).toNatClampNeg = i + 3 := nI_clamp (by omega)
  have m3 : mu_in (nI (i + 3)) ξ.2.1 := mu_in_n (by omega) (by omega)
  have l4 : nI i + (4 : Int32) = nI (i + 4) := nI_add i 4
  have c4 : (nI (i + 4)).toNatClampNeg = i + 4 := nI_clamp (by omega)
  have m4 : mu_in (nI (i + 4)) ξ.2.1 := mu_in_n (by omega) (by omega)
  have l5 : nI i + (5 : Int32) = nI (i + 5) := nI_add i 5
  have c5 : (nI (i + 5)).toNatClampNeg = i + 5 := nI_clamp (by omega)
  have m5 : mu_in (nI (i + 5)) ξ.2.1 := mu_in_n (by omega) (by omega)
  refine fm_L_law_1404 ?_
  simp only [l1, l2, l3, l4, l5, l6, c1, c2, c3, c4, c5, q2, q3]
  refine ⟨q1, m1, q1, m2, q1, m3, q1, m4, q1, m5, T11, jt_use jt_copy hJ hL (fun v g1 s1 t1 call => ?_)⟩
  obtain ⟨-, p1, p2, p3⟩ := s1
  simp only [p2, p3]
  exact ⟨p1, m1, p1, m2, p1, m3, p1, m4, p1, m5, t1, call _ (fun g2 J2 x2 s2 => ⟨fun _ => ih g2 J2 x2 s2, fun q => absurd rfl q⟩)⟩
theorem lc_lay (hJ : J w x E ξ σ tl wl h g) (hi : i + 6 ≤ ξ.2.1) (hn : ξ.2.1 ≤ 3072) (hL : mu_X g + 3 ≤ L.1 ∧ mu_S g + 200 ≤ L.2) (ih : lwN w x E ξ D i L Q g) : mu_go w mm_L_law (D + 1500 + 1) L Q 1467 [some (.ref ξ.1), some (.ref x), some (.ref (x + 161)), some (.int (nI i))] [] g := by
  obtain ⟨q0, q1, q2, q3⟩ := hJ.2.2.2.2.2.2.2.2
  have T11 := cl_T hJ.2.1.1
  have l6 : nI i + (6 : Int32) = nI (i + 6) := nI_add i 6
  have l1 : nI i + (1 : Int32) = nI (i + 1) := nI_add i 1
  have c1 : (nI (i + 1)).toNatClampNeg = i + 1 := nI_clamp (by omega)
  have m1 : mu_in (nI (i + 1)) ξ.2.1 := mu_in_n (by omega) (by omega)
  have l2 : nI i + (2 : Int32) = nI (i + 2) := nI_add i 2
  have c2 : (nI (i + 2)).toNatClampNeg = i + 2 := nI_clamp (by omega)
  have m2 : mu_in (nI (i + 2)) ξ.2.1 := mu_in_n (by omega) (by omega)
  have l3 : nI i + (3 : Int32) = nI (i + 3) := nI_add i 3
  have c3 : (nI (i + 3)).toNatClampNeg = i + 3 := nI_clamp (by omega)
  have m3 : mu_in (nI (i + 3)) ξ.2.1 := mu_in_n (by omega) (by omega)
  refine fm_L_law_1467 ?_
  simp only [l1, l2, l3, l6, c1, c2, c3, q2, q3]
  refine ⟨q1, m1, q1, m2, q1, m3, T11, jt_use jt_lay hJ hL (fun v g1 s1 t1 call => ?_)⟩
  obtain ⟨-, p1, p2, p3⟩ := s1
  simp only [p2, p3]
  exact ⟨p1, m1, p1, m2, p1, m3, t1, call _ (fun g2 J2 x2 s2 => ⟨fun _ => ih g2 J2 x2 s2, fun q => absurd rfl q⟩)⟩
theorem lc_ask (hJ : J w x E ξ σ tl wl h g) (hi : i + 6 ≤ ξ.2.1) (hn : ξ.2.1 ≤ 3072) (hL : mu_X g + 3 ≤ L.1 ∧ mu_S g + 200 ≤ L.2) (ih : lwN w x E ξ D i L Q g) : mu_go w mm_L_law (D + 1500 + 1) L Q 1510 [some (.ref ξ.1), some (.ref x), some (.ref (x + 161)), some (.int (nI i))] [] g := by
  obtain ⟨q0, q1, q2, q3⟩ := hJ.2.2.2.2.2.2.2.2
  have T11 := cl_T hJ.2.1.1
  have l6 : nI i + (6 : Int32) = nI (i + 6) := nI_add i 6
  have l1 : nI i + (1 : Int32) = nI (i + 1) := nI_add i 1
  have c1 : (nI (i + 1)).toNatClampNeg = i + 1 := nI_clamp (by omega)
  have m1 : mu_in (nI (i + 1)) ξ.2.1 := mu_in_n (by omega) (by omega)
  have l2 : nI i + (2 : Int32) = nI (i + 2) := nI_add i 2
  have c2 : (nI (i + 2)).toNatClampNeg = i + 2 := nI_clamp (by omega)
  have m2 : mu_in (nI (i + 2)) ξ.2.1 := mu_in_n (by omega) (by omega)
  refine fm_L_law_1510 ?_
  simp only [l1, l2, l6, c1, c2, q2, q3]
  refine ⟨q1, m1, q1, m2, T11, jt_use jt_ask hJ hL (fun v g1 s1 t1 call => ?_)⟩
  obtain ⟨-, p1, p2, p3⟩ := s1
  simp only [p2, p3]
  exact ⟨p1, m1, p1, m2, t1, call _ (fun g2 J2 x2 s2 => ⟨fun _ => ih g2 J2 x2 s2, fun q => absurd rfl q⟩)⟩
theorem lc_item (hJ : J w x E ξ σ tl wl h g) (hi : i + 6 ≤ ξ.2.1) (hn : ξ.2.1 ≤ 3072) (hL : mu_X g + 3 ≤ L.1 ∧ mu_S g + 200 ≤ L.2) (ih : lwN w x E ξ D i L Q g) : mu_go w mm_L_law (D + 1500 + 1) L Q 1543 [some (.ref ξ.1), some (.ref x), some (.ref (x + 161)), some (.int (nI i))] [] g := by
  obtain ⟨q0, q1, q2, q3⟩ := hJ.2.2.2.2.2.2.2.2
  have T11 := cl_T hJ.2.1.1
  have l6 : nI i + (6 : Int32) = nI (i + 6) := nI_add i 6
  have l1 : nI i + (1 : Int32) = nI (i + 1) := nI_add i 1
  have c1 : (nI (i + 1)).toNatClampNeg = i + 1 := nI_clamp (by omega)
  have m1 : mu_in (nI (i + 1)) ξ.2.1 := mu_in_n (by omega) (by omega)
  have l2 : nI i + (2 : Int32) = nI (i + 2) := nI_add i 2
  have c2 : (nI (i + 2)).toNatClampNeg = i + 2 := nI_clamp (by omega)
  have m2 : mu_in (nI (i + 2)) ξ.2.1 := mu_in_n (by omega) (by omega)
  refine fm_L_law_1543 ?_
  simp only [l1, l2, l6, c1, c2, q2, q3]
  refine ⟨q1, m1, q1, m2, T11, jt_use jt_item hJ hL (fun v g1 s1 t1 call => ?_)⟩
  obtain ⟨-, p1, p2, p3⟩ := s1
  simp only [p2, p3]
  exact ⟨p1, m1, p1, m2, t1, call _ (fun g2 J2 x2 s2 => ⟨fun _ => ih g2 J2 x2 s2, fun q => absurd rfl q⟩)⟩
theorem lc_rest (hJ : J w x E ξ σ tl wl h g) (hi : i + 6 ≤ ξ.2.1) (hn : ξ.2.1 ≤ 3072) (hL : mu_X g + 3 ≤ L.1 ∧ mu_S g + 200 ≤ L.2) (ih : lwN w x E ξ D i L Q g) : mu_go w mm_L_law (D + 1500 + 1) L Q 1576 [some (.ref ξ.1), some (.ref x), some (.ref (x + 161)), some (.int (nI i))] [] g := by
  obtain ⟨q0, q1, q2, q3⟩ := hJ.2.2.2.2.2.2.2.2
  have T11 := cl_T hJ.2.1.1
  have l6 : nI i + (6 : Int32) = nI (i + 6) := nI_add i 6
  have l1 : nI i + (1 : Int32) = nI (i + 1) := nI_add i 1
  have c1 : (nI (i + 1)).toNatClampNeg = i + 1 := nI_clamp (by omega)
  have m1 : mu_in (nI (i + 1)) ξ.2.1 := mu_in_n (by omega) (by omega)
  have l2 : nI i + (2 : Int32) = nI (i + 2) := nI_add i 2
  have c2 : (nI (i + 2)).toNatClampNeg = i + 2 := nI_clamp (by omega)
  have m2 : mu_in (nI (i + 2)) ξ.2.1 := mu_in_n (by omega) (by omega)
  refine fm_L_law_1576 ?_
  simp only [l1, l2, l6, c1, c2, q2, q3]
  refine ⟨q1, m1, q1, m2, T11, jt_use jt_rest hJ hL (fun v g1 s1 t1 call => ?_)⟩
  obtain ⟨-, p1, p2, p3⟩ := s1
  simp only [p2, p3]
  exact ⟨p1, m1, p1, m2, t1, call _ (fun g2 J2 x2 s2 => ⟨fun _ => ih g2 J2 x2 s2, fun q => absurd rfl q⟩)⟩
theorem lc_tell (hJ : J w x E ξ σ tl wl h g) (hi : i + 6 ≤ ξ.2.1) (hn : ξ.2.1 ≤ 3072) (hL : mu_X g + 3 ≤ L.1 ∧ mu_S g + 200 ≤ L.2) (ih : lwN w x E ξ D i L Q g) : mu_go w mm_L_law (D + 1500 + 1) L Q 1609 [some (.ref ξ.1), some (.ref x), some (.ref (x + 161)), some (.int (nI i))] [] g := by
  obtain ⟨q0, q1, q2, q3⟩ := hJ.2.2.2.2.2.2.2.2
  have T11 := cl_T hJ.2.1.1
  have l6 : nI i + (6 : Int32) = nI (i + 6) := nI_add i 6
  have l1 : nI i + (1 : Int32) = nI (i + 1) := nI_add i 1
  have c1 : (nI (i + 1)).toNatClampNeg = i + 1 := nI_clamp (by omega)
  have m1 : mu_in (nI (i + 1)) ξ.2.1 := mu_in_n (by omega) (by omega)
  refine fm_L_law_1609 ?_
  simp only [l1, l6, c1, q2, q3]
  refine ⟨q1, m1, T11, jt_use jt_tell hJ hL (fun v g1 s1 t1 call => ?_)⟩
  obtain ⟨-, p1, p2, p3⟩ := s1
  simp only [p2, p3]
  exact ⟨p1, m1, t1, call _ (fun g2 J2 x2 s2 => ⟨fun _ => ih g2 J2 x2 s2, fun q => absurd rfl q⟩)⟩
theorem lc_check (hJ : J w x E ξ σ tl wl h g) (hi : i + 6 ≤ ξ.2.1) (hn : ξ.2.1 ≤ 3072) (hL : mu_X g + 3 ≤ L.1 ∧ mu_S g + 200 ≤ L.2) (ih : lwN w x E ξ D i L Q g) : mu_go w mm_L_law (D + 1500 + 1) L Q 1632 [some (.ref ξ.1), some (.ref x), some (.ref (x + 161)), some (.int (nI i))] [] g := by
  obtain ⟨q0, q1, q2, q3⟩ := hJ.2.2.2.2.2.2.2.2
  have T11 := cl_T hJ.2.1.1
  have l6 : nI i + (6 : Int32) = nI (i + 6) := nI_add i 6
  have l1 : nI i + (1 : Int32) = nI (i + 1) := nI_add i 1
  have c1 : (nI (i + 1)).toNatClampNeg = i + 1 := nI_clamp (by omega)
  have m1 : mu_in (nI (i + 1)) ξ.2.1 := mu_in_n (by omega) (by omega)
  refine fm_L_law_1632 ?_
  simp only [l1, l6, c1, q2, q3]
  refine ⟨q1, m1, T11, jt_use jt_check hJ hL (fun v g1 s1 t1 call => ?_)⟩
  obtain ⟨-, p1, p2, p3⟩ := s1
  simp only [p2, p3]
  exact ⟨p1, m1, t1, call _ (fun g2 J2 x2 s2 => ⟨fun _ => ih g2 J2 x2 s2, fun q => absurd rfl q⟩)⟩
theorem lc_keep (hJ : J w x E ξ σ tl wl h g) (hi : i + 6 ≤ ξ.2.1) (hn : ξ.2.1 ≤ 3072) (hL : mu_X g + 3 ≤ L.1 ∧ mu_S g + 200 ≤ L.2) (ih : lwN w x E ξ D i L Q g) : mu_go w mm_L_law (D + 1500 + 1) L Q 1655 [some (.ref ξ.1), some (.ref x), some (.ref (x + 161)), some (.int (nI i))] [] g := by
  obtain ⟨q0, q1, q2, q3⟩ := hJ.2.2.2.2.2.2.2.2
  have T11 := cl_T hJ.2.1.1
  have l6 : nI i + (6 : Int32) = nI (i + 6) := nI_add i 6
  refine fm_L_law_1655 ?_
  rw [l6]
  exact ⟨T11, jt_use jt_keep hJ hL (fun v g1 s1 t1 call => ⟨t1, call _ (fun g2 J2 x2 s2 => ⟨fun _ => ih g2 J2 x2 s2, fun q => absurd rfl q⟩)⟩)⟩
theorem lc_back (hJ : J w x E ξ σ tl wl h g) (hi : i + 6 ≤ ξ.2.1) (hn : ξ.2.1 ≤ 3072) (hL : mu_X g + 3 ≤ L.1 ∧ mu_S g + 200 ≤ L.2) (ih : lwN w x E ξ D i L Q g) : mu_go w mm_L_law (D + 1500 + 1) L Q 1668 [some (.ref ξ.1), some (.ref x), some (.ref (x + 161)), some (.int (nI i))] [] g := by
  obtain ⟨q0, q1, q2, q3⟩ := hJ.2.2.2.2.2.2.2.2
  have T11 := cl_T hJ.2.1.1
  have l6 : nI i + (6 : Int32) = nI (i + 6) := nI_add i 6
  refine fm_L_law_1668 ?_
  rw [l6]
  exact ⟨T11, jt_use jt_back hJ hL (fun v g1 s1 t1 call => ⟨t1, call _ (fun g2 J2 x2 s2 => ⟨fun _ => ih g2 J2 x2 s2, fun q => absurd rfl q⟩)⟩)⟩
theorem lc_count (hJ : J w x E ξ σ tl wl h g) (hi : i + 6 ≤ ξ.2.1) (hn : ξ.2.1 ≤ 3072) (hL : mu_X g + 3 ≤ L.1 ∧ mu_S g + 200 ≤ L.2) (ih : lwN w x E ξ D i L Q g) : mu_go w mm_L_law (D + 1500 + 1) L Q 1681 [some (.ref ξ.1), some (.ref x), some (.ref (x + 161)), some (.int (nI i))] [] g := by
  obtain ⟨q0, q1, q2, q3⟩ := hJ.2.2.2.2.2.2.2.2
  have T11 := cl_T hJ.2.1.1
  have l6 : nI i + (6 : Int32) = nI (i + 6) := nI_add i 6
  have l1 : nI i + (1 : Int32) = nI (i + 1) := nI_add i 1
  have c1 : (nI (i + 1)).toNatClampNeg = i + 1 := nI_clamp (by omega)
  have m1 : mu_in (nI (i + 1)) ξ.2.1 := mu_in_n (by omega) (by omega)
  refine fm_L_law_1681 ?_
  simp only [l1, l6, c1, q2, q3]
  refine ⟨q1, m1, T11, jt_use jt_count hJ hL (fun v g1 s1 t1 call => ?_)⟩
  obtain ⟨-, p1, p2, p3⟩ := s1
  simp only [p2, p3]
  exact ⟨p1, m1, t1, call _ (fun g2 J2 x2 s2 => ⟨fun _ => ih g2 J2 x2 s2, fun q => absurd rfl q⟩)⟩
theorem law_loop (hn : ξ.2.1 ≤ 3072) (hQ : ∀ g', Q (some (.int 1)) g') : ∀ m i g, ξ.2.1 < i + 6 * m + 6 → i ≤ ξ.2.1 → (∃ σ tl wl h, J w x E ξ σ tl wl h g) → mu_X g + 3 * m ≤ L.1 → mu_S g + 200 * m ≤ L.2 → mu_go w mm_L_law (D + 1500 + 1) L Q 18 [some (.ref ξ.1), some (.ref x), some (.ref (x + 161)), some (.int (nI i))] [] g := fun m => by
  induction m with
  | zero =>
    intro i g h1 h2 hJ l1 l2
    obtain ⟨σ, tl, wl, h, hJ⟩ := hJ
    obtain ⟨q0, q1, q2, q3⟩ := hJ.2.2.2.2.2.2.2.2
    refine fm_L_law_18 ?_
    rw [q2, q1, lw_lt (by omega) (by omega)]
    exact ⟨by decide, fun _ => ⟨Or.inr rfl, hQ _⟩, fun q => absurd (by omega) q⟩
  | succ m ih =>
    intro i g h1 h2 hJ l1 l2
    obtain ⟨σ, tl, wl, h, hJ⟩ := hJ
    obtain ⟨q0, q1, q2, q3⟩ := hJ.2.2.2.2.2.2.2.2
    refine fm_L_law_18 ?_
    rw [q2, q1, lw_lt (by omega) (by omega), show nI i + (6 : Int32) = nI (i + 6) from nI_add i 6]
    refine ⟨by decide, fun _ => ⟨Or.inr rfl, hQ _⟩, fun q => ⟨rfl, mu_in_n (by omega) (by omega), ?_⟩⟩
    have hi : i + 6 ≤ ξ.2.1 := by omega
    have hL : mu_X g + 3 ≤ L.1 ∧ mu_S g + 200 ≤ L.2 := by omega
    have ihN : lwN w x E ξ D i L Q g := fun g2 J2 x2 s2 => ih (i + 6) g2 (by omega) (by omega) J2 (by omega) (by omega)
    exact ⟨fun _ => ih (i + 6) g (by omega) (by omega) ⟨_, _, _, _, hJ⟩ (by omega) (by omega), fun _ => lc_person hJ hi hn hL ihN, fun _ => lc_told hJ hi hn hL ihN, fun _ => lc_set hJ hi hn hL ihN, fun _ => lc_move hJ hi hn hL ihN, fun _ => lc_of hJ hi hn hL ihN, fun _ => lc_as hJ hi hn hL ihN, fun _ => lc_cut hJ hi hn hL ihN, fun _ => lc_wet hJ hi hn hL ihN, fun _ => lc_where hJ hi hn hL ihN, fun _ => lc_gap hJ hi hn hL ihN, fun _ => lc_keeps hJ hi hn hL ihN, fun _ => lc_breach hJ hi hn hL ihN, fun _ => lc_sign hJ hi hn hL ihN, fun _ => lc_unready hJ hi hn hL ihN, fun _ => lc_seen hJ hi hn hL ihN, fun _ => lc_story hJ hi hn hL ihN, fun _ => lc_feed hJ hi hn hL ihN, fun _ => lc_trim hJ hi hn hL ihN, fun _ => lc_text hJ hi hn hL ihN, fun _ => lc_textTold hJ hi hn hL ihN, fun _ => lc_hours hJ hi hn hL ihN, fun _ => lc_practise hJ hi hn hL ihN, fun _ => lc_may hJ hi hn hL ihN, fun _ => lc_choose hJ hi hn hL ihN, fun _ => lc_clear hJ hi hn hL ihN, fun _ => lc_understudy hJ hi hn hL ihN, fun _ => lc_shifts hJ hi hn hL ihN, fun _ => lc_shift hJ hi hn hL ihN, fun _ => lc_weapon hJ hi hn hL ihN, fun _ => lc_out hJ hi hn hL ihN, fun _ => lc_in hJ hi hn hL ihN, fun _ => lc_wear hJ hi hn hL ihN, fun _ => lc_seed hJ hi hn hL ihN, fun _ => lc_show hJ hi hn hL ihN, fun _ => lc_restAll hJ hi hn hL ihN, fun _ => lc_log hJ hi hn hL ihN, fun _ => lc_led hJ hi hn hL ihN, fun _ => lc_sheet hJ hi hn hL ihN, fun _ => lc_mark hJ hi hn hL ihN, fun _ => lc_cuts hJ hi hn hL ihN, fun _ => lc_copy hJ hi hn hL ihN, fun _ => lc_lay hJ hi hn hL ihN, fun _ => lc_ask hJ hi hn hL ihN, fun _ => lc_item hJ hi hn hL ihN, fun _ => lc_rest hJ hi hn hL ihN, fun _ => lc_tell hJ hi hn hL ihN, fun _ => lc_check hJ hi hn hL ihN, fun _ => lc_keep hJ hi hn hL ihN, fun _ => lc_back hJ hi hn hL ihN, fun _ => lc_count hJ hi hn hL ihN, trivial⟩
end Lw
