/-! CLIENTS: the reference reads as the tape is to be read -/
def rpQ (y : Nat) (B : Nat → Nat) (n b : Nat) (s0 : Nat → Int32) (key : Int32) (f m o u : Nat) (s : PS) (g : mu_H) : Option Value → mu_H → Prop := fun r g' => ∃ z, r = some (.int z) ∧ (z = cI ((prs B n key f m o u s).1 = true) ∧ mu_f2 (prW y) g g' ∧ ((prs B n key f m o u s).1 = true → rp_M y B n b s0 o u (prs B n key f m o u s).2 g') ∧ ∃ o' u', rp_M y B n b s0 o' u' (prs B n key f m o u s).2 g')
/-- what comes at a walk's end -/
def rpE (y : Nat) (B : Nat → Nat) (n b : Nat) (s0 : Nat → Int32) (o u : Nat) (r : Bool × PS) (g : mu_H) (Q : Option Value → mu_H → Prop) : Prop := ∀ g', mu_f2 (prW y) g g' → (r.1 = true → rp_M y B n b s0 o u r.2 g') → (∃ o' u', rp_M y B n b s0 o' u' r.2 g') → Q (some (.int (cI (r.1 = true)))) g'
section Rn
variable {w : mu_O} {y n b : Nat} {B : Nat → Nat} {s0 : Nat → Int32} {k : Nat}
theorem rpE_0 {o u : Nat} {r : Bool × PS} {g g' : mu_H} {Q : Option Value → mu_H → Prop} (hQ : rpE y B n b s0 o u r g Q) (f : mu_f2 (prW y) g g') (h : ¬ r.1 = true) (hR : ∃ o' u', rp_M y B n b s0 o' u' r.2 g') : ((0 : Int32) = 0 ∨ (0 : Int32) = 1) ∧ Q (some (.int 0)) g' := by
  have := hQ g' f (fun z => absurd z h) hR
  rw [cI_f h] at this
  exact ⟨Or.inl rfl, this⟩
theorem rpE_1 {o u : Nat} {r : Bool × PS} {g g' : mu_H} {Q : Option Value → mu_H → Prop} (hQ : rpE y B n b s0 o u r g Q) (f : mu_f2 (prW y) g g') (h : r.1 = true) (hR : rp_M y B n b s0 o u r.2 g') : ((1 : Int32) = 0 ∨ (1 : Int32) = 1) ∧ Q (some (.int 1)) g' := by
  have := hQ g' f (fun _ => hR) ⟨o, u, hR⟩
  rw [cI_t h] at this
  exact ⟨Or.inr rfl, this⟩
theorem jn_ok {f d t o u : Nat} {s : PS} {g : mu_H} {L : Nat × Nat} {Q : Option Value → mu_H → Prop} {K : mu_H → Prop} {z : Int32}
    (IT : ∀ m d o u s g, m ≤ 5 → o ≤ 8 → u ≤ 8 → tkW B n s.1 → 7 * (n - s.1.2.1) + (7 - m) ≤ f → s.2.2.2.1 + n < 96 + s.1.2.1 → md_L w y g → rp_M y B n b s0 o u s g → mu_mp w (mmO m) (d + (2 * f + 10)) [.ref y, .int (nI k)] g (rpQ y B n b s0 (nI k) f m o u s g))
    (hb3 : b ≤ 3270) (ht : t ≤ 4) (ho : o ≤ 8) (hu : u ≤ 8) (hT : tkW B n s.1) (hf : 7 * (n - s.1.2.1) + 1 ≤ f + 1) (hb : s.2.2.2.1 + n < 96 + s.1.2.1) (hM : md_L w y g) (hR : rp_M y B n b s0 o u s g) (hL : mu_fit2 L g) (hj : s.1.1 = 3 ∧ B s.1.2.1 ∈ sgs t) (hz : z = nI (B s.1.2.1))
    (h0 : ∀ g', mu_f2 (prW y) g g' → ¬ (prs B n (nI k) f (t + 1) o u (nx B n s)).1 = true → (∃ o' u', rp_M y B n b s0 o' u' (prs B n (nI k) f (t + 1) o u (nx B n s)).2 g') → ((0 : Int32) = 0 ∨ (0 : Int32) = 1) ∧ Q (some (.int 0)) g')
    (hK : ∀ g', mu_f2 (prW y) g g' → (prs B n (nI k) f (t + 1) o u (nx B n s)).1 = true → rp_M y B n b s0 o u (emt (prs B n (nI k) f (t + 1) o u (nx B n s)).2 2 (nI (B s.1.2.1))) g' → K g') : jnF w (d + (2 * f + 10)) L Q y (nI k) (mmO (t + 1)) z K g := by
  have hn0 : s.1.1 ≠ 0 := by have := hj.1; omega
  have hl := hT.2.2.2.1 hn0
  have hen := hT.2.1
  have q0 := eq_nx (B := B) hT hn0
  have a0 := eq_a q0
  have tn := tk_nx (B := B) hT
  have tn1 := tn.1
  have tn2 := tn.2.1
  have q03 := q0.2.2.1
  have P1 := (pr_ok (B := B) (n := n) (key := nI k) f).1 (t + 1) o u (nx B n s) (by omega) tn (by omega)
  have nxc : (nx B n s).2.2.2.1 = s.2.2.2.1 := rfl
  unfold jnF
  rw [show d + (2 * f + 10) = (d + 2 * f + 8) + 2 by omega]
  refine rp_nx hM hR hT (by omega) hL (fun g2 f2 R2 => ⟨md_T0 (md_L_fr hM (f2_T f2)), ?_⟩)
  have M2 := md_L_fr hM (f2_T f2)
  rw [show (d + 2 * f + 8) + 2 = d + (2 * f + 10) by omega]
  refine mu_cIp (IT (t + 1) d o u (nx B n s) g2 (by omega) ho hu tn (by omega) (by omega) M2 R2) (f2_fit f2 hL) (fun x g3 hz3 _ _ => ?_)
  obtain ⟨rfl, f3, R3, R3'⟩ := hz3
  have F3 := f2_tr f2 f3
  have M3 := md_L_fr hM (f2_T F3)
  rw [cI_0]
  refine ⟨fun s1' => ⟨md_T0 M3, ?_⟩, fun s1' => h0 g3 F3 (fun z => s1' (fun q => q z)) R3'⟩
  have s1 := Classical.not_not.mp s1'
  obtain ⟨t1, q1, -⟩ := P1
  have q13 := q1.2.2.1
  have t11 := t1.1
  have t12 := t1.2.1
  rw [hz]
  exact rp_st M3 (R3 s1) (by omega) hb3 (f2_fit F3 hL) (fun g4 f4 R4 => hK g4 (f2_tr F3 f4) s1 R4)
set_option maxHeartbeats 1000000 in
theorem rp_ok (hk3 : k < 3) (hb3 : b ≤ 3270) : ∀ f,
    (∀ m d o u s g, m ≤ 5 → o ≤ 8 → u ≤ 8 → tkW B n s.1 → 7 * (n - s.1.2.1) + (7 - m) ≤ f → s.2.2.2.1 + n < 96 + s.1.2.1 → md_L w y g → rp_M y B n b s0 o u s g → mu_mp w (mmO m) (d + (2 * f + 10)) [.ref y, .int (nI k)] g (rpQ y B n b s0 (nI k) f m o u s g)) ∧
    (∀ (t d o u : Nat) (s : PS) (g : mu_H) (L : Nat × Nat) (Q : Option Value → mu_H → Prop), t ≤ 4 → o ≤ 8 → u ≤ 8 → tkW B n s.1 → 7 * (n - s.1.2.1) + 1 ≤ f → s.2.2.2.1 + n < 96 + s.1.2.1 → md_L w y g → rp_M y B n b s0 o u s g → mu_fit2 L g → rpE y B n b s0 o u (prs B n (nI k) f (10 + t) o u s) g Q → lpS w (d + (2 * f + 9)) L Q y (nI k) t g)
  | 0 => ⟨fun m d o u s g hm _ _ _ hf => by omega, fun t d o u s g L Q _ _ _ _ hf => by omega⟩
  | f + 1 => by
    obtain ⟨IT, IL⟩ := rp_ok hk3 hb3 f
    have PT := fun m o u s hm hT hf => (pr_ok (B := B) (n := n) (key := nI k) f).1 m o u s hm hT hf
    refine ⟨fun m d o u s g hm ho hu hT hf hb hM hR => ?_, fun t d o u s g L Q ht ho hu hT hf hb hM hR hL hQ => ?_⟩
    · by_cases h5 : m < 5
      · rw [show d + (2 * (f + 1) + 10) = (d + 1 + (2 * f + 10)) + 1 by omega]
        have r1 := PT (m + 1) o u s (by omega) hT (by omega)
        have call := IT (m + 1) (d + 1) o u s g (by omega) ho hu hT (by omega) hb hM hR
        have tail : ∀ (L : Nat × Nat) (Q : Option Value → mu_H → Prop), mu_fit2 L g → (∀ r g', rpQ y B n b s0 (nI k) (f + 1) m o u s g r g' → mu_X g' = mu_X g → mu_S g' = mu_S g → Q r g') → ∀ (z : Int32) (g' : mu_H), (z = cI ((prs B n (nI k) f (m + 1) o u s).1 = true) ∧ mu_f2 (prW y) g g' ∧ ((prs B n (nI k) f (m + 1) o u s).1 = true → rp_M y B n b s0 o u (prs B n (nI k) f (m + 1) o u s).2 g') ∧ ∃ o' u', rp_M y B n b s0 o' u' (prs B n (nI k) f (m + 1) o u s).2 g') → (¬ z = 0 → lpS w (d + 1 + (2 * f + 10)) L Q y (nI k) m g') ∧ (¬ (¬ z = 0) → ((0 : Int32) = 0 ∨ (0 : Int32) = 1) ∧ Q (some (.int 0)) g') := fun L Q hL hQ z g' hz => by
          obtain ⟨rfl, f1, R1, R1'⟩ := hz
          rw [cI_0]
          refine ⟨fun q => ?_, fun q => ?_⟩
          · have s1 := Classical.not_not.mp q
            obtain ⟨t1, q1, x1⟩ := r1
            obtain ⟨l1, -, -⟩ := x1 s1
            have b1 := t1.1
            have b2 := t1.2.1
            have q13 := q1.2.2.1
            have lp := IL m (d + 2) o u (prs B n (nI k) f (m + 1) o u s).2 g' L Q (by omega) ho hu t1 (by omega) (by omega) (md_L_fr hM (f2_T f1)) (R1 s1) (f2_fit f1 hL) (fun g2 f2 a1 a2 => hQ _ _ ⟨_, rfl, by rw [pr_t h5 s1], f2_tr f1 f2, by rw [pr_t h5 s1]; exact a1, by rw [pr_t h5 s1]; exact a2⟩ (f2_tr f1 f2).2.2.2.1 (f2_tr f1 f2).2.2.2.2.1)
            rw [show d + 2 + (2 * f + 9) = d + 1 + (2 * f + 10) by omega] at lp
            exact lp
          · have s1 : ¬ (prs B n (nI k) f (m + 1) o u s).1 = true := fun z => q (fun y => y z)
            exact ⟨Or.inl rfl, hQ _ _ ⟨_, rfl, by rw [pr_tf h5 s1]; exact (cI_f s1).symm, f1, by rw [pr_tf h5 s1]; exact R1, by rw [pr_tf h5 s1]; exact R1'⟩ f1.2.2.2.1 f1.2.2.2.2.1⟩
        rcases (show m = 0 ∨ m = 1 ∨ m = 2 ∨ m = 3 ∨ m = 4 by omega) with rfl | rfl | rfl | rfl | rfl
        · exact mu_mkp mk_X11_either rfl (fun L hL Q hQ => fm_X11_either_0 ⟨md_T0 hM, mu_cIp call hL (fun z g' hz _ _ => tail L Q hL hQ z g' hz)⟩)
        · exact mu_mkp mk_X11_both rfl (fun L hL Q hQ => fm_X11_both_0 ⟨md_T0 hM, mu_cIp call hL (fun z g' hz _ _ => tail L Q hL hQ z g' hz)⟩)
        · exact mu_mkp mk_X11_test rfl (fun L hL Q hQ => fm_X11_test_0 ⟨md_T0 hM, mu_cIp call hL (fun z g' hz _ _ => tail L Q hL hQ z g' hz)⟩)
        · exact mu_mkp mk_X11_sum rfl (fun L hL Q hQ => fm_X11_sum_0 ⟨md_T0 hM, mu_cIp call hL (fun z g' hz _ _ => tail L Q hL hQ z g' hz)⟩)
        · exact mu_mkp mk_X11_term rfl (fun L hL Q hQ => fm_X11_term_0 ⟨md_T0 hM, mu_cIp call hL (fun z g' hz _ _ => tail L Q hL hQ z g' hz)⟩)
      · have em : m = 5 := by omega
        subst em
        rw [show d + (2 * (f + 1) + 10) = (d + 1 + (2 * f + 10)) + 1 by omega]
        refine mu_mkp mk_X11_part0 rfl (fun L hL Q hQ0 => fm_X11_part0_0 ?_)
        have hQ : rpE y B n b s0 o u (prs B n (nI k) (f + 1) 5 o u s) g Q := fun g' f1 a1 a2 => hQ0 _ _ ⟨_, rfl, rfl, f1, a1, a2⟩ f1.2.2.2.1 f1.2.2.2.2.1
        clear hQ0
        obtain ⟨r1, r2, ⟨r3, r4⟩, ⟨r5, r6, r7⟩, r8⟩ := id hR
        obtain ⟨k22, k23, k24, k25, k26, k26'⟩ := id r2
        have hn := r1.1
        have h4 := hT.2.2.1
        have hae := hT.1
        have hen := hT.2.1
        have htm : tkm s.1 ≤ 4 ∧ (tkm s.1 = 1 ↔ s.1.1 = 1) ∧ (tkm s.1 = 2 ↔ s.1.1 = 2 ∧ s.1.2.2 - s.1.2.1 ≤ 4) := by unfold tkm; split <;> omega
        have e2 : nI (tkm s.1) = (2 : Int32) ↔ (s.1.1 = 2 ∧ s.1.2.2 - s.1.2.1 ≤ 4) := (nI_eq (b := 2) (by omega) (by decide)).trans htm.2.2
        have e1 : nI (tkm s.1) = (1 : Int32) ↔ s.1.1 = 1 := (nI_eq (b := 1) (by omega) (by decide)).trans htm.2.1
        have D : d + 1 + (2 * f + 10) = (d + 2 * f + 9) + 2 := by omega
        have leaf : ∀ (a v : Int32), s.1.1 ≠ 0 → (s.1.1 = 2 → s.1.2.2 - s.1.2.1 ≤ 4) → prs B n (nI k) (f + 1) 5 o u s = (true, nx B n (emt (lf s) a v)) → mu_callV w mm_X11_step (d + 1 + (2 * f + 10)) L [.ref y, .int a, .int v] g (fun g71 => mu_T g71 y = 12 ∧ (mu_T g71 y = 12 ∧ (mu_T g71 y = 12 ∧ mu_callV w mm_X11_next (d + 1 + (2 * f + 10)) L [.ref y] (mu_sI g71 y 31 ((mu_I g71 y 31) + (1 : Int32))) (fun g72 => ((1 : Int32) = 0 ∨ (1 : Int32) = 1) ∧ Q (some (.int (1 : Int32))) g72)))) := fun a v hne h54 hp => by
          have hl := hT.2.2.2.1 hne
          refine rp_st hM hR (by omega) hb3 hL (fun g2 f2 R2 => ?_)
          have M2 := md_L_fr hM (f2_T f2)
          have e31 : mu_I g2 y 31 = nI s.2.2.2.2 := R2.2.2.2.1.2.2
          rw [e31, show (nI s.2.2.2.2 : Int32) + 1 = nI (s.2.2.2.2 + 1) from nI_add _ 1]
          have f3 : mu_f2 (prW y) g2 (mu_sI g2 y 31 (nI (s.2.2.2.2 + 1))) := f2_sI (Or.inr ⟨rfl, by omega, by omega⟩)
          have F3 := f2_tr f2 f3
          have R3 : rp_M y B n b s0 o u (emt (lf s) a v) (mu_sI g2 y 31 (nI (s.2.2.2.2 + 1))) := rp_set R2 (Or.inr (Or.inr rfl)) (if_neg (by omega)) (if_neg (by omega)) (s.2.2.2.2 + 1) (if_pos rfl)
          refine ⟨md_T0 M2, md_T0 M2, md_T0 M2, ?_⟩
          rw [D]
          exact rp_nx (md_L_fr hM (f2_T F3)) R3 hT h54 (f2_fit F3 hL) (fun g4 f4 R4 => by
            rw [hp] at hQ
            exact rpE_1 hQ (f2_tr F3 f4) rfl R4)
        have par : ¬ s.1.1 = 2 ∨ 4 < s.1.2.2 - s.1.2.1 → ¬ (s.1.1 = 1 ∧ s.1.2.2 - s.1.2.1 = 1 ∧ B s.1.2.1 ∈ tx_let (nI k)) → ¬ (isSg B s 33 ∧ u < 8) → paB w (d + 1 + (2 * f + 10)) L Q y (nI k) g := fun z2 z1 zn => by
          have pf : ¬ (isSg B s 40 ∧ o < 8) → prs B n (nI k) (f + 1) 5 o u s = (false, s) := fun zp => by
            by_cases c2 : s.1.1 = 2
            · exact pr_2f c2 (by omega)
            · by_cases c1 : s.1.1 = 1
              · exact pr_1f c1 (fun q => z1 ⟨c1, q⟩)
              · exact pr_0 c2 c1 zn zp
          unfold paB
          refine ⟨md_T0 hM, mu_cI (sp_X11_isSign (c := 40) hM r2 hT r1 (by decide)) hL ?_⟩
          have e8 : nI o = (8 : Int32) ↔ o = 8 := nI_eq (b := 8) (by omega) (by decide)
          rw [cI_0, md_T0 hM, r3, e8]
          refine ⟨fun q => ?_, fun q => ⟨rfl, fun q8 => ⟨rfl, rfl, rfl, ?_⟩, fun q8 => ?_⟩⟩
          · rw [pf (fun y => q y.1)] at hQ
            exact rpE_0 hQ f2_rf (by simp) ⟨o, u, hR⟩
          · have kp : isSg B s 40 ∧ o < 8 := ⟨Classical.not_not.mp q, by omega⟩
            have hn0 : s.1.1 ≠ 0 := by have := kp.1.1; omega
            have q0 := eq_nx (B := B) hT hn0
            have a0 := eq_a q0
            have tn := tk_nx (B := B) hT
            have tn1 := tn.1
            have tn2 := tn.2.1
            have q03 := q0.2.2.1
            have nxc : (nx B n s).2.2.2.1 = s.2.2.2.1 := rfl
            have P1 := PT 0 (o + 1) u (nx B n s) (by omega) tn (by omega)
            rw [show (nI o : Int32) + 1 = nI (o + 1) from nI_add _ 1, D]
            have f2 : mu_f2 (prW y) g (mu_sI g y 27 (nI (o + 1))) := f2_sI (Or.inr ⟨rfl, by omega, by omega⟩)
            have R2 : rp_M y B n b s0 (o + 1) u s (mu_sI g y 27 (nI (o + 1))) := rp_set hR (Or.inl rfl) (if_pos rfl) (if_neg (by omega)) s.2.2.2.2 (if_neg (by omega))
            refine rp_nx (md_L_fr hM (f2_T f2)) R2 hT (by have := kp.1.1; omega) (f2_fit f2 hL) (fun g3 f3 R3 => ?_)
            have F3 := f2_tr f2 f3
            have M3 := md_L_fr hM (f2_T F3)
            refine ⟨md_T0 M3, ?_⟩
            rw [← D]
            refine mu_cIp (IT 0 (d + 1) (o + 1) u (nx B n s) g3 (by omega) (by omega) hu tn (by omega) (by omega) M3 R3) (f2_fit F3 hL) (fun z g4 hz _ _ => ?_)
            obtain ⟨rfl, f4, R4, R4'⟩ := hz
            have F4 := f2_tr F3 f4
            have M4 := md_L_fr hM (f2_T F4)
            rw [cI_0]
            refine ⟨fun s1 => ?_, fun s1' => ⟨md_T0 M4, ?_⟩⟩
            · rw [pr_pf kp s1] at hQ
              exact rpE_0 hQ F4 s1 R4'
            · have s1 := Classical.not_not.mp s1'
              obtain ⟨t1, q1, -⟩ := P1
              have R4s := R4 s1
              refine mu_cI (sp_X11_isSign (c := 41) M4 R4s.2.1 t1 R4s.1 (by decide)) (f2_fit F4 hL) ?_
              rw [cI_0]
              refine ⟨fun q2' => ⟨md_T0 M4, md_T0 M4, md_T0 M4, ?_⟩, fun q2 => ?_⟩
              · have q2 := Classical.not_not.mp q2'
                rw [pr_p kp s1 q2] at hQ
                rw [R4s.2.2.1.1, show (nI (o + 1) : Int32) - 1 = nI o from nI_pred _, D]
                have f5 : mu_f2 (prW y) g4 (mu_sI g4 y 27 (nI o)) := f2_sI (Or.inr ⟨rfl, by omega, by omega⟩)
                have F5 := f2_tr F4 f5
                have R5 : rp_M y B n b s0 o u (prs B n (nI k) f 0 (o + 1) u (nx B n s)).2 (mu_sI g4 y 27 (nI o)) := rp_set R4s (Or.inl rfl) (if_pos rfl) (if_neg (by omega)) _ (if_neg (by omega))
                exact rp_nx (md_L_fr hM (f2_T F5)) R5 t1 (by have := q2.1; omega) (f2_fit F5 hL) (fun g6 f6 R6 => rpE_1 hQ (f2_tr F5 f6) rfl R6)
              · rw [pr_pc kp s1 (fun y => q2 (fun z => z y))] at hQ
                exact rpE_0 hQ F4 (by simp) ⟨_, _, R4s⟩
          · rw [pf (fun y => by have := y.2; omega)] at hQ
            exact rpE_0 hQ f2_rf (by simp) ⟨o, u, hR⟩
        have np : ¬ s.1.1 = 2 ∨ 4 < s.1.2.2 - s.1.2.1 → ¬ (s.1.1 = 1 ∧ s.1.2.2 - s.1.2.1 = 1 ∧ B s.1.2.1 ∈ tx_let (nI k)) → npB w (d + 1 + (2 * f + 10)) L Q y (nI k) g := fun z2 z1 => by
          unfold npB
          refine ⟨md_T0 hM, mu_cI (sp_X11_isSign (c := 33) hM r2 hT r1 (by decide)) hL ?_⟩
          have e8 : (8 : Int32) ≤ nI u ↔ 8 ≤ u := nI_leI (a := 8) (by decide) (by omega)
          rw [cI_0, r4, e8]
          refine ⟨fun q => par z2 z1 (fun y => q y.1), fun q => ⟨md_T0 hM, fun q8 => par z2 z1 (fun y => by have := y.2; omega), fun q8 => ⟨md_T0 hM, md_T0 hM, md_T0 hM, ?_⟩⟩⟩
          have kn : isSg B s 33 ∧ u < 8 := ⟨Classical.not_not.mp q, by omega⟩
          have hn0 : s.1.1 ≠ 0 := by have := kn.1.1; omega
          have q0 := eq_nx (B := B) hT hn0
          have a0 := eq_a q0
          have tn := tk_nx (B := B) hT
          have tn1 := tn.1
          have tn2 := tn.2.1
          have q03 := q0.2.2.1
          have nxc : (nx B n s).2.2.2.1 = s.2.2.2.1 := rfl
          have P1 := PT 5 o (u + 1) (nx B n s) (by omega) tn (by omega)
          rw [show (nI u : Int32) + 1 = nI (u + 1) from nI_add _ 1, D]
          have f2 : mu_f2 (prW y) g (mu_sI g y 28 (nI (u + 1))) := f2_sI (Or.inr ⟨rfl, by omega, by omega⟩)
          have R2 : rp_M y B n b s0 o (u + 1) s (mu_sI g y 28 (nI (u + 1))) := rp_set hR (Or.inr (Or.inl rfl)) (if_neg (by omega)) (if_pos rfl) s.2.2.2.2 (if_neg (by omega))
          refine rp_nx (md_L_fr hM (f2_T f2)) R2 hT (by have := kn.1.1; omega) (f2_fit f2 hL) (fun g3 f3 R3 => ?_)
          have F3 := f2_tr f2 f3
          have M3 := md_L_fr hM (f2_T F3)
          refine ⟨md_T0 M3, ?_⟩
          rw [← D]
          refine mu_cIp (IT 5 (d + 1) o (u + 1) (nx B n s) g3 (by omega) ho (by omega) tn (by omega) (by omega) M3 R3) (f2_fit F3 hL) (fun z g4 hz _ _ => ?_)
          obtain ⟨rfl, f4, R4, R4'⟩ := hz
          have F4 := f2_tr F3 f4
          have M4 := md_L_fr hM (f2_T F4)
          rw [cI_0]
          refine ⟨fun s1' => ⟨md_T0 M4, md_T0 M4, md_T0 M4, ?_⟩, fun s1' => ?_⟩
          · have s1 := Classical.not_not.mp s1'
            obtain ⟨t1, q1, -⟩ := P1
            have q13 := q1.2.2.1
            have t11 := t1.1
            have t12 := t1.2.1
            have R4s := R4 s1
            rw [pr_n kn s1] at hQ
            rw [R4s.2.2.1.2, show (nI (u + 1) : Int32) - 1 = nI u from nI_pred _]
            have f5 : mu_f2 (prW y) g4 (mu_sI g4 y 28 (nI u)) := f2_sI (Or.inr ⟨rfl, by omega, by omega⟩)
            have F5 := f2_tr F4 f5
            have R5 : rp_M y B n b s0 o u (prs B n (nI k) f 5 o (u + 1) (nx B n s)).2 (mu_sI g4 y 28 (nI u)) := rp_set R4s (Or.inr (Or.inl rfl)) (if_neg (by omega)) (if_pos rfl) _ (if_neg (by omega))
            exact rp_st (md_L_fr hM (f2_T F5)) R5 (by omega) hb3 (f2_fit F5 hL) (fun g6 f6 R6 => rpE_1 hQ (f2_tr F5 f6) rfl R6)
          · have s1 : ¬ (prs B n (nI k) f 5 o (u + 1) (nx B n s)).1 = true := fun z => s1' (fun y => y z)
            rw [pr_nf kn s1] at hQ
            exact rpE_0 hQ F4 s1 R4'
        rw [k24, e2, e1]
        refine ⟨md_T0 hM, fun q2 => ⟨md_T0 hM, fun q1 => np (by omega) (fun z => q1 z.1), fun q1' => ?_⟩, fun q2' => ?_⟩
        · have q1 := Classical.not_not.mp q1'
          have hl := hT.2.2.2.1 (by omega)
          have hlt := hT.2.2.2.2.2.1 q1 s.1.2.1 (by omega) hl
          rw [k26 q1]
          by_cases h1 : s.1.2.2 - s.1.2.1 = 1
          · rw [if_pos h1]
            have z0 : ¬ nI (B s.1.2.1) = 0 := fun z => by have := (nI_eq (b := 0) (by omega) (by decide)).mp z; omega
            refine ⟨md_T0 hM, fun z => absurd z z0, fun _ => ⟨md_T0 hM, ?_⟩⟩
            refine mu_cI (sp_X11_isNameP hk3 (by omega)) hL ?_
            rw [cI_0]
            refine ⟨fun q => np (by omega) (fun z => q z.2.2), fun q => ⟨md_T0 hM, md_T0 hM, ?_⟩⟩
            rw [k26 q1, if_pos h1]
            exact leaf 1 _ (by omega) (by omega) (pr_1 q1 ⟨h1, Classical.not_not.mp q⟩)
          · rw [if_neg h1]
            exact ⟨md_T0 hM, fun _ => np (by omega) (fun z => h1 z.2.1), fun z => absurd rfl z⟩
        · have q2 := Classical.not_not.mp q2'
          rw [k25 q2.1 q2.2]
          exact ⟨md_T0 hM, md_T0 hM, leaf 0 _ (by omega) (fun _ => q2.2) (pr_2 q2.1 q2.2)⟩
    · rw [show d + (2 * (f + 1) + 9) = d + 1 + (2 * f + 10) by omega]
      obtain ⟨r1, r2, -⟩ := id hR
      have hk26 := r2.2.2.2.2.2
      have stop : ¬ (s.1.1 = 3 ∧ B s.1.2.1 ∈ sgs t) → ((1 : Int32) = 0 ∨ (1 : Int32) = 1) ∧ Q (some (.int 1)) g := fun q => by
        rw [pr_l0 q] at hQ
        exact rpE_1 hQ f2_rf rfl hR
      have fail : (s.1.1 = 3 ∧ B s.1.2.1 ∈ sgs t) → ∀ g', mu_f2 (prW y) g g' → ¬ (prs B n (nI k) f (t + 1) o u (nx B n s)).1 = true → (∃ o' u', rp_M y B n b s0 o' u' (prs B n (nI k) f (t + 1) o u (nx B n s)).2 g') → ((0 : Int32) = 0 ∨ (0 : Int32) = 1) ∧ Q (some (.int 0)) g' := fun hj g' f1 s1 R1 => by
        rw [pr_lf hj s1] at hQ
        exact rpE_0 hQ f1 s1 R1
      have more : t ≠ 2 → (s.1.1 = 3 ∧ B s.1.2.1 ∈ sgs t) → ∀ g', mu_f2 (prW y) g g' → (prs B n (nI k) f (t + 1) o u (nx B n s)).1 = true → rp_M y B n b s0 o u (emt (prs B n (nI k) f (t + 1) o u (nx B n s)).2 2 (nI (B s.1.2.1))) g' → lpS w (d + 1 + (2 * f + 10)) L Q y (nI k) t g' := fun h2 hj g' f1 s1 R1 => by
        have hn0 : s.1.1 ≠ 0 := by have := hj.1; omega
        have hl := hT.2.2.2.1 hn0
        have hen := hT.2.1
        have q0 := eq_nx (B := B) hT hn0
        have a0 := eq_a q0
        have tn := tk_nx (B := B) hT
        have tn2 := tn.2.1
        have tn1 := tn.1
        have q03 := q0.2.2.1
        have nxc : (nx B n s).2.2.2.1 = s.2.2.2.1 := rfl
        obtain ⟨t1, q1, x1⟩ := PT (t + 1) o u (nx B n s) (by omega) tn (by omega)
        obtain ⟨l1, -, -⟩ := x1 s1
        have q13 := q1.2.2.1
        have t11 := t1.1
        have t12 := t1.2.1
        have lp := IL t (d + 2) o u (emt (prs B n (nI k) f (t + 1) o u (nx B n s)).2 2 (nI (B s.1.2.1))) g' L Q ht ho hu t1 (by show 7 * (n - (prs B n (nI k) f (t + 1) o u (nx B n s)).2.1.2.1) + 1 ≤ f; omega) (by show (prs B n (nI k) f (t + 1) o u (nx B n s)).2.2.2.2.1 + 1 + n < 96 + (prs B n (nI k) f (t + 1) o u (nx B n s)).2.1.2.1; omega) (md_L_fr hM (f2_T f1)) R1 (f2_fit f1 hL) (fun g2 f2 a1 a2 => by
          rw [pr_l hj s1 h2] at hQ
          exact hQ g2 (f2_tr f1 f2) a1 a2)
        rw [show d + 2 + (2 * f + 9) = d + 1 + (2 * f + 10) by omega] at lp
        exact lp
      have IT' := IT
      have sg := fun (c : Nat) (hc : c < 128) => sp_X11_isSign (d := d + 1 + (2 * f + 10)) (c := c) hM r2 hT r1 hc
      rcases (show t = 0 ∨ t = 1 ∨ t = 2 ∨ t = 3 ∨ t = 4 by omega) with rfl | rfl | rfl | rfl | rfl
      · refine fm_X11_either_10 ⟨md_T0 hM, mu_cI (sg 124 (by decide)) hL ?_⟩
        rw [cI_0]
        refine ⟨fun q => stop (fun z => q ⟨z.1, by have := z.2; unfold sgs at this; simpa using this⟩), fun q => ⟨md_T0 hM, ?_⟩⟩
        have hj : s.1.1 = 3 ∧ B s.1.2.1 ∈ sgs 0 := ⟨(Classical.not_not.mp q).1, by rw [(Classical.not_not.mp q).2]; decide⟩
        exact jn_ok (d := d + 1) (t := 0) IT hb3 ht ho hu hT (by omega) hb hM hR hL hj (by rw [(Classical.not_not.mp q).2]; rfl) (fail hj) (more (by omega) hj)
      · refine fm_X11_both_10 ⟨md_T0 hM, mu_cI (sg 38 (by decide)) hL ?_⟩
        rw [cI_0]
        refine ⟨fun q => stop (fun z => q ⟨z.1, by have := z.2; unfold sgs at this; simpa using this⟩), fun q => ⟨md_T0 hM, ?_⟩⟩
        have hj : s.1.1 = 3 ∧ B s.1.2.1 ∈ sgs 1 := ⟨(Classical.not_not.mp q).1, by rw [(Classical.not_not.mp q).2]; decide⟩
        exact jn_ok (d := d + 1) (t := 1) IT hb3 ht ho hu hT (by omega) hb hM hR hL hj (by rw [(Classical.not_not.mp q).2]; rfl) (fail hj) (more (by omega) hj)
      · have once : (s.1.1 = 3 ∧ B s.1.2.1 ∈ sgs 2) → ∀ g', mu_f2 (prW y) g g' → (prs B n (nI k) f 3 o u (nx B n s)).1 = true → rp_M y B n b s0 o u (emt (prs B n (nI k) f 3 o u (nx B n s)).2 2 (nI (B s.1.2.1))) g' → ((1 : Int32) = 0 ∨ (1 : Int32) = 1) ∧ Q (some (.int 1)) g' := fun hj g' f1 s1 R1 => by
          rw [pr_l2 hj s1] at hQ
          exact rpE_1 hQ f1 rfl R1
        show tsB w (d + 1 + (2 * f + 10)) L Q y (nI k) g
        unfold tsB
        refine ⟨md_T0 hM, mu_cI (sg 60 (by decide)) hL ?_⟩
        rw [cI_0]
        refine ⟨fun q => ⟨md_T0 hM, md_T0 hM, ?_⟩, fun q60 => ⟨md_T0 hM, mu_cI (sg 61 (by decide)) hL ?_⟩⟩
        · have hj : s.1.1 = 3 ∧ B s.1.2.1 ∈ sgs 2 := ⟨(Classical.not_not.mp q).1, by rw [(Classical.not_not.mp q).2]; decide⟩
          exact jn_ok (d := d + 1) (t := 2) IT hb3 ht ho hu hT (by omega) hb hM hR hL hj (hk26 hj.1) (fail hj) (once hj)
        · rw [cI_0]
          refine ⟨fun q => ⟨md_T0 hM, md_T0 hM, ?_⟩, fun q61 => ⟨md_T0 hM, mu_cI (sg 62 (by decide)) hL ?_⟩⟩
          · have hj : s.1.1 = 3 ∧ B s.1.2.1 ∈ sgs 2 := ⟨(Classical.not_not.mp q).1, by rw [(Classical.not_not.mp q).2]; decide⟩
            exact jn_ok (d := d + 1) (t := 2) IT hb3 ht ho hu hT (by omega) hb hM hR hL hj (hk26 hj.1) (fail hj) (once hj)
          · rw [cI_0]
            refine ⟨fun q62 => stop (fun z => ?_), fun q => ⟨md_T0 hM, md_T0 hM, ?_⟩⟩
            · have := z.2
              unfold sgs at this
              simp at this
              rcases this with e | e | e
              · exact q60 (fun y => y ⟨z.1, e⟩)
              · exact q61 (fun y => y ⟨z.1, e⟩)
              · exact q62 ⟨z.1, e⟩
            · have hj : s.1.1 = 3 ∧ B s.1.2.1 ∈ sgs 2 := ⟨(Classical.not_not.mp q).1, by rw [(Classical.not_not.mp q).2]; decide⟩
              exact jn_ok (d := d + 1) (t := 2) IT hb3 ht ho hu hT (by omega) hb hM hR hL hj (hk26 hj.1) (fail hj) (once hj)
      · refine fm_X11_sum_10 ⟨md_T0 hM, mu_cI (sg 43 (by decide)) hL ?_⟩
        rw [cI_0]
        refine ⟨fun q => ⟨md_T0 hM, md_T0 hM, ?_⟩, fun q43 => ⟨md_T0 hM, mu_cI (sg 45 (by decide)) hL ?_⟩⟩
        · have hj : s.1.1 = 3 ∧ B s.1.2.1 ∈ sgs 3 := ⟨(Classical.not_not.mp q).1, by rw [(Classical.not_not.mp q).2]; decide⟩
          exact jn_ok (d := d + 1) (t := 3) IT hb3 ht ho hu hT (by omega) hb hM hR hL hj (hk26 hj.1) (fail hj) (more (by omega) hj)
        · rw [cI_0]
          refine ⟨fun q45 => stop (fun z => ?_), fun q => ⟨md_T0 hM, md_T0 hM, ?_⟩⟩
          · have := z.2
            unfold sgs at this
            simp at this
            rcases this with e | e
            · exact q43 (fun y => y ⟨z.1, e⟩)
            · exact q45 ⟨z.1, e⟩
          · have hj : s.1.1 = 3 ∧ B s.1.2.1 ∈ sgs 3 := ⟨(Classical.not_not.mp q).1, by rw [(Classical.not_not.mp q).2]; decide⟩
            exact jn_ok (d := d + 1) (t := 3) IT hb3 ht ho hu hT (by omega) hb hM hR hL hj (hk26 hj.1) (fail hj) (more (by omega) hj)
      · refine fm_X11_term_10 ⟨md_T0 hM, mu_cI (sg 42 (by decide)) hL ?_⟩
        rw [cI_0]
        refine ⟨fun q => ⟨md_T0 hM, md_T0 hM, ?_⟩, fun q43 => ⟨md_T0 hM, mu_cI (sg 47 (by decide)) hL ?_⟩⟩
        · have hj : s.1.1 = 3 ∧ B s.1.2.1 ∈ sgs 4 := ⟨(Classical.not_not.mp q).1, by rw [(Classical.not_not.mp q).2]; decide⟩
          exact jn_ok (d := d + 1) (t := 4) IT hb3 ht ho hu hT (by omega) hb hM hR hL hj (hk26 hj.1) (fail hj) (more (by omega) hj)
        · rw [cI_0]
          refine ⟨fun q45 => stop (fun z => ?_), fun q => ⟨md_T0 hM, md_T0 hM, ?_⟩⟩
          · have := z.2
            unfold sgs at this
            simp at this
            rcases this with e | e
            · exact q43 (fun y => y ⟨z.1, e⟩)
            · exact q45 ⟨z.1, e⟩
          · have hj : s.1.1 = 3 ∧ B s.1.2.1 ∈ sgs 4 := ⟨(Classical.not_not.mp q).1, by rw [(Classical.not_not.mp q).2]; decide⟩
            exact jn_ok (d := d + 1) (t := 4) IT hb3 ht ho hu hT (by omega) hb hM hR hL hj (hk26 hj.1) (fail hj) (more (by omega) hj)
end Rn
