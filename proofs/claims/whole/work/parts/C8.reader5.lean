/-! CLIENTS: the class's reader reads as the tape is to be read -/
def rdQ (x : Nat) (B : Nat → Nat) (n : Nat) (key : Int32) (f m o u : Nat) (s : PS) (g : mu_H) : Option Value → mu_H → Prop := fun r g' => ∃ z, r = some (.int z) ∧ (z = cI ((prs B n key f m o u s).1 = true) ∧ mu_fr (rdW x) g g' ∧ rd_C x B n key (prs B n key f m o u s).2 g')
section Rh
variable {w : mu_O} {x n : Nat} {B : Nat → Nat} {k : Nat}
theorem rd_ok (hk3 : k < 3) : ∀ f,
    (∀ d m o u s g, m ≤ 4 → o ≤ 8 → u ≤ 8 → tkW B n s.1 → 7 * (n - s.1.2.1) + (7 - m) ≤ f → s.2.2.2.1 + n < 96 + s.1.2.1 → cl_L w x g → str_L w g → rd_C x B n (nI k) s g → mu_mp w mm_X3_tier (d + (2 * f + 10)) [.ref (x + 133), .int (nI m), .int (nI o), .int (nI u)] g (rdQ x B n (nI k) f m o u s g)) ∧
    (∀ d o u s g, o ≤ 8 → u ≤ 8 → tkW B n s.1 → 7 * (n - s.1.2.1) + 2 ≤ f → s.2.2.2.1 + n < 96 + s.1.2.1 → cl_L w x g → str_L w g → rd_C x B n (nI k) s g → mu_mp w mm_X3_piece (d + (2 * f + 10)) [.ref (x + 133), .int (nI o), .int (nI u)] g (rdQ x B n (nI k) f 5 o u s g)) ∧
    (∀ (d t o u : Nat) (s : PS) (g : mu_H) (L : Nat × Nat) (Q : Option Value → mu_H → Prop) (i : Nat), t ≤ 4 → o ≤ 8 → u ≤ 8 → tkW B n s.1 → 7 * (n - s.1.2.1) + 1 ≤ f → s.2.2.2.1 + n < 96 + s.1.2.1 → cl_L w x g → str_L w g → rd_C x B n (nI k) s g → i ≤ s.1.2.1 → (t = 2 → i = 0) → mu_fit2 L g → (∀ g', mu_fr (rdW x) g g' → rd_C x B n (nI k) (prs B n (nI k) f (10 + t) o u s).2 g' → Q (some (.int (cI ((prs B n (nI k) f (10 + t) o u s).1 = true)))) g') → mu_go w mm_X3_tier (d + (2 * f + 10)) L Q 42 [some (.ref (x + 133)), some (.int (nI t)), some (.int (nI o)), some (.int (nI u)), some (.int (nI (if t = 2 then 1 else 96))), some (.int (nI i)), none] [] g)
  | 0 => ⟨fun d m o u s g hm _ _ _ hf => by omega, fun d o u s g _ _ _ hf => by omega, fun d t o u s g L Q i _ _ _ _ hf => by omega⟩
  | f + 1 => by
    obtain ⟨IT, IP, IL⟩ := rd_ok hk3 f
    have PT := fun m o u s hm hT hf => (pr_ok (B := B) (n := n) (key := nI k) f).1 m o u s hm hT hf
    have i01 : ∀ (p : Prop), cI p = 0 ∨ cI p = 1 := cI_01
    refine ⟨fun d m o u s g hm ho hu hT hf hb hC hS hR => ?_, fun d o u s g ho hu hT hf hb hC hS hR => ?_, fun d t o u s g L Q i ht ho hu hT hf hb hC hS hR hi hi2 hL hQ => ?_⟩
    · rw [show d + (2 * (f + 1) + 10) = (d + 1 + (2 * f + 10)) + 1 by omega]
      refine mu_mkp mk_X3_tier rfl (fun L hL Q hQ => fm_X3_tier_0 ?_)
      have hw := cl_w hC
      have e5 : nI m < (5 : Int32) ↔ m < 5 := nI_ltI (b := 5) (by omega) (by decide)
      have e2 : nI m = (2 : Int32) ↔ m = 2 := nI_eq (b := 2) (by omega) (by decide)
      obtain ⟨c1, -⟩ := cl_6 hC
      rw [e5, e2, c1, show (nI m : Int32) + 1 = nI (m + 1) from nI_add _ 1]
      refine ⟨fun _ => ⟨rfl, ?_⟩, fun q => absurd (by omega) q⟩
      have r1 := PT (m + 1) o u s (by omega) hT (by omega)
      have call : mu_mp w mm_X3_tier (d + 1 + (2 * f + 10)) [.ref (x + 133), .int (nI (m + 1)), .int (nI o), .int (nI u)] g (rdQ x B n (nI k) f (m + 1) o u s g) := by
        by_cases h4 : m = 4
        · subst h4
          rw [show d + 1 + (2 * f + 10) = (d + (2 * f + 10)) + 1 by omega]
          refine mu_mkp mk_X3_tier rfl (fun L hL Q hQ => fm_X3_tier_0 ⟨fun q => absurd q (by decide), fun _ => ⟨c1, ?_⟩⟩)
          exact mu_cIp (IP d o u s g ho hu hT (by omega) hb hC hS hR) hL (fun z g' hz hX hS' => ⟨by rw [hz.1]; exact cI_01 _, hQ _ _ ⟨_, rfl, hz⟩ hX hS'⟩)
        · exact IT (d + 1) (m + 1) o u s g (by omega) ho hu hT (by omega) hb hC hS hR
      refine mu_cIp call hL (fun z g' hz hX hS' => ?_)
      obtain ⟨rfl, f1, R1⟩ := hz
      have C1 := cl_fr hC f1
      have S1 := str_fr hS f1 (fun a q => by unfold rdW at q; omega)
      have hL1 := mu_fr_fit f1 hL
      rw [cI_0]
      refine ⟨fun q => ?_, fun q => ⟨Or.inl rfl, ?_⟩⟩
      · have s1 := Classical.not_not.mp q
        obtain ⟨t1, q1, x1⟩ := r1
        obtain ⟨l1, -, -⟩ := x1 s1
        have b1 := t1.1
        have b2 := t1.2.1
        have q13 := q1.2.2.1
        have lp := IL (d + 2) m o u (prs B n (nI k) f (m + 1) o u s).2 g' L Q 0 hm ho hu t1 (by omega) (by omega) C1 S1 R1 (Nat.zero_le _) (fun _ => rfl) hL1 (fun g2 f2 R2 => hQ _ _ ⟨_, rfl, by rw [pr_t (by omega) s1], mu_fr_tr f1 f2, by rw [pr_t (by omega) s1]; exact R2⟩ (by rw [f2.2.2.2.1, hX]) (by rw [f2.2.2.2.2.1, hS']))
        rw [show d + 2 + (2 * f + 10) = d + 1 + (2 * f + 10) + 1 by omega] at lp
        refine ⟨fun q2 => ?_, fun q2 => ?_⟩
        · rw [if_neg q2] at lp; exact lp
        · rw [if_pos (Classical.not_not.mp q2)] at lp; exact lp
      · have s1 : ¬ (prs B n (nI k) f (m + 1) o u s).1 = true := fun z => q (fun y => y z)
        exact hQ _ _ ⟨_, rfl, by rw [pr_tf (by omega) s1]; exact (cI_f s1).symm, f1, by rw [pr_tf (by omega) s1]; exact R1⟩ hX hS'
    · rw [show d + (2 * (f + 1) + 10) = (d + 1 + (2 * f + 10)) + 1 by omega]
      refine mu_mkp mk_X3_piece rfl (fun L hL Q hQ => fm_X3_piece_0 ?_)
      have hw := cl_w hC
      obtain ⟨r1, r2, r3, r4, r5, r6⟩ := id hR
      obtain ⟨c1, -⟩ := cl_6 hC
      have h4 := hT.2.2.1
      have hn := r1.1
      have hae := hT.1
      have hen := hT.2.1
      have e2 : nI s.1.1 = (2 : Int32) ↔ s.1.1 = 2 := nI_eq (b := 2) (by omega) (by decide)
      have e1 : nI s.1.1 = (1 : Int32) ↔ s.1.1 = 1 := nI_eq (b := 1) (by omega) (by decide)
      have no0 : ∀ g', mu_fr (rdW x) g g' → (∀ r : Bool × PS, prs B n (nI k) (f + 1) 5 o u s = r → ¬ r.1 = true ∧ rd_C x B n (nI k) r.2 g') → ((0 : Int32) = 0 ∨ (0 : Int32) = 1) ∧ Q (some (.int 0)) g' := fun g' f1 h => by
        obtain ⟨a1, a2⟩ := h _ rfl
        exact ⟨Or.inl rfl, hQ _ _ ⟨_, rfl, (cI_f a1).symm, f1, a2⟩ f1.2.2.2.1 f1.2.2.2.2.1⟩
      have yes1 : ∀ g', mu_fr (rdW x) g g' → (∀ r : Bool × PS, prs B n (nI k) (f + 1) 5 o u s = r → r.1 = true ∧ rd_C x B n (nI k) r.2 g') → ((1 : Int32) = 0 ∨ (1 : Int32) = 1) ∧ Q (some (.int 1)) g' := fun g' f1 h => by
        obtain ⟨a1, a2⟩ := h _ rfl
        exact ⟨Or.inr rfl, hQ _ _ ⟨_, rfl, (cI_t a1).symm, f1, a2⟩ f1.2.2.2.1 f1.2.2.2.2.1⟩
      have leaf : ∀ (a v z : Int32), z = enP (nI k) a v → s.1.1 ≠ 0 → prs B n (nI k) (f + 1) 5 o u s = (true, nx B n (emt (lf s) a v)) → mu_callV w mm_X3_note (d + 1 + (2 * f + 10)) L [.ref (x + 133), .int z] (mu_sI g (x + 133) 7 (mu_I g (x + 133) 7 + 1)) (fun g7 => mu_T g7 (x + 133) = 4 ∧ mu_callV w mm_X3_goOn (d + 1 + (2 * f + 10)) L [.ref (x + 133)] g7 (fun g8 => ((1 : Int32) = 0 ∨ (1 : Int32) = 1) ∧ Q (some (.int 1)) g8)) := fun a v z hz h0 hp => by
        have hl := hT.2.2.2.1 h0
        rw [r5, show (nI s.2.2.2.2 : Int32) + 1 = nI (s.2.2.2.2 + 1) from nI_add _ 1]
        have fl : mu_fr (rdW x) g (mu_sI g (x + 133) 7 (nI (s.2.2.2.2 + 1))) := mu_fr_sI (Or.inl rfl)
        refine rd_nt (cl_fr hC fl) (rd_lf hR) (by show s.2.2.2.1 < 96; omega) hz hL (fun g2 f2 R2 => ?_)
        have F2 := mu_fr_tr fl f2
        have C2 := cl_fr hC F2
        refine ⟨(cl_6 C2).1, ?_⟩
        rw [show d + 1 + (2 * f + 10) = (d + 2 * f + 10) + 1 by omega]
        exact rd_nx C2 R2 hT (mu_fr_fit F2 hL) (fun g3 f3 R3 => yes1 g3 (mu_fr_tr F2 f3) (fun r hr => by rw [← hr, hp]; exact ⟨rfl, R3⟩))
      have par : ¬ s.1.1 = 2 → ¬ s.1.1 = 1 → ¬ (isSg B s 33 ∧ u < 8) → mu_callI w mm_X3_isSign (d + 1 + (2 * f + 10)) L [.ref (x + 133), .int 40] g (fun x12 g11 => (x12 = 0 → (((0 : Int32) = 0 ∨ (0 : Int32) = 1) ∧ Q (some (.int 0)) g11)) ∧ (¬ (x12 = 0) → ((8 ≤ nI o → (((0 : Int32) = 0 ∨ (0 : Int32) = 1) ∧ Q (some (.int 0)) g11)) ∧ (¬ (8 ≤ nI o) → (mu_T g11 (x + 133) = 4 ∧ mu_callV w mm_X3_goOn (d + 1 + (2 * f + 10)) L [.ref (x + 133)] g11 (fun g13 => mu_T g13 (x + 133) = 4 ∧ mu_callI w mm_X3_tier (d + 1 + (2 * f + 10)) L [.ref (x + 133), .int 0, .int (nI o + 1), .int (nI u)] g13 (fun x15 g14 => (x15 = 0 → (((0 : Int32) = 0 ∨ (0 : Int32) = 1) ∧ Q (some (.int 0)) g14)) ∧ (¬ (x15 = 0) → (mu_T g14 (x + 133) = 4 ∧ mu_callI w mm_X3_isSign (d + 1 + (2 * f + 10)) L [.ref (x + 133), .int 41] g14 (fun x17 g16 => (¬ x17 = 0 → (mu_T g16 (x + 133) = 4 ∧ mu_callV w mm_X3_goOn (d + 1 + (2 * f + 10)) L [.ref (x + 133)] g16 (fun g18 => ((1 : Int32) = 0 ∨ (1 : Int32) = 1) ∧ Q (some (.int 1)) g18))) ∧ (¬ (¬ x17 = 0) → (((0 : Int32) = 0 ∨ (0 : Int32) = 1) ∧ Q (some (.int 0)) g16)))))))))))) := fun z2 z1 zn => by
        refine mu_cI (sp_X3_isSign (c := 40) hC r1 r2 hT (by decide)) hL ?_
        have e8 : (8 : Int32) ≤ nI o ↔ 8 ≤ o := nI_leI (a := 8) (by decide) (by omega)
        rw [cI_0, e8]
        refine ⟨fun q => no0 g mu_fr_rf (fun r hr => by rw [← hr, pr_0 z2 z1 zn (fun y => q y.1)]; exact ⟨by simp, hR⟩), fun q => ⟨fun q8 => no0 g mu_fr_rf (fun r hr => by rw [← hr, pr_0 z2 z1 zn (fun y => by have := y.2; omega)]; exact ⟨by simp, hR⟩), fun q8 => ⟨c1, ?_⟩⟩⟩
        have kp : isSg B s 40 ∧ o < 8 := ⟨Classical.not_not.mp q, by omega⟩
        have hn0 : s.1.1 ≠ 0 := by have := kp.1.1; omega
        have a0 := eq_a (eq_nx (B := B) hT hn0)
        have q0 := eq_nx (B := B) hT hn0
        have tn := tk_nx (B := B) hT
        have tn1 := tn.1
        have tn2 := tn.2.1
        have q03 := q0.2.2.1
        have P1 := PT 0 (o + 1) u (nx B n s) (by omega) tn (by omega)
        rw [show d + 1 + (2 * f + 10) = (d + 2 * f + 10) + 1 by omega]
        refine rd_nx hC hR hT hL (fun g2 f2 R2 => ?_)
        have C2 := cl_fr hC f2
        have S2 := str_fr hS f2 (fun a q => by unfold rdW at q; omega)
        refine ⟨(cl_6 C2).1, ?_⟩
        rw [show (nI o : Int32) + 1 = nI (o + 1) from nI_add _ 1, show d + 2 * f + 10 + 1 = d + 1 + (2 * f + 10) by omega]
        refine mu_cIp (IT (d + 1) 0 (o + 1) u (nx B n s) g2 (by omega) (by omega) hu tn (by omega) (by show s.2.2.2.1 + n < _; omega) C2 S2 R2) (mu_fr_fit f2 hL) (fun z g3 hz _ _ => ?_)
        obtain ⟨rfl, f3, R3⟩ := hz
        have F3 := mu_fr_tr f2 f3
        have C3 := cl_fr hC F3
        rw [cI_0]
        refine ⟨fun s1 => no0 g3 F3 (fun r hr => by rw [← hr, pr_pf kp s1]; exact ⟨s1, R3⟩), fun s1' => ⟨(cl_6 C3).1, ?_⟩⟩
        have s1 := Classical.not_not.mp s1'
        obtain ⟨t1, q1, -⟩ := P1
        refine mu_cI (sp_X3_isSign (c := 41) C3 R3.1 R3.2.1 t1 (by decide)) (mu_fr_fit F3 hL) ?_
        rw [cI_0]
        refine ⟨fun q2 => ⟨(cl_6 C3).1, ?_⟩, fun q2 => no0 g3 F3 (fun r hr => by rw [← hr, pr_pc kp s1 (fun y => q2 (fun z => z y))]; exact ⟨by simp, R3⟩)⟩
        rw [show d + 1 + (2 * f + 10) = (d + 2 * f + 10) + 1 by omega]
        exact rd_nx C3 R3 t1 (mu_fr_fit F3 hL) (fun g4 f4 R4 => yes1 g4 (mu_fr_tr F3 f4) (fun r hr => by rw [← hr, pr_p kp s1 (Classical.not_not.mp q2)]; exact ⟨rfl, R4⟩))
      rw [c1, r2.2.1, e2, e1]
      refine ⟨rfl, fun k2 => ⟨rfl, fun q => absurd k2 q, fun _ => ⟨rfl, ?_⟩⟩, fun k2 => ⟨rfl, fun k1 => ⟨rfl, ?_⟩, fun k1 => ⟨rfl, fun _ => ⟨rfl, ?_⟩, fun q => absurd k2 q⟩⟩⟩
      · refine mu_cI (sp_X3_numberHere hC r1 r2 hT k2) hL ?_
        by_cases h5 : s.1.2.2 - s.1.2.1 ≤ 4
        · rw [if_pos h5]
          have hv := (stK_num (key := nI k) hT k2 h5).2
          exact ⟨fun _ => ⟨c1, c1, c1, leaf 0 _ _ (by unfold enP; rw [if_pos rfl]) (by omega) (pr_2 k2 h5)⟩, fun q => absurd (le0_n (by omega)) q⟩
        · rw [if_neg h5]
          exact ⟨fun q => absurd q (by decide), fun _ => no0 g mu_fr_rf (fun r hr => by rw [← hr, pr_2f k2 h5]; exact ⟨by simp, hR⟩)⟩
      · refine mu_cI (sp_X3_isSign (c := 33) hC r1 r2 hT (by decide)) hL ?_
        have e8 : (8 : Int32) ≤ nI u ↔ 8 ≤ u := nI_leI (a := 8) (by decide) (by omega)
        rw [cI_0, e8]
        refine ⟨fun q => ⟨c1, par k2 k1 (fun y => q y.1)⟩, fun q => ⟨fun q8 => ⟨c1, par k2 k1 (fun y => by have := y.2; omega)⟩, fun q8 => ⟨c1, ?_⟩⟩⟩
        have kn : isSg B s 33 ∧ u < 8 := ⟨Classical.not_not.mp q, by omega⟩
        have hn0 : s.1.1 ≠ 0 := by have := kn.1.1; omega
        have q0 := eq_nx (B := B) hT hn0
        have a0 := eq_a q0
        have tn := tk_nx (B := B) hT
        have tn1 := tn.1
        have tn2 := tn.2.1
        have q03 := q0.2.2.1
        have P1 := PT 5 o (u + 1) (nx B n s) (by omega) tn (by omega)
        rw [show d + 1 + (2 * f + 10) = (d + 2 * f + 10) + 1 by omega]
        refine rd_nx hC hR hT hL (fun g2 f2 R2 => ?_)
        have C2 := cl_fr hC f2
        have S2 := str_fr hS f2 (fun a q => by unfold rdW at q; omega)
        refine ⟨(cl_6 C2).1, ?_⟩
        rw [show (nI u : Int32) + 1 = nI (u + 1) from nI_add _ 1, show d + 2 * f + 10 + 1 = d + 1 + (2 * f + 10) by omega]
        refine mu_cIp (IP (d + 1) o (u + 1) (nx B n s) g2 ho (by omega) tn (by omega) (by show s.2.2.2.1 + n < _; omega) C2 S2 R2) (mu_fr_fit f2 hL) (fun z g3 hz _ _ => ?_)
        obtain ⟨rfl, f3, R3⟩ := hz
        have F3 := mu_fr_tr f2 f3
        have C3 := cl_fr hC F3
        rw [cI_0]
        refine ⟨fun s1' => ⟨(cl_6 C3).1, ?_⟩, fun s1' => no0 g3 F3 (fun r hr => by rw [← hr, pr_nf kn (fun z => s1' (fun y => y z))]; exact ⟨fun z => s1' (fun y => y z), R3⟩)⟩
        have s1 := Classical.not_not.mp s1'
        obtain ⟨t1, q1, -⟩ := P1
        have q13 := q1.2.2.1
        have t11 := t1.1
        have t12 := t1.2.1
        have nxc : (nx B n s).2.2.2.1 = s.2.2.2.1 := rfl
        exact rd_nt (a := 2) (v := 33) C3 R3 (by omega) rfl (mu_fr_fit F3 hL) (fun g4 f4 R4 => yes1 g4 (mu_fr_tr F3 f4) (fun r hr => by rw [← hr, pr_n kn s1]; exact ⟨rfl, R4⟩))
      · have k1' := Classical.not_not.mp k1
        rw [show d + 1 + (2 * f + 10) = (d + 2 * f + 6) + 5 by omega]
        refine mu_cI (sp_X3_nameHere hC hS r1 r2 hT k1' r3 hk3) hL ?_
        rw [show (d + 2 * f + 6) + 5 = d + 1 + (2 * f + 10) by omega]
        by_cases h5 : s.1.2.2 - s.1.2.1 = 1 ∧ B s.1.2.1 ∈ tx_let (nI k)
        · rw [cif_t h5]
          have hl := hT.2.2.2.1 (by omega)
          have hlt := hT.2.2.2.2.2.1 k1' s.1.2.1 (by omega) hl
          have hix : tx_ix (nI k) (B s.1.2.1) ≤ 3 := by
            unfold tx_ix
            split
            · split
              · omega
              · split <;> omega
            · split
              · split
                · omega
                · split
                  · omega
                  · split <;> omega
              · split <;> omega
          refine ⟨fun _ => ⟨c1, c1, c1, leaf 1 _ _ ?_ (by omega) (pr_1 k1' h5)⟩, fun q => absurd (le0_n (by omega)) q⟩
          unfold enP
          rw [if_neg (by decide), if_pos rfl, nI_clamp (by omega)]
        · rw [cif_f h5]
          exact ⟨fun q => absurd q (by decide), fun _ => no0 g mu_fr_rf (fun r hr => by rw [← hr, pr_1f k1' h5]; exact ⟨by simp, hR⟩)⟩
    · rw [show d + (2 * (f + 1) + 10) = (d + 1 + (2 * f + 10)) + 1 by omega]
      refine fm_X3_tier_42 ?_
      have hw := cl_w hC
      obtain ⟨r1, r2, r3, r4, r5, r6⟩ := id hR
      obtain ⟨c1, c2, -⟩ := cl_6 hC
      have hn := r1.1
      have hae := hT.1
      have hen := hT.2.1
      have em : nI (if t = 2 then 1 else 96) ≤ nI i ↔ (if t = 2 then 1 else 96) ≤ i := nI_leI (by split <;> omega) (by omega)
      have stop : ¬ (s.1.1 = 3 ∧ B s.1.2.1 ∈ sgs t) → ((1 : Int32) = 0 ∨ (1 : Int32) = 1) ∧ Q (some (.int 1)) g := fun q => by
        have := hQ g mu_fr_rf (by rw [pr_l0 q]; exact hR)
        rw [pr_l0 q, cI_t rfl] at this
        exact ⟨Or.inr rfl, this⟩
      rw [em, c1]
      refine ⟨fun q => stop (fun y => ?_), fun q => ⟨rfl, mu_cI (sp_X3_isJoinOf hC r1 r2 hT ht) hL ?_⟩⟩
      · have := hT.2.2.2.1 (by omega)
        split at q
        · have := hi2 (by assumption); omega
        · omega
      rw [cI_0]
      refine ⟨fun q => stop q, fun q' => ?_⟩
      have hj := Classical.not_not.mp q'
      have hn0 : s.1.1 ≠ 0 := by have := hj.1; omega
      have hl := hT.2.2.2.1 hn0
      obtain ⟨b1, b2⟩ := r1.2.2 s.1.2.1 (by omega)
      have hb128 := (sg_in hj.2).2.2
      have q0 := eq_nx (B := B) hT hn0
      have a0 := eq_a q0
      have tn := tk_nx (B := B) hT
      have tn1 := tn.1
      have tn2 := tn.2.1
      have q03 := q0.2.2.1
      have P1 := PT (t + 1) o u (nx B n s) (by omega) tn (by omega)
      rw [c1, c2, r2.2.2, nI_clamp (by omega), b2, bz_lo hb128, (cl_5 hC).1, (cl_5 hC).2]
      refine ⟨rfl, rfl, rfl, mu_in_n (by omega) (by omega), rfl, ?_⟩
      rw [show d + 1 + (2 * f + 10) = (d + 2 * f + 10) + 1 by omega]
      refine rd_nx hC hR hT hL (fun g2 f2 R2 => ?_)
      have C2 := cl_fr hC f2
      have S2 := str_fr hS f2 (fun a q => by unfold rdW at q; omega)
      refine ⟨(cl_6 C2).1, ?_⟩
      rw [show (nI t : Int32) + 1 = nI (t + 1) from nI_add _ 1, show d + 2 * f + 10 + 1 = d + 1 + (2 * f + 10) by omega]
      have call : mu_mp w mm_X3_tier (d + 1 + (2 * f + 10)) [.ref (x + 133), .int (nI (t + 1)), .int (nI o), .int (nI u)] g2 (rdQ x B n (nI k) f (t + 1) o u (nx B n s) g2) := by
        by_cases h4 : t = 4
        · subst h4
          rw [show d + 1 + (2 * f + 10) = (d + (2 * f + 10)) + 1 by omega]
          refine mu_mkp mk_X3_tier rfl (fun L hL Q hQ => fm_X3_tier_0 ⟨fun q => absurd q (by decide), fun _ => ⟨(cl_6 C2).1, ?_⟩⟩)
          exact mu_cIp (IP d o u (nx B n s) g2 ho hu tn (by omega) (by show s.2.2.2.1 + n < _; omega) C2 S2 R2) hL (fun z g' hz hX hS' => ⟨by rw [hz.1]; exact cI_01 _, hQ _ _ ⟨_, rfl, hz⟩ hX hS'⟩)
        · exact IT (d + 1) (t + 1) o u (nx B n s) g2 (by omega) ho hu tn (by omega) (by show s.2.2.2.1 + n < _; omega) C2 S2 R2
      refine mu_cIp call (mu_fr_fit f2 hL) (fun z g3 hz _ _ => ?_)
      obtain ⟨rfl, f3, R3⟩ := hz
      have F3 := mu_fr_tr f2 f3
      have C3 := cl_fr hC F3
      rw [cI_0]
      refine ⟨fun s1' => ⟨(cl_6 C3).1, ?_⟩, fun s1' => ⟨Or.inl rfl, ?_⟩⟩
      · have s1 := Classical.not_not.mp s1'
        obtain ⟨t1, q1, x1⟩ := P1
        obtain ⟨l1, -, -⟩ := x1 s1
        have q13 := q1.2.2.1
        have t11 := t1.1
        have t12 := t1.2.1
        have nxc : (nx B n s).2.2.2.1 = s.2.2.2.1 := rfl
        refine rd_nt (a := 2) (v := nI (B s.1.2.1)) C3 R3 (by omega) ?_ (mu_fr_fit F3 hL) (fun g4 f4 R4 => ?_)
        · unfold enP
          rw [if_neg (by decide), if_neg (by decide), nI_clamp (by omega)]
          exact nI_add 20000 _
        · have F4 := mu_fr_tr F3 f4
          have C4 := cl_fr hC F4
          have S4 := str_fr hS F4 (fun a q => by unfold rdW at q; omega)
          rw [show (nI i : Int32) + 1 = nI (i + 1) from nI_add _ 1]
          by_cases h2 : t = 2
          · subst h2
            refine fm_X3_tier_42 ⟨fun _ => ?_, fun q => absurd ?_ q⟩
            · have hq := hQ g4 F4 (by rw [pr_l2 hj s1]; exact R4)
              rw [pr_l2 hj s1, cI_t rfl] at hq
              exact ⟨Or.inr rfl, hq⟩
            · rw [if_pos rfl]
              exact (nI_leI (by omega) (by omega)).mpr (by omega)
          · rw [show d + 1 + (2 * f + 10) + 1 = d + 2 + (2 * f + 10) by omega]
            refine IL (d + 2) t o u (emt (prs B n (nI k) f (t + 1) o u (nx B n s)).2 2 (nI (B s.1.2.1))) g4 L Q (i + 1) ht ho hu t1 ?_ ?_ C4 S4 R4 ?_ (fun q => absurd q h2) (mu_fr_fit F4 hL) (fun g5 f5 R5 => ?_)
            · show 7 * (n - (prs B n (nI k) f (t + 1) o u (nx B n s)).2.1.2.1) + 1 ≤ f
              omega
            · show (prs B n (nI k) f (t + 1) o u (nx B n s)).2.2.2.2.1 + 1 + n < 96 + (prs B n (nI k) f (t + 1) o u (nx B n s)).2.1.2.1
              omega
            · show i + 1 ≤ (prs B n (nI k) f (t + 1) o u (nx B n s)).2.1.2.1
              omega
            · have hq := hQ g5 (mu_fr_tr F4 f5) (by rw [pr_l hj s1 h2]; exact R5)
              rw [pr_l hj s1 h2] at hq
              exact hq
      · have s1 : ¬ (prs B n (nI k) f (t + 1) o u (nx B n s)).1 = true := fun z => s1' (fun y => y z)
        have hq := hQ g3 F3 (by rw [pr_lf hj s1]; exact R3)
        rw [pr_lf hj s1, cI_f s1] at hq
        exact hq
end Rh
