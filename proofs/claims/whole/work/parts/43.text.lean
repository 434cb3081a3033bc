/-! CLIENTS: the text that counts, and what it gives, in the class -/
theorem li_m1 (x : Int32) : x + -1 = x - 1 := (Int32.sub_eq_add_neg x 1).symm
theorem li_m1n (x : Int32) : x + -nI 1 = x - nI 1 := li_m1 x
theorem nI_asub (k n : Nat) : nI (k + n) - nI k = nI n := by rw [pk_sub (Nat.le_add_right _ _), Nat.add_sub_cancel_left]
/-- a pile's top place -/
def tp (h : Nat) : Int32 := nI h - 1
theorem tp_s (h : Nat) : tp (h + 1) = nI h := nI_pred h
theorem tp_p (h : Nat) : tp h + 1 = nI h := by
  unfold tp
  rw [Int32.sub_add_cancel]
theorem tp_pn (h : Nat) : tp h + nI 1 = nI h := tp_p h
def nmd (i : Nat) (a b c e : Int32) : Int32 := if i = 0 then a else if i = 1 then b else if i = 2 then c else e
section Ct
variable {w : mu_O} {d a b t : Nat} {g : mu_H} {s nm : Nat → Int32} {E : Nat} {B : Nat} {v1 v2 v3 v4 : Int32}
theorem sp_X9_named {i : Nat} (hi : i < 100) : mu_met w mm_X9_named d [.int (nI i), .int v1, .int v2, .int v3, .int v4] g (some (.int (nmd i v1 v2 v3 v4))) g := by
  refine mu_mk mk_X9_named rfl rfl rfl (fun L hL Q hQ => fm_X9_named_0 ?_)
  unfold nmd at hQ
  simp (disch := omega) only [li_n, nI_add, pk_mul, nI_clamp, nI_ltI, nI_leI, nI_eq, mi_n, Nat.add_zero, true_and, and_true, true_or, or_true, false_or, or_false, not_false_eq_true, not_true_eq_false, implies_true, forall_const, ne_eq, Classical.not_not, reduceCtorEq, nor_p, cI_1n, bI_1n, cI_F, cI_T, cI_0, cI_0n, bI_0, bI_0n, cI_01, bI_01, Nat.reduceLeDiff, Nat.reduceLT, Nat.reduceEqDiff, Nat.reduceSub, Nat.reduceAdd, Nat.lt_irrefl, Nat.le_refl, false_implies, true_implies]
  refine ⟨fun h => ?_, fun h => ?_⟩
  · rw [if_neg h] at hQ
    refine ⟨fun h => ?_, fun h => ?_⟩
    · rw [if_neg h] at hQ
      refine ⟨fun h => ?_, fun h => ?_⟩
      · rw [if_neg h] at hQ; exact hQ
      · rw [if_pos h] at hQ; exact hQ
    · rw [if_pos h] at hQ; exact hQ
  · rw [if_pos h] at hQ; exact hQ
set_option maxHeartbeats 1000000 in
theorem sp_X9_joined {c : Nat} {x y : Int32} (hc : c ∈ [38, 42, 43, 45, 47, 60, 61, 62, 124]) : mu_met w mm_X9_joined (d + 1) [.int (nI c), .int x, .int y] g (some (.int (rf_join (nI c) x y))) g := by
  refine mu_mk mk_X9_joined rfl rfl rfl (fun L hL Q hQ => fm_X9_joined_0 ?_)
  have a0 : Q (some (.int 0)) g → mu_callI w mm_X10_asInt d L [.int 0] g (fun x g1 => Q (some (.int x)) g1) := fun h => mu_cI sp_X10_asInt hL (by rw [cI_f (by simp)]; exact h)
  have a1 : Q (some (.int 1)) g → mu_callI w mm_X10_asInt d L [.int 1] g (fun x g1 => Q (some (.int x)) g1) := fun h => mu_cI sp_X10_asInt hL (by rw [cI_t (by simp)]; exact h)
  simp only [List.mem_cons, List.not_mem_nil, or_false] at hc
  rcases hc with rfl | rfl | rfl | rfl | rfl | rfl | rfl | rfl | rfl
  · have e : (nI 38).toInt = 38 := by decide
    have h0 : _ := jl_and (a := x) (b := y) (g := g) (Q := Q) hQ
    simp only [e]
    simp
    exact ⟨fun h => a0 (h0.1 h), fun h => ⟨fun h2 => a0 ((h0.2 h).1 h2), fun h2 => a1 ((h0.2 h).2 h2)⟩⟩
  · have e : (nI 42).toInt = 42 := by decide
    simp only [e]
    simp
    exact hQ
  · have e : (nI 43).toInt = 43 := by decide
    simp only [e]
    simp
    exact hQ
  · have e : (nI 45).toInt = 45 := by decide
    simp only [e]
    simp
    exact hQ
  · have e : (nI 47).toInt = 47 := by decide
    have hq : Q (some (.int (if y = 0 then 0 else x / y))) g := hQ
    simp only [e]
    simp
    exact ⟨fun h => ⟨h, by rw [if_neg h] at hq; exact hq⟩, fun h => by rw [if_pos h] at hq; exact hq⟩
  · have e : (nI 60).toInt = 60 := by decide
    have h0 : _ := jl_lt (a := x) (b := y) (g := g) (Q := Q) hQ
    simp only [e]
    simp [← Int32.not_lt] at h0 ⊢
    exact ⟨fun h => a0 (h0.1 h), fun h => a1 (h0.2 h)⟩
  · have e : (nI 61).toInt = 61 := by decide
    have h0 : _ := jl_eq (a := x) (b := y) (g := g) (Q := Q) hQ
    simp only [e]
    simp at h0 ⊢
    exact ⟨fun h => a0 (h0.1 h), fun h => a1 (h0.2 h)⟩
  · have e : (nI 62).toInt = 62 := by decide
    have h0 : _ := jl_lt (a := y) (b := x) (g := g) (Q := Q) hQ
    simp only [e]
    simp [← Int32.not_lt] at h0 ⊢
    exact ⟨fun h => a0 (h0.1 h), fun h => a1 (h0.2 h)⟩
  · have e : (nI 124).toInt = 124 := by decide
    have h0 : _ := jl_or (a := x) (b := y) (g := g) (Q := Q) hQ
    simp only [e]
    simp at h0 ⊢
    exact ⟨fun h => a1 (h0.1 h), fun h => ⟨fun h2 => a0 ((h0.2 h).1 h2), fun h2 => a1 ((h0.2 h).2 h2)⟩⟩
/-- what lawOf answers -/
def lwR (s : Nat → Int32) (g : mu_H) (b : Nat) (key : Int32) (n : Nat) : Nat := if (rf_last s key n).toInt < 0 then 0 else mu_R g (b + 5) (rf_last s key n).toNatClampNeg
theorem sp_X4_lawOf {key : Int32} (hS : sc_L w b g) (hV : sc_V w E b s g) (hc : wf_c s) : mu_met w mm_X4_lawOf d [.ref b, .int key] g (some (.ref (lwR s g b key (ntx s)))) g := by
  refine mu_mk mk_X4_lawOf rfl rfl rfl (fun L hL Q hQ => fm_X4_lawOf_0 ⟨sc_T hS, ?_⟩)
  have hb := wc_b hc
  rw [sv_3 hV hc]
  have : ∀ i, i ≤ ntx s → Q (some (.ref (lwR s g b key i))) g → mu_go w mm_X4_lawOf d L Q 7 [some (.ref b), some (.int key), some (.int (nI i - 1)), none] [] g := by
    intro i
    induction i with
    | zero =>
      intro _ hq
      refine fm_X4_lawOf_7 ⟨fun _ => hq, fun h => absurd (by decide) h⟩
    | succ i ih =>
      intro hi hq
      obtain ⟨x1, ⟨x2, x2'⟩, x3, -⟩ := sv_t hV (show i < ntx s by omega)
      rw [nI_pred]
      refine fm_X4_lawOf_7 ?_
      have hne : ¬ mu_R g (b + 5) i = 0 := by omega
      unfold lwR rf_last at hq
      simp (disch := omega) only [sc_T hS, sc_R0 hS, sc_R1 hS, sc_R2 hS, sc_R3 hS, sc_R4 hS, sc_R5 hS, sc_R6 hS, sc_R7 hS, sc_R8 hS, sc_R9 hS, sc_T1 hS, sc_N1 hS, sc_RP hS, sc_T2 hS, sc_N2 hS, sc_RM hS, sc_T3 hS, sc_N3 hS, sc_T4 hS, sc_N4 hS, sc_T5 hS, sc_N5 hS, sc_T6 hS, sc_N6 hS, sc_T7 hS, sc_N7 hS, sc_T8 hS, sc_N8 hS, sc_T9 hS, sc_N9 hS, sc_T10 hS, sc_RL0 hS, sc_RL1 hS, sc_T11 hS, sc_N11 hS, sc_T12 hS, sc_N12 hS, sc_TP hS, sc_TM hS, sc_w hS, sc_wj hS, sc_wp hS, sv_0 hV hc, sv_1 hV hc, sv_2 hV hc, sv_3 hV hc, sv_4 hV hc, sv_5 hV hc, sv_6 hV hc, sv_7 hV hc, sv_9 hV hc, sv_8 hV, li_n, nI_add, pk_mul, nI_clamp, nI_ltI, nI_leI, nI_eq, mi_n, Nat.add_zero, true_and, and_true, true_or, or_true, false_or, or_false, not_false_eq_true, not_true_eq_false, implies_true, forall_const, ne_eq, Classical.not_not, reduceCtorEq, nor_p, cI_1n, bI_1n, cI_F, cI_T, cI_0, cI_0n, bI_0, bI_0n, cI_01, bI_01, Nat.reduceLeDiff, Nat.reduceLT, Nat.reduceEqDiff, Nat.reduceSub, Nat.reduceAdd, Nat.lt_irrefl, Nat.le_refl, false_implies, true_implies, hne, x1, x3, li_m1n]
      refine ⟨fun h => by omega, fun _ => ⟨by omega, fun h => ?_, fun h => ?_⟩⟩
      · rw [if_neg h] at hq
        exact ih (by omega) hq
      · rw [if_pos h, if_neg (by rw [nI_toInt (by omega)]; omega), nI_clamp (by omega)] at hq
        exact hq
  exact this _ (Nat.le_refl _) hQ
set_option maxHeartbeats 4000000 in
theorem sp_X9_value (hX : tx_R w E g a s t) (hT : wf_text s t) (hnm : ∀ c ∈ tx_let (s (460 + 200 * t)), nm c = nmd (tx_ix (s (460 + 200 * t)) c) v1 v2 v3 v4) :
    mu_mp w mm_X9_value (d + 2) [.ref a, .int v1, .int v2, .int v3, .int v4] g (fun r g' => ∃ x, r = some (.int x) ∧ (x = tx_val s t nm ∧ mu_fr (jU E) g g')) := by
  refine mu_mkp mk_X9_value rfl (fun L hL Q hQ => fm_X9_value_0 ?_)
  obtain ⟨x1, ⟨x2, x2'⟩, x3, x4, x5, x6, x7, x8, x9, x10, x11, x12⟩ := hX
  obtain ⟨w1, w2, w3, hok, w5⟩ := hT
  obtain ⟨o1, o2, o3, o4, o5⟩ := id hok
  have hlet : ∀ c, c ∈ tx_let (s (460 + 200 * t)) → tx_ix (s (460 + 200 * t)) c < 4 := by
    intro c hc
    unfold tx_ix
    split
    · split
      · omega
      · split <;> omega
    · split
      · split
        · omega
        · split
          · omega
          · split <;> omega
      · split <;> omega
  have hlet2 : ∀ c, c ∈ tx_let (s (460 + 200 * t)) → c < 128 := by
    intro c hc
    unfold tx_let at hc
    split at hc
    · simp at hc; omega
    · split at hc <;> simp at hc <;> omega
  have hne : ¬ mu_R g a 3 = mu_R g a 2 := fun q => x6 (q ▸ x11)
  refine lp (n := txn s t) (P := fun i => ∀ g', mu_fr (fun z => z = mu_R g a 3) g g' → rf_stk (rf_rl (txw s t) (txv s t) nm i) (mu_I g' (mu_R g a 3)) → mu_go w mm_X9_value (d + 2) L Q 6 [some (.ref a), some (.int v1), some (.int v2), some (.int v3), some (.int v4), some (.int (tp (rf_ht (txw s t) (txv s t) i))), some (.int (nI i)), none] [] g') (fun g' hf hst => fm_X9_value_6 ?_) (fun i hi ih g' hf hst => fm_X9_value_6 ?_) g mu_fr_rf trivial
  · have hl := rf_rl_len (nm := nm) hok (txn s t) (Nat.le_refl _)
    rw [o4] at hl
    have hfJ : mu_fr (jU E) g g' := mu_fr_mono hf (fun z hz => by rw [hz]; exact x11)
    simp (disch := omega) only [hf.1, hf.2.1, hf.2.2.1, x1, x5, x7, x9, x12, ofNat_n, li_n, nI_add, pk_mul, nI_clamp, nI_ltI, nI_leI, nI_eq, mi_n, Nat.add_zero, true_and, and_true, true_or, or_true, false_or, or_false, not_false_eq_true, not_true_eq_false, implies_true, forall_const, ne_eq, Classical.not_not, reduceCtorEq, nor_p, cI_1n, bI_1n, cI_F, cI_T, cI_0, cI_0n, bI_0, bI_0n, cI_01, bI_01, Nat.reduceLeDiff, Nat.reduceLT, Nat.reduceEqDiff, Nat.reduceSub, Nat.reduceAdd, Nat.lt_irrefl, Nat.le_refl, false_implies, true_implies]
    refine ⟨by omega, ?_⟩
    refine hQ _ g' ⟨_, rfl, ?_, hfJ⟩ hf.2.2.2.1 hf.2.2.2.2.1
    unfold tx_val
    match h1 : rf_rl (txw s t) (txv s t) nm (txn s t) with
    | [] => rw [h1] at hl; simp at hl
    | [z] =>
      rw [h1] at hst
      exact hst.1
    | z :: z2 :: r => rw [h1] at hl; simp at hl
  · have hl := rf_rl_len (nm := nm) hok i (by omega)
    have hcd : mu_I g' (mu_R g a 2) i = tx_enc s t i := by
      rw [hf.2.2.2.2.2 _ (fun q => hne q.symm)]
      exact x8 i hi
    obtain ⟨hle, hop⟩ := o5 i (by omega)
    obtain ⟨p1, p2, p3, p4⟩ := hop (by omega)
    have hle1 := (o5 (i + 1) (by omega)).1
    obtain ⟨r0, r1, r2⟩ := w5 i hi
    have hR1 : rf_rl (txw s t) (txv s t) nm (i + 1) = rf_sl (txw s t i) (txv s t i) nm (rf_rl (txw s t) (txv s t) nm i) := rfl
    have hH1 : rf_ht (txw s t) (txv s t) (i + 1) = if txw s t i = 2 then (if txv s t i = 33 then rf_ht (txw s t) (txv s t) i else rf_ht (txw s t) (txv s t) i - 1) else rf_ht (txw s t) (txv s t) i + 1 := rfl
    have hfr : ∀ (j : Nat) (x : Int32), mu_fr (fun z => z = mu_R g a 3) g (mu_sI g' (mu_R g a 3) j x) := fun j x => mu_fr_tr hf (mu_fr_sI rfl)
    have hL' := mu_fr_fit hf hL
    unfold tx_enc at hcd
    unfold rf_sl at hR1
    generalize rf_ht (txw s t) (txv s t) i = hh at *
    generalize rf_rl (txw s t) (txv s t) nm i = ll at *
    rcases p1 with q0 | q1 | q2
    · rw [if_pos q0] at hcd
      have n2 : ¬ txw s t i = 2 := by rw [q0]; decide
      rw [if_neg n2, if_pos q0] at hR1
      rw [if_neg n2] at hH1
      obtain ⟨k1, k2⟩ := r0 q0
      obtain ⟨ek, ek2⟩ := li_get k1
      generalize (txv s t i).toNatClampNeg = kk at *
      rw [ek] at hcd hR1 k2
      rw [nI_toInt ek2] at k2
      have q := ih (mu_sI g' (mu_R g a 3) hh (nI kk)) (hfr _ _) (by
        rw [hR1, mu_I_upd]
        exact ⟨by rw [hl, pk_us], rf_stk_upd hst (by omega)⟩)
      rw [hH1, tp_s] at q
      have e1 : nI (txl s t) - nI 1 = nI (txl s t - 1) := pk_sub (by omega)
      simp (disch := omega) only [Nat.not_le_of_lt hi, hf.1, hf.2.1, hf.2.2.1, x1, x5, x7, x9, x10, x12, hcd, tp_pn, e1, mn_n, ofNat_n, li_n, nI_add, pk_mul, nI_clamp, nI_ltI, nI_leI, nI_eq, mi_n, Nat.add_zero, true_and, and_true, true_or, or_true, false_or, or_false, not_false_eq_true, not_true_eq_false, implies_true, forall_const, ne_eq, Classical.not_not, reduceCtorEq, nor_p, cI_1n, bI_1n, cI_F, cI_T, cI_0, cI_0n, bI_0, bI_0n, cI_01, bI_01, Nat.reduceLeDiff, Nat.reduceLT, Nat.reduceEqDiff, Nat.reduceSub, Nat.reduceAdd, Nat.lt_irrefl, Nat.le_refl, false_implies, true_implies]
      have e2 : min hh (txl s t - 1) = hh := by omega
      rw [e2]
      exact ⟨by omega, fun h => by omega, fun _ => ⟨fun h => by omega, fun _ => ⟨by omega, q⟩⟩⟩
    · obtain ⟨c, c1, c2⟩ := r1 q1
      have c3 := hlet c c1
      have c4 := hlet2 c c1
      have n2 : ¬ txw s t i = 2 := by rw [q1]; decide
      have n0 : ¬ txw s t i = 0 := by rw [q1]; decide
      rw [if_neg n0, if_pos q1, c2, nI_clamp (by omega)] at hcd
      rw [if_neg n2, if_neg n0, c2, nI_clamp (by omega), hnm c c1] at hR1
      rw [if_neg n2] at hH1
      have q := ih (mu_sI g' (mu_R g a 3) hh (nmd (tx_ix (s (460 + 200 * t)) c) v1 v2 v3 v4)) (hfr _ _) (by
        rw [hR1, mu_I_upd]
        exact ⟨by rw [hl, pk_us], rf_stk_upd hst (by omega)⟩)
      rw [hH1, tp_s] at q
      have e1 : nI (txl s t) - nI 1 = nI (txl s t - 1) := pk_sub (by omega)
      have e3 : nI (10000 + tx_ix (s (460 + 200 * t)) c) - nI 10000 = nI (tx_ix (s (460 + 200 * t)) c) := nI_asub _ _
      simp (disch := omega) only [Nat.not_le_of_lt hi, hf.1, hf.2.1, hf.2.2.1, x1, x5, x7, x9, x10, x12, hcd, tp_pn, e1, e3, mn_n, ofNat_n, li_n, nI_add, pk_mul, nI_clamp, nI_ltI, nI_leI, nI_eq, mi_n, Nat.add_zero, true_and, and_true, true_or, or_true, false_or, or_false, not_false_eq_true, not_true_eq_false, implies_true, forall_const, ne_eq, Classical.not_not, reduceCtorEq, nor_p, cI_1n, bI_1n, cI_F, cI_T, cI_0, cI_0n, bI_0, bI_0n, cI_01, bI_01, Nat.reduceLeDiff, Nat.reduceLT, Nat.reduceEqDiff, Nat.reduceSub, Nat.reduceAdd, Nat.lt_irrefl, Nat.le_refl, false_implies, true_implies]
      have e2 : min hh (txl s t - 1) = hh := by omega
      refine ⟨by omega, fun h => by omega, fun _ => ⟨fun _ => mu_cI (sp_X9_named (by omega)) hL' ?_, fun h => by omega⟩⟩
      simp (disch := omega) only [hf.1, hf.2.1, hf.2.2.1, x1, x5, x7, x9, x10, x12, e2, li_n, nI_add, pk_mul, nI_clamp, nI_ltI, nI_leI, nI_eq, mi_n, Nat.add_zero, true_and, and_true, true_or, or_true, false_or, or_false, not_false_eq_true, not_true_eq_false, implies_true, forall_const, ne_eq, Classical.not_not, reduceCtorEq, nor_p, cI_1n, bI_1n, cI_F, cI_T, cI_0, cI_0n, bI_0, bI_0n, cI_01, bI_01, Nat.reduceLeDiff, Nat.reduceLT, Nat.reduceEqDiff, Nat.reduceSub, Nat.reduceAdd, Nat.lt_irrefl, Nat.le_refl, false_implies, true_implies]
      exact ⟨by omega, q⟩
    · obtain ⟨c, c1, c2⟩ := r2 q2
      have n1 : ¬ txw s t i = 1 := by rw [q2]; decide
      have n0 : ¬ txw s t i = 0 := by rw [q2]; decide
      have hc128 : c < 128 := by simp at c1; omega
      rw [if_neg n0, if_neg n1, c2, nI_clamp (by omega)] at hcd
      rw [if_pos q2] at hR1 hH1
      by_cases h33 : c = 33
      · have e33 : txv s t i = 33 := by rw [c2, h33]; rfl
        rw [if_pos e33] at hR1 hH1
        have := p3 q2 e33
        match ll, hl with
        | [], hl => simp at hl; omega
        | z :: r, hl =>
          have e : hh = r.length + 1 := by simp at hl; omega
          subst e
          obtain ⟨b1, b2⟩ := hst
          have q : ∀ x, x = bI (z = 0) → mu_go w mm_X9_value (d + 2) L Q 6 [some (.ref a), some (.int v1), some (.int v2), some (.int v3), some (.int v4), some (.int (nI r.length)), some (.int (nI (i + 1))), none] [] (mu_sI g' (mu_R g a 3) r.length x) := fun x hx => by
            have := ih (mu_sI g' (mu_R g a 3) r.length x) (hfr _ _) (by
              rw [hR1, mu_I_upd]
              exact ⟨by rw [pk_us]; exact hx, rf_stk_upd b2 (Nat.le_refl _)⟩)
            rw [hH1, tp_s] at this
            exact this
          have e3 : nI (20000 + c) = nI 20033 := by rw [h33]
          rw [tp_s]
          simp (disch := omega) only [Nat.not_le_of_lt hi, hf.1, hf.2.1, hf.2.2.1, x1, x5, x7, x9, x10, x12, hcd, e3, mx_n, Nat.max_zero, ofNat_n, li_n, nI_add, pk_mul, nI_clamp, nI_ltI, nI_leI, nI_eq, mi_n, Nat.add_zero, true_and, and_true, true_or, or_true, false_or, or_false, not_false_eq_true, not_true_eq_false, implies_true, forall_const, ne_eq, Classical.not_not, reduceCtorEq, nor_p, cI_1n, bI_1n, cI_F, cI_T, cI_0, cI_0n, bI_0, bI_0n, cI_01, bI_01, Nat.reduceLeDiff, Nat.reduceLT, Nat.reduceEqDiff, Nat.reduceSub, Nat.reduceAdd, Nat.lt_irrefl, Nat.le_refl, false_implies, true_implies]
          refine ⟨by omega, by omega, fun hz => mu_cI sp_X10_asInt hL' ?_, fun hz => mu_cI sp_X10_asInt hL' ?_⟩
          · simp (disch := omega) only [hf.1, hf.2.1, hf.2.2.1, x9, x10, x12, li_n, nI_add, pk_mul, nI_clamp, nI_ltI, nI_leI, nI_eq, mi_n, Nat.add_zero, true_and, and_true, true_or, or_true, false_or, or_false, not_false_eq_true, not_true_eq_false, implies_true, forall_const, ne_eq, Classical.not_not, reduceCtorEq, nor_p, cI_1n, bI_1n, cI_F, cI_T, cI_0, cI_0n, bI_0, bI_0n, cI_01, bI_01, Nat.reduceLeDiff, Nat.reduceLT, Nat.reduceEqDiff, Nat.reduceSub, Nat.reduceAdd, Nat.lt_irrefl, Nat.le_refl, false_implies, true_implies]
            refine ⟨by omega, q _ ?_⟩
            rw [bI_f (by rw [← b1]; exact hz)]; rfl
          · simp (disch := omega) only [hf.1, hf.2.1, hf.2.2.1, x9, x10, x12, li_n, nI_add, pk_mul, nI_clamp, nI_ltI, nI_leI, nI_eq, mi_n, Nat.add_zero, true_and, and_true, true_or, or_true, false_or, or_false, not_false_eq_true, not_true_eq_false, implies_true, forall_const, ne_eq, Classical.not_not, reduceCtorEq, nor_p, cI_1n, bI_1n, cI_F, cI_T, cI_0, cI_0n, bI_0, bI_0n, cI_01, bI_01, Nat.reduceLeDiff, Nat.reduceLT, Nat.reduceEqDiff, Nat.reduceSub, Nat.reduceAdd, Nat.lt_irrefl, Nat.le_refl, false_implies, true_implies]
            refine ⟨by omega, q _ ?_⟩
            rw [bI_t (by rw [← b1]; exact hz)]; rfl
      · have e33 : ¬ txv s t i = 33 := by rw [c2]; intro q; exact h33 ((nI_eq (by omega) (by omega)).mp (q.trans (li_n 33)))
        rw [if_neg e33] at hR1 hH1
        have := p4 q2 e33
        match ll, hl with
        | [], hl => simp at hl; omega
        | [z], hl => simp at hl; omega
        | z2 :: z :: r, hl =>
          have e : hh = r.length + 2 := by simp at hl; omega
          subst e
          obtain ⟨b1, b2, b3⟩ := hst
          have q : mu_go w mm_X9_value (d + 2) L Q 6 [some (.ref a), some (.int v1), some (.int v2), some (.int v3), some (.int v4), some (.int (nI r.length)), some (.int (nI (i + 1))), none] [] (mu_sI g' (mu_R g a 3) r.length (rf_join (nI c) (mu_I g' (mu_R g a 3) r.length) (mu_I g' (mu_R g a 3) (r.length + 1)))) := by
            have := ih (mu_sI g' (mu_R g a 3) r.length (rf_join (nI c) (mu_I g' (mu_R g a 3) r.length) (mu_I g' (mu_R g a 3) (r.length + 1)))) (hfr _ _) (by
              rw [hR1, mu_I_upd, c2]
              refine ⟨?_, rf_stk_upd b3 (Nat.le_refl _)⟩
              rw [pk_us, b2]
              exact congrArg _ b1)
            rw [hH1, show r.length + 2 - 1 = r.length + 1 by omega, tp_s] at this
            exact this
          have e3 : ¬ nI (20000 + c) = nI 20033 := by rw [nI_eq (by omega) (by omega)]; omega
          have e4 : nI (20000 + c) - nI 20000 = nI c := nI_asub _ _
          have e5 : nI (r.length + 1) + -nI 1 = nI r.length := pk_m1 _
          have hcm : c ∈ [38, 42, 43, 45, 47, 60, 61, 62, 124] := by
            simp only [List.mem_cons, List.not_mem_nil, or_false] at c1 ⊢
            omega
          rw [tp_s]
          simp (disch := omega) only [Nat.not_le_of_lt hi, hf.1, hf.2.1, hf.2.2.1, x1, x5, x7, x9, x10, x12, hcd, e4, e5, mx_n, Nat.max_zero, ofNat_n, li_n, nI_add, pk_mul, nI_clamp, nI_ltI, nI_leI, nI_eq, mi_n, Nat.add_zero, true_and, and_true, true_or, or_true, false_or, or_false, not_false_eq_true, not_true_eq_false, implies_true, forall_const, ne_eq, Classical.not_not, reduceCtorEq, nor_p, cI_1n, bI_1n, cI_F, cI_T, cI_0, cI_0n, bI_0, bI_0n, cI_01, bI_01, Nat.reduceLeDiff, Nat.reduceLT, Nat.reduceEqDiff, Nat.reduceSub, Nat.reduceAdd, Nat.lt_irrefl, Nat.le_refl, false_implies, true_implies]
          refine ⟨by omega, fun _ => ⟨fun _ => ⟨by omega, by omega, mu_cI (sp_X9_joined hcm) hL' ?_⟩, fun h => by omega⟩, fun h => by omega⟩
          simp (disch := omega) only [hf.1, hf.2.1, hf.2.2.1, x9, x10, x12, li_n, nI_add, pk_mul, nI_clamp, nI_ltI, nI_leI, nI_eq, mi_n, Nat.add_zero, true_and, and_true, true_or, or_true, false_or, or_false, not_false_eq_true, not_true_eq_false, implies_true, forall_const, ne_eq, Classical.not_not, reduceCtorEq, nor_p, cI_1n, bI_1n, cI_F, cI_T, cI_0, cI_0n, bI_0, bI_0n, cI_01, bI_01, Nat.reduceLeDiff, Nat.reduceLT, Nat.reduceEqDiff, Nat.reduceSub, Nat.reduceAdd, Nat.lt_irrefl, Nat.le_refl, false_implies, true_implies]
          exact ⟨by omega, q⟩
end Ct
