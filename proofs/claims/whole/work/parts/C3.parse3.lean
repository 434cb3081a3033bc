/-! MATH: reading comes to an end, and its steps go well -/
def prT (B : Nat → Nat) (n : Nat) (key : Int32) (s : PS) (r : Bool × PS) : Prop := tkW B n r.2.1 ∧ eqP 0 s r.2 ∧ (r.1 = true → s.1.2.1 < r.2.1.2.1 ∧ ehP key (htP s) s r.2 ∧ htP r.2 = htP s + 1)
def prL (B : Nat → Nat) (n : Nat) (key : Int32) (s : PS) (r : Bool × PS) : Prop := tkW B n r.2.1 ∧ eqP 0 s r.2 ∧ (r.1 = true → ehP key (htP s - 1) s r.2 ∧ htP r.2 = htP s)
section Ps
variable {B : Nat → Nat} {n : Nat} {key : Int32}
theorem nmv_lt {a : Nat} : ∀ {j : Nat}, (∀ i, i < j → 48 ≤ B (a + i) ∧ B (a + i) ≤ 57) → nmv B a j < 10 ^ j
  | 0, _ => by unfold nmv; omega
  | j + 1, h => by
    have := nmv_lt (j := j) (fun i hi => h i (by omega))
    have := h j (by omega)
    unfold nmv
    rw [Nat.pow_succ]
    omega
theorem stK_num {s : PS} (h : tkW B n s.1) (h2 : s.1.1 = 2) (h4 : s.1.2.2 - s.1.2.1 ≤ 4) : stK key 0 (nI (nmv B s.1.2.1 (s.1.2.2 - s.1.2.1))) ∧ nmv B s.1.2.1 (s.1.2.2 - s.1.2.1) ≤ 9999 := by
  have e := nmv_lt (B := B) (a := s.1.2.1) (j := s.1.2.2 - s.1.2.1) (fun i hi => h.2.2.2.2.2.2.1 h2 _ (by omega) (by omega))
  have e2 : 10 ^ (s.1.2.2 - s.1.2.1) ≤ 10 ^ 4 := Nat.pow_le_pow_right (by omega) h4
  have e3 : nmv B s.1.2.1 (s.1.2.2 - s.1.2.1) ≤ 9999 := by omega
  exact ⟨Or.inl ⟨rfl, by rw [nI_toInt (by omega)]; omega, by rw [nI_toInt (by omega)]; omega⟩, e3⟩
theorem sg_in {t c : Nat} (h : c ∈ sgs t) : c ∈ [33, 38, 42, 43, 45, 47, 60, 61, 62, 124] ∧ c ≠ 33 ∧ c < 128 := by
  unfold sgs at h
  split at h <;> simp at h
  · subst h; decide
  · subst h; decide
  · rcases h with h | h | h <;> subst h <;> decide
  · rcases h with h | h <;> subst h <;> decide
  · rcases h with h | h <;> subst h <;> decide
theorem stK_sg {t c : Nat} (h : c ∈ sgs t) : stK key 2 (nI c) ∧ nI c ≠ 33 := by
  obtain ⟨h1, h2, h3⟩ := sg_in h
  exact ⟨Or.inr (Or.inr ⟨rfl, c, h1, rfl⟩), fun q => h2 ((nI_eq (b := 33) (by omega) (by decide)).mp q)⟩
theorem eq_w {s s1 : PS} {i j : Nat} (h : eqP i s s1) (hj : j ≤ i) : eqP j s s1 := by
  obtain ⟨a1, a2, a3, a4, a5⟩ := h
  exact ⟨a1, a2, by omega, by omega, a5⟩
theorem tk_nx {s : PS} (h : tkW B n s.1) : tkW B n (nx B n s).1 := (nxt_ok h.2.1).1
theorem pr_ok : ∀ f, (∀ m o u s, m ≤ 5 → tkW B n s.1 → 7 * (n - s.1.2.1) + (7 - m) ≤ f → prT B n key s (prs B n key f m o u s)) ∧ (∀ t o u s, t ≤ 4 → 1 ≤ htP s → tkW B n s.1 → 7 * (n - s.1.2.1) + 1 ≤ f → prL B n key s (prs B n key f (10 + t) o u s))
  | 0 => ⟨fun m o u s hm _ hf => by omega, fun t o u s _ _ _ hf => by omega⟩
  | f + 1 => by
    obtain ⟨IT, IL⟩ := pr_ok f
    refine ⟨fun m o u s hm hT hf => ?_, fun t o u s ht hh hT hf => ?_⟩
    · by_cases h5 : m < 5
      · have r1 := IT (m + 1) o u s (by omega) hT (by omega)
        by_cases s1 : (prs B n key f (m + 1) o u s).1 = true
        · rw [pr_t h5 s1]
          generalize prs B n key f (m + 1) o u s = r at *
          obtain ⟨t1, q1, x1⟩ := r1
          obtain ⟨l1, e1, g1⟩ := x1 s1
          have b1 := t1.1
          have b2 := t1.2.1
          have r2 := IL m o u r.2 (by omega) (by omega) t1 (by omega)
          generalize prs B n key f (10 + m) o u r.2 = r' at *
          obtain ⟨t2, q2, x2⟩ := r2
          refine ⟨t2, eq_tr q1 q2, fun z => ?_⟩
          obtain ⟨e2, g2⟩ := x2 z
          have := eq_a q2
          exact ⟨by omega, eh_tr q1 q2 e1 e2 (by omega), by omega⟩
        · rw [pr_tf h5 s1]
          obtain ⟨t1, q1, x1⟩ := r1
          exact ⟨t1, q1, fun z => absurd z s1⟩
      · have em : m = 5 := by omega
        subst em
        by_cases k2 : s.1.1 = 2
        · by_cases h4 : s.1.2.2 - s.1.2.1 ≤ 4
          · rw [pr_2 k2 h4]
            have q := eq_lf (w := 0) (v := nI (nmv B s.1.2.1 (s.1.2.2 - s.1.2.1))) hT (by omega)
            have e := eh_lf (B := B) (n := n) (h := htP s) (s := s) (stK_num (key := key) hT k2 h4).1 (Or.inl rfl)
            have hl := hT.2.2.2.1 (by omega)
            have hx := (nxt_ok (B := B) (t := s.1) hT.2.1)
            exact ⟨hx.1, q, fun _ => ⟨by show s.1.2.1 < (nxt B n s.1).2.1; omega, e.1, e.2⟩⟩
          · rw [pr_2f k2 h4]
            exact ⟨hT, eq_rf, fun z => absurd z (by simp)⟩
        · by_cases k1 : s.1.1 = 1
          · by_cases h4 : s.1.2.2 - s.1.2.1 = 1 ∧ B s.1.2.1 ∈ tx_let key
            · rw [pr_1 k1 h4]
              have q := eq_lf (w := 1) (v := nI (B s.1.2.1)) hT (by omega)
              have e := eh_lf (B := B) (n := n) (h := htP s) (s := s) (key := key) (w := 1) (v := nI (B s.1.2.1)) (Or.inr (Or.inl ⟨rfl, _, h4.2, rfl⟩)) (Or.inr rfl)
              have hl := hT.2.2.2.1 (by omega)
              have hx := (nxt_ok (B := B) (t := s.1) hT.2.1)
              exact ⟨hx.1, q, fun _ => ⟨by show s.1.2.1 < (nxt B n s.1).2.1; omega, e.1, e.2⟩⟩
            · rw [pr_1f k1 h4]
              exact ⟨hT, eq_rf, fun z => absurd z (by simp)⟩
          · by_cases kn : isSg B s 33 ∧ u < 8
            · have hn0 : s.1.1 ≠ 0 := by have := kn.1.1; omega
              have q0 := eq_nx (B := B) hT hn0
              have a0 := eq_a q0
              have tn := tk_nx (B := B) hT
              have b1 := tn.1
              have b2 := tn.2.1
              have r1 := IT 5 o (u + 1) (nx B n s) (by omega) (tk_nx hT) (by omega)
              by_cases s1 : (prs B n key f 5 o (u + 1) (nx B n s)).1 = true
              · rw [pr_n kn s1]
                generalize prs B n key f 5 o (u + 1) (nx B n s) = r at *
                obtain ⟨t1, q1, x1⟩ := r1
                obtain ⟨l1, e1, g1⟩ := x1 s1
                have qq := eq_tr q0 q1
                refine ⟨t1, eq_em (i := 0) qq, fun _ => ⟨by show s.1.2.1 < r.2.1.2.1; omega, eh_em qq.1 (eh_nx0 e1) (Or.inr (Or.inr ⟨rfl, 33, by decide, rfl⟩)) (fun _ _ => by rw [g1]; exact Nat.le_refl _) (fun _ q => absurd rfl q) rfl, ?_⟩⟩
                rw [ht_em, if_pos rfl, if_pos rfl]
                exact g1
              · rw [pr_nf kn s1]
                obtain ⟨t1, q1, x1⟩ := r1
                exact ⟨t1, eq_w (j := 0) (eq_tr q0 q1) (by omega), fun z => absurd z s1⟩
            · by_cases kp : isSg B s 40 ∧ o < 8
              · have hn0 : s.1.1 ≠ 0 := by have := kp.1.1; omega
                have q0 := eq_nx (B := B) hT hn0
                have a0 := eq_a q0
                have tn := tk_nx (B := B) hT
                have b1 := tn.1
                have b2 := tn.2.1
                have r1 := IT 0 (o + 1) u (nx B n s) (by omega) (tk_nx hT) (by omega)
                by_cases s1 : (prs B n key f 0 (o + 1) u (nx B n s)).1 = true
                · by_cases s2 : isSg B (prs B n key f 0 (o + 1) u (nx B n s)).2 41
                  · rw [pr_p kp s1 s2]
                    generalize prs B n key f 0 (o + 1) u (nx B n s) = r at *
                    obtain ⟨t1, q1, x1⟩ := r1
                    obtain ⟨l1, e1, g1⟩ := x1 s1
                    have q2 := eq_nx (B := B) t1 (by have := s2.1; omega)
                    have qq := eq_tr q0 (eq_tr q1 q2)
                    have := eq_a qq
                    exact ⟨tk_nx t1, eq_w (j := 0) qq (by omega), fun _ => ⟨by show s.1.2.1 < (nx B n r.2).1.2.1; omega, eh_nx0 (eh_nx e1), g1⟩⟩
                  · rw [pr_pc kp s1 s2]
                    obtain ⟨t1, q1, x1⟩ := r1
                    exact ⟨t1, eq_w (j := 0) (eq_tr q0 q1) (by omega), fun z => absurd z (by simp)⟩
                · rw [pr_pf kp s1]
                  obtain ⟨t1, q1, x1⟩ := r1
                  exact ⟨t1, eq_w (j := 0) (eq_tr q0 q1) (by omega), fun z => absurd z s1⟩
              · rw [pr_0 k2 k1 kn kp]
                exact ⟨hT, eq_rf, fun z => absurd z (by simp)⟩
    · by_cases hj : s.1.1 = 3 ∧ B s.1.2.1 ∈ sgs t
      · have hn0 : s.1.1 ≠ 0 := by have := hj.1; omega
        have q0 := eq_nx (B := B) hT hn0
        have a0 := eq_a q0
        have tn := tk_nx (B := B) hT
        have b3 := hT.2.2.2.1 hn0
        have b4 := hT.2.1
        have r1 := IT (t + 1) o u (nx B n s) (by omega) tn (by omega)
        by_cases s1 : (prs B n key f (t + 1) o u (nx B n s)).1 = true
        · obtain ⟨k1, k2⟩ := stK_sg (key := key) hj.2
          by_cases h2 : t = 2
          · subst h2
            rw [pr_l2 hj s1]
            generalize prs B n key f 3 o u (nx B n s) = r at *
            obtain ⟨t1, q1, x1⟩ := r1
            obtain ⟨l1, e1, g1⟩ := x1 s1
            have qq := eq_tr q0 q1
            have g1' : htP r.2 = htP s + 1 := g1
            have e1' : ehP key (htP s - 1) s r.2 := eh_tr eq_rf (eq_w (j := 0) qq (by omega)) eh_rf (eh_nx0 e1) (by show htP s - 1 ≤ htP s; omega)
            refine ⟨t1, eq_em (i := 0) qq, fun _ => ⟨eh_em qq.1 e1' k1 (fun _ q => absurd q k2) (fun _ _ => by omega) rfl, ?_⟩⟩
            rw [ht_em, if_pos rfl, if_neg k2, g1']
            omega
          · rw [pr_l hj s1 h2]
            generalize prs B n key f (t + 1) o u (nx B n s) = r at *
            obtain ⟨t1, q1, x1⟩ := r1
            obtain ⟨l1, e1, g1⟩ := x1 s1
            have qq := eq_tr q0 q1
            have g1' : htP r.2 = htP s + 1 := g1
            have e1' : ehP key (htP s - 1) s r.2 := eh_tr eq_rf (eq_w (j := 0) qq (by omega)) eh_rf (eh_nx0 e1) (by show htP s - 1 ≤ htP s; omega)
            have ee : ehP key (htP s - 1) s (emt r.2 2 (nI (B s.1.2.1))) := eh_em qq.1 e1' k1 (fun _ q => absurd q k2) (fun _ _ => by omega) rfl
            have qe : eqP 0 s (emt r.2 2 (nI (B s.1.2.1))) := eq_em (i := 0) qq
            have ge : htP (emt r.2 2 (nI (B s.1.2.1))) = htP s := by rw [ht_em, if_pos rfl, if_neg k2, g1']; omega
            have te : tkW B n (emt r.2 2 (nI (B s.1.2.1))).1 := t1
            have la : (emt r.2 2 (nI (B s.1.2.1))).1.2.1 = r.2.1.2.1 := rfl
            have b1 := t1.1
            have b2 := t1.2.1
            have r2 := IL t o u (emt r.2 2 (nI (B s.1.2.1))) ht (by omega) te (by rw [la]; omega)
            generalize emt r.2 2 (nI (B s.1.2.1)) = e at *
            generalize prs B n key f (10 + t) o u e = r' at *
            obtain ⟨t2, q2, x2⟩ := r2
            refine ⟨t2, eq_tr qe q2, fun z => ?_⟩
            obtain ⟨e2, g2⟩ := x2 z
            exact ⟨eh_tr qe q2 ee e2 (by omega), by omega⟩
        · rw [pr_lf hj s1]
          obtain ⟨t1, q1, x1⟩ := r1
          exact ⟨t1, eq_w (j := 0) (eq_tr q0 q1) (by omega), fun z => absurd z s1⟩
      · rw [pr_l0 hj]
        exact ⟨hT, eq_rf, fun _ => ⟨eh_rf, rfl⟩⟩
end Ps
