/-! CLIENTS: what a text gives -/
/-- one step of a text on a pile, the top first -/
def rf_sl (wh v : Int32) (nm : Nat → Int32) (l : List Int32) : List Int32 :=
  if wh = 2 then
    (if v = 33 then (match l with
      | a :: t => bI (a = 0) :: t
      | [] => [])
    else (match l with
      | b :: a :: t => rf_join v a b :: t
      | l => l))
  else (if wh = 0 then v else nm v.toNatClampNeg) :: l
def rf_rl (wh v : Nat → Int32) (nm : Nat → Int32) : Nat → List Int32
  | 0 => []
  | k + 1 => rf_sl (wh k) (v k) nm (rf_rl wh v nm k)
def rf_ht (wh v : Nat → Int32) : Nat → Nat
  | 0 => 0
  | k + 1 => if wh k = 2 then (if v k = 33 then rf_ht wh v k else rf_ht wh v k - 1) else rf_ht wh v k + 1
/-- n steps that go well on a pile of at most lv -/
def tx_ok (wh v : Nat → Int32) (n lv : Nat) : Prop := n ≤ 96 ∧ 1 ≤ lv ∧ lv ≤ 96 ∧ rf_ht wh v n = 1 ∧ ∀ k, k ≤ n → rf_ht wh v k ≤ lv ∧ (k < n → (wh k = 0 ∨ wh k = 1 ∨ wh k = 2) ∧ (wh k = 1 → ∃ c : Nat, c < 128 ∧ v k = nI c) ∧ (wh k = 2 → v k = 33 → 1 ≤ rf_ht wh v k) ∧ (wh k = 2 → v k ≠ 33 → 2 ≤ rf_ht wh v k))
theorem rf_rl_len {wh v nm : Nat → Int32} {n lv : Nat} (h : tx_ok wh v n lv) : ∀ k, k ≤ n → (rf_rl wh v nm k).length = rf_ht wh v k
  | 0, _ => rfl
  | k + 1, hk => by
    have ih := rf_rl_len (nm := nm) h k (by omega)
    have h2 := (h.2.2.2.2 k (by omega)).2 (by omega)
    unfold rf_rl rf_sl rf_ht
    by_cases hw : wh k = 2
    · rw [if_pos hw, if_pos hw]
      by_cases hv : v k = 33
      · rw [if_pos hv, if_pos hv]
        have := h2.2.2.1 hw hv
        match hl : rf_rl wh v nm k with
        | [] => rw [hl] at ih; simp at ih; omega
        | a :: t => rw [hl] at ih; simpa using ih
      · rw [if_neg hv, if_neg hv]
        have := h2.2.2.2 hw hv
        match hl : rf_rl wh v nm k with
        | [] => rw [hl] at ih; simp at ih; omega
        | [a] => rw [hl] at ih; simp at ih; omega
        | b :: a :: t => rw [hl] at ih; simp at ih ⊢; omega
    · rw [if_neg hw, if_neg hw]
      simp [ih]
/-- a row of numbers holds a pile -/
def rf_stk : List Int32 → (Nat → Int32) → Prop
  | [], _ => True
  | a :: t, f => f t.length = a ∧ rf_stk t f
theorem rf_stk_upd : ∀ {l : List Int32} {f : Nat → Int32} {j : Nat} {x : Int32}, rf_stk l f → l.length ≤ j → rf_stk l (upd f j x)
  | [], _, _, _, _, _ => trivial
  | a :: t, f, j, x, h, hj => by
    have hj2 : t.length + 1 ≤ j := hj
    exact ⟨by rw [pk_un (by omega)]; exact h.1, rf_stk_upd h.2 (by omega)⟩
theorem mu_I_upd (g : mu_H) (a j : Nat) (x : Int32) : mu_I (mu_sI g a j x) a = upd (mu_I g a) j x := by
  funext z
  show (if a = a ∧ z = j then x else mu_I g a z) = if z = j then x else mu_I g a z
  simp
theorem mu_I_off (g : mu_H) {a b : Nat} (j : Nat) (x : Int32) (h : b ≠ a) : mu_I (mu_sI g a j x) b = mu_I g b := by
  funext z
  show (if b = a ∧ z = j then x else mu_I g b z) = mu_I g b z
  rw [if_neg (fun q => h q.1)]
section Rw
variable {w : mu_O} {d y : Nat} {g : mu_H} {s nm : Nat → Int32}
set_option maxHeartbeats 4000000 in
theorem lp_X11_worked {L : Nat × Nat} {Q : Option Value → mu_H → Prop} {t n lv : Nat} {wh v : Nat → Int32} (hM : md_L w y g) (hs : mu_I g (y + 1) = s) (hnm : mu_I g (y + 19) = nm) (ht : t < 14) (hwh : ∀ k, wh k = s (460 + 200 * t + 4 + 2 * k)) (hv : ∀ k, v k = s (460 + 200 * t + 4 + 2 * k + 1)) (hn : s (460 + 200 * t + 2) = nI n) (hok : tx_ok wh v n lv) (hL : mu_fit2 L g)
    (hQ : ∀ g', mu_fr (fun a => a = y + 20) g g' → Q (some (.int ((rf_rl wh v nm n).headD 0))) g') :
    ∀ (k i : Nat) (g' : mu_H), i + k = n → mu_fr (fun a => a = y + 20) g g' → rf_stk (rf_rl wh v nm i) (mu_I g' (y + 20)) → mu_go w mm_X11_worked (d + 1) L Q 4 [some (.ref y), some (.int (nI t)), some (.int (nI (rf_ht wh v i))), some (.int (nI i)), none, none] [] g' := by
  obtain ⟨o1, o2, o3, o4, o5⟩ := hok
  have hok : tx_ok wh v n lv := ⟨o1, o2, o3, o4, o5⟩
  intro k
  induction k with
  | zero =>
    intro i g' hi hf hst
    have hM' := md_L_fr hM hf
    have hL' := mu_fr_fit hf hL
    have hs' : mu_I g' (y + 1) = s := by rw [hf.2.2.2.2.2 (y + 1) (by omega)]; exact hs
    have e : i = n := by omega
    subst e
    refine fm_X11_worked_4 ⟨md_T0 hM', md_T0 hM', mu_cI sp_X11_textAt hL' ?_⟩
    simp (disch := omega) only [md_T0 hM', md_R0 hM', md_T1 hM', md_N1 hM', md_R33 hM', md_T20 hM', md_N20 hM', hs', hn, li_n, nI_add, pk_mul, nI_clamp, nI_ltI, nI_leI, nI_eq, mi_n, Nat.add_zero, true_and, and_true, true_or, or_true, false_or, or_false, not_false_eq_true, not_true_eq_false, implies_true, forall_const, ne_eq, Classical.not_not, reduceCtorEq]
    refine ⟨by omega, fun _ => ⟨by omega, ?_⟩, fun h => absurd (Nat.le_refl _) h⟩
    have hl := rf_rl_len (nm := nm) hok i (Nat.le_refl _)
    rw [o4] at hl
    have hq := hQ g' hf
    match h1 : rf_rl wh v nm i with
    | [] => rw [h1] at hl; simp at hl
    | [a] =>
      rw [h1] at hst hq
      have e0 : mu_I g' (y + 20) 0 = a := hst.1
      rw [e0]
      exact hq
    | a :: b :: r => rw [h1] at hl; simp at hl
  | succ k ih =>
    intro i g' hi hf hst
    have hM' := md_L_fr hM hf
    have hL' := mu_fr_fit hf hL
    have hs' : mu_I g' (y + 1) = s := by rw [hf.2.2.2.2.2 (y + 1) (by omega)]; exact hs
    have hnm' : mu_I g' (y + 19) = nm := by rw [hf.2.2.2.2.2 (y + 19) (by omega)]; exact hnm
    have hl := rf_rl_len (nm := nm) hok i (by omega)
    obtain ⟨hle, hop⟩ := o5 i (by omega)
    obtain ⟨p1, p2, p3, p4⟩ := hop (by omega)
    have hw' := md_wj hM' 20
    refine fm_X11_worked_4 ⟨md_T0 hM', md_T0 hM', mu_cI sp_X11_textAt hL' ?_⟩
    simp (disch := omega) only [md_T0 hM', md_R0 hM', md_T1 hM', md_N1 hM', hs', hn, li_n, nI_add, pk_mul, nI_clamp, nI_ltI, nI_leI, nI_eq, mi_n, Nat.add_zero, true_and, and_true, true_or, or_true, false_or, or_false, not_false_eq_true, not_true_eq_false, implies_true, forall_const, ne_eq, Classical.not_not, reduceCtorEq]
    refine ⟨by omega, fun h => by omega, fun _ => mu_cI sp_X11_textAt hL' ?_⟩
    simp (disch := omega) only [md_T0 hM', md_R0 hM', md_T1 hM', md_N1 hM', hs', hn, li_n, nI_add, pk_mul, nI_clamp, nI_ltI, nI_leI, nI_eq, mi_n, Nat.add_zero, true_and, and_true, true_or, or_true, false_or, or_false, not_false_eq_true, not_true_eq_false, implies_true, forall_const, ne_eq, Classical.not_not, reduceCtorEq]
    refine ⟨by omega, mu_cI sp_X11_textAt hL' ?_⟩
    have hih := ih (i + 1)
    have hR1 : rf_rl wh v nm (i + 1) = rf_sl (wh i) (v i) nm (rf_rl wh v nm i) := rfl
    have hH1 : rf_ht wh v (i + 1) = if wh i = 2 then (if v i = 33 then rf_ht wh v i else rf_ht wh v i - 1) else rf_ht wh v i + 1 := rfl
    have hfr : ∀ (j : Nat) (x : Int32), mu_fr (fun a => a = y + 20) g (mu_sI g' (y + 20) j x) := fun j x => mu_fr_tr hf (mu_fr_sI rfl)
    generalize rf_ht wh v i = hh at *
    generalize rf_rl wh v nm i = ll at *
    unfold rf_sl at hR1
    simp (disch := omega) only [md_T0 hM', md_R0 hM', md_T1 hM', md_N1 hM', md_R33 hM', md_T20 hM', md_N20 hM', md_R32 hM', md_T19 hM', md_N19 hM', hs', hnm', hn, ← hwh, ← hv, hw', li_n, nI_add, pk_mul, nI_clamp, nI_ltI, nI_leI, nI_eq, mi_n, Nat.add_zero, true_and, and_true, true_or, or_true, false_or, or_false, not_false_eq_true, not_true_eq_false, implies_true, forall_const, ne_eq, Classical.not_not, reduceCtorEq]
    refine ⟨by omega, fun h2 => ⟨fun h33 => ?_, fun h33 => ?_⟩, fun h2 => ⟨fun h0 => ?_, fun h0 => ?_⟩⟩
    · have h2 : wh i = 2 := h2
      have h33 : ¬ v i = 33 := h33
      rw [if_pos h2, if_neg h33] at hR1 hH1
      have := p4 h2 h33
      match ll, hl with
      | [], hl => simp at hl; omega
      | [a], hl => simp at hl; omega
      | b :: a :: r, hl =>
        have e : hh = r.length + 2 := by simp at hl; omega
        subst e
        have e1 : nI (r.length + 2) + -nI 1 = nI (r.length + 1) := pk_m1 _
        have e2 : nI (r.length + 1) - nI 1 = nI r.length := nI_pred _
        obtain ⟨b1, b2, b3⟩ := hst
        simp (disch := omega) only [e1, e2, li_n, nI_add, pk_mul, nI_clamp, nI_ltI, nI_leI, nI_eq, mi_n, Nat.add_zero, true_and, and_true, true_or, or_true, false_or, or_false, not_false_eq_true, not_true_eq_false, implies_true, forall_const, ne_eq, Classical.not_not, reduceCtorEq]
        refine ⟨by omega, by omega, mu_cI sp_X11_joined hL' ?_⟩
        simp (disch := omega) only [md_T20 hM', md_N20 hM', hw', li_n, nI_add, pk_mul, nI_clamp, nI_ltI, nI_leI, nI_eq, mi_n, Nat.add_zero, true_and, and_true, true_or, or_true, false_or, or_false, not_false_eq_true, not_true_eq_false, implies_true, forall_const, ne_eq, Classical.not_not, reduceCtorEq]
        refine ⟨by omega, ?_⟩
        have q := hih (mu_sI g' (y + 20) r.length (rf_join (v i) (mu_I g' (y + 20) r.length) (mu_I g' (y + 20) (r.length + 1)))) (by omega) (hfr _ _) (by
          rw [hR1, mu_I_upd]
          refine ⟨?_, rf_stk_upd b3 (Nat.le_refl _)⟩
          rw [pk_us, b2]
          exact congrArg _ b1)
        rw [hH1] at q
        exact q
    · have h2 : wh i = 2 := h2
      have h33 : v i = 33 := h33
      rw [if_pos h2, if_pos h33] at hR1 hH1
      have := p3 h2 h33
      match ll, hl with
      | [], hl => simp at hl; omega
      | a :: r, hl =>
        have e : hh = r.length + 1 := by simp at hl; omega
        subst e
        have e2 : nI (r.length + 1) - nI 1 = nI r.length := nI_pred _
        obtain ⟨b1, b2⟩ := hst
        simp (disch := omega) only [e2, li_n, nI_add, pk_mul, nI_clamp, nI_ltI, nI_leI, nI_eq, mi_n, Nat.add_zero, true_and, and_true, true_or, or_true, false_or, or_false, not_false_eq_true, not_true_eq_false, implies_true, forall_const, ne_eq, Classical.not_not, reduceCtorEq]
        have q : ∀ x, x = bI (a = 0) → mu_go w mm_X11_worked (d + 1) L Q 4 [some (.ref y), some (.int (nI t)), some (.int (nI (rf_ht wh v (i + 1)))), some (.int (nI (i + 1))), none, none] [] (mu_sI g' (y + 20) r.length x) := fun x hx => hih _ (by omega) (hfr _ _) (by
          rw [hR1, mu_I_upd]
          exact ⟨by rw [pk_us]; exact hx, rf_stk_upd b2 (Nat.le_refl _)⟩)
        rw [hH1] at q
        refine ⟨by omega, fun hz => ⟨by omega, q _ ?_⟩, fun hz => ⟨by omega, q _ ?_⟩⟩
        · rw [bI_f (by rw [← b1]; exact hz)]; rfl
        · rw [bI_t (by rw [← b1]; exact hz)]; rfl
    · have h2 : ¬ wh i = 2 := h2
      have h0 : ¬ wh i = 0 := h0
      rw [if_neg h2, if_neg h0] at hR1
      rw [if_neg h2] at hH1
      obtain ⟨c, c1, c2⟩ := p2 (by rcases p1 with p | p | p; exact absurd p h0; exact p; exact absurd p h2)
      rw [c2] at hR1 ⊢
      simp (disch := omega) only [li_n, nI_add, pk_mul, nI_clamp, nI_ltI, nI_leI, nI_eq, mi_n, Nat.add_zero, true_and, and_true, true_or, or_true, false_or, or_false, not_false_eq_true, not_true_eq_false, implies_true, forall_const, ne_eq, Classical.not_not, reduceCtorEq] at hR1 ⊢
      have q := hih (mu_sI g' (y + 20) hh (nm c)) (by omega) (hfr _ _) (by
        rw [hR1, mu_I_upd]
        exact ⟨by rw [hl, pk_us], rf_stk_upd hst (by omega)⟩)
      rw [hH1] at q
      exact ⟨c1, by omega, q⟩
    · have h2 : ¬ wh i = 2 := h2
      have h0 : wh i = 0 := h0
      rw [if_neg h2, if_pos h0] at hR1
      rw [if_neg h2] at hH1
      have q := hih (mu_sI g' (y + 20) hh (v i)) (by omega) (hfr _ _) (by
        rw [hR1, mu_I_upd]
        exact ⟨by rw [hl, pk_us], rf_stk_upd hst (by omega)⟩)
      rw [hH1] at q
      exact ⟨by omega, q⟩
theorem sp_X11_worked {t n lv : Nat} {wh v : Nat → Int32} (hM : md_L w y g) (hs : mu_I g (y + 1) = s) (hnm : mu_I g (y + 19) = nm) (ht : t < 14) (hwh : ∀ k, wh k = s (460 + 200 * t + 4 + 2 * k)) (hv : ∀ k, v k = s (460 + 200 * t + 4 + 2 * k + 1)) (hn : s (460 + 200 * t + 2) = nI n) (hok : tx_ok wh v n lv) :
    mu_mp w mm_X11_worked (d + 1) [.ref y, .int (nI t)] g (fun r g' => ∃ x, r = some (.int x) ∧ (x = (rf_rl wh v nm n).headD 0 ∧ mu_fr (fun a => a = y + 20) g g')) :=
  mu_mkp mk_X11_worked rfl (fun L hL Q hQ => fm_X11_worked_0 (lp_X11_worked hM hs hnm ht hwh hv hn hok hL (fun g' hf => hQ _ g' ⟨_, rfl, rfl, hf⟩ hf.2.2.2.1 hf.2.2.2.2.1) n 0 g (by omega) mu_fr_rf trivial))
end Rw
