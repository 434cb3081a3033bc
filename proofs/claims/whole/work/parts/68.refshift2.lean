/-! CLIENTS: the reference finds the shifts -/
def hoW (y : Nat) : Nat → Nat → Prop := fun a k => a = y + 1 ∨ a = y + 15 ∨ a = y + 16 ∨ a = y + 17 ∨ a = y + 19 ∨ a = y + 20 ∨ (a = y ∧ k = 17)
/-- the shifts are found -/
def shfC (y : Nat) (s : Nat → Int32) (g : mu_H) : Prop := (∃ f u t, mini s f u t ∧ mu_I g y 34 = nI (f + u + t) ∧ ∀ k, k < nK s → mu_I g (y + 21) k = nI (tri f u t k)) ∨ ((∀ f u t, ¬ good s f u t) ∧ mu_I g y 34 = -1)
def fsW (y : Nat) : Nat → Nat → Prop := fun a k => a = y + 1 ∨ a = y + 15 ∨ a = y + 16 ∨ a = y + 17 ∨ a = y + 19 ∨ a = y + 20 ∨ a = y + 21 ∨ a = y + 22 ∨ (a = y ∧ (k = 17 ∨ k = 18 ∨ k = 34))
section Rh
variable {w : mu_O} {d y : Nat} {g : mu_H} {s : Nat → Int32} {ρ : Nat → Nat}
theorem shOK_c {r r' : Nat → Nat} (h : ∀ k, k < nK s → r k = r' k) : shOK s r ↔ shOK s r' := by
  unfold shOK
  rw [shR_c h]
  refine and_congr ⟨fun q k hk => by rw [← h k hk]; exact q k hk, fun q k hk => by rw [h k hk]; exact q k hk⟩ Iff.rfl
set_option maxHeartbeats 4000000 in
theorem sp_X11_holds {row : Nat} (hM : md_L w y g) (hs : mu_I g (y + 1) = shR s ρ (nK s)) (hρ : ∀ k, ρ k ≤ 5) (hW : wf_s s) (hK : md_K y g) (hbw : ∀ k, k < nK s → mu_I g (y + 22) k = nI (vM s (vC s k) 2)) (hrow : row < 216) :
    mu_mp w mm_X11_holds (d + 6) [.ref y, .int (nI row)] g (fun x g' => ∃ v, x = some (.int v) ∧ (v = cI (shOK s (dg (nK s) row)) ∧ mu_f2 (hoW y) g g' ∧ mu_I g' (y + 1) = shR s (dg (nK s) row) (nK s))) := by
  refine mu_mkp mk_X11_holds rfl (fun L hL Q hQ => fm_X11_holds_0 ?_)
  have hc := ws_c hW
  have hb := wc_b hc
  have hn : nK s ≤ nch s := by unfold nK; omega
  have hn3 : nK s ≤ 3 := by unfold nK; omega
  have hw1 := md_wj hM 1
  have hd : ∀ i j, i < nK s → j < nK s → vC s i = vC s j → i = j := fun i j hi hj e => (ws_ch hW i (by omega)).2.2 j (by omega) e
  have agr : ∀ r, agB s (shR s r (nK s)) := fun r => shR_ag hW hn
  have eK : ∀ r, nK (shR s r (nK s)) = nK s := fun r => by unfold nK; rw [show nch (shR s r (min 3 (nch s))) = nch s from ab_nch (agr r)]
  refine ⟨md_T0 hM, mu_cI (sp_X11_shiftable hM hs (ab_c (agr ρ) hc)) hL ?_⟩
  rw [eK]
  show mu_go w mm_X11_holds (d + 6) L Q 15 [some (.ref y), none, none, some (.int (nI row)), some (.int (nI 1)), some (.int (tp (nK s)))] [] g
  have loop : ∀ k g', k ≤ nK s → mu_fr (fun a => a = y + 1) g g' → mu_I g' (y + 1) = shR s (fun j => if k ≤ j then dg (nK s) row j else ρ j) (nK s) → mu_go w mm_X11_holds (d + 6) L Q 15 [some (.ref y), none, none, some (.int (nI (row / 6 ^ (nK s - k)))), some (.int (cI (∀ j, k ≤ j → j < nK s → vM s (vC s j) 2 + dg (nK s) row j ≤ 90))), some (.int (tp k))] [] g' := by
    intro k
    induction k with
    | zero =>
      intro g' _ hf hs'
      have hM' := md_L_fr hM hf
      have hL' := mu_fr_fit hf hL
      rw [shR_c (r' := dg (nK s) row) (fun k hk => if_pos (Nat.zero_le k))] at hs'
      have ha := agr (dg (nK s) row)
      have hc' := ab_c ha hc
      have f1 : mu_f2 (hoW y) g (mu_sI g' y 17 (nI 0)) := f2_tr (f2_of hf (fun a k q => Or.inl q)) (f2_sI (by unfold hoW; omega))
      have hM1 := md_L_fr hM (f2_T f1)
      have hL1 := f2_fit f1 hL
      have hs1 : mu_I (mu_sI g' y 17 (nI 0)) (y + 1) = shR s (dg (nK s) row) (nK s) := (mu_I_off _ _ _ (by omega)).trans hs'
      have h17 : mu_I (mu_sI g' y 17 (nI 0)) y 17 = 0 := I_sI_same _ _ _ _
      have hK1 : md_K y (mu_sI g' y 17 (nI 0)) := md_K_c hK (fun k q1 q2 => f2_I f1 (fun j => by unfold hoW; omega))
      have no : ∀ {g2 : mu_H}, mu_f2 (hoW y) g g2 → mu_I g2 (y + 1) = shR s (dg (nK s) row) (nK s) → ¬ shOK s (dg (nK s) row) → Q (some (.int (nI 0))) g2 := fun h1 h2 h3 => hQ _ _ ⟨_, rfl, by rw [cI_f h3]; rfl, h1, h2⟩ h1.2.2.2.1 h1.2.2.2.2.1
      refine fm_X11_holds_15 ?_
      have htp : tp 0 < nI 0 := by decide
      refine ⟨fun _ => ⟨md_T0 hM', Or.inl rfl, ?_⟩, fun q => absurd htp q⟩
      rw [cI_0]
      by_cases hall : ∀ j, 0 ≤ j → j < nK s → vM s (vC s j) 2 + dg (nK s) row j ≤ 90
      · have h90 : ∀ k, k < nK s → vM s (vC s k) 2 + dg (nK s) row k ≤ 90 := fun k hk => hall k (Nat.zero_le _) hk
        refine ⟨fun q => absurd hall q, fun _ => ⟨md_T0 hM', mu_cI (sp_X11_isApart hM1 hs1 hc' (shR_m95 hW hn (fun k _ => dg_le _ _ _))) hL1 ?_⟩⟩
        rw [cI_0]
        refine ⟨fun h => ⟨Or.inl rfl, no f1 hs1 (fun q => h q.2.1)⟩, fun h => ⟨md_T0 hM', ?_⟩⟩
        have hap := Classical.not_not.mp h
        have hm' := shR_m90 (r := dg (nK s) row) hW hn (fun k _ => dg_le _ _ _) h90
        refine mu_cIp (sp_X11_firstBreach hM1 hs1 hc' hK1 (ab_p ha hW) hm' hap (ab_t ha hW) (Or.inl h17)) hL1 (fun x g2 hx hX2 hS2 => ?_)
        obtain ⟨ex, f2, -, -, -⟩ := hx
        have ff : mu_f2 (hoW y) g g2 := f2_tr f1 (f2_mono f2 (fun a k q => by unfold fW at q; unfold hoW; omega))
        have hs2 : mu_I g2 (y + 1) = shR s (dg (nK s) row) (nK s) := (f2_I f2 (fun k => by unfold fW; omega)).trans hs1
        have efb : fBr (shR s (dg (nK s) row) (nK s)) (lateN (shR s (dg (nK s) row) (nK s))) = fBr (shR s (dg (nK s) row) (nK s)) (lateN s) := by
          unfold fBr
          refine fsN_c (fun i hi => and_congr Iff.rfl ?_)
          rw [ab_nm ha] at hi
          unfold brkA
          refine exists_congr (fun q => and_congr_right (fun hq => ?_))
          rw [ab_np ha] at hq
          have hmb := wm_b hm' (show i < nm (shR s (dg (nK s) row) (nK s)) by rw [ab_nm ha]; exact hi)
          rw [ab_np ha] at hmb
          unfold brk
          rw [ab_lateN ha (by omega), ab_lateN ha (show vM (shR s (dg (nK s) row) (nK s)) i 0 < 8 by omega)]
        rw [efb, ab_nm ha] at ex
        rw [ex]
        by_cases hlt : fBr (shR s (dg (nK s) row) (nK s)) (lateN s) < nm s
        · rw [if_pos hlt]
          exact ⟨fun _ => ⟨Or.inl rfl, no ff hs2 (fun q => q.2.2 hlt)⟩, fun q => absurd (nI_pos' (by omega)) q⟩
        · rw [if_neg hlt]
          refine ⟨fun q => absurd q (by decide), fun _ => ⟨Or.inr rfl, hQ _ _ ⟨_, rfl, ?_, ff, hs2⟩ ff.2.2.2.1 ff.2.2.2.2.1⟩⟩
          rw [cI_t ⟨h90, hap, hlt⟩]
      · exact ⟨fun _ => ⟨Or.inl rfl, no f1 hs1 (fun q => hall (fun j _ hj => q.1 j hj))⟩, fun q => absurd hall q⟩
    | succ k ih =>
      intro g' hkn hf hs'
      have hM' := md_L_fr hM hf
      have hL' := mu_fr_fit hf hL
      have hk : k < nK s := by omega
      have ha := agr (fun j => if k + 1 ≤ j then dg (nK s) row j else ρ j)
      have hci := ws_ch hW k (by omega)
      have hmb := wm_b (ws_m hW) hci.2.1
      have hdl := dg_le (nK s) row k
      have hdv : row / 6 ^ (nK s - (k + 1)) ≤ row := Nat.div_le_self _ _
      have eC : mu_I g' (y + 1) (260 + k) = nI (vC s k) := by rw [hs', ha _ (by omega)]; exact hci.1
      have eB : mu_I g' (y + 22) k = nI (vM s (vC s k) 2) := by rw [hf.2.2.2.2.2 _ (by omega)]; exact hbw k hk
      have ed : row / 6 ^ (nK s - (k + 1)) % 6 = dg (nK s) row k := by unfold dg; rw [show nK s - (k + 1) = nK s - 1 - k by omega]
      have eq6 : row / 6 ^ (nK s - (k + 1)) / 6 = row / 6 ^ (nK s - k) := by rw [Nat.div_div_eq_div_mul, ← Nat.pow_succ, show (nK s - (k + 1)).succ = nK s - k by omega]
      have o22 : ∀ j v, mu_I (mu_sI g' (y + 1) j v) (y + 22) k = mu_I g' (y + 22) k := fun j v => I_sI_a _ _ _ _ (by omega)
      have hup := shR_upd (s := s) (r := fun j => if k + 1 ≤ j then dg (nK s) row j else ρ j) (n := nK s) (k := k) (x := dg (nK s) row k) hd hk
      unfold bI' at hup
      have hre : shR s (fun j => if j = k then dg (nK s) row k else (fun j => if k + 1 ≤ j then dg (nK s) row j else ρ j) j) (nK s) = shR s (fun j => if k ≤ j then dg (nK s) row j else ρ j) (nK s) := shR_c (fun j hj => by
        dsimp only
        by_cases e : j = k
        · rw [if_pos e, if_pos (by omega), e]
        · rw [if_neg e]
          by_cases e2 : k + 1 ≤ j
          · rw [if_pos e2, if_pos (by omega)]
          · rw [if_neg e2, if_neg (by omega)])
      have hs2 : mu_I (mu_sI g' (y + 1) (60 + 8 * vC s k + 2) (nI (vM s (vC s k) 2 + dg (nK s) row k))) (y + 1) = shR s (fun j => if k ≤ j then dg (nK s) row j else ρ j) (nK s) := by rw [mu_I_upd, hs', hup, hre]
      have hf2 : mu_fr (fun a => a = y + 1) g (mu_sI g' (y + 1) (60 + 8 * vC s k + 2) (nI (vM s (vC s k) 2 + dg (nK s) row k))) := mu_fr_tr hf (mu_fr_sI rfl)
      have ihk := ih _ (by omega) hf2 hs2
      refine fm_X11_holds_15 ?_
      rw [tp_s]
      simp (disch := omega) only [md_T0 hM', md_R0 hM', md_T1 hM', md_N1 hM', eC, Nat.not_lt_zero, li_n, nI_add, pk_mul, nI_clamp, nI_ltI, nI_leI, nI_eq, mi_n, Nat.add_zero, true_and, and_true, true_or, or_true, false_or, or_false, not_false_eq_true, not_true_eq_false, implies_true, forall_const, ne_eq, Classical.not_not, reduceCtorEq, nor_p, cI_1n, bI_1n, cI_F, cI_T, cI_0, cI_0n, bI_0, bI_0n, cI_01, bI_01, Nat.reduceLeDiff, Nat.reduceLT, Nat.reduceEqDiff, Nat.reduceSub, Nat.reduceAdd, Nat.lt_irrefl, Nat.le_refl, false_implies, true_implies]
      refine ⟨by omega, mu_cI sp_X11_moveAt hL' ?_⟩
      simp (disch := omega) only [md_T0 hM', md_R0 hM', md_T1 hM', md_N1 hM', md_R36 hM', md_T22 hM', md_N22 hM', hw1, eB, o22, rm_n, dv_n, ed, eq6, li_m1n, li_n, nI_add, pk_mul, nI_clamp, nI_ltI, nI_leI, nI_eq, mi_n, Nat.add_zero, true_and, and_true, true_or, or_true, false_or, or_false, not_false_eq_true, not_true_eq_false, implies_true, forall_const, ne_eq, Classical.not_not, reduceCtorEq, nor_p, cI_1n, bI_1n, cI_F, cI_T, cI_0, cI_0n, bI_0, bI_0n, cI_01, bI_01, Nat.reduceLeDiff, Nat.reduceLT, Nat.reduceEqDiff, Nat.reduceSub, Nat.reduceAdd, Nat.lt_irrefl, Nat.le_refl, false_implies, true_implies]
      have i1 : (∀ j, k ≤ j → j < nK s → vM s (vC s j) 2 + dg (nK s) row j ≤ 90) → mu_go w mm_X11_holds (d + 6) L Q 15 [some (.ref y), none, none, some (.int (nI (row / 6 ^ (nK s - k)))), some (.int (nI 1)), some (.int (nI k - nI 1))] [] (mu_sI g' (y + 1) (60 + 8 * vC s k + 2) (nI (vM s (vC s k) 2 + dg (nK s) row k))) := fun h => by
        have := ihk
        rw [cI_t h] at this
        exact this
      have i0 : ¬ (∀ j, k ≤ j → j < nK s → vM s (vC s j) 2 + dg (nK s) row j ≤ 90) → mu_go w mm_X11_holds (d + 6) L Q 15 [some (.ref y), none, none, some (.int (nI (row / 6 ^ (nK s - k)))), some (.int (nI 0)), some (.int (nI k - nI 1))] [] (mu_sI g' (y + 1) (60 + 8 * vC s k + 2) (nI (vM s (vC s k) 2 + dg (nK s) row k))) := fun h => by
        have := ihk
        rw [cI_f h] at this
        exact this
      refine ⟨by omega, by omega, fun h => i0 (fun q => h (fun j j1 j2 => q j (by omega) j2)), fun h => ⟨by omega, fun h2 => i0 (fun q => by have := q k (Nat.le_refl _) hk; omega), fun h2 => i1 (fun j j1 j2 => ?_)⟩⟩
      by_cases e : j = k
      · rw [e]; omega
      · exact h j (by omega) j2
  have := loop (nK s) g (Nat.le_refl _) mu_fr_rf (by rw [shR_c (r' := ρ) (fun k hk => if_neg (by omega))]; exact hs)
  rw [Nat.sub_self, Nat.pow_zero, Nat.div_one, cI_t (fun j j1 j2 => by omega)] at this
  exact this
set_option maxHeartbeats 4000000 in
theorem sp_X11_findShifts (hM : md_L w y g) (hs : mu_I g (y + 1) = s) (hc : wf_c s) (hW : wf_s s) (hK : md_K y g) (h17 : mu_I g y 17 = 0 ∨ (mu_I g y 17 = 1 ∧ plC y s g)) (h18 : mu_I g y 18 = 0 ∨ (mu_I g y 18 = 1 ∧ shfC y s g)) :
    mu_mp w mm_X11_findShifts (d + 7) [.ref y] g (fun x g' => x = none ∧ (mu_f2 (fsW y) g g' ∧ mu_I g' (y + 1) = s ∧ mu_I g' y 18 = 1 ∧ shfC y s g' ∧ (mu_I g' y 17 = 0 ∨ (mu_I g' y 17 = 1 ∧ plC y s g')))) := by
  refine mu_mkp mk_X11_findShifts rfl (fun L hL Q hQ => fm_X11_findShifts_0 ?_)
  have hb := wc_b hc
  have hn : nK s ≤ nch s := by unfold nK; omega
  have hn3 : nK s ≤ 3 := by unfold nK; omega
  have hw1 := md_wj hM 1
  have hw21 := md_wj hM 21
  have hw22 := md_wj hM 22
  have hd : ∀ i j, i < nK s → j < nK s → vC s i = vC s j → i = j := fun i j hi hj e => (ws_ch hW i (by omega)).2.2 j (by omega) e
  have agr : ∀ r, agB s (shR s r (nK s)) := fun r => shR_ag hW hn
  refine ⟨md_T0 hM, fun h0 => ⟨md_T0 hM, mu_cI (sp_X11_shiftable hM hs hc) hL ?_⟩, fun h0 => ?_⟩
  rotate_left
  · rcases h18 with h | ⟨h, h2⟩
    · exact absurd h h0
    · exact hQ _ _ ⟨rfl, f2_rf, hs, h, h2, h17⟩ rfl rfl
  -- the end: beats go back
  have back : ∀ k i ρ g', i + k = nK s → (∀ k, ρ k ≤ 5) → mu_f2 (fsW y) g g' → mu_I g' (y + 1) = shR s ρ (nK s) → (∀ j, j < i → ρ j = 0) → (∀ k, k < nK s → mu_I g' (y + 22) k = nI (vM s (vC s k) 2)) → shfC y s g' → mu_go w mm_X11_findShifts (d + 7) L Q 207 [some (.ref y), some (.int (nI (nK s))), none, some (.int (nI i)), none, none, none] [] g' := by
    intro k
    induction k with
    | zero =>
      intro i ρ g' hik hρ hf hs' hz hbw hC
      have hM' := md_L_fr hM (f2_T hf)
      refine fm_X11_findShifts_207 ?_
      rw [show i = nK s by omega] at hz ⊢
      simp (disch := omega) only [md_T0 hM', li_n, nI_add, pk_mul, nI_clamp, nI_ltI, nI_leI, nI_eq, mi_n, Nat.add_zero, true_and, and_true, true_or, or_true, false_or, or_false, not_false_eq_true, not_true_eq_false, implies_true, forall_const, ne_eq, Classical.not_not, reduceCtorEq, nor_p, cI_1n, bI_1n, cI_F, cI_T, cI_0, cI_0n, bI_0, bI_0n, cI_01, bI_01, Nat.reduceLeDiff, Nat.reduceLT, Nat.reduceEqDiff, Nat.reduceSub, Nat.reduceAdd, Nat.lt_irrefl, Nat.le_refl, false_implies, true_implies]
      rw [shR_0 (fun k hk => (bI_in hW (by omega)).2.2.2) hz] at hs'
      have f2 : mu_f2 (fsW y) g (mu_sI (mu_sI g' y 17 (nI 0)) y 18 (nI 1)) := f2_tr (f2_tr hf (f2_sI (by unfold fsW; omega))) (f2_sI (by unfold fsW; omega))
      refine hQ _ _ ⟨rfl, f2, ?_, I_sI_same _ _ _ _, ?_, Or.inl ?_⟩ f2.2.2.2.1 f2.2.2.2.2.1
      · rw [mu_I_off _ _ _ (by omega), mu_I_off _ _ _ (by omega)]; exact hs'
      · unfold shfC
        rw [I_sI_k _ _ _ (by omega), I_sI_k _ _ _ (by omega), mu_I_off _ _ _ (by omega), mu_I_off _ _ _ (by omega)]
        exact hC
      · rw [I_sI_k _ _ _ (by omega), I_sI_same]; rfl
    | succ k ih =>
      intro i ρ g' hik hρ hf hs' hz hbw hC
      have hi : i < nK s := by omega
      have hM' := md_L_fr hM (f2_T hf)
      have hL' := f2_fit hf hL
      have hci := ws_ch hW i (by omega)
      have eC : mu_I g' (y + 1) (260 + i) = nI (vC s i) := by rw [hs', agr ρ _ (by omega)]; exact hci.1
      have hup := shR_upd (s := s) (r := ρ) (n := nK s) (k := i) (x := 0) hd hi
      unfold bI' at hup
      have hup : upd (shR s ρ (nK s)) (60 + 8 * vC s i + 2) (nI (vM s (vC s i) 2)) = shR s (fun j => if j = i then 0 else ρ j) (nK s) := hup
      refine fm_X11_findShifts_207 ?_
      simp (disch := omega) only [md_T0 hM', md_R0 hM', md_T1 hM', md_N1 hM', eC, Nat.not_le_of_lt hi, li_n, nI_add, pk_mul, nI_clamp, nI_ltI, nI_leI, nI_eq, mi_n, Nat.add_zero, true_and, and_true, true_or, or_true, false_or, or_false, not_false_eq_true, not_true_eq_false, implies_true, forall_const, ne_eq, Classical.not_not, reduceCtorEq, nor_p, cI_1n, bI_1n, cI_F, cI_T, cI_0, cI_0n, bI_0, bI_0n, cI_01, bI_01, Nat.reduceLeDiff, Nat.reduceLT, Nat.reduceEqDiff, Nat.reduceSub, Nat.reduceAdd, Nat.lt_irrefl, Nat.le_refl, false_implies, true_implies]
      refine ⟨by omega, mu_cI sp_X11_moveAt hL' ?_⟩
      simp (disch := omega) only [md_T0 hM', md_R0 hM', md_T1 hM', md_N1 hM', md_R36 hM', md_T22 hM', md_N22 hM', hw1, hbw i hi, li_n, nI_add, pk_mul, nI_clamp, nI_ltI, nI_leI, nI_eq, mi_n, Nat.add_zero, true_and, and_true, true_or, or_true, false_or, or_false, not_false_eq_true, not_true_eq_false, implies_true, forall_const, ne_eq, Classical.not_not, reduceCtorEq, nor_p, cI_1n, bI_1n, cI_F, cI_T, cI_0, cI_0n, bI_0, bI_0n, cI_01, bI_01, Nat.reduceLeDiff, Nat.reduceLT, Nat.reduceEqDiff, Nat.reduceSub, Nat.reduceAdd, Nat.lt_irrefl, Nat.le_refl, false_implies, true_implies]
      refine ⟨by omega, by omega, ih (i + 1) (fun j => if j = i then 0 else ρ j) _ (by omega) (fun k => by show (if k = i then 0 else ρ k) ≤ 5; split; omega; exact hρ k) (f2_tr hf (f2_sI (Or.inl rfl))) ?_ (fun j hj => ?_) (fun k hk => ?_) ?_⟩
      · rw [mu_I_upd, hs', hup]
      · show (if j = i then 0 else ρ j) = 0
        by_cases e : j = i
        · rw [if_pos e]
        · rw [if_neg e]; exact hz j (by omega)
      · rw [I_sI_a _ _ _ _ (by omega)]; exact hbw k hk
      · unfold shfC
        rw [I_sI_a _ _ _ _ (by omega), mu_I_off _ _ _ (by omega)]
        exact hC
  -- all rows
  have tries : ∀ g', mu_f2 (fsW y) g g' → mu_I g' (y + 1) = s → mu_I g' y 34 = -1 → (∀ k, k < nK s → mu_I g' (y + 22) k = nI (vM s (vC s k) 2)) → mu_go w mm_X11_findShifts (d + 7) L Q 86 [some (.ref y), some (.int (nI (nK s))), some (.int (nI (rws (nK s)))), some (.int (nI 0)), none, none, none] [] g' := by
    intro g0 hf0 hs0 h34 hbw0
    have vsum : ∀ f u t, vd (nK s) f u t → f + u + t ≤ 5 * nK s := fun f u t h => by unfold vd at h; omega
    have hrw : rws (nK s) ≤ 216 := by unfold rws; split; omega; split; omega; split <;> omega
    -- found: on to the end
    have found86 : ∀ σ ρ g', σ < 100 → (∀ k, ρ k ≤ 5) → mu_f2 (fsW y) g g' → mu_I g' (y + 1) = shR s ρ (nK s) → (∀ k, k < nK s → mu_I g' (y + 22) k = nI (vM s (vC s k) 2)) → shfC y s g' → nI 0 ≤ mu_I g' y 34 → mu_go w mm_X11_findShifts (d + 7) L Q 86 [some (.ref y), some (.int (nI (nK s))), some (.int (nI (rws (nK s)))), some (.int (nI σ)), none, none, none] [] g' := fun σ ρ g' hσ hρ hf hs' hbw hC h0 => by
      have hM' := md_L_fr hM (f2_T hf)
      have hb := back (nK s) 0 ρ g' (by omega) hρ hf hs' (fun j hj => absurd hj (Nat.not_lt_zero _)) hbw hC
      refine fm_X11_findShifts_86 ?_
      simp (disch := omega) only [md_T0 hM', li_n, nI_add, pk_mul, nI_clamp, nI_ltI, nI_leI, nI_eq, mi_n, Nat.add_zero, true_and, and_true, true_or, or_true, false_or, or_false, not_false_eq_true, not_true_eq_false, implies_true, forall_const, ne_eq, Classical.not_not, reduceCtorEq, nor_p, cI_1n, bI_1n, cI_F, cI_T, cI_0, cI_0n, bI_0, bI_0n, cI_01, bI_01, Nat.reduceLeDiff, Nat.reduceLT, Nat.reduceEqDiff, Nat.reduceSub, Nat.reduceAdd, Nat.lt_irrefl, Nat.le_refl, false_implies, true_implies]
      exact ⟨fun _ => hb, fun _ => ⟨fun _ => hb, fun q => absurd h0 q⟩⟩
    have sums : ∀ k σ ρ g', σ + k = 5 * nK s + 1 → (∀ k, ρ k ≤ 5) → mu_f2 (fsW y) g g' → mu_I g' (y + 1) = shR s ρ (nK s) → (∀ k, k < nK s → mu_I g' (y + 22) k = nI (vM s (vC s k) 2)) → mu_I g' y 34 = -1 → (∀ f u t, good s f u t → ¬ f + u + t < σ) → mu_go w mm_X11_findShifts (d + 7) L Q 86 [some (.ref y), some (.int (nI (nK s))), some (.int (nI (rws (nK s)))), some (.int (nI σ)), none, none, none] [] g' := by
      intro k
      induction k with
      | zero =>
        intro σ ρ g' hk hρ hf hs' hbw h34 hno
        have hb := back (nK s) 0 ρ g' (by omega) hρ hf hs' (fun j hj => absurd hj (Nat.not_lt_zero _)) hbw (Or.inr ⟨fun f u t h => hno f u t h (by have := vsum f u t h.1; omega), h34⟩)
        refine fm_X11_findShifts_86 ?_
        simp (disch := omega) only [show (5 * nK s < σ) = True from eq_true (by omega), li_n, nI_add, pk_mul, nI_clamp, nI_ltI, nI_leI, nI_eq, mi_n, Nat.add_zero, true_and, and_true, true_or, or_true, false_or, or_false, not_false_eq_true, not_true_eq_false, implies_true, forall_const, ne_eq, Classical.not_not, reduceCtorEq, nor_p, cI_1n, bI_1n, cI_F, cI_T, cI_0, cI_0n, bI_0, bI_0n, cI_01, bI_01, Nat.reduceLeDiff, Nat.reduceLT, Nat.reduceEqDiff, Nat.reduceSub, Nat.reduceAdd, Nat.lt_irrefl, Nat.le_refl, false_implies, true_implies]
        exact hb
      | succ k ih =>
        intro σ ρ g' hk hρ hf hs' hbw h34 hno
        have hM' := md_L_fr hM (f2_T hf)
        have hneg : ¬ nI 0 ≤ (-1 : Int32) := by decide
        refine fm_X11_findShifts_86 ?_
        simp (disch := omega) only [md_T0 hM', show (5 * nK s < σ) = False from eq_false (by omega), li_n, nI_add, pk_mul, nI_clamp, nI_ltI, nI_leI, nI_eq, mi_n, Nat.add_zero, true_and, and_true, true_or, or_true, false_or, or_false, not_false_eq_true, not_true_eq_false, implies_true, forall_const, ne_eq, Classical.not_not, reduceCtorEq, nor_p, cI_1n, bI_1n, cI_F, cI_T, cI_0, cI_0n, bI_0, bI_0n, cI_01, bI_01, Nat.reduceLeDiff, Nat.reduceLT, Nat.reduceEqDiff, Nat.reduceSub, Nat.reduceAdd, Nat.lt_irrefl, Nat.le_refl, false_implies, true_implies]
        refine ⟨fun q => absurd (by rw [← h34]; exact q) hneg, fun _ => ?_⟩
        have rowsL : ∀ j r ρ g', r + j = rws (nK s) → (∀ k, ρ k ≤ 5) → mu_f2 (fsW y) g g' → mu_I g' (y + 1) = shR s ρ (nK s) → (∀ k, k < nK s → mu_I g' (y + 22) k = nI (vM s (vC s k) 2)) → mu_I g' y 34 = -1 → (∀ f u t, good s f u t → ¬ (f + u + t < σ ∨ (f + u + t = σ ∧ rwO (nK s) f u t < r))) → mu_go w mm_X11_findShifts (d + 7) L Q 103 [some (.ref y), some (.int (nI (nK s))), some (.int (nI (rws (nK s)))), some (.int (nI σ)), some (.int (nI r)), none, none] [] g' := by
          intro j
          induction j with
          | zero =>
            intro r ρ g' hj hρ hf hs' hbw h34 hno
            refine fm_X11_findShifts_103 ?_
            rw [show r = rws (nK s) by omega] at hno ⊢
            simp (disch := omega) only [li_n, nI_add, pk_mul, nI_clamp, nI_ltI, nI_leI, nI_eq, mi_n, Nat.add_zero, true_and, and_true, true_or, or_true, false_or, or_false, not_false_eq_true, not_true_eq_false, implies_true, forall_const, ne_eq, Classical.not_not, reduceCtorEq, nor_p, cI_1n, bI_1n, cI_F, cI_T, cI_0, cI_0n, bI_0, bI_0n, cI_01, bI_01, Nat.reduceLeDiff, Nat.reduceLT, Nat.reduceEqDiff, Nat.reduceSub, Nat.reduceAdd, Nat.lt_irrefl, Nat.le_refl, false_implies, true_implies]
            refine ih (σ + 1) ρ g' (by omega) hρ hf hs' hbw h34 (fun f u t h h2 => hno f u t h ?_)
            have := (rw_ok hn3 h.1).1
            omega
          | succ j ihj =>
            intro r ρ g' hj hρ hf hs' hbw h34 hno
            have hlt : r < rws (nK s) := by omega
            have hM' := md_L_fr hM (f2_T hf)
            have hK' : md_K y g' := md_K_c hK (fun k q1 q2 => f2_I hf (fun j => by unfold fsW; omega))
            obtain ⟨t1, t2, t3, t4⟩ := t3_ok hn3 hlt
            refine fm_X11_findShifts_103 ?_
            have hcond : (nI 0 ≤ mu_I g' y 34) = False := eq_false (by rw [h34]; exact hneg)
            simp (disch := omega) only [md_T0 hM', Nat.not_le_of_lt hlt, hcond, dv_n, rm_n, t2, li_n, nI_add, pk_mul, nI_clamp, nI_ltI, nI_leI, nI_eq, mi_n, Nat.add_zero, true_and, and_true, true_or, or_true, false_or, or_false, not_false_eq_true, not_true_eq_false, implies_true, forall_const, ne_eq, Classical.not_not, reduceCtorEq, nor_p, cI_1n, bI_1n, cI_F, cI_T, cI_0, cI_0n, bI_0, bI_0n, cI_01, bI_01, Nat.reduceLeDiff, Nat.reduceLT, Nat.reduceEqDiff, Nat.reduceSub, Nat.reduceAdd, Nat.lt_irrefl, Nat.le_refl, false_implies, true_implies]
            have next : ∀ ρ2 g2, (∀ k, ρ2 k ≤ 5) → mu_f2 (fsW y) g g2 → mu_I g2 (y + 1) = shR s ρ2 (nK s) → (∀ k, k < nK s → mu_I g2 (y + 22) k = nI (vM s (vC s k) 2)) → mu_I g2 y 34 = -1 → ¬ (t3f (nK s) r + t3u (nK s) r + t3t (nK s) r = σ ∧ good s (t3f (nK s) r) (t3u (nK s) r) (t3t (nK s) r)) → mu_go w mm_X11_findShifts (d + 7) L Q 103 [some (.ref y), some (.int (nI (nK s))), some (.int (nI (rws (nK s)))), some (.int (nI σ)), some (.int (nI (r + 1))), none, none] [] g2 := fun ρ2 g2 hρ2 hf2 hs2 hbw2 h342 hng => ihj (r + 1) ρ2 g2 (by omega) hρ2 hf2 hs2 hbw2 h342 (fun f u t h h2 => by
              obtain ⟨z1, z2, z3, z4⟩ := rw_ok hn3 h.1
              by_cases e : rwO (nK s) f u t = r ∧ f + u + t = σ
              · rw [e.1] at z2 z3 z4
                rw [z2, z3, z4] at hng
                exact hng ⟨e.2, h⟩
              · exact hno f u t h (by omega))
            refine ⟨fun h => next ρ g' hρ hf hs' hbw h34 (fun q => h q.1), fun h => mu_cIp (sp_X11_holds hM' hs' hρ hW hK' hbw (by omega)) (f2_fit hf hL) (fun x g2 hx hX2 hS2 => ?_)⟩
            obtain ⟨ex, f2, hs2⟩ := hx
            have ff : mu_f2 (fsW y) g g2 := f2_tr hf (f2_mono f2 (fun a k q => by unfold hoW at q; unfold fsW; omega))
            have hM2 := md_L_fr hM (f2_T ff)
            have bw2 : ∀ k, k < nK s → mu_I g2 (y + 22) k = nI (vM s (vC s k) 2) := fun k hk => by rw [f2_I f2 (fun j => by unfold hoW; omega)]; exact hbw k hk
            have h342 : mu_I g2 y 34 = -1 := by rw [f2.2.2.2.2.2 _ _ (by unfold hoW; omega)]; exact h34
            rw [cI_c (shOK_c t4)] at ex
            rw [ex]
            simp (disch := omega) only [md_T0 hM2, li_n, nI_add, pk_mul, nI_clamp, nI_ltI, nI_leI, nI_eq, mi_n, Nat.add_zero, true_and, and_true, true_or, or_true, false_or, or_false, not_false_eq_true, not_true_eq_false, implies_true, forall_const, ne_eq, Classical.not_not, reduceCtorEq, nor_p, cI_1n, bI_1n, cI_F, cI_T, cI_0, cI_0n, bI_0, bI_0n, cI_01, bI_01, Nat.reduceLeDiff, Nat.reduceLT, Nat.reduceEqDiff, Nat.reduceSub, Nat.reduceAdd, Nat.lt_irrefl, Nat.le_refl, false_implies, true_implies]
            refine ⟨fun hno2 => next _ g2 (fun k => dg_le _ _ _) ff hs2 bw2 h342 (fun q => hno2 q.2.2), fun hyes => ?_⟩
            have hmini : mini s (t3f (nK s) r) (t3u (nK s) r) (t3t (nK s) r) := ⟨⟨t1, hyes⟩, fun f' u' t' h' => by
              have z := hno f' u' t' h'
              by_cases e : f' + u' + t' = σ
              · right
                refine ⟨by omega, rw_le hn3 t1 h'.1 (by omega) ?_⟩
                rw [t3]; omega
              · left; omega⟩
            -- the digits are kept
            have keep : ∀ k g3, k ≤ nK s → mu_fr (fun a => a = y + 21) (mu_sI g2 y 34 (nI σ)) g3 → (∀ j, k ≤ j → j < nK s → mu_I g3 (y + 21) j = nI (dg (nK s) r j)) → mu_go w mm_X11_findShifts (d + 7) L Q 163 [some (.ref y), some (.int (nI (nK s))), some (.int (nI (rws (nK s)))), some (.int (nI σ)), some (.int (nI r)), some (.int (nI (r / 6 ^ (nK s - k)))), some (.int (tp k))] [] g3 := by
              intro k
              induction k with
              | zero =>
                intro g3 _ f3 hdig
                have htp : tp 0 < nI 0 := by decide
                have f34 : mu_f2 (fsW y) g g3 := f2_tr (f2_tr ff (f2_sI (by unfold fsW; omega))) (f2_of f3 (fun a k q => by unfold fsW; omega))
                have hM3 := md_L_fr hM (f2_T f34)
                have hs3 : mu_I g3 (y + 1) = shR s (dg (nK s) r) (nK s) := by rw [f3.2.2.2.2.2 _ (by omega), mu_I_off _ _ _ (by omega)]; exact hs2
                have bw3 : ∀ k, k < nK s → mu_I g3 (y + 22) k = nI (vM s (vC s k) 2) := fun k hk => by rw [f3.2.2.2.2.2 _ (by omega), mu_I_off _ _ _ (by omega)]; exact bw2 k hk
                have e34 : mu_I g3 y 34 = nI σ := by rw [f3.2.2.2.2.2 _ (by omega), I_sI_same]
                have hC3 : shfC y s g3 := Or.inl ⟨_, _, _, hmini, by rw [e34, ← h], fun k hk => by rw [hdig k (Nat.zero_le _) hk, t4 k hk]⟩
                have h0 : nI 0 ≤ mu_I g3 y 34 := by rw [e34, nI_leI (by omega) (by omega)]; omega
                have hon := found86 (σ + 1) _ g3 (by omega) (fun k => dg_le (nK s) r k) f34 hs3 bw3 hC3 h0
                refine fm_X11_findShifts_163 ⟨fun _ => ?_, fun q => absurd htp q⟩
                simp (disch := omega) only [li_n, nI_add, pk_mul, nI_clamp, nI_ltI, nI_leI, nI_eq, mi_n, Nat.add_zero, true_and, and_true, true_or, or_true, false_or, or_false, not_false_eq_true, not_true_eq_false, implies_true, forall_const, ne_eq, Classical.not_not, reduceCtorEq, nor_p, cI_1n, bI_1n, cI_F, cI_T, cI_0, cI_0n, bI_0, bI_0n, cI_01, bI_01, Nat.reduceLeDiff, Nat.reduceLT, Nat.reduceEqDiff, Nat.reduceSub, Nat.reduceAdd, Nat.lt_irrefl, Nat.le_refl, false_implies, true_implies]
                refine fm_X11_findShifts_103 ?_
                simp (disch := omega) only [md_T0 hM3, h0, li_n, nI_add, pk_mul, nI_clamp, nI_ltI, nI_leI, nI_eq, mi_n, Nat.add_zero, true_and, and_true, true_or, or_true, false_or, or_false, not_false_eq_true, not_true_eq_false, implies_true, forall_const, ne_eq, Classical.not_not, reduceCtorEq, nor_p, cI_1n, bI_1n, cI_F, cI_T, cI_0, cI_0n, bI_0, bI_0n, cI_01, bI_01, Nat.reduceLeDiff, Nat.reduceLT, Nat.reduceEqDiff, Nat.reduceSub, Nat.reduceAdd, Nat.lt_irrefl, Nat.le_refl, false_implies, true_implies]
                exact ⟨fun _ => hon, fun _ => hon⟩
              | succ k ihk =>
                intro g3 hkn f3 hdig
                have f34 : mu_f2 (fsW y) g g3 := f2_tr (f2_tr ff (f2_sI (by unfold fsW; omega))) (f2_of f3 (fun a k q => by unfold fsW; omega))
                have hM3 := md_L_fr hM (f2_T f34)
                have hdv : r / 6 ^ (nK s - (k + 1)) ≤ r := Nat.div_le_self _ _
                have ed : r / 6 ^ (nK s - (k + 1)) % 6 = dg (nK s) r k := by unfold dg; rw [show nK s - (k + 1) = nK s - 1 - k by omega]
                have eq6 : r / 6 ^ (nK s - (k + 1)) / 6 = r / 6 ^ (nK s - k) := by rw [Nat.div_div_eq_div_mul, ← Nat.pow_succ, show (nK s - (k + 1)).succ = nK s - k by omega]
                refine fm_X11_findShifts_163 ?_
                rw [tp_s]
                simp (disch := omega) only [md_T0 hM3, md_R35 hM3, md_T21 hM3, md_N21 hM3, hw21, rm_n, dv_n, ed, eq6, li_m1n, Nat.not_lt_zero, li_n, nI_add, pk_mul, nI_clamp, nI_ltI, nI_leI, nI_eq, mi_n, Nat.add_zero, true_and, and_true, true_or, or_true, false_or, or_false, not_false_eq_true, not_true_eq_false, implies_true, forall_const, ne_eq, Classical.not_not, reduceCtorEq, nor_p, cI_1n, bI_1n, cI_F, cI_T, cI_0, cI_0n, bI_0, bI_0n, cI_01, bI_01, Nat.reduceLeDiff, Nat.reduceLT, Nat.reduceEqDiff, Nat.reduceSub, Nat.reduceAdd, Nat.lt_irrefl, Nat.le_refl, false_implies, true_implies]
                refine ⟨by omega, ihk _ (by omega) (mu_fr_tr f3 (mu_fr_sI rfl)) (fun j j1 j2 => ?_)⟩
                by_cases e : j = k
                · rw [e, I_sI_same]
                · rw [I_sI_k _ _ _ (by omega)]; exact hdig j (by omega) j2
            have hk := keep (nK s) (mu_sI g2 y 34 (nI σ)) (Nat.le_refl _) mu_fr_rf (fun j j1 j2 => by omega)
            rw [Nat.sub_self, Nat.pow_zero, Nat.div_one] at hk
            exact hk
        exact rowsL (rws (nK s)) 0 ρ g' (by omega) hρ hf hs' hbw h34 (fun f u t h h2 => hno f u t h (by omega))
    exact sums (5 * nK s + 1) 0 (fun _ => 0) g0 (by omega) (fun _ => Nat.zero_le 5) hf0 (by rw [shR_0 (fun k hk => (bI_in hW (by omega)).2.2.2) (fun _ _ => rfl)]; exact hs0) hbw0 h34 (fun f u t h => Nat.not_lt_zero _)
  -- beats are noted
  have notes : ∀ k i g', i + k = nK s → mu_fr (fun a => a = y + 22) g g' → (∀ j, j < i → mu_I g' (y + 22) j = nI (vM s (vC s j) 2)) → mu_go w mm_X11_findShifts (d + 7) L Q 47 [some (.ref y), some (.int (nI (nK s))), some (.int (nI (rws (nK s)))), some (.int (nI i)), none, none, none] [] g' := by
    intro k
    induction k with
    | zero =>
      intro i g' hik hf hj
      have hM' := md_L_fr hM hf
      refine fm_X11_findShifts_47 ?_
      rw [show i = nK s by omega] at hj ⊢
      simp (disch := omega) only [md_T0 hM', li_n, nI_add, pk_mul, nI_clamp, nI_ltI, nI_leI, nI_eq, mi_n, Nat.add_zero, true_and, and_true, true_or, or_true, false_or, or_false, not_false_eq_true, not_true_eq_false, implies_true, forall_const, ne_eq, Classical.not_not, reduceCtorEq, nor_p, cI_1n, bI_1n, cI_F, cI_T, cI_0, cI_0n, bI_0, bI_0n, cI_01, bI_01, Nat.reduceLeDiff, Nat.reduceLT, Nat.reduceEqDiff, Nat.reduceSub, Nat.reduceAdd, Nat.lt_irrefl, Nat.le_refl, false_implies, true_implies]
      refine tries _ (f2_tr (f2_of hf (fun a k q => by unfold fsW; omega)) (f2_sI (by unfold fsW; omega))) ?_ ?_ (fun k hk => ?_)
      · rw [mu_I_off _ _ _ (by omega), hf.2.2.2.2.2 _ (by omega)]; exact hs
      · rw [I_sI_same]; rfl
      · rw [I_sI_a _ _ _ _ (by omega)]; exact hj k hk
    | succ k ih =>
      intro i g' hik hf hj
      have hi : i < nK s := by omega
      have hM' := md_L_fr hM hf
      have hL' := mu_fr_fit hf hL
      have hs' : mu_I g' (y + 1) = s := (hf.2.2.2.2.2 _ (by omega)).trans hs
      have hci := ws_ch hW i (by omega)
      refine fm_X11_findShifts_47 ?_
      simp (disch := omega) only [md_T0 hM', md_R0 hM', md_T1 hM', md_N1 hM', md_R36 hM', hs', hci.1, hw22, Nat.not_le_of_lt hi, li_n, nI_add, pk_mul, nI_clamp, nI_ltI, nI_leI, nI_eq, mi_n, Nat.add_zero, true_and, and_true, true_or, or_true, false_or, or_false, not_false_eq_true, not_true_eq_false, implies_true, forall_const, ne_eq, Classical.not_not, reduceCtorEq, nor_p, cI_1n, bI_1n, cI_F, cI_T, cI_0, cI_0n, bI_0, bI_0n, cI_01, bI_01, Nat.reduceLeDiff, Nat.reduceLT, Nat.reduceEqDiff, Nat.reduceSub, Nat.reduceAdd, Nat.lt_irrefl, Nat.le_refl, false_implies, true_implies]
      refine ⟨by omega, mu_cI (sp_X11_fieldN (f := 2) hM' hs' hc (ws_m hW) hci.2.1 (by omega)) hL' ?_⟩
      simp (disch := omega) only [md_T22 hM', md_N22 hM', li_n, nI_add, pk_mul, nI_clamp, nI_ltI, nI_leI, nI_eq, mi_n, Nat.add_zero, true_and, and_true, true_or, or_true, false_or, or_false, not_false_eq_true, not_true_eq_false, implies_true, forall_const, ne_eq, Classical.not_not, reduceCtorEq, nor_p, cI_1n, bI_1n, cI_F, cI_T, cI_0, cI_0n, bI_0, bI_0n, cI_01, bI_01, Nat.reduceLeDiff, Nat.reduceLT, Nat.reduceEqDiff, Nat.reduceSub, Nat.reduceAdd, Nat.lt_irrefl, Nat.le_refl, false_implies, true_implies]
      refine ⟨by omega, ih (i + 1) _ (by omega) (mu_fr_tr hf (mu_fr_sI rfl)) (fun j hj2 => ?_)⟩
      by_cases e : j = i
      · rw [e, I_sI_same]
      · rw [I_sI_k _ _ _ (by omega)]; exact hj j (by omega)
  have hgo := notes (nK s) 0 g (by omega) mu_fr_rf (fun j hj => absurd hj (Nat.not_lt_zero _))
  unfold rws at hgo
  rcases (show nK s = 0 ∨ nK s = 1 ∨ nK s = 2 ∨ nK s = 3 by omega) with e | e | e | e
  · rw [e] at hgo ⊢
    simp (disch := omega) only [li_n, nI_add, pk_mul, nI_clamp, nI_ltI, nI_leI, nI_eq, mi_n, Nat.add_zero, true_and, and_true, true_or, or_true, false_or, or_false, not_false_eq_true, not_true_eq_false, implies_true, forall_const, ne_eq, Classical.not_not, reduceCtorEq, nor_p, cI_1n, bI_1n, cI_F, cI_T, cI_0, cI_0n, bI_0, bI_0n, cI_01, bI_01, Nat.reduceLeDiff, Nat.reduceLT, Nat.reduceEqDiff, Nat.reduceSub, Nat.reduceAdd, Nat.lt_irrefl, Nat.le_refl, false_implies, true_implies]
    exact hgo
  · rw [e] at hgo ⊢
    simp (disch := omega) only [li_n, nI_add, pk_mul, nI_clamp, nI_ltI, nI_leI, nI_eq, mi_n, Nat.add_zero, true_and, and_true, true_or, or_true, false_or, or_false, not_false_eq_true, not_true_eq_false, implies_true, forall_const, ne_eq, Classical.not_not, reduceCtorEq, nor_p, cI_1n, bI_1n, cI_F, cI_T, cI_0, cI_0n, bI_0, bI_0n, cI_01, bI_01, Nat.reduceLeDiff, Nat.reduceLT, Nat.reduceEqDiff, Nat.reduceSub, Nat.reduceAdd, Nat.lt_irrefl, Nat.le_refl, false_implies, true_implies]
    exact hgo
  · rw [e] at hgo ⊢
    simp (disch := omega) only [li_n, nI_add, pk_mul, nI_clamp, nI_ltI, nI_leI, nI_eq, mi_n, Nat.add_zero, true_and, and_true, true_or, or_true, false_or, or_false, not_false_eq_true, not_true_eq_false, implies_true, forall_const, ne_eq, Classical.not_not, reduceCtorEq, nor_p, cI_1n, bI_1n, cI_F, cI_T, cI_0, cI_0n, bI_0, bI_0n, cI_01, bI_01, Nat.reduceLeDiff, Nat.reduceLT, Nat.reduceEqDiff, Nat.reduceSub, Nat.reduceAdd, Nat.lt_irrefl, Nat.le_refl, false_implies, true_implies]
    exact hgo
  · rw [e] at hgo ⊢
    simp (disch := omega) only [li_n, nI_add, pk_mul, nI_clamp, nI_ltI, nI_leI, nI_eq, mi_n, Nat.add_zero, true_and, and_true, true_or, or_true, false_or, or_false, not_false_eq_true, not_true_eq_false, implies_true, forall_const, ne_eq, Classical.not_not, reduceCtorEq, nor_p, cI_1n, bI_1n, cI_F, cI_T, cI_0, cI_0n, bI_0, bI_0n, cI_01, bI_01, Nat.reduceLeDiff, Nat.reduceLT, Nat.reduceEqDiff, Nat.reduceSub, Nat.reduceAdd, Nat.lt_irrefl, Nat.le_refl, false_implies, true_implies]
    exact hgo
end Rh
