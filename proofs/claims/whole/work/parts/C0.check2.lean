/-! CLIENTS: rows checked against an image: the reference's public call -/
section Cl
variable {w : mu_O} {d x y b E : Nat} {g g1 : mu_H} {s c r W R : Nat → Int32} {wl m : Nat} {v h : Int32}
def ckW (y : Nat) : Nat → Nat → Prop := fun a k => rfW y a k ∨ a = y + 3 ∨ a = y + 25 ∨ (a = y ∧ k = 39)
theorem ck_go {L : Nat × Nat} {Q : Option Value → mu_H → Prop} {n : Nat} {X : Nat → Int32} (hM : md_L w y g) (hW : ∀ k, k < wl → mu_I g (y + 24) k = W k) (hX : ∀ k, k < 2 * n → mu_I g (y + 25) k = X k) (h60 : wl ≤ 60) (hn : n ≤ 20) (hQ : Q (some (.int (ckA W wl X (2 * n)))) g) :
    mu_go w mm_X11_check (d + 1) L Q 163 [some (.ref y), some (.int (nI n)), some (.int (nI wl)), some (.int 0), none] [] g := by
  have e2n : (2 : Int32) * nI n = nI (2 * n) := by rw [li_n, pk_mul]
  have fin : ∀ k, (k = wl ∨ k = 2 * n ∨ (k < wl ∧ k < 2 * n ∧ ¬ W k = X k)) → k ≤ wl → k ≤ 2 * n → (∀ j, j < k → j < wl ∧ W j = X j) → (¬ k = wl → Q (some (.int (nI (1 + k)))) g) ∧ (¬ ¬ k = wl → (¬ k = 2 * n → Q (some (.int (nI (1 + k)))) g) ∧ (¬ ¬ k = 2 * n → Q (some (.int 0)) g)) := fun k hk h1 h2 hj => by
    by_cases e : k = 2 * n
    · have ea := ck_no (W := W) (wl := wl) (R := X) (m := 2 * n) (fun j hj2 => hj j (by omega))
      rw [ea] at hQ
      refine ⟨fun q => ?_, fun q => ⟨fun q2 => absurd e q2, fun _ => ?_⟩⟩
      · rw [cif_f (by omega)] at hQ; rw [e]; exact hQ
      · rw [cif_t (by omega)] at hQ; exact hQ
    · have ea := ck_at (W := W) (wl := wl) (R := X) (m := 2 * n) (k := k) (by omega) (fun q => by
        rcases hk with hk | hk | hk
        · omega
        · omega
        · exact hk.2.2 q.2) hj
      rw [ea] at hQ
      exact ⟨fun _ => hQ, fun _ => ⟨fun _ => hQ, fun q => absurd e q⟩⟩
  have st : ∀ i, i ≤ wl → i ≤ 2 * n → (∀ j, j < i → j < wl ∧ W j = X j) → (i < wl → i < 2 * n → W i = X i → mu_go w mm_X11_check (d + 1) L Q 163 [some (.ref y), some (.int (nI n)), some (.int (nI wl)), some (.int (nI (i + 1))), none] [] g) → mu_go w mm_X11_check (d + 1) L Q 163 [some (.ref y), some (.int (nI n)), some (.int (nI wl)), some (.int (nI i)), none] [] g := fun i h1 h2 hj ih => by
    refine fm_X11_check_163 ?_
    rw [e2n, nI_leI (by omega) (by omega), nI_leI (by omega) (by omega), nI_eq (by omega) (by omega), nI_eq (by omega) (by omega), show (1 : Int32) + nI i = nI (1 + i) from nI_add 1 _, show (nI i : Int32) + 1 = nI (i + 1) from nI_add _ 1, md_T0 hM, md_R38 hM, md_T24 hM, md_N24 hM, md_R40 hM, md_T25 hM, md_N25 hM, nI_clamp (by omega)]
    refine ⟨fun q => fin i (by omega) h1 h2 hj, fun q => ⟨fun q2 => fin i (by omega) h1 h2 hj, fun q2 => ⟨rfl, rfl, mu_in_n (by omega) (by omega), rfl, rfl, mu_in_n (by omega) (by omega), fun q3 => ?_, fun q3 => ?_⟩⟩⟩
    · rw [hW i (by omega), hX i (by omega)] at q3
      exact fin i (Or.inr (Or.inr ⟨by omega, by omega, q3⟩)) h1 h2 hj
    · rw [hW i (by omega), hX i (by omega)] at q3
      exact ih (by omega) (by omega) (Classical.not_not.mp q3)
  refine lp (n := min wl (2 * n)) (P := fun i => (∀ j, j < i → j < wl ∧ W j = X j) → mu_go w mm_X11_check (d + 1) L Q 163 [some (.ref y), some (.int (nI n)), some (.int (nI wl)), some (.int (nI i)), none] [] g) (fun hj => st _ (Nat.min_le_left _ _) (Nat.min_le_right _ _) hj (fun a b _ => by omega)) (fun i hi ih hj => st i (by omega) (by omega) hj (fun a b c => ih (fun j hj2 => ?_))) (fun j hj => absurd hj (Nat.not_lt_zero j))
  by_cases e : j = i
  · rw [e]; exact ⟨a, c⟩
  · exact hj j (by omega)
theorem pm_check (hM : md_L w y g) (hs : mu_I g (y + 1) = s) (hc : wf_c s) (hK : md_K y g) (hW : wf_s s) (hca : caC y s g) (h39 : mu_I g y 39 = nI wl) (h24 : mu_I g (y + 24) = W) (h60 : wl ≤ 60) (h3 : mu_I g y 3 = h) (hR : ¬ h = 0 → (∀ k, k < 3470 → mu_I g (y + 2) k = r k) ∧ wf_s r ∧ nsh r ≤ 999) : mu_mp w mm_X11_check (d + 6) [.ref y, .int v] g (fun z g' => ∃ u, z = some (.int u) ∧ (u = pCheck W wl (cpy s 0 r 0 3470) h v ∧ mu_I g' (y + 1) = s ∧ caC y s g' ∧ mu_I g' y 39 = 0 ∧ mu_f2 (ckW y) g g')) := by
  have f0 : mu_f2 (ckW y) g (mu_sI g y 39 0) := f2_sI (Or.inr (Or.inr (Or.inr ⟨rfl, rfl⟩)))
  have M0 := md_L_fr hM (f2_T f0)
  have s0 : mu_I (mu_sI g y 39 0) (y + 1) = s := by rw [mu_I_off _ _ _ (by omega)]; exact hs
  have K0 : md_K y (mu_sI g y 39 0) := md_K_c hK (fun k h1 h2 => mu_I_off _ _ _ (by omega))
  have c0 : caC y s (mu_sI g y 39 0) := az_caC agZ_rf hW hca (I_sI_k _ _ _ (by omega)) (I_sI_k _ _ _ (by omega)) (I_sI_k _ _ _ (by omega)) (mu_I_off _ _ _ (by omega)) (mu_I_off _ _ _ (by omega))
  have e24 : mu_I (mu_sI g y 39 0) (y + 24) = W := by rw [mu_I_off _ _ _ (by omega)]; exact h24
  have e3 : mu_I (mu_sI g y 39 0) y 3 = h := by rw [I_sI_k _ _ _ (by omega)]; exact h3
  have e39 : mu_I (mu_sI g y 39 0) y 39 = 0 := I_sI_same _ _ _ _
  have hR0 : ¬ h = 0 → (∀ k, k < 3470 → mu_I (mu_sI g y 39 0) (y + 2) k = r k) ∧ wf_s r ∧ nsh r ≤ 999 := fun q => ⟨fun k hk => by rw [mu_I_off _ _ _ (by omega)]; exact (hR q).1 k hk, (hR q).2⟩
  refine mu_mkp mk_X11_check rfl (fun L hL Q hQ => fm_X11_check_0 ⟨md_T0 hM, md_T0 hM, ?_⟩)
  have hL0 : mu_fit2 L (mu_sI g y 39 0) := hL
  have hQ0 : ∀ u g', u = pCheck W wl (cpy s 0 r 0 3470) h v → mu_I g' (y + 1) = s → caC y s g' → mu_I g' y 39 = 0 → mu_f2 (ckW y) g g' → Q (some (.int u)) g' := fun u g' a1 a2 a3 a4 a5 => hQ _ _ ⟨_, rfl, a1, a2, a3, a4, a5⟩ a5.2.2.2.1 a5.2.2.2.2.1
  rw [h39]
  clear hQ hR hca h3 h24 hs hM hK
  generalize mu_sI g y 39 0 = G at *
  have w1 := md_wj M0 1
  have w3 := md_wj M0 3
  have w25 := md_wj M0 25
  refine mu_cI (sp_X11_iN (a := 1) (b := 20) rfl rfl) hL0 ?_
  unfold pCheck at hQ0
  rw [cI_0]
  refine ⟨fun hv => ?_, fun hv => ?_⟩
  · replace hv := Classical.not_not.mp hv
    rw [cif_t hv] at hQ0
    obtain ⟨n, n1, rfl, n3, n2⟩ := ix_of (v := v) (n := 21) ⟨by omega, by omega⟩
    rw [n3] at hQ0
    rw [e3]
    refine ⟨md_T0 M0, fun q => ⟨md_T0 M0, md_T0 M0, md_T0 M0, ?_⟩, fun q => ?_⟩
    · rw [cif_f q] at hQ0
      obtain ⟨Er, Wr, Nr⟩ := hR0 q
      have Wr' : wf_s (cpy s 0 r 0 3470) := ag_wf Wr (fun i hi => cpy_lt hi)
      have Nr' : nsh (cpy s 0 r 0 3470) ≤ 999 := by unfold nsh; rw [cpy_lt (by omega)]; exact Nr
      rw [md_R0 M0, md_R2 M0]
      refine mu_cVp (sp_X11_setAside (md_T1 M0) (md_N1 M0) w3 (md_T3 M0) (md_N3 M0) (by omega)) hL0 (fun g1 hz _ _ => ?_)
      obtain ⟨f1, a1⟩ := hz
      have M1 := md_L_fr M0 f1
      have F1 : mu_f2 (ckW y) g g1 := f2_tr f0 (f2_of f1 (fun a k q => Or.inr (Or.inl q)))
      refine ⟨md_T0 M1, md_T0 M1, md_T0 M1, ?_⟩
      rw [md_R1 M1, md_R0 M1]
      refine mu_cVp (sp_X11_setAside (md_T2 M1) (md_N2 M1) w1 (md_T1 M1) (md_N1 M1) (by omega)) (f2_fit F1 hL) (fun g2 hz _ _ => ?_)
      obtain ⟨f2, a2⟩ := hz
      have M2 := md_L_fr M1 f2
      have F2 : mu_f2 (ckW y) g g2 := f2_tr F1 (f2_of f2 (fun a k q => Or.inl (Or.inl q)))
      have s2 : mu_I g2 (y + 1) = cpy s 0 r 0 3470 := by
        rw [a2, f1.2.2.2.2.2 _ (by omega), f1.2.2.2.2.2 _ (by omega), s0]
        funext k
        by_cases hk : k < 3470
        · rw [cpy_lt hk, cpy_lt hk]; exact Er k hk
        · rw [cpy_ge (by omega), cpy_ge (by omega)]
      have as2 : ∀ k, k < 3470 → mu_I g2 (y + 3) k = s k := fun k hk => by
        rw [f2.2.2.2.2.2 _ (by omega), a1, cpy_lt hk, s0]
      have fs : mu_f2 (fun a k => a = y ∧ (k = 17 ∨ k = 18)) g2 (md_stale y g2) := f2_tr (f2_sI ⟨rfl, Or.inl rfl⟩) (f2_sI ⟨rfl, Or.inr rfl⟩)
      have F3 : mu_f2 (ckW y) g (md_stale y g2) := f2_tr F2 (f2_mono fs (fun a k q => Or.inl (by unfold rfW; omega)))
      have k24 : ∀ gi, mu_f2 (ckW y) g gi → ∀ k, mu_I gi (y + 24) k = mu_I g (y + 24) k := fun gi fi k => fi.2.2.2.2.2 _ _ (by unfold ckW rfW; omega)
      have g24 : ∀ k, mu_I g (y + 24) k = W k := fun k => by rw [← f0.2.2.2.2.2 (y + 24) k (by unfold ckW rfW; omega), e24]
      refine ⟨md_T0 M2, mu_cV (sp_X11_stale M2) (f2_fit F3 hL) ?_⟩
      have M3 := md_L_fr M2 (f2_T fs)
      have K3 : md_K y (md_stale y g2) := md_K_c K0 (fun k h1 h2 => by rw [f2_I fs (fun j => by omega), f2.2.2.2.2.2 _ (by omega), f1.2.2.2.2.2 _ (by omega)])
      have s3 : mu_I (md_stale y g2) (y + 1) = cpy s 0 r 0 3470 := stale_s s2
      have as3 : ∀ k, k < 3470 → mu_I (md_stale y g2) (y + 3) k = s k := fun k hk => by rw [f2_I fs (fun j => by omega)]; exact as2 k hk
      have z39 : mu_I (md_stale y g2) y 39 = 0 := by rw [fs.2.2.2.2.2 y 39 (by omega), f2.2.2.2.2.2 _ (by omega), f1.2.2.2.2.2 _ (by omega)]; exact e39
      have b17 := stale_c (y := y) (g := g2)
      have hbeyond : ∀ k, 3470 ≤ k → cpy s 0 r 0 3470 k = s k := fun k hk => cpy_ge hk
      generalize cpy s 0 r 0 3470 = r' at *
      generalize md_stale y g2 = g3 at *
      refine lp (n := n) (P := fun i => ∀ gi, mu_f2 (ckW y) g gi → mu_I gi (y + 1) = shN r' i → md_K y gi → (∀ k, k < 3470 → mu_I gi (y + 3) k = s k) → mu_I gi y 39 = 0 → mu_I gi y 17 = 0 → (∀ k, k < 2 * i → mu_I gi (y + 25) k = ckR r' k) → mu_go w mm_X11_check (d + 6) L Q 65 [some (.ref y), some (.int (nI n)), some (.int (nI wl)), some (.int (nI i)), none] [] gi) (fun gi fi si Ki ai zi bi hj => fm_X11_check_65 ?_) (fun i hi ih gi fi si Ki ai zi bi hj => fm_X11_check_65 ?_) g3 F3 s3 K3 as3 z39 b17.1 (fun k hk => absurd hk (by omega))
      · have Mi := md_L_fr M0 (f2_T (A := fun _ _ => True) ⟨by rw [fi.1, f0.1], by rw [fi.2.1, f0.2.1], by rw [fi.2.2.1, f0.2.2.1], by rw [fi.2.2.2.1, f0.2.2.2.1], by rw [fi.2.2.2.2.1, f0.2.2.2.2.1], fun a k q => absurd trivial q⟩)
        obtain ⟨wi, ni, xi⟩ := wr_shN Wr' (n := n) (by omega)
        refine ⟨fun _ => ⟨md_T0 Mi, md_T0 Mi, md_T0 Mi, ?_⟩, fun q => absurd (Int32.le_refl _) q⟩
        rw [md_R2 Mi, md_R0 Mi]
        refine mu_cVp (sp_X11_setAside (md_T3 Mi) (md_N3 Mi) w1 (md_T1 Mi) (md_N1 Mi) (by omega)) (f2_fit fi hL) (fun g5 hz _ _ => ?_)
        obtain ⟨f5, a5⟩ := hz
        have M5 := md_L_fr Mi f5
        have s5 : mu_I g5 (y + 1) = s := by
          rw [a5, si]
          funext k
          by_cases hk : k < 3470
          · rw [cpy_lt hk]; exact ai k hk
          · rw [cpy_ge (by omega), xi k (by omega) (by omega) (by omega) (by omega) (by omega) (by omega)]
            exact hbeyond k (by omega)
        have fs5 : mu_f2 (fun a k => a = y ∧ (k = 17 ∨ k = 18)) g5 (md_stale y g5) := f2_tr (f2_sI ⟨rfl, Or.inl rfl⟩) (f2_sI ⟨rfl, Or.inr rfl⟩)
        have F6 : mu_f2 (ckW y) g (md_stale y g5) := f2_tr fi (f2_tr (f2_of f5 (fun a k q => Or.inl (Or.inl q))) (f2_mono fs5 (fun a k q => Or.inl (by unfold rfW; omega))))
        refine ⟨md_T0 M5, mu_cV (sp_X11_stale M5) (f2_fit F6 hL) ?_⟩
        have M6 := md_L_fr M5 (f2_T fs5)
        refine ck_go M6 (W := W) (X := ckR r') (fun k hk => ?_) (fun k hk => ?_) h60 (by omega) (hQ0 _ _ rfl (stale_s s5) ⟨Or.inl stale_c.1, Or.inl stale_c.2⟩ ?_ F6)
        · rw [k24 _ F6 k]; exact g24 k
        · rw [f2_I fs5 (fun j => by omega), f5.2.2.2.2.2 _ (by omega)]; exact hj k hk
        · rw [fs5.2.2.2.2.2 y 39 (by omega), f5.2.2.2.2.2 _ (by omega)]; exact zi
      · have Mi := md_L_fr M0 (f2_T (A := fun _ _ => True) ⟨by rw [fi.1, f0.1], by rw [fi.2.1, f0.2.1], by rw [fi.2.2.1, f0.2.2.1], by rw [fi.2.2.2.1, f0.2.2.2.1], by rw [fi.2.2.2.2.1, f0.2.2.2.2.1], fun a k q => absurd trivial q⟩)
        obtain ⟨wi, ni, xi⟩ := wr_shN Wr' (n := i) (by omega)
        have wj := (wr_shN Wr' (n := i + 1) (by omega)).1
        have hbj := wc_b (ws_c wj)
        refine ⟨fun q => absurd ((nI_leI (by omega) (by omega)).mp q) (by omega), fun _ => ⟨md_T0 Mi, md_T0 Mi, mu_cIp (sp_X11_oneShow Mi si (ws_c wi) Ki wi (Or.inl bi)) (f2_fit fi hL) (fun z g4 hz _ _ => ?_)⟩⟩
        obtain ⟨rfl, f4, s4, c41, c42⟩ := hz
        have F4 : mu_f2 (ckW y) g g4 := f2_tr fi (f2_mono f4 (fun a k q => Or.inl (oW_rf q)))
        have M4 := md_L_fr Mi (f2_T f4)
        simp (disch := omega) only [md_R40 Mi, md_T0 M4, md_R40 M4, md_T25 M4, md_N25 M4, w25, li_n, nI_add, pk_mul, nI_clamp, nI_ltI, nI_leI, nI_eq, mi_n, Nat.add_zero, true_and, and_true, true_or, or_true, false_or, or_false, not_false_eq_true, not_true_eq_false, implies_true, forall_const, ne_eq, Classical.not_not, reduceCtorEq, nor_p, cI_1n, bI_1n, cI_F, cI_T, cI_0, cI_0n, bI_0, bI_0n, cI_01, bI_01, Nat.reduceLeDiff, Nat.reduceLT, Nat.reduceEqDiff, Nat.reduceSub, Nat.reduceAdd, Nat.lt_irrefl, Nat.le_refl, false_implies, true_implies]
        refine ⟨by omega, by omega, ?_⟩
        have s4' : mu_I g4 (y + 1) = shN r' (i + 1) := s4
        generalize hGG : mu_sI (mu_sI g4 (y + 25) (2 * i) (nI (shC (shN r' i)))) (y + 25) (2 * i + 1) (nI 0) = gg
        have fg : mu_fr (fun a => a = y + 25) g4 gg := by rw [← hGG]; exact mu_fr_tr (mu_fr_sI rfl) (mu_fr_sI rfl)
        have h25 : ∀ k, mu_I gg (y + 25) k = if k = 2 * i + 1 then nI 0 else if k = 2 * i then nI (shC (shN r' i)) else mu_I g4 (y + 25) k := fun k => by
          rw [← hGG]
          by_cases e : k = 2 * i + 1
          · rw [if_pos e, e, I_sI_same]
          · rw [if_neg e, I_sI_k _ _ _ e]
            by_cases e2 : k = 2 * i
            · rw [if_pos e2, e2, I_sI_same]
            · rw [if_neg e2, I_sI_k _ _ _ e2]
        have o25 : ∀ k, k < 2 * i → mu_I g4 (y + 25) k = ckR r' k := fun k hk => by rw [f2_I f4 (fun j => by unfold oW; omega)]; exact hj k hk
        refine lp (n := np (shN r' (i + 1))) (P := fun p => ∀ gp, mu_fr (fun a => a = y + 25) g4 gp → (∀ k, k < 2 * i → mu_I gp (y + 25) k = ckR r' k) → mu_I gp (y + 25) (2 * i) = nI (shC (shN r' i)) → mu_I gp (y + 25) (2 * i + 1) = nI (sumN (fun p => vP (shN r' (i + 1)) p 2) p) → mu_go w mm_X11_check (d + 6) L Q 96 [some (.ref y), some (.int (nI n)), some (.int (nI wl)), some (.int (nI i)), some (.int (nI p))] [] gp) (fun gp fp p1 p2 p3 => fm_X11_check_96 ?_) (fun p hp ihp gp fp p1 p2 p3 => fm_X11_check_96 ?_) gg fg (fun k hk => by rw [h25, if_neg (by omega), if_neg (by omega)]; exact o25 k hk) (by rw [h25, if_neg (by omega), if_pos rfl]) (by rw [h25, if_pos rfl]; rfl)
        · have Mp := md_L_fr M4 fp
          have sp : mu_I gp (y + 1) = shN r' (i + 1) := by rw [fp.2.2.2.2.2 _ (by omega)]; exact s4'
          have hcj := ws_c wj
          simp (disch := omega) only [md_T0 Mp, md_R0 Mp, md_T1 Mp, md_N1 Mp, sp, wc_0 hcj, li_n, nI_add, pk_mul, nI_clamp, nI_ltI, nI_leI, nI_eq, mi_n, Nat.add_zero, true_and, and_true, true_or, or_true, false_or, or_false, not_false_eq_true, not_true_eq_false, implies_true, forall_const, ne_eq, Classical.not_not, reduceCtorEq, nor_p, cI_1n, bI_1n, cI_F, cI_T, cI_0, cI_0n, bI_0, bI_0n, cI_01, bI_01, Nat.reduceLeDiff, Nat.reduceLT, Nat.reduceEqDiff, Nat.reduceSub, Nat.reduceAdd, Nat.lt_irrefl, Nat.le_refl, false_implies, true_implies]
          refine ih gp (f2_tr F4 (f2_of fp (fun a k q => Or.inr (Or.inr (Or.inl q))))) sp (md_K_c Ki (fun k h1 h2 => by rw [fp.2.2.2.2.2 _ (by omega), f2_I f4 (fun j => by unfold oW; omega)])) (fun k hk => by rw [fp.2.2.2.2.2 _ (by omega), f2_I f4 (fun j => by unfold oW; omega)]; exact ai k hk) (by rw [fp.2.2.2.2.2 _ (by omega), f4.2.2.2.2.2 y 39 (by unfold oW; omega)]; exact zi) (by rw [fp.2.2.2.2.2 _ (by omega)]; exact c41) (fun k hk => ?_)
          by_cases e : k = 2 * i + 1
          · rw [e, p3]
            unfold ckR
            rw [if_neg (by omega), show (2 * i + 1) / 2 + 1 = i + 1 by omega]
            rfl
          · by_cases e2 : k = 2 * i
            · rw [e2, p2]
              unfold ckR
              rw [if_pos (by omega), show 2 * i / 2 = i by omega]
            · exact p1 k (by omega)
        · have Mp := md_L_fr M4 fp
          have sp : mu_I gp (y + 1) = shN r' (i + 1) := by rw [fp.2.2.2.2.2 _ (by omega)]; exact s4'
          have hcj := ws_c wj
          have ev := wp_v (ws_p wj) hp (show 2 < 3 by omega)
          have FP : mu_f2 (ckW y) g gp := f2_tr F4 (f2_of fp (fun a k q => Or.inr (Or.inr (Or.inl q))))
          simp (disch := omega) only [Nat.not_le_of_lt hp, md_T0 Mp, md_R0 Mp, md_T1 Mp, md_N1 Mp, md_R40 Mp, md_T25 Mp, md_N25 Mp, sp, wc_0 hcj, p3, li_n, nI_add, pk_mul, nI_clamp, nI_ltI, nI_leI, nI_eq, mi_n, Nat.add_zero, true_and, and_true, true_or, or_true, false_or, or_false, not_false_eq_true, not_true_eq_false, implies_true, forall_const, ne_eq, Classical.not_not, reduceCtorEq, nor_p, cI_1n, bI_1n, cI_F, cI_T, cI_0, cI_0n, bI_0, bI_0n, cI_01, bI_01, Nat.reduceLeDiff, Nat.reduceLT, Nat.reduceEqDiff, Nat.reduceSub, Nat.reduceAdd, Nat.lt_irrefl, Nat.le_refl, false_implies, true_implies]
          refine ⟨by omega, mu_cI sp_X11_personAt (f2_fit FP hL) ?_⟩
          simp (disch := omega) only [md_T1 Mp, md_N1 Mp, md_T25 Mp, md_N25 Mp, sp, ev, w25, li_n, nI_add, pk_mul, nI_clamp, nI_ltI, nI_leI, nI_eq, mi_n, Nat.add_zero, true_and, and_true, true_or, or_true, false_or, or_false, not_false_eq_true, not_true_eq_false, implies_true, forall_const, ne_eq, Classical.not_not, reduceCtorEq, nor_p, cI_1n, bI_1n, cI_F, cI_T, cI_0, cI_0n, bI_0, bI_0n, cI_01, bI_01, Nat.reduceLeDiff, Nat.reduceLT, Nat.reduceEqDiff, Nat.reduceSub, Nat.reduceAdd, Nat.lt_irrefl, Nat.le_refl, false_implies, true_implies]
          refine ⟨by omega, by omega, ihp _ (mu_fr_tr fp (mu_fr_sI rfl)) (fun k hk => ?_) ?_ ?_⟩
          · rw [I_sI_k _ _ _ (by omega)]; exact p1 k hk
          · rw [I_sI_k _ _ _ (by omega)]; exact p2
          · rw [I_sI_same]; rfl
    · rw [cif_t (Classical.not_not.mp q)] at hQ0
      exact hQ0 _ _ rfl s0 c0 e39 f0
  · rw [cif_f (fun q => hv (fun z => z q))] at hQ0
    exact hQ0 _ _ rfl s0 c0 e39 f0
end Cl
