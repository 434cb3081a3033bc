/-! CLIENTS: rows checked against an image: both public calls -/
noncomputable def tgN (s : Nat → Int32) : Nat := sumN (fun p => vP s p 2) (np s)
/-- what the shows of r give, two numbers each -/
noncomputable def ckR (r : Nat → Int32) (k : Nat) : Int32 := if k % 2 = 0 then nI (shC (shN r (k / 2))) else nI (tgN (shN r (k / 2 + 1)))
noncomputable def ckK (W : Nat → Int32) (wl : Nat) (R : Nat → Int32) (m : Nat) : Nat := fsN (fun k => ¬ (k < wl ∧ W k = R k)) m
noncomputable def ckA (W : Nat → Int32) (wl : Nat) (R : Nat → Int32) (m : Nat) : Int32 := cif (ckK W wl R m < m) (nI (1 + ckK W wl R m)) (cif (wl = m) 0 (nI (1 + m)))
noncomputable def pCheck (W : Nat → Int32) (wl : Nat) (r : Nat → Int32) (h v : Int32) : Int32 := cif (1 ≤ v.toInt ∧ v.toInt ≤ 20) (cif (h = 0) (-1000000002) (ckA W wl (ckR r) (2 * v.toNatClampNeg))) (-1000000001)
section Ck
variable {w : mu_O} {d x y b E : Nat} {g g1 : mu_H} {s c r W R : Nat → Int32} {wl m : Nat} {v h : Int32}
theorem ck_at {k : Nat} (hk : k < m) (hn : ¬ (k < wl ∧ W k = R k)) (ho : ∀ j, j < k → j < wl ∧ W j = R j) : ckA W wl R m = nI (1 + k) := by
  have e : ckK W wl R m = k := fsN_at hn (fun j hj q => q (ho j hj)) hk
  unfold ckA
  rw [e, cif_t hk]
theorem ck_no (ho : ∀ j, j < m → j < wl ∧ W j = R j) : ckA W wl R m = cif (wl = m) 0 (nI (1 + m)) := by
  have e : ckK W wl R m = m := fsN_no (fun j hj q => q (ho j hj))
  unfold ckA
  rw [e, cif_f (Nat.lt_irrefl _)]
theorem pc_check (hE : x + 187 ≤ E) (hst : st_L w g) (hC : cl_L w x g) (hV : sc_V w E (x + 1) s g) (hW : wf_s s) (hD : tp_D x W wl g) (h60 : wl ≤ 60) (h12 : mu_I g x 12 = h) (hR : ¬ h = 0 → sc_V w E (x + 42) r g ∧ wf_s r ∧ nsh r ≤ 999) : mu_mp w mm_X10_check (d + 6) [.ref x, .int v] g (fun z g' => ∃ u, z = some (.int u) ∧ (u = pCheck W wl r h v ∧ cl_L w x g' ∧ sc_V w E (x + 1) s g' ∧ mu_fw (nwA x E) (nwB x) (mu_sI g x 11 0) g')) := by
  have f0 : mu_fr (fun a => a = x) g (mu_sI g x 11 0) := mu_fr_sI rfl
  have C0 := cl_fr hC f0
  have hw := cl_w hC
  have hc := ws_c hW
  have V0 : sc_V w E (x + 1) s (mu_sI g x 11 0) := sv_fr' hV hc f0 (fun a q => Or.inl (by omega))
  have st0 : st_L w (mu_sI g x 11 0) := st_fr hst f0 (fun a q => by omega)
  have e12 : mu_I (mu_sI g x 11 0) x 12 = h := by rw [I_sI_k _ _ _ (by omega)]; exact h12
  have eD : ∀ i, i < wl → mu_I (mu_sI g x 11 0) (x + 135) i = W i := fun i hi => by rw [I_sI_a _ _ _ _ (by omega)]; exact hD.2 i hi
  have hR0 : ¬ h = 0 → sc_V w E (x + 42) r (mu_sI g x 11 0) ∧ wf_s r ∧ nsh r ≤ 999 := fun q => ⟨sv_fr' (hR q).1 (ws_c (hR q).2.1) f0 (fun a q => Or.inl (by omega)), (hR q).2⟩
  refine mu_mkp mk_X10_check rfl (fun L hL Q hQ => fm_X10_check_0 ⟨cl_T hC, cl_T hC, ?_⟩)
  have hL0 : mu_fit2 L (mu_sI g x 11 0) := hL
  have hQ0 : ∀ u g', u = pCheck W wl r h v → cl_L w x g' → sc_V w E (x + 1) s g' → mu_fw (nwA x E) (nwB x) (mu_sI g x 11 0) g' → Q (some (.int u)) g' := fun u g' e1 e2 e3 e4 => hQ _ _ ⟨_, rfl, e1, e2, e3, e4⟩ e4.2.2.2.1 e4.2.2.2.2.1
  rw [hD.1]
  clear hQ hR h12 hV hst
  generalize mu_sI g x 11 0 = G at *
  refine mu_cI (sp_X10_wN (a := 1) (b := 20) rfl rfl) hL0 ?_
  unfold pCheck at hQ0
  rw [cI_0]
  refine ⟨fun hv => ?_, fun hv => ?_⟩
  · replace hv := Classical.not_not.mp hv
    rw [cif_t hv] at hQ0
    obtain ⟨n, n1, rfl, n3, n2⟩ := ix_of (v := v) (n := 21) ⟨by omega, by omega⟩
    rw [n3] at hQ0
    rw [e12]
    refine ⟨cl_T C0, fun q => ⟨cl_T C0, cl_T C0, by rw [cl_R2 C0]; exact sc_T (cl_t C0), ?_⟩, fun q => ?_⟩
    · rw [cif_f q] at hQ0
      obtain ⟨Vr, Wr, Nr⟩ := hR0 q
      rw [cl_R2 C0, cl_R1 C0]
      refine mu_cVp (sp_X4_takeFrom (cl_t C0) (cl_i C0) Vr Wr (by omega) (by omega)) hL0 (fun g1 hz _ _ => ?_)
      obtain ⟨fq, L1, V1⟩ := hz
      obtain ⟨b0, hG⟩ := cl_g C0
      have F1' := fw_fq (B := fun a => a = x + 83 + 5) fq rfl
      have F1 : mu_fw (nwA x E) (nwB x) G g1 := fw_mono F1' (fun a q => Or.inr (Or.inl ⟨q.1, by omega⟩)) (fun a q => Or.inl (by omega))
      have G1 : sg_L w (x + 124) b0 g1 := by
        unfold sg_L
        rw [fq.1, fq.2.1, fq.2.2.1 _ (by omega)]
        exact hG
      have C1 : cl_L w x g1 := cl_fw C0 F1 (fun a q => q) L1 ⟨_, G1⟩
      have N1 : sc_V w E (x + 1) s g1 := sc_V_fw V0 hc F1' (fun a q => Or.inl (by omega)) (fun a q => by omega)
      have st1 : st_L w g1 := st_fw st0 F1 (fun a q => by unfold nwA jU at q; omega)
      refine ⟨cl_T C1, cl_T C1, by rw [cl_R3 C1]; exact sg_T G1, ?_⟩
      rw [cl_R3 C1, cl_R2 C1]
      refine mu_cVp (sp_X8_look L1 V1 (ws_c Wr) G1 ⟨by omega, by omega⟩ st1 Wr) (fw_fit F1 hL0) (fun g2 hz _ _ => ?_)
      obtain ⟨f2, P2, -⟩ := hz
      have F2' : mu_fw (lkA (x + 124) E) (fun a => a = x + 124) g1 g2 := fw_tr (fw_sR rfl) (fw_fr f2)
      have hlk : ∀ a, lkA (x + 124) E a → ((a < x + 83 ∨ x + 124 ≤ a) ∧ a < E) ∨ jU E a := fun a q => by
        unfold lkA at q
        rcases q with q | q | q | q
        · exact Or.inl (by omega)
        · exact Or.inl (by omega)
        · exact Or.inl (by omega)
        · exact Or.inr q
      have F2 : mu_fw (nwA x E) (nwB x) G g2 := fw_tr F1 (fw_mono F2' (fun a q => by
        unfold lkA at q
        unfold nwA
        rcases q with q | q | q | q
        · exact Or.inr (Or.inl (by omega))
        · exact Or.inr (Or.inl (by omega))
        · exact Or.inr (Or.inl (by omega))
        · exact Or.inr (Or.inr q)) (fun a q => Or.inr q))
      have G2 : sg_L w (x + 124) (x + 83) g2 := sg_fr (sg_sR G1) f2
      have L2 : sc_L w (x + 83) g2 := sc_L_fw L1 F2' (fun a q => by omega)
      have C2 : cl_L w x g2 := cl_fw C1 F2' (fun a q => Or.inr q) L2 ⟨_, G2⟩
      have N2 : sc_V w E (x + 1) s g2 := sc_V_fw N1 hc F2' (fun a q => by
        rcases hlk a q with q2 | q2
        · unfold lkA jU at q
          exact Or.inl (by omega)
        · exact Or.inr q2) (fun a q => by omega)
      have V2 : sc_V w E (x + 83) r g2 := sc_V_fw V1 (ws_c Wr) F2' hlk (fun a q => by omega)
      have st2 : st_L w g2 := st_fw st0 F2 (fun a q => by unfold nwA jU at q; omega)
      have eW : ∀ gi, mu_fw (nwA x E) (nwB x) G gi → ∀ i, i < wl → mu_I gi (x + 135) i = W i := fun gi fi i hi => by
        rw [fi.2.2.2.2.2 _ (by unfold nwA jU; omega)]
        exact eD i hi
      refine lp (n := n) (P := fun i => ∀ gi, mu_fw (nwA x E) (nwB x) G gi → cl_L w x gi → sc_V w E (x + 1) s gi → sc_V w E (x + 83) (shN r i) gi → sg_L w (x + 124) (x + 83) gi → sg_P (x + 124) (shN r i) gi → st_L w gi → (∀ j, j < 2 * i → j < wl ∧ W j = ckR r j) → mu_go w mm_X10_check (d + 6) L Q 57 [some (.ref x), some (.int (nI n)), some (.int (nI wl)), some (.int (nI i)), none] [] gi) (fun gi fi Ci Ni Vi Gi Pi si hj => fm_X10_check_57 ?_) (fun i hi ih gi fi Ci Ni Vi Gi Pi si hj => fm_X10_check_57 ?_) g2 F2 C2 N2 V2 G2 P2 st2 (fun j hj => absurd hj (by omega))
      · have e2n : (2 : Int32) * nI n = nI (2 * n) := by rw [li_n, pk_mul]
        rw [e2n, nI_leI (by omega) (by omega), nI_leI (by omega) (by omega), show (1 : Int32) + nI (2 * n) = nI (1 + 2 * n) from nI_add 1 _]
        have ea := ck_no hj
        refine ⟨fun _ => ⟨fun q => hQ0 _ _ ?_ Ci Ni fi, fun q => hQ0 _ _ ?_ Ci Ni fi⟩, fun q => absurd (Nat.le_refl _) q⟩
        · rw [ea, cif_t]
          rcases Nat.lt_or_ge wl (2 * n) with q2 | q2
          · have := hj wl q2; omega
          · omega
        · rw [ea, cif_f (by omega)]
      · obtain ⟨wi, ni, ai⟩ := wr_shN Wr (n := i) (by omega)
        have w1 := (wr_shN Wr (n := i + 1) (by omega)).1
        refine ⟨fun q => absurd ((nI_leI (by omega) (by omega)).mp q) (by omega), fun _ => ⟨cl_T Ci, by rw [cl_R3 Ci]; exact sg_T Gi, ?_⟩⟩
        rw [cl_R3 Ci]
        refine mu_cIp (sp_X8_play (cl_t Ci) Vi (ws_c wi) Gi ⟨by omega, by omega⟩ si wi Pi) (fw_fit fi hL0) (fun z gk hz _ _ => ?_)
        obtain ⟨rfl, f3, V3⟩ := hz
        have fk : mu_fw (nwA x E) (nwB x) G gk := fw_tr fi (fw_fr (mu_fr_mono f3 (fun a q => by
          unfold pyA at q
          unfold nwA
          rcases q with q | q | q
          · exact Or.inr (Or.inl ⟨q.1, by omega⟩)
          · exact Or.inr (Or.inl (by omega))
          · exact Or.inr (Or.inr q))))
        have Ck := cl_fr Ci f3
        have Nk : sc_V w E (x + 1) s gk := sv_fr' Ni hc f3 (fun a q => by
          unfold pyA at q
          rcases q with q | q | q
          · exact Or.inl (by omega)
          · exact Or.inl (by omega)
          · exact Or.inr q)
        have Pk := sgP_ag (g1 := gk) Pi (sh_ag wi) (ws_c wi) (f3.2.2.2.2.2 _ (by unfold pyA jU; omega)) (f3.2.2.2.2.2 _ (by unfold pyA jU; omega))
        have sk : st_L w gk := st_fr si f3 (fun a q => by unfold pyA jU at q; omega)
        have hLk := fw_fit fk hL0
        have er0 : ckR r (2 * i) = nI (shC (shN r i)) := by unfold ckR; rw [if_pos (by omega), show 2 * i / 2 = i by omega]
        have er1 : ckR r (2 * i + 1) = nI (tgN (shN r (i + 1))) := by unfold ckR; rw [if_neg (by omega), show (2 * i + 1) / 2 + 1 = i + 1 by omega]
        have m0 : ¬ (2 * i < wl ∧ W (2 * i) = ckR r (2 * i)) → Q (some (.int (nI (1 + 2 * i)))) gk := fun q => hQ0 _ _ (ck_at (by omega) q hj).symm Ck Nk fk
        have m1 : (2 * i < wl ∧ W (2 * i) = ckR r (2 * i)) → ¬ (2 * i + 1 < wl ∧ W (2 * i + 1) = ckR r (2 * i + 1)) → Q (some (.int (nI (2 + 2 * i)))) gk := fun q0 q => hQ0 _ _ (by
          rw [ck_at (k := 2 * i + 1) (by omega) q (fun j hj2 => by
            by_cases e : j = 2 * i
            · rw [e]; exact q0
            · exact hj j (by omega))]
          congr 1
          omega) Ck Nk fk
        have ti := sp_X4_tiredTogether (d := d + 5) (cl_t Ck) V3 (ws_c w1) (ws_p w1)
        have ew := eW gk fk
        simp (disch := omega) only [cl_T Ck, cl_R7 Ck, (cl_7 Ck).1, (cl_7 Ck).2, cl_R2 Ck, sc_T (cl_t Ck), li_n, nI_add, pk_mul, nI_clamp, nI_ltI, nI_leI, nI_eq, mi_n, Nat.add_zero, true_and, and_true, true_or, or_true, false_or, or_false, not_false_eq_true, not_true_eq_false, implies_true, forall_const, ne_eq, Classical.not_not, reduceCtorEq, nor_p, cI_1n, bI_1n, cI_F, cI_T, cI_0, cI_0n, bI_0, bI_0n, cI_01, bI_01, Nat.reduceLeDiff, Nat.reduceLT, Nat.reduceEqDiff, Nat.reduceSub, Nat.reduceAdd, Nat.lt_irrefl, Nat.le_refl, false_implies, true_implies]
        refine ⟨fun q => m0 (by omega), fun q => ?_⟩
        have q' : 2 * i < wl := by omega
        refine ⟨by omega, fun q1 => ⟨fun q2 => m1 ⟨q', by rw [← ew _ q', er0]; exact q1⟩ (by omega), fun q2 => ⟨by omega, mu_cI ti hLk ?_⟩⟩, fun q1 => m0 (fun z => q1 (by rw [ew _ q', z.2, er0]))⟩
        have q2' : 2 * i + 1 < wl := by omega
        have z0 : W (2 * i) = ckR r (2 * i) := by rw [← ew _ q', er0]; exact q1
        refine ⟨fun q3 => ih gk fk Ck Nk V3 (sg_fr Gi f3) Pk sk (fun j hj2 => ?_), fun q3 => m1 ⟨q', z0⟩ (fun z => q3 (by rw [ew _ q2', z.2, er1]; rfl))⟩
        by_cases e : j = 2 * i + 1
        · rw [e]; exact ⟨q2', by rw [← ew _ q2', er1]; exact q3⟩
        · by_cases e2 : j = 2 * i
          · rw [e2]; exact ⟨q', z0⟩
          · exact hj j (by omega)
    · rw [cif_t (Classical.not_not.mp q)] at hQ0
      exact hQ0 _ _ rfl C0 V0 fw_rf
  · rw [cif_f (fun q => hv (fun z => z q))] at hQ0
    exact hQ0 _ _ rfl C0 V0 fw_rf
end Ck
