/-! BOTH: checks and texts -/
section Jz
variable {w : mu_O} {ξ : Nat × Nat × (Nat → Int32)} {x y E D tl wl tl1 wl1 : Nat} {σ τ : Nat → Nat → Int32} {s : Nat → Int32} {h h1 : Int32} {A B : Nat → Prop} {F : Nat → Nat → Prop} {g g1 : mu_H} {v : Int32}
theorem jr_ofG (hR : jR w y σ tl wl h g) (hs : mu_I g1 (y + 1) = s) (hca : caC y s g1) (hf : mu_f2 F g g1) (hF : ∀ a k, F a k → a = y ∨ a = y + 1 ∨ a = y + 3 ∨ (y + 15 ≤ a ∧ a ≤ y + 17) ∨ (y + 19 ≤ a ∧ a ≤ y + 22) ∨ a = y + 25) (h4 : mu_I g1 y 21 = nI tl1 ∧ mu_I g1 y 39 = nI wl1 ∧ mu_I g1 y 3 = h) : jR w y (up σ 0 s) tl1 wl1 h g1 := by
  obtain ⟨hM, hK, k1, k2, k3, k4, k7⟩ := hR
  have eI : ∀ j, j = 2 ∨ (4 ≤ j ∧ j ≤ 14) ∨ j = 18 ∨ j = 23 ∨ j = 24 → mu_I g1 (y + j) = mu_I g (y + j) := fun j j1 => f2_I hf (fun k q => by have := hF _ _ q; omega)
  have hj : ∀ j ∈ jL, (j = 2 ∨ (4 ≤ j ∧ j ≤ 14) ∨ j = 18 ∨ j = 23 ∨ j = 24) ∧ j ≠ 0 := by decide
  refine ⟨md_L_fr hM (f2_T hf), fun k hk => ?_, by rw [up_s]; exact hs, fun q k hk => ?_, fun j q => ?_, h4, by rw [up_s]; exact hca⟩
  · rw [eI 11 (by omega), eI 12 (by omega), eI 13 (by omega), eI 14 (by omega)]; exact hK k hk
  · rw [eI 2 (by omega), up_n (by omega)]; exact k2 q k hk
  · rw [eI j (hj j q).1, up_n (hj j q).2]; exact k3 j q
theorem jt_check : jT w x E ξ (D + 1500) mm_X10_check mm_X11_check [.int v] := fun σ tl wl h g hJ => by
  obtain ⟨W, C, R, S⟩ := hJ
  have hE := S.2.2.2.1
  have ag : ∀ i, i < 3470 → cpy (σ 0) 0 (σ 1) 0 3470 i = σ 1 i := fun i hi => cpy_lt hi
  have hr : ¬ h = 0 → wf_s (cpy (σ 0) 0 (σ 1) 0 3470) ∧ nsh (cpy (σ 0) 0 (σ 1) 0 3470) ≤ 999 := fun q => ⟨ag_wf (W.2.2.1 q).1 ag, sh_6 (s := σ 1) (ag 6 (by omega)) (W.2.2.1 q).2⟩
  refine ⟨_, _, _, Nat.le_add_right _ 3, Nat.le_add_right _ 200, pc_check (r := cpy (σ 0) 0 (σ 1) 0 3470) hE S.1 C.1 C.2.1 W.1 C.2.2.2.2.2.2.1 W.2.2.2.2.2.2 C.2.2.2.2.2.2.2 (fun q => ⟨sv_ag (W.2.2.1 q).1 ag (C.2.2.1 q), hr q⟩), fun r g1 hq _ _ => ?_⟩
  obtain ⟨v', rfl, rfl, C1, V1, f1⟩ := hq
  have f0 : mu_fr (fun a => a = x) g (mu_sI g x 11 0) := mu_fr_sI rfl
  have hA : ∀ a, a = x → a = x ∨ (x + 132 ≤ a ∧ a < x + 161) := fun a q => Or.inl q
  have eI : ∀ a, a ≠ x → mu_I (mu_sI g x 11 0) a = mu_I g a := fun a q => f0.2.2.2.2.2 a q
  have eK : ∀ k, k ≠ 11 → mu_I (mu_sI g x 11 0) x k = mu_I g x k := fun k q => I_sI_k _ _ _ q
  have W0 : jW σ tl 0 h := ⟨W.1, W.2.1, W.2.2.1, W.2.2.2.1, W.2.2.2.2.1, W.2.2.2.2.2.1, Nat.zero_le _⟩
  have C0 : jC w x E σ tl 0 h (mu_sI g x 11 0) := jc_x C W hE f0 hA rfl rfl (sS_eq C.2.2.2.1 (fun a _ _ => eI a (by omega))) (sH_eq C.2.2.2.2.1 (fun a _ _ => eI a (by omega))) (tC_eq C.2.2.2.2.2.1 (eK _ (by omega)) (eI _ (by omega))) ⟨I_sI_same _ _ _ _, fun i hi => absurd hi (Nat.not_lt_zero i)⟩ (by rw [eK _ (by omega)]; exact C.2.2.2.2.2.2.2)
  have R0 := jr_fx R W.1 f0 hA
  have S0 := js_fx S f0 hA
  have f1' : mu_fw (nowA x E) (nowB x) (mu_sI g x 11 0) g1 := fw_mono f1 (fun a q => q) (fun a q => by unfold nwB at q; unfold nowB; omega)
  obtain ⟨C2, S2⟩ := jc_now C0 W0 S0 f1' C1 V1
  have R1 := jr_now R0 W.1 hE f1'
  refine ⟨_, rfl, ⟨S2.2.2.2.2.2, md_T0 R1.1⟩, _, pm_check (r := σ 1) R1.1 R1.2.2.1 (ws_c W.1) R1.2.1 W.1 R1.2.2.2.2.2.2 R1.2.2.2.2.2.1.2.1 (jl_24 R1) W.2.2.2.2.2.2 R1.2.2.2.2.2.1.2.2 (fun q => ⟨R1.2.2.2.1 q, W.2.2.1 q⟩), fun r2 g2 hq2 _ _ => ?_⟩
  obtain ⟨v2, rfl, rfl, hs2, hca2, e39, f2⟩ := hq2
  have hF : ∀ a k, ckW (x + 161) a k → x + 161 ≤ a ∧ a < x + 187 := fun a k q => by unfold ckW rfW at q; omega
  have o0 : ∀ k, k = 21 ∨ k = 3 → mu_I g2 (x + 161) k = mu_I g1 (x + 161) k := fun k q => f2.2.2.2.2.2 _ _ (by unfold ckW rfW; omega)
  have W2 : jW (up σ 0 (σ 0)) tl 0 h := jw_now W0 W.1 W.2.1
  exact ⟨rfl, _, _, _, _, W2, jc_f2 C2 W2 hE f2 hF, jr_ofG R1 hs2 hca2 f2 (fun a k q => by unfold ckW rfW at q; omega) ⟨by rw [o0 _ (by omega)]; exact R1.2.2.2.2.2.1.1, e39, by rw [o0 _ (by omega)]; exact R1.2.2.2.2.2.1.2.2⟩, js_f2 S2 f2 hF⟩
/-- every cell of the sheets and slots is one -/
theorem cl_tag (hC : cl_L w x g) {a : Nat} (h1 : x + 138 ≤ a) (h2 : a < x + 161) : mu_T g a ≠ 0 := by
  obtain ⟨-, -, -, -, -, -, -, -, -, -, k11, k12⟩ := hC
  by_cases q : a < x + 146
  · obtain ⟨p1, p2, p3, p4⟩ := k11 ((a - x - 138) / 2) (by omega)
    by_cases e : (a - x - 138) % 2 = 0
    · rw [show x + 138 + 2 * ((a - x - 138) / 2) = a by omega] at p1
      omega
    · rw [show x + 139 + 2 * ((a - x - 138) / 2) = a by omega] at p3
      omega
  · obtain ⟨p1, p2, p3, p4, p5, p6⟩ := k12 ((a - x - 146) / 3) (by omega)
    by_cases e : (a - x - 146) % 3 = 0
    · rw [show x + 146 + 3 * ((a - x - 146) / 3) = a by omega] at p1
      omega
    · by_cases e2 : (a - x - 146) % 3 = 1
      · rw [show x + 147 + 3 * ((a - x - 146) / 3) = a by omega] at p3
        omega
      · rw [show x + 148 + 3 * ((a - x - 146) / 3) = a by omega] at p5
        omega
theorem jt_text : jT w x E ξ (D + 1500) mm_X10_text mm_X11_text [] := fun σ tl wl h g hJ => by
  obtain ⟨W, C, R, S⟩ := hJ
  have hE := S.2.2.2.1
  have h96 := W.2.2.2.2.2.1.1
  have hB : ∀ i, i < tl → bT (σ 18) i < 256 ∧ σ 18 i = nI (bT (σ 18) i) := fun i hi => by
    obtain ⟨b, b1, b2⟩ := W.2.2.2.2.2.1.2 i hi
    have : bT (σ 18) i = b := by unfold bT; rw [b2, nI_clamp (by omega)]
    rw [this]
    exact ⟨b1, b2⟩
  obtain ⟨X, Sx, x1, x2, x3, hm⟩ := pc_text (d := D + 88) (B := bT (σ 18)) (n := tl) hE S.2.2.1 C.1 S.2.1 C.2.1 W.1 h96 C.2.2.2.2.2.1.1 (fun i hi => ⟨(hB i hi).1, by rw [C.2.2.2.2.2.1.2 i hi, (hB i hi).2]; unfold bz; rfl⟩)
  refine ⟨_, X, Sx, x1, x3, hm, fun r g1 hq _ _ => ?_⟩
  obtain ⟨v', rfl, rfl, C1, V1, k10, kx, ft, Z1⟩ := hq
  have R1 := jr_ft R W.1 ft (fun a q => by unfold txA at q; omega) (fun a q => by omega)
  have S1 := js_ft S ft (fun a q => by unfold txA at q; omega) (fun a q => by omega) Z1
  have eT : ∀ a, x + 138 ≤ a → a < x + 161 → mu_I g1 a = mu_I g a := fun a p q => (ft a (cl_tag C.1 p q)).2.2.1 (by unfold txA; omega)
  have e135 : mu_I g1 (x + 135) = mu_I g (x + 135) := ft_I ft C.1.2.2.2.2.2.2.2.1.1 (by unfold txA; omega)
  have w1 := wr_text (B := bT (σ 18)) h96 W.1
  have w2 : nsh (pText (bT (σ 18)) tl (σ 0)).2 ≤ 999 := by rw [tx_sh h96 W.1]; exact W.2.1
  have W2 : jW (up σ 0 (pText (bT (σ 18)) tl (σ 0)).2) 0 wl h := ⟨w1, w2, W.2.2.1, W.2.2.2.1, W.2.2.2.2.1, ⟨Nat.zero_le _, fun i hi => absurd hi (Nat.not_lt_zero i)⟩, W.2.2.2.2.2.2⟩
  have C2 : jC w x E (up σ 0 (pText (bT (σ 18)) tl (σ 0)).2) 0 wl h g1 := ⟨C1, V1, fun q => sv_ft (C.2.2.1 q) (cl_i C.1) (ws_c (W.2.2.1 q).1) ft (fun a q => by unfold txA at q; omega) (fun a q => by omega), sS_eq C.2.2.2.1 eT, sH_eq C.2.2.2.2.1 (fun a p q => eT a (by omega) q), ⟨k10, fun i hi => absurd hi (Nat.not_lt_zero i)⟩, tD_eq C.2.2.2.2.2.2.1 (kx _ (by omega)) e135, by rw [kx _ (by omega)]; exact C.2.2.2.2.2.2.2⟩
  have hM : tb_M (x + 161) (bT (σ 18)) tl g1 := ⟨h96, R1.2.2.2.2.2.1.1, fun i hi => ⟨(hB i hi).1, by rw [jl_18 R1]; exact (hB i hi).2⟩⟩
  refine ⟨_, rfl, ⟨S1.2.2.2.2.2, md_T0 R1.1⟩, _, pm_text (d := D + 88) R1.1 hM R1.2.2.1 W.1 R1.2.2.2.2.2.2, fun r2 g2 hq2 _ _ => ?_⟩
  obtain ⟨v2, rfl, rfl, hs2, hca2, e21, f2⟩ := hq2
  have hF : ∀ a k, txW (x + 161) a k → x + 161 ≤ a ∧ a < x + 187 := fun a k q => by unfold txW at q; omega
  have o0 : ∀ k, k = 39 ∨ k = 3 → mu_I g2 (x + 161) k = mu_I g1 (x + 161) k := fun k q => f2.2.2.2.2.2 _ _ (by unfold txW; omega)
  exact ⟨rfl, _, _, _, _, W2, jc_f2 C2 W2 hE f2 hF, jr_ofG R1 hs2 hca2 f2 (fun a k q => by unfold txW at q; omega) ⟨e21, by rw [o0 _ (by omega)]; exact R1.2.2.2.2.2.1.2.1, by rw [o0 _ (by omega)]; exact R1.2.2.2.2.2.1.2.2⟩, js_f2 S1 f2 hF⟩
end Jz
