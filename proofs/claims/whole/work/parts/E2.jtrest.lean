/-! BOTH: the calls about sheets, slots, the tape and what was told answer the same -/
section Jx
variable {w : mu_O} {ξ : Nat × Nat × (Nat → Int32)} {x y E D tl wl tl1 wl1 : Nat} {σ τ : Nat → Nat → Int32} {s : Nat → Int32} {h h1 : Int32} {A B : Nat → Prop} {F : Nat → Nat → Prop} {g g1 : mu_H} {v1 v2 v3 v4 v5 : Int32}
theorem jl_mk (h4 : mu_I g (y + 4) = σ 4) (h5 : mu_I g (y + 5) = σ 5) (h6 : mu_I g (y + 6) = σ 6) (h7 : mu_I g (y + 7) = σ 7) (h8 : mu_I g (y + 8) = σ 8) (h9 : mu_I g (y + 9) = σ 9) (h10 : mu_I g (y + 10) = σ 10) (h18 : mu_I g (y + 18) = σ 18) (h24 : mu_I g (y + 24) = σ 24) : ∀ j ∈ jL, mu_I g (y + j) = σ j := fun j q => by
  simp only [jL, List.mem_cons, List.not_mem_nil, or_false] at q
  rcases q with rfl | rfl | rfl | rfl | rfl | rfl | rfl | rfl | rfl <;> assumption
theorem jl_4 (R : jR w y σ tl wl h g) : mu_I g (y + 4) = σ 4 := R.2.2.2.2.1 4 (by decide)
theorem jl_5 (R : jR w y σ tl wl h g) : mu_I g (y + 5) = σ 5 := R.2.2.2.2.1 5 (by decide)
theorem jl_6 (R : jR w y σ tl wl h g) : mu_I g (y + 6) = σ 6 := R.2.2.2.2.1 6 (by decide)
theorem jl_7 (R : jR w y σ tl wl h g) : mu_I g (y + 7) = σ 7 := R.2.2.2.2.1 7 (by decide)
theorem jl_8 (R : jR w y σ tl wl h g) : mu_I g (y + 8) = σ 8 := R.2.2.2.2.1 8 (by decide)
theorem jl_9 (R : jR w y σ tl wl h g) : mu_I g (y + 9) = σ 9 := R.2.2.2.2.1 9 (by decide)
theorem jl_10 (R : jR w y σ tl wl h g) : mu_I g (y + 10) = σ 10 := R.2.2.2.2.1 10 (by decide)
theorem jl_18 (R : jR w y σ tl wl h g) : mu_I g (y + 18) = σ 18 := R.2.2.2.2.1 18 (by decide)
theorem jl_24 (R : jR w y σ tl wl h g) : mu_I g (y + 24) = σ 24 := R.2.2.2.2.1 24 (by decide)
/-- a call of the reference that is not about now -/
theorem jr_x (hR : jR w y σ tl wl h g) (hW : wf_s (σ 0)) (hf : mu_f2 F g g1) (hF : ∀ a k, F a k → (a = y ∧ (k = 3 ∨ k = 21 ∨ k = 39)) ∨ a = y + 2 ∨ (y + 4 ≤ a ∧ a ≤ y + 10) ∨ a = y + 18 ∨ a = y + 23 ∨ a = y + 24) (e0 : τ 0 = σ 0) (h2 : ¬ h1 = 0 → ∀ k, k < 3470 → mu_I g1 (y + 2) k = τ 1 k) (h3 : ∀ j ∈ jL, mu_I g1 (y + j) = τ j) (h4 : mu_I g1 y 21 = nI tl1 ∧ mu_I g1 y 39 = nI wl1 ∧ mu_I g1 y 3 = h1) : jR w y τ tl1 wl1 h1 g1 := by
  obtain ⟨hM, hK, k1, k2, k3, k4, k7⟩ := hR
  have eI : ∀ j, j = 1 ∨ (11 ≤ j ∧ j ≤ 17) ∨ (19 ≤ j ∧ j ≤ 22) → mu_I g1 (y + j) = mu_I g (y + j) := fun j j1 => f2_I hf (fun k q => by have := hF _ _ q; omega)
  have e : ∀ k, k ≠ 3 → k ≠ 21 → k ≠ 39 → mu_I g1 y k = mu_I g y k := fun k p1 p2 p3 => hf.2.2.2.2.2 y k (fun q => by have := hF _ _ q; omega)
  refine ⟨md_L_fr hM (f2_T hf), fun k hk => ?_, ?_, h2, h3, h4, ?_⟩
  · rw [eI 11 (by omega), eI 12 (by omega), eI 13 (by omega), eI 14 (by omega)]; exact hK k hk
  · rw [eI 1 (by omega), e0]; exact k1
  · rw [e0]
    exact az_caC (fun i _ => rfl) hW k7 (e _ (by omega) (by omega) (by omega)) (e _ (by omega) (by omega) (by omega)) (e _ (by omega) (by omega) (by omega)) (eI 15 (by omega)) (eI 21 (by omega))
/-- a call of the class that is not about scenes -/
theorem jc_x (hC : jC w x E σ tl wl h g) (hW : jW σ tl wl h) (hE : x + 187 ≤ E) (hf : mu_fr A g g1) (hA : ∀ a, A a → a = x ∨ (x + 132 ≤ a ∧ a < x + 161)) (e0 : τ 0 = σ 0) (e1 : τ 1 = σ 1) (hS : sd_S x (τ 4) (τ 5) (τ 6) g1) (hH : sd_H x (τ 7) (τ 8) (τ 9) (τ 10) g1) (hT : tp_C x (τ 18) tl1 g1) (hD : tp_D x (τ 24) wl1 g1) (h12 : mu_I g1 x 12 = h) : jC w x E τ tl1 wl1 h g1 := by
  obtain ⟨c1, c2, c3, -⟩ := hC
  have ft : mu_ft A (fun _ => False) g g1 := ft_fw (fw_fr hf)
  refine ⟨cl_fr c1 hf, ?_, fun q => ?_, hS, hH, hT, hD, h12⟩
  · rw [e0]
    exact sv_ft c2 (cl_n c1) (ws_c hW.1) ft (fun a q => by have := hA a q; omega) (fun a q => q.elim)
  · rw [e1]
    exact sv_ft (c3 q) (cl_i c1) (ws_c (hW.2.2.1 q).1) ft (fun a q => by have := hA a q; omega) (fun a q => q.elim)
theorem jr_fx (hR : jR w (x + 161) σ tl wl h g) (hW : wf_s (σ 0)) (hf : mu_fr A g g1) (hA : ∀ a, A a → a = x ∨ (x + 132 ≤ a ∧ a < x + 161)) : jR w (x + 161) σ tl wl h g1 :=
  jr_ft hR hW (ft_fw (fw_fr (B := fun _ => False) hf)) (fun a q => by have := hA a q; omega) (fun a q => q.elim)
theorem js_fx (hS : jS w x E ξ g) (hf : mu_fr A g g1) (hA : ∀ a, A a → a = x ∨ (x + 132 ≤ a ∧ a < x + 161)) : jS w x E ξ g1 :=
  js_ft hS (ft_fw (fw_fr (B := fun _ => False) hf)) (fun a q => by have := hA a q; omega) (fun a q => q.elim) (nz_eq hS.2.2.1 hf.1 hf.2.2.2.1)
theorem sS_eq2 {A4 A5 A6 : Nat → Int32} (hS : sd_S x A4 A5 A6 g) (e : ∀ a, a < x + 146 → mu_I g1 a = mu_I g a) : sd_S x A4 A5 A6 g1 := fun i hi => by
  rw [e _ (by omega), e _ (by omega)]; exact hS i hi
/-- sheets -/
theorem jt_sh {mc mm : mu_M} {as : List Value} (p : (Nat → Nat → Int32) → r3)
    (hc : ∀ σ tl wl h g, jW σ tl wl h → jC w x E σ tl wl h g → mu_mp w mc D (.ref x :: as) g (cSh w x (p σ) g))
    (hm : ∀ σ tl wl h g, jW σ tl wl h → jR w (x + 161) σ tl wl h g → mu_mp w mm D (.ref (x + 161) :: as) g (mSh (x + 161) (p σ) g))
    (hw : ∀ σ tl wl h, jW σ tl wl h → sd_wS (p σ).2.1 (p σ).2.2.1) : jT w x E ξ D mc mm as := fun σ tl wl h g hJ => by
  obtain ⟨W, C, R, S⟩ := hJ
  have hE := S.2.2.2.1
  refine ⟨_, _, _, Nat.le_add_right _ 3, Nat.le_add_right _ 200, hc σ tl wl h g W C, fun r g1 hq _ _ => ?_⟩
  obtain ⟨v, rfl, rfl, C1, S1, f1⟩ := hq
  have hA : ∀ a, (x + 138 ≤ a ∧ a < x + 146) → a = x ∨ (x + 132 ≤ a ∧ a < x + 161) := fun a q => by omega
  have R1 := jr_fx R W.1 f1 hA
  have eI : ∀ a, a < x + 138 ∨ x + 146 ≤ a → mu_I g1 a = mu_I g a := fun a q => f1.2.2.2.2.2 a (by omega)
  have W2 : jW (up (up (up σ 4 (p σ).2.1) 5 (p σ).2.2.1) 6 (p σ).2.2.2) tl wl h := ⟨W.1, W.2.1, W.2.2.1, hw σ tl wl h W, W.2.2.2.2.1, W.2.2.2.2.2.1, W.2.2.2.2.2.2⟩
  have C2 : jC w x E (up (up (up σ 4 (p σ).2.1) 5 (p σ).2.2.1) 6 (p σ).2.2.2) tl wl h g1 := jc_x C W hE f1 hA rfl rfl S1 (sH_eq C.2.2.2.2.1 (fun a q _ => eI a (by omega))) (tC_eq C.2.2.2.2.2.1 (by rw [eI x (by omega)]) (eI _ (by omega))) (tD_eq C.2.2.2.2.2.2.1 (by rw [eI x (by omega)]) (eI _ (by omega))) (by rw [eI x (by omega)]; exact C.2.2.2.2.2.2.2)
  refine ⟨_, rfl, ⟨(js_fx S f1 hA).2.2.2.2.2, md_T0 R1.1⟩, _, hm σ tl wl h g1 W R1, fun r2 g2 hq2 _ _ => ?_⟩
  obtain ⟨v2, rfl, rfl, e4, e5, e6, f2⟩ := hq2
  have f2' : mu_f2 (fun a _ => mShW (x + 161) a) g1 g2 := f2_of f2 (fun a k q => q)
  have hF : ∀ a k, (fun a (_ : Nat) => mShW (x + 161) a) a k → x + 161 ≤ a ∧ a < x + 187 := fun a k q => by have q2 : mShW (x + 161) a := q; unfold mShW at q2; omega
  have oI : ∀ j, (j ≠ 4 ∧ j ≠ 5 ∧ j ≠ 6 ∧ j ≠ 23) → mu_I g2 (x + 161 + j) = mu_I g1 (x + 161 + j) := fun j q => f2.2.2.2.2.2 _ (by unfold mShW; omega)
  have o0 : mu_I g2 (x + 161) = mu_I g1 (x + 161) := oI 0 (by omega)
  refine ⟨rfl, _, _, _, _, W2, jc_f2 C2 W2 hE f2' hF, jr_x R1 W.1 f2' (fun a k q => by have q2 : mShW (x + 161) a := q; unfold mShW at q2; omega) rfl (fun q k hk => ?_) (jl_mk e4 e5 e6 ?_ ?_ ?_ ?_ ?_ ?_) ⟨?_, ?_, ?_⟩, js_f2 (js_fx S f1 hA) f2' hF⟩
  · rw [oI 2 (by omega)]; exact R1.2.2.2.1 q k hk
  · have q9 := jl_7 R1; exact (oI 7 (by omega)).trans q9
  · have q9 := jl_8 R1; exact (oI 8 (by omega)).trans q9
  · have q9 := jl_9 R1; exact (oI 9 (by omega)).trans q9
  · have q9 := jl_10 R1; exact (oI 10 (by omega)).trans q9
  · have q9 := jl_18 R1; exact (oI 18 (by omega)).trans q9
  · have q9 := jl_24 R1; exact (oI 24 (by omega)).trans q9
  · rw [o0]; exact R1.2.2.2.2.2.1.1
  · rw [o0]; exact R1.2.2.2.2.2.1.2.1
  · rw [o0]; exact R1.2.2.2.2.2.1.2.2
theorem jt_sheet : jT w x E ξ (D + 1500) mm_X10_sheet mm_X11_sheet [.int v1, .int v2, .int v3] := jt_sh (fun σ => pSheet (σ 4) (σ 5) (σ 6) v1 v2 v3) (fun σ tl wl h g W C => pc_sheet C.1 C.2.2.2.1) (fun σ tl wl h g W R => pm_sheet R.1 (jl_4 R) (jl_5 R) (jl_6 R)) (fun σ tl wl h W => wS_sheet W.2.2.2.1)
theorem jt_mark : jT w x E ξ (D + 1500) mm_X10_mark mm_X11_mark [.int v1, .int v2, .int v3] := jt_sh (fun σ => pMark (σ 4) (σ 5) (σ 6) v1 v2 v3) (fun σ tl wl h g W C => pc_mark C.1 C.2.2.2.1 W.2.2.2.1) (fun σ tl wl h g W R => pm_mark R.1 (jl_4 R) (jl_5 R) (jl_6 R) W.2.2.2.1) (fun σ tl wl h W => wS_mark W.2.2.2.1)
theorem jt_copy : jT w x E ξ (D + 1500) mm_X10_copy mm_X11_copy [.int v1, .int v2, .int v3, .int v4, .int v5] := jt_sh (fun σ => pCopy (σ 4) (σ 5) (σ 6) v1 v2 v3 v4 v5) (fun σ tl wl h g W C => pc_copy C.1 C.2.2.2.1 W.2.2.2.1) (fun σ tl wl h g W R => pm_copy R.1 (jl_4 R) (jl_5 R) (jl_6 R) W.2.2.2.1) (fun σ tl wl h W => wS_copy W.2.2.2.1)
/-- slots -/
theorem jt_lay : jT w x E ξ (D + 1500) mm_X10_lay mm_X11_lay [.int v1, .int v2, .int v3] := fun σ tl wl h g hJ => by
  obtain ⟨W, C, R, S⟩ := hJ
  have hE := S.2.2.2.1
  refine ⟨_, _, _, Nat.le_add_right _ 3, Nat.le_add_right _ 200, pc_lay C.1 C.2.1 W.1 C.2.2.2.1 C.2.2.2.2.1, fun r g1 hq _ _ => ?_⟩
  obtain ⟨v, rfl, rfl, C1, S1, f1⟩ := hq
  have hA : ∀ a, (x + 146 ≤ a ∧ a < x + 161) → a = x ∨ (x + 132 ≤ a ∧ a < x + 161) := fun a q => by omega
  have R1 := jr_fx R W.1 f1 hA
  have eI : ∀ a, a < x + 146 → mu_I g1 a = mu_I g a := fun a q => f1.2.2.2.2.2 a (by omega)
  have W2 : jW (up (up (up (up σ 7 (pLay (σ 0) (σ 4) (σ 5) (σ 6) (σ 7) (σ 8) (σ 9) (σ 10) v1 v2 v3).2.1) 8 (pLay (σ 0) (σ 4) (σ 5) (σ 6) (σ 7) (σ 8) (σ 9) (σ 10) v1 v2 v3).2.2.1) 9 (pLay (σ 0) (σ 4) (σ 5) (σ 6) (σ 7) (σ 8) (σ 9) (σ 10) v1 v2 v3).2.2.2.1) 10 (pLay (σ 0) (σ 4) (σ 5) (σ 6) (σ 7) (σ 8) (σ 9) (σ 10) v1 v2 v3).2.2.2.2) tl wl h := ⟨W.1, W.2.1, W.2.2.1, W.2.2.2.1, wH_lay W.1 W.2.2.2.1 W.2.2.2.2.1, W.2.2.2.2.2.1, W.2.2.2.2.2.2⟩
  have C2 : jC w x E (up (up (up (up σ 7 (pLay (σ 0) (σ 4) (σ 5) (σ 6) (σ 7) (σ 8) (σ 9) (σ 10) v1 v2 v3).2.1) 8 (pLay (σ 0) (σ 4) (σ 5) (σ 6) (σ 7) (σ 8) (σ 9) (σ 10) v1 v2 v3).2.2.1) 9 (pLay (σ 0) (σ 4) (σ 5) (σ 6) (σ 7) (σ 8) (σ 9) (σ 10) v1 v2 v3).2.2.2.1) 10 (pLay (σ 0) (σ 4) (σ 5) (σ 6) (σ 7) (σ 8) (σ 9) (σ 10) v1 v2 v3).2.2.2.2) tl wl h g1 := jc_x C W hE f1 hA rfl rfl (sS_eq2 C.2.2.2.1 (fun a q => eI a (by omega))) S1 (tC_eq C.2.2.2.2.2.1 (by rw [eI x (by omega)]) (eI _ (by omega))) (tD_eq C.2.2.2.2.2.2.1 (by rw [eI x (by omega)]) (eI _ (by omega))) (by rw [eI x (by omega)]; exact C.2.2.2.2.2.2.2)
  refine ⟨_, rfl, ⟨(js_fx S f1 hA).2.2.2.2.2, md_T0 R1.1⟩, _, pm_lay R1.1 R1.2.2.1 (ws_c W.1) W.1 (jl_4 R1) (jl_5 R1) (jl_6 R1) (jl_7 R1) (jl_8 R1) (jl_9 R1) (jl_10 R1) W.2.2.2.1, fun r2 g2 hq2 _ _ => ?_⟩
  obtain ⟨v2, rfl, rfl, ⟨e7, e8, e9, e10⟩, f2⟩ := hq2
  have f2' : mu_f2 (fun a _ => mSlW (x + 161) a) g1 g2 := f2_of f2 (fun a k q => q)
  have hF : ∀ a k, (fun a (_ : Nat) => mSlW (x + 161) a) a k → x + 161 ≤ a ∧ a < x + 187 := fun a k q => by have q2 : mSlW (x + 161) a := q; unfold mSlW at q2; omega
  have oI : ∀ j, (j < 7 ∨ 10 < j) → mu_I g2 (x + 161 + j) = mu_I g1 (x + 161 + j) := fun j q => f2.2.2.2.2.2 _ (by unfold mSlW; omega)
  have o0 : mu_I g2 (x + 161) = mu_I g1 (x + 161) := oI 0 (by omega)
  refine ⟨rfl, _, _, _, _, W2, jc_f2 C2 W2 hE f2' hF, jr_x R1 W.1 f2' (fun a k q => by have q2 : mSlW (x + 161) a := q; unfold mSlW at q2; omega) rfl (fun q k hk => ?_) (jl_mk ?_ ?_ ?_ e7 e8 e9 e10 ?_ ?_) ⟨?_, ?_, ?_⟩, js_f2 (js_fx S f1 hA) f2' hF⟩
  · rw [oI 2 (by omega)]; exact R1.2.2.2.1 q k hk
  · have q9 := jl_4 R1; exact (oI 4 (by omega)).trans q9
  · have q9 := jl_5 R1; exact (oI 5 (by omega)).trans q9
  · have q9 := jl_6 R1; exact (oI 6 (by omega)).trans q9
  · have q9 := jl_18 R1; exact (oI 18 (by omega)).trans q9
  · have q9 := jl_24 R1; exact (oI 24 (by omega)).trans q9
  · rw [o0]; exact R1.2.2.2.2.2.1.1
  · rw [o0]; exact R1.2.2.2.2.2.1.2.1
  · rw [o0]; exact R1.2.2.2.2.2.1.2.2
/-- questions that change nothing -/
theorem jt_q {mc mm : mu_M} {as : List Value} (p : (Nat → Nat → Int32) → Int32)
    (hc : ∀ σ tl wl h g, J w x E ξ σ tl wl h g → mu_met w mc D (.ref x :: as) g (some (.int (p σ))) g)
    (hm : ∀ σ tl wl h g, J w x E ξ σ tl wl h g → mu_met w mm D (.ref (x + 161) :: as) g (some (.int (p σ))) g) : jT w x E ξ D mc mm as := fun σ tl wl h g hJ => by
  refine ⟨_, _, _, Nat.le_add_right _ 3, Nat.le_add_right _ 200, hc σ tl wl h g hJ, fun r g1 hq _ _ => ?_⟩
  obtain ⟨rfl, rfl⟩ := hq
  refine ⟨_, rfl, ⟨hJ.2.2.2.2.2.2.2.2, md_T0 hJ.2.2.1.1⟩, _, hm σ tl wl h g1 hJ, fun r2 g2 hq2 _ _ => ?_⟩
  obtain ⟨rfl, rfl⟩ := hq2
  exact ⟨rfl, σ, tl, wl, h, hJ⟩
theorem jt_ask : jT w x E ξ (D + 1500) mm_X10_ask mm_X11_ask [.int v1, .int v2] := jt_q (fun σ => pAsk (σ 7) (σ 8) v1 v2) (fun σ tl wl h g hJ => pc_ask hJ.2.2.2.1 hJ.2.1.1 hJ.2.1.2.2.2.2.1 hJ.1.2.2.2.2.1) (fun σ tl wl h g hJ => pm_ask hJ.2.2.1.1 hJ.2.2.1.2.1 (jl_7 hJ.2.2.1) (jl_8 hJ.2.2.1) hJ.1.2.2.2.2.1)
theorem jt_item : jT w x E ξ (D + 1500) mm_X10_item mm_X11_item [.int v1, .int v2] := jt_q (fun σ => pItem (σ 7) (σ 9) (σ 10) v1 v2) (fun σ tl wl h g hJ => pc_item hJ.2.1.1 hJ.2.1.2.2.2.2.1 hJ.1.2.2.2.2.1) (fun σ tl wl h g hJ => pm_item hJ.2.2.1.1 (jl_7 hJ.2.2.1) (jl_9 hJ.2.2.1) (jl_10 hJ.2.2.1) hJ.1.2.2.2.2.1)
theorem jt_rest : jT w x E ξ (D + 1500) mm_X10_rest mm_X11_rest [.int v1, .int v2] := jt_q (fun σ => pRm (σ 7) (σ 8) v1 v2) (fun σ tl wl h g hJ => pc_rest hJ.2.1.1 hJ.2.1.2.2.2.2.1) (fun σ tl wl h g hJ => pm_rest hJ.2.2.1.1 (jl_7 hJ.2.2.1) (jl_8 hJ.2.2.1))
end Jx
