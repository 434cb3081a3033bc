/-! BOTH: the tape, what was told, images, checks and texts -/
section Jy
variable {w : mu_O} {ξ : Nat × Nat × (Nat → Int32)} {x y E D tl wl tl1 wl1 : Nat} {σ τ : Nat → Nat → Int32} {s : Nat → Int32} {h h1 : Int32} {A B : Nat → Prop} {F : Nat → Nat → Prop} {g g1 : mu_H} {v v1 v2 v3 v4 v5 : Int32}
theorem jt_feed : jT w x E ξ (D + 1500) mm_X10_feed mm_X11_feed [.int v1, .int v2, .int v3] := fun σ tl wl h g hJ => by
  obtain ⟨W, C, R, S⟩ := hJ
  have hE := S.2.2.2.1
  refine ⟨_, _, _, Nat.le_add_right _ 3, Nat.le_add_right _ 200, pc_feed C.1 C.2.2.2.2.2.1 W.2.2.2.2.2.1, fun r g1 hq _ _ => ?_⟩
  obtain ⟨v, rfl, rfl, T1, f1⟩ := hq
  have f1' : mu_fr (fun a => a = x ∨ a = x + 132) g g1 := f2_fr f1 (fun a k q => by unfold tpF at q; omega)
  have hA : ∀ a, (a = x ∨ a = x + 132) → a = x ∨ (x + 132 ≤ a ∧ a < x + 161) := fun a q => by omega
  have R1 := jr_fx R W.1 f1' hA
  have eI : ∀ a, a ≠ x → a ≠ x + 132 → mu_I g1 a = mu_I g a := fun a p q => f1'.2.2.2.2.2 a (by omega)
  have eK : ∀ k, k ≠ 10 → mu_I g1 x k = mu_I g x k := fun k q => f1.2.2.2.2.2 x k (by unfold tpF; omega)
  have W2 : jW (up σ 18 (pFeed (σ 18) tl v1 v2 v3).2.1) (pFeed (σ 18) tl v1 v2 v3).2.2 wl h := ⟨W.1, W.2.1, W.2.2.1, W.2.2.2.1, W.2.2.2.2.1, tp_W_feed W.2.2.2.2.2.1, W.2.2.2.2.2.2⟩
  have C2 : jC w x E (up σ 18 (pFeed (σ 18) tl v1 v2 v3).2.1) (pFeed (σ 18) tl v1 v2 v3).2.2 wl h g1 := jc_x C W hE f1' hA rfl rfl (sS_eq C.2.2.2.1 (fun a _ _ => eI a (by omega) (by omega))) (sH_eq C.2.2.2.2.1 (fun a _ _ => eI a (by omega) (by omega))) T1 (tD_eq C.2.2.2.2.2.2.1 (eK _ (by omega)) (eI _ (by omega) (by omega))) (by rw [eK _ (by omega)]; exact C.2.2.2.2.2.2.2)
  refine ⟨_, rfl, ⟨(js_fx S f1' hA).2.2.2.2.2, md_T0 R1.1⟩, _, pm_feed R1.1 R1.2.2.2.2.2.1.1 (jl_18 R1) W.2.2.2.2.2.1, fun r2 g2 hq2 _ _ => ?_⟩
  obtain ⟨v2, rfl, rfl, e21, e18, f2⟩ := hq2
  have hF : ∀ a k, tmF (x + 161) a k → x + 161 ≤ a ∧ a < x + 187 := fun a k q => by unfold tmF at q; omega
  have oI : ∀ j, (j ≠ 0 ∧ j ≠ 18) → mu_I g2 (x + 161 + j) = mu_I g1 (x + 161 + j) := fun j q => f2_I f2 (fun k => by unfold tmF; omega)
  have o0 : ∀ k, k ≠ 21 → mu_I g2 (x + 161) k = mu_I g1 (x + 161) k := fun k q => f2.2.2.2.2.2 _ _ (by unfold tmF; omega)
  refine ⟨rfl, _, _, _, _, W2, jc_f2 C2 W2 hE f2 hF, jr_x R1 W.1 f2 (fun a k q => by unfold tmF at q; omega) rfl (fun q k hk => ?_) (jl_mk ?_ ?_ ?_ ?_ ?_ ?_ ?_ e18 ?_) ⟨e21, ?_, ?_⟩, js_f2 (js_fx S f1' hA) f2 hF⟩
  · rw [oI 2 (by omega)]; exact R1.2.2.2.1 q k hk
  · have q9 := jl_4 R1; exact (oI 4 (by omega)).trans q9
  · have q9 := jl_5 R1; exact (oI 5 (by omega)).trans q9
  · have q9 := jl_6 R1; exact (oI 6 (by omega)).trans q9
  · have q9 := jl_7 R1; exact (oI 7 (by omega)).trans q9
  · have q9 := jl_8 R1; exact (oI 8 (by omega)).trans q9
  · have q9 := jl_9 R1; exact (oI 9 (by omega)).trans q9
  · have q9 := jl_10 R1; exact (oI 10 (by omega)).trans q9
  · have q9 := jl_24 R1; exact (oI 24 (by omega)).trans q9
  · rw [o0 _ (by omega)]; exact R1.2.2.2.2.2.1.2.1
  · rw [o0 _ (by omega)]; exact R1.2.2.2.2.2.1.2.2
theorem jt_trim : jT w x E ξ (D + 1500) mm_X10_trim mm_X11_trim [.int v] := fun σ tl wl h g hJ => by
  obtain ⟨W, C, R, S⟩ := hJ
  have hE := S.2.2.2.1
  refine ⟨_, _, _, Nat.le_add_right _ 3, Nat.le_add_right _ 200, pc_trim C.1 C.2.2.2.2.2.1 W.2.2.2.2.2.1.1, fun r g1 hq _ _ => ?_⟩
  obtain ⟨v, rfl, rfl, T1, f1⟩ := hq
  have f1' : mu_fr (fun a => a = x ∨ a = x + 132) g g1 := f2_fr f1 (fun a k q => by unfold tpF at q; omega)
  have hA : ∀ a, (a = x ∨ a = x + 132) → a = x ∨ (x + 132 ≤ a ∧ a < x + 161) := fun a q => by omega
  have R1 := jr_fx R W.1 f1' hA
  have eI : ∀ a, a ≠ x → a ≠ x + 132 → mu_I g1 a = mu_I g a := fun a p q => f1'.2.2.2.2.2 a (by omega)
  have eK : ∀ k, k ≠ 10 → mu_I g1 x k = mu_I g x k := fun k q => f1.2.2.2.2.2 x k (by unfold tpF; omega)
  have W2 : jW σ (pTrim tl v).2 wl h := ⟨W.1, W.2.1, W.2.2.1, W.2.2.2.1, W.2.2.2.2.1, tp_W_trim W.2.2.2.2.2.1, W.2.2.2.2.2.2⟩
  have C2 : jC w x E σ (pTrim tl v).2 wl h g1 := jc_x C W hE f1' hA rfl rfl (sS_eq C.2.2.2.1 (fun a _ _ => eI a (by omega) (by omega))) (sH_eq C.2.2.2.2.1 (fun a _ _ => eI a (by omega) (by omega))) T1 (tD_eq C.2.2.2.2.2.2.1 (eK _ (by omega)) (eI _ (by omega) (by omega))) (by rw [eK _ (by omega)]; exact C.2.2.2.2.2.2.2)
  refine ⟨_, rfl, ⟨(js_fx S f1' hA).2.2.2.2.2, md_T0 R1.1⟩, _, pm_trim R1.1 R1.2.2.2.2.2.1.1 W.2.2.2.2.2.1.1, fun r2 g2 hq2 _ _ => ?_⟩
  obtain ⟨v2, rfl, rfl, e21, f2⟩ := hq2
  have hF : ∀ a k, (a = x + 161 ∧ k = 21) → x + 161 ≤ a ∧ a < x + 187 := fun a k q => by omega
  have oI : ∀ j, j ≠ 0 → mu_I g2 (x + 161 + j) = mu_I g1 (x + 161 + j) := fun j q => f2_I f2 (fun k => by omega)
  have o0 : ∀ k, k ≠ 21 → mu_I g2 (x + 161) k = mu_I g1 (x + 161) k := fun k q => f2.2.2.2.2.2 _ _ (by omega)
  have hj : ∀ j ∈ jL, j ≠ 0 := by decide
  exact ⟨rfl, _, _, _, _, W2, jc_f2 C2 W2 hE f2 hF, jr_x R1 W.1 f2 (fun a k q => by omega) rfl (fun q k hk => by rw [oI 2 (by omega)]; exact R1.2.2.2.1 q k hk) (fun j q => by rw [oI j (hj j q)]; exact R1.2.2.2.2.1 j q) ⟨e21, by rw [o0 _ (by omega)]; exact R1.2.2.2.2.2.1.2.1, by rw [o0 _ (by omega)]; exact R1.2.2.2.2.2.1.2.2⟩, js_f2 (js_fx S f1' hA) f2 hF⟩
theorem jt_tell : jT w x E ξ (D + 1500) mm_X10_tell mm_X11_tell [.int v] := fun σ tl wl h g hJ => by
  obtain ⟨W, C, R, S⟩ := hJ
  have hE := S.2.2.2.1
  refine ⟨_, _, _, Nat.le_add_right _ 3, Nat.le_add_right _ 200, pc_tell C.1 C.2.2.2.2.2.2.1 W.2.2.2.2.2.2, fun r g1 hq _ _ => ?_⟩
  obtain ⟨v', rfl, rfl, T1, f1⟩ := hq
  have f1' : mu_fr (fun a => a = x ∨ a = x + 135) g g1 := f2_fr f1 (fun a k q => by omega)
  have hA : ∀ a, (a = x ∨ a = x + 135) → a = x ∨ (x + 132 ≤ a ∧ a < x + 161) := fun a q => by omega
  have R1 := jr_fx R W.1 f1' hA
  have eI : ∀ a, a ≠ x → a ≠ x + 135 → mu_I g1 a = mu_I g a := fun a p q => f1'.2.2.2.2.2 a (by omega)
  have eK : ∀ k, k ≠ 11 → mu_I g1 x k = mu_I g x k := fun k q => f1.2.2.2.2.2 x k (by omega)
  have W2 : jW (up σ 24 (pTell (σ 24) wl v).2.1) tl (pTell (σ 24) wl v).2.2 h := ⟨W.1, W.2.1, W.2.2.1, W.2.2.2.1, W.2.2.2.2.1, W.2.2.2.2.2.1, tl_le W.2.2.2.2.2.2⟩
  have C2 : jC w x E (up σ 24 (pTell (σ 24) wl v).2.1) tl (pTell (σ 24) wl v).2.2 h g1 := jc_x C W hE f1' hA rfl rfl (sS_eq C.2.2.2.1 (fun a _ _ => eI a (by omega) (by omega))) (sH_eq C.2.2.2.2.1 (fun a _ _ => eI a (by omega) (by omega))) (tC_eq C.2.2.2.2.2.1 (eK _ (by omega)) (eI _ (by omega) (by omega))) T1 (by rw [eK _ (by omega)]; exact C.2.2.2.2.2.2.2)
  refine ⟨_, rfl, ⟨(js_fx S f1' hA).2.2.2.2.2, md_T0 R1.1⟩, _, pm_tell R1.1 R1.2.2.2.2.2.1.2.1 (jl_24 R1) W.2.2.2.2.2.2, fun r2 g2 hq2 _ _ => ?_⟩
  obtain ⟨v2, rfl, rfl, e39, e24, f2⟩ := hq2
  have hF : ∀ a k, ((a = x + 161 ∧ k = 39) ∨ a = x + 161 + 24) → x + 161 ≤ a ∧ a < x + 187 := fun a k q => by omega
  have oI : ∀ j, (j ≠ 0 ∧ j ≠ 24) → mu_I g2 (x + 161 + j) = mu_I g1 (x + 161 + j) := fun j q => f2_I f2 (fun k => by omega)
  have o0 : ∀ k, k ≠ 39 → mu_I g2 (x + 161) k = mu_I g1 (x + 161) k := fun k q => f2.2.2.2.2.2 _ _ (by omega)
  refine ⟨rfl, _, _, _, _, W2, jc_f2 C2 W2 hE f2 hF, jr_x R1 W.1 f2 (fun a k q => by omega) rfl (fun q k hk => ?_) (jl_mk ?_ ?_ ?_ ?_ ?_ ?_ ?_ ?_ e24) ⟨?_, e39, ?_⟩, js_f2 (js_fx S f1' hA) f2 hF⟩
  · rw [oI 2 (by omega)]; exact R1.2.2.2.1 q k hk
  · have q9 := jl_4 R1; exact (oI 4 (by omega)).trans q9
  · have q9 := jl_5 R1; exact (oI 5 (by omega)).trans q9
  · have q9 := jl_6 R1; exact (oI 6 (by omega)).trans q9
  · have q9 := jl_7 R1; exact (oI 7 (by omega)).trans q9
  · have q9 := jl_8 R1; exact (oI 8 (by omega)).trans q9
  · have q9 := jl_9 R1; exact (oI 9 (by omega)).trans q9
  · have q9 := jl_10 R1; exact (oI 10 (by omega)).trans q9
  · have q9 := jl_18 R1; exact (oI 18 (by omega)).trans q9
  · rw [o0 _ (by omega)]; exact R1.2.2.2.2.2.1.1
  · rw [o0 _ (by omega)]; exact R1.2.2.2.2.2.1.2.2
theorem jt_keep : jT w x E ξ (D + 1500) mm_X10_keep mm_X11_keep [] := fun σ tl wl h g hJ => by
  obtain ⟨W, C, R, S⟩ := hJ
  have hE := S.2.2.2.1
  refine ⟨_, _, _, Nat.le_add_right _ 3, Nat.le_add_right _ 200, pc_keep hE C.1 C.2.1 W.1, fun r g1 hq _ _ => ?_⟩
  obtain ⟨v', rfl, rfl, C1, V1, k12, g0, f0, e0⟩ := hq
  have f1 : mu_fw (fun a => a = x ∨ (x + 42 ≤ a ∧ a < x + 83)) (fun a => a = x + 47) g g1 := by
    rw [e0]
    exact fw_tr (fw_mono f0 (fun a q => Or.inr q) (fun a q => q)) (fw_fr (mu_fr_sI (Or.inl rfl)))
  have ft := ft_fw f1
  have eI : ∀ a, a ≠ x → (a < x + 42 ∨ x + 83 ≤ a) → mu_I g1 a = mu_I g a := fun a p q => f1.2.2.2.2.2 a (by omega)
  have eK : ∀ k, k ≠ 12 → mu_I g1 x k = mu_I g x k := fun k q => by
    rw [e0, I_sI_k _ _ _ q, f0.2.2.2.2.2 x (by omega)]
  have R1 := jr_ft R W.1 ft (fun a q => by omega) (fun a q => by omega)
  have S1 := js_ft S ft (fun a q => by omega) (fun a q => by omega) (nz_eq S.2.2.1 f1.1 f1.2.2.2.1)
  have W2 : jW (up σ 1 (σ 0)) tl wl 1 := ⟨W.1, W.2.1, fun _ => ⟨W.1, W.2.1⟩, W.2.2.2.1, W.2.2.2.2.1, W.2.2.2.2.2.1, W.2.2.2.2.2.2⟩
  have C2 : jC w x E (up σ 1 (σ 0)) tl wl 1 g1 := ⟨C1, sv_ft C.2.1 (cl_n C.1) (ws_c W.1) ft (fun a q => by omega) (fun a q => by omega), fun _ => V1, sS_eq C.2.2.2.1 (fun a _ _ => eI a (by omega) (by omega)), sH_eq C.2.2.2.2.1 (fun a _ _ => eI a (by omega) (by omega)), tC_eq C.2.2.2.2.2.1 (eK _ (by omega)) (eI _ (by omega) (by omega)), tD_eq C.2.2.2.2.2.2.1 (eK _ (by omega)) (eI _ (by omega) (by omega)), k12⟩
  refine ⟨_, rfl, ⟨S1.2.2.2.2.2, md_T0 R1.1⟩, _, pm_keep R1.1 R1.2.2.1, fun r2 g2 hq2 _ _ => ?_⟩
  obtain ⟨v2, rfl, rfl, e3, e2, f2⟩ := hq2
  have hF : ∀ a k, ((a = x + 161 ∧ k = 3) ∨ a = x + 161 + 2) → x + 161 ≤ a ∧ a < x + 187 := fun a k q => by omega
  have oI : ∀ j, (j ≠ 0 ∧ j ≠ 2) → mu_I g2 (x + 161 + j) = mu_I g1 (x + 161 + j) := fun j q => f2_I f2 (fun k => by omega)
  have o0 : ∀ k, k ≠ 3 → mu_I g2 (x + 161) k = mu_I g1 (x + 161) k := fun k q => f2.2.2.2.2.2 _ _ (by omega)
  have hj : ∀ j ∈ jL, (j ≠ 0 ∧ j ≠ 2) ∧ j ≠ 1 := by decide
  exact ⟨rfl, _, _, _, _, W2, jc_f2 C2 W2 hE f2 hF, jr_x R1 W.1 f2 (fun a k q => by omega) rfl (fun _ k hk => e2 k hk) (fun j q => by rw [oI j (hj j q).1, up_n (hj j q).2]; exact R1.2.2.2.2.1 j q) ⟨by rw [o0 _ (by omega)]; exact R1.2.2.2.2.2.1.1, by rw [o0 _ (by omega)]; exact R1.2.2.2.2.2.1.2.1, e3⟩, js_f2 S1 f2 hF⟩
theorem bk_ok (W : jW σ tl wl h) : wf_s (pBack (σ 0) (σ 1) h).2 ∧ nsh (pBack (σ 0) (σ 1) h).2 ≤ 999 := by
  unfold pBack
  by_cases q : h = 0
  · rw [cif_t q]; exact ⟨W.1, W.2.1⟩
  · rw [cif_f q]
    obtain ⟨w1, w2⟩ := W.2.2.1 q
    exact ⟨ag_wf w1 (fun i hi => cpy_lt hi), sh_6 (c := cpy (σ 0) 0 (σ 1) 0 3470) (s := σ 1) (cpy_lt (n := 3470) (i := 6) (by omega)) w2⟩
theorem jt_back : jT w x E ξ (D + 1500) mm_X10_back mm_X11_back [] := fun σ tl wl h g hJ => by
  obtain ⟨W, C, R, S⟩ := hJ
  have hE := S.2.2.2.1
  refine ⟨_, _, _, Nat.le_add_right _ 3, Nat.le_add_right _ 200, pc_back (r := σ 1) hE C.1 C.2.1 C.2.2.2.2.2.2.2 (fun q => ⟨C.2.2.1 q, (W.2.2.1 q).1⟩), fun r g1 hq _ _ => ?_⟩
  obtain ⟨v', rfl, rfl, C1, V1, f1⟩ := hq
  have f1' : mu_fw (nowA x E) (nowB x) g g1 := fw_mono f1 (fun a q => Or.inl q) (fun a q => Or.inl q)
  obtain ⟨C2, S2⟩ := jc_now C W S f1' C1 V1
  have R1 := jr_now R W.1 hE f1'
  obtain ⟨w1, w2⟩ := bk_ok W
  refine ⟨_, rfl, ⟨S2.2.2.2.2.2, md_T0 R1.1⟩, _, pm_back (r := σ 1) R1.1 R1.2.2.1 R1.2.2.2.2.2.2 R1.2.2.2.2.2.1.2.2 R1.2.2.2.1, fun r2 g2 hq2 _ _ => ?_⟩
  obtain ⟨v2, rfl, rfl, hs2, hca2, f2⟩ := hq2
  have hF : ∀ a k, rfW (x + 161) a k → x + 161 ≤ a ∧ a < x + 187 := fun a k q => by unfold rfW at q; omega
  have W2 := jw_now W w1 w2
  exact ⟨rfl, _, _, _, _, W2, jc_f2 C2 W2 hE f2 hF, jr_of R1 hs2 hca2 f2, js_f2 S2 f2 hF⟩
end Jy
