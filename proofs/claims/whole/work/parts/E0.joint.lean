/-! BOTH: what holds of class and reference between two calls -/
def up (σ : Nat → Nat → Int32) (i : Nat) (v : Nat → Int32) : Nat → Nat → Int32 := fun j => if j = i then v else σ j
def jW (σ : Nat → Nat → Int32) (tl wl : Nat) (h : Int32) : Prop := wf_s (σ 0) ∧ nsh (σ 0) ≤ 999 ∧ (¬ h = 0 → wf_s (σ 1) ∧ nsh (σ 1) ≤ 999) ∧ sd_wS (σ 4) (σ 5) ∧ sd_wH (σ 7) (σ 8) (σ 9) ∧ tp_W (σ 18) tl ∧ wl ≤ 60
def jC (w : mu_O) (x E : Nat) (σ : Nat → Nat → Int32) (tl wl : Nat) (h : Int32) (g : mu_H) : Prop := cl_L w x g ∧ sc_V w E (x + 1) (σ 0) g ∧ (¬ h = 0 → sc_V w E (x + 42) (σ 1) g) ∧ sd_S x (σ 4) (σ 5) (σ 6) g ∧ sd_H x (σ 7) (σ 8) (σ 9) (σ 10) g ∧ tp_C x (σ 18) tl g ∧ tp_D x (σ 24) wl g ∧ mu_I g x 12 = h
def jL : List Nat := [4, 5, 6, 7, 8, 9, 10, 18, 24]
def jR (w : mu_O) (y : Nat) (σ : Nat → Nat → Int32) (tl wl : Nat) (h : Int32) (g : mu_H) : Prop := md_L w y g ∧ md_K y g ∧ mu_I g (y + 1) = σ 0 ∧ (¬ h = 0 → ∀ k, k < 3470 → mu_I g (y + 2) k = σ 1 k) ∧ (∀ j ∈ jL, mu_I g (y + j) = σ j) ∧ (mu_I g y 21 = nI tl ∧ mu_I g y 39 = nI wl ∧ mu_I g y 3 = h) ∧ caC y (σ 0) g
/-- what was handed in stays: its reference, its length, its numbers -/
def sq (w : mu_O) (ξ : Nat × Nat × (Nat → Int32)) (g : mu_H) : Prop := ξ.1 ≤ w.1 ∧ mu_T g ξ.1 = 20 ∧ mu_N g ξ.1 = ξ.2.1 ∧ mu_I g ξ.1 = ξ.2.2
def jS (w : mu_O) (x E : Nat) (ξ : Nat × Nat × (Nat → Int32)) (g : mu_H) : Prop := st_L w g ∧ str_L w g ∧ nwZ E g ∧ x + 187 ≤ E ∧ w.1 < x ∧ sq w ξ g
def J (w : mu_O) (x E : Nat) (ξ : Nat × Nat × (Nat → Int32)) (σ : Nat → Nat → Int32) (tl wl : Nat) (h : Int32) (g : mu_H) : Prop := jW σ tl wl h ∧ jC w x E σ tl wl h g ∧ jR w (x + 161) σ tl wl h g ∧ jS w x E ξ g
/-- called with the same, class and reference answer the same -/
def jT (w : mu_O) (x E : Nat) (ξ : Nat × Nat × (Nat → Int32)) (D : Nat) (mc mm : mu_M) (as : List Value) : Prop := ∀ σ tl wl h g, J w x E ξ σ tl wl h g → ∃ P X S, X ≤ mu_X g + 3 ∧ S ≤ mu_S g + 200 ∧ mu_mt w mc D (.ref x :: as) g P X S ∧ ∀ r g1, P r g1 → mu_X g1 = X → mu_S g1 = S → ∃ v, r = some (.int v) ∧ (sq w ξ g1 ∧ mu_T g1 (x + 161) = 12) ∧ ∃ P2, mu_mp w mm D (.ref (x + 161) :: as) g1 P2 ∧ ∀ r2 g2, P2 r2 g2 → mu_X g2 = mu_X g1 → mu_S g2 = mu_S g1 → r2 = some (.int v) ∧ ∃ σ2 tl2 wl2 h2, J w x E ξ σ2 tl2 wl2 h2 g2
section Jt
variable {w : mu_O} {ξ : Nat × Nat × (Nat → Int32)} {x y E D i j tl wl : Nat} {σ : Nat → Nat → Int32} {v s : Nat → Int32} {h : Int32} {A B : Nat → Prop} {F : Nat → Nat → Prop} {g g1 : mu_H}
theorem up_s : up σ i v i = v := if_pos rfl
theorem up_n (q : j ≠ i) : up σ i v j = σ j := if_neg q
theorem nz_eq (hZ : nwZ E g) (h1 : mu_T g1 = mu_T g) (h2 : mu_X g1 = mu_X g) : nwZ E g1 := by
  unfold nwZ
  rw [h1, h2]
  exact hZ
theorem jr_ft (hR : jR w y σ tl wl h g) (hW : wf_s (σ 0)) (hf : mu_ft A B g g1) (hA : ∀ a, A a → a < y ∨ y + 26 ≤ a) (hB : ∀ a, B a → a < y ∨ y + 26 ≤ a) : jR w y σ tl wl h g1 := by
  obtain ⟨hM, hK, h1, h2, h3, ⟨h4, h5, h6⟩, h7⟩ := hR
  have eI : ∀ j, 1 ≤ j → j ≤ 25 → mu_I g1 (y + j) = mu_I g (y + j) := fun j j1 j2 => ft_I hf (hM.2.2.2 j j1 j2).1 (fun q => by have := hA _ q; omega)
  have e0 : mu_I g1 y = mu_I g y := ft_I hf (md_T0 hM) (fun q => by have := hA _ q; omega)
  have hj : ∀ j ∈ jL, 1 ≤ j ∧ j ≤ 25 := by decide
  refine ⟨md_ft hM hf (fun q => by have := hB _ q; omega), fun k hk => ?_, ?_, fun q k hk => ?_, fun j q => ?_, ⟨by rw [e0]; exact h4, by rw [e0]; exact h5, by rw [e0]; exact h6⟩, ?_⟩
  · rw [eI 11 (by omega) (by omega), eI 12 (by omega) (by omega), eI 13 (by omega) (by omega), eI 14 (by omega) (by omega)]; exact hK k hk
  · rw [eI 1 (by omega) (by omega)]; exact h1
  · rw [eI 2 (by omega) (by omega)]; exact h2 q k hk
  · rw [eI j (hj j q).1 (hj j q).2]; exact h3 j q
  · exact az_caC (fun i _ => rfl) hW h7 (by rw [e0]) (by rw [e0]) (by rw [e0]) (eI 15 (by omega) (by omega)) (eI 21 (by omega) (by omega))
theorem js_ft (hS : jS w x E ξ g) (hf : mu_ft A B g g1) (hA : ∀ a, A a → x ≤ a) (hB : ∀ a, B a → x ≤ a) (hZ : nwZ E g1) : jS w x E ξ g1 := by
  obtain ⟨h1, h2, h3, h4, h5, q1, q2, q3, q4⟩ := hS
  exact ⟨st_ft h1 hf (fun a q => by have := hA a q; omega), str_ft h2 hf (fun a q => by have := hA a q; omega) (fun a q => by have := hB a q; omega), hZ, h4, h5, q1, ft_T hf q2, ft_N hf q2 q3, (ft_I hf q2 (fun q => by have := hA _ q; omega)).trans q4⟩
theorem sS_eq {A4 A5 A6 : Nat → Int32} (hS : sd_S x A4 A5 A6 g) (e : ∀ a, x + 138 ≤ a → a < x + 161 → mu_I g1 a = mu_I g a) : sd_S x A4 A5 A6 g1 := fun i hi => by
  rw [e _ (by omega) (by omega), e _ (by omega) (by omega)]; exact hS i hi
theorem sH_eq {B7 B8 B9 B10 : Nat → Int32} (hS : sd_H x B7 B8 B9 B10 g) (e : ∀ a, x + 146 ≤ a → a < x + 161 → mu_I g1 a = mu_I g a) : sd_H x B7 B8 B9 B10 g1 := fun i hi => by
  rw [e _ (by omega) (by omega), e _ (by omega) (by omega), e _ (by omega) (by omega)]; exact hS i hi
theorem tC_eq {T : Nat → Int32} (hT : tp_C x T tl g) (e1 : mu_I g1 x 10 = mu_I g x 10) (e2 : mu_I g1 (x + 132) = mu_I g (x + 132)) : tp_C x T tl g1 := by
  unfold tp_C
  rw [e1, e2]
  exact hT
theorem tD_eq {W : Nat → Int32} (hT : tp_D x W wl g) (e1 : mu_I g1 x 11 = mu_I g x 11) (e2 : mu_I g1 (x + 135) = mu_I g (x + 135)) : tp_D x W wl g1 := by
  unfold tp_D
  rw [e1, e2]
  exact hT
/-- the reference's calls leave the class alone -/
theorem jc_f2 (hC : jC w x E σ tl wl h g) (hW : jW σ tl wl h) (hE : x + 187 ≤ E) (hf : mu_f2 F g g1) (hF : ∀ a k, F a k → x + 161 ≤ a ∧ a < x + 187) : jC w x E σ tl wl h g1 := by
  obtain ⟨c1, c2, c3, c4, c5, c6, c7, c8⟩ := hC
  have ff : mu_fr (fun a => x + 161 ≤ a ∧ a < x + 187) g g1 := f2_fr hf hF
  have ft : mu_ft (fun a => x + 161 ≤ a ∧ a < x + 187) (fun _ => False) g g1 := ft_fw (fw_fr ff)
  have eI : ∀ a, a < x + 161 → mu_I g1 a = mu_I g a := fun a q => ff.2.2.2.2.2 a (by omega)
  refine ⟨cl_fr c1 ff, sv_ft c2 (cl_n c1) (ws_c hW.1) ft (fun a q => by omega) (fun a q => q.elim), fun q => sv_ft (c3 q) (cl_i c1) (ws_c (hW.2.2.1 q).1) ft (fun a q => by omega) (fun a q => q.elim), sS_eq c4 (fun a _ q => eI a q), sH_eq c5 (fun a _ q => eI a q), tC_eq c6 (by rw [eI x (by omega)]) (eI _ (by omega)), tD_eq c7 (by rw [eI x (by omega)]) (eI _ (by omega)), by rw [eI x (by omega)]; exact c8⟩
theorem js_f2 (hS : jS w x E ξ g) (hf : mu_f2 F g g1) (hF : ∀ a k, F a k → x + 161 ≤ a ∧ a < x + 187) : jS w x E ξ g1 := by
  have ff : mu_fr (fun a => x + 161 ≤ a ∧ a < x + 187) g g1 := f2_fr hf hF
  exact js_ft hS (ft_fw (fw_fr (B := fun _ => False) ff)) (fun a q => by omega) (fun a q => q.elim) (nz_eq hS.2.2.1 ff.1 ff.2.2.2.1)
/-- the class's calls about the scene of now -/
def nowA (x E : Nat) : Nat → Prop := fun a => (x + 1 ≤ a ∧ a < x + 42) ∨ (x + 83 ≤ a ∧ a < x + 132) ∨ jU E a
def nowB (x : Nat) : Nat → Prop := fun a => a = x + 6 ∨ a = x + 88 ∨ a = x + 124
theorem jc_now (hC : jC w x E σ tl wl h g) (hW : jW σ tl wl h) (hS : jS w x E ξ g) (hf : mu_fw (nowA x E) (nowB x) g g1) (hC1 : cl_L w x g1) (hV1 : sc_V w E (x + 1) s g1) : jC w x E (up σ 0 s) tl wl h g1 ∧ jS w x E ξ g1 := by
  obtain ⟨c1, c2, c3, c4, c5, c6, c7, c8⟩ := hC
  have hE := hS.2.2.2.1
  have ft := ft_fw hf
  have eI : ∀ a, (a ≤ x ∨ (x + 132 ≤ a ∧ a < x + 161)) → mu_I g1 a = mu_I g a := fun a q => hf.2.2.2.2.2 a (by unfold nowA jU; omega)
  refine ⟨⟨hC1, hV1, fun q => ?_, sS_eq c4 (fun a _ q => eI a (by omega)), sH_eq c5 (fun a _ q => eI a (by omega)), tC_eq c6 (by rw [eI x (by omega)]) (eI _ (by omega)), tD_eq c7 (by rw [eI x (by omega)]) (eI _ (by omega)), by rw [eI x (by omega)]; exact c8⟩, ?_⟩
  · exact sv_ft (c3 q) (cl_i c1) (ws_c (hW.2.2.1 q).1) ft (fun a q => by unfold nowA at q; unfold jU at *; omega) (fun a q => by unfold nowB at q; omega)
  · exact js_ft hS ft (fun a q => by unfold nowA jU at q; omega) (fun a q => by unfold nowB at q; omega) (nz_eq hS.2.2.1 hf.1 hf.2.2.2.1)
theorem jr_now (hR : jR w (x + 161) σ tl wl h g) (hW : wf_s (σ 0)) (hE : x + 187 ≤ E) (hf : mu_fw (nowA x E) (nowB x) g g1) : jR w (x + 161) σ tl wl h g1 :=
  jr_ft hR hW (ft_fw hf) (fun a q => by unfold nowA jU at q; omega) (fun a q => by unfold nowB at q; omega)
/-- the reference's calls about now -/
theorem jr_of (hR : jR w y σ tl wl h g) (hs : mu_I g1 (y + 1) = s) (hca : caC y s g1) (hf : mu_f2 (rfW y) g g1) : jR w y (up σ 0 s) tl wl h g1 := by
  obtain ⟨hM, hK, h1, h2, h3, ⟨h4, h5, h6⟩, h7⟩ := hR
  have eI : ∀ j, 2 ≤ j → j ≤ 14 ∨ j = 18 ∨ 23 ≤ j → mu_I g1 (y + j) = mu_I g (y + j) := fun j j1 j2 => f2_I hf (fun k => by unfold rfW; omega)
  have e0 : ∀ k, k ≠ 17 → k ≠ 18 → k ≠ 34 → mu_I g1 y k = mu_I g y k := fun k k1 k2 k3 => hf.2.2.2.2.2 y k (by unfold rfW; omega)
  have hj : ∀ j ∈ jL, 2 ≤ j ∧ (j ≤ 14 ∨ j = 18 ∨ 23 ≤ j) ∧ j ≠ 0 := by decide
  refine ⟨md_L_fr hM (f2_T hf), fun k hk => ?_, by rw [up_s]; exact hs, fun q k hk => ?_, fun j q => ?_, ⟨by rw [e0 _ (by omega) (by omega) (by omega)]; exact h4, by rw [e0 _ (by omega) (by omega) (by omega)]; exact h5, by rw [e0 _ (by omega) (by omega) (by omega)]; exact h6⟩, by rw [up_s]; exact hca⟩
  · rw [eI 11 (by omega) (by omega), eI 12 (by omega) (by omega), eI 13 (by omega) (by omega), eI 14 (by omega) (by omega)]; exact hK k hk
  · rw [eI 2 (by omega) (by omega), up_n (by omega)]; exact h2 q k hk
  · rw [eI j (hj j q).1 (hj j q).2.1, up_n (hj j q).2.2]; exact h3 j q
theorem jw_now (hW : jW σ tl wl h) (h1 : wf_s s) (h2 : nsh s ≤ 999) : jW (up σ 0 s) tl wl h := ⟨h1, h2, hW.2.2.1, hW.2.2.2.1, hW.2.2.2.2.1, hW.2.2.2.2.2.1, hW.2.2.2.2.2.2⟩
/-- calls about now, one after the other -/
theorem jt_now {mc mm : mu_M} {as : List Value} (p : (Nat → Nat → Int32) → Nat → Nat → Int32 × (Nat → Int32))
    (hc : ∀ σ tl wl h g, jW σ tl wl h → jC w x E σ tl wl h g → jS w x E ξ g → mu_mp w mc D (.ref x :: as) g (cPost w x E (p σ tl wl) g))
    (hm : ∀ σ tl wl h g, jW σ tl wl h → jR w (x + 161) σ tl wl h g → mu_mp w mm D (.ref (x + 161) :: as) g (mPost w (x + 161) (p σ tl wl) g))
    (hw : ∀ σ tl wl h, jW σ tl wl h → wf_s (p σ tl wl).2 ∧ nsh (p σ tl wl).2 ≤ 999) : jT w x E ξ D mc mm as := fun σ tl wl h g hJ => by
  obtain ⟨W, C, R, S⟩ := hJ
  refine ⟨_, _, _, Nat.le_add_right _ 3, Nat.le_add_right _ 200, hc σ tl wl h g W C S, fun r g1 hq _ _ => ?_⟩
  obtain ⟨v, rfl, rfl, C1, V1, f1⟩ := hq
  have f1' : mu_fw (nowA x E) (nowB x) g g1 := fw_mono f1 (fun a q => q) (fun a q => by unfold nwB at q; unfold nowB; omega)
  obtain ⟨C2, S2⟩ := jc_now C W S f1' C1 V1
  have R1 := jr_now R W.1 S.2.2.2.1 f1'
  obtain ⟨w1, w2⟩ := hw σ tl wl h W
  refine ⟨_, rfl, ⟨S2.2.2.2.2.2, md_T0 R1.1⟩, _, hm σ tl wl h g1 W R1, fun r2 g2 hq2 _ _ => ?_⟩
  obtain ⟨v2, rfl, rfl, hs2, hca2, f2⟩ := hq2
  have hF : ∀ a k, rfW (x + 161) a k → x + 161 ≤ a ∧ a < x + 187 := fun a k q => by unfold rfW at q; omega
  have W2 := jw_now W w1 w2
  exact ⟨rfl, _, _, _, _, W2, jc_f2 C2 W2 S.2.2.2.1 f2 hF, jr_of R1 hs2 hca2 f2, js_f2 S2 f2 hF⟩
end Jt
