/-! CLIENTS: the class's cells; what its calls leave behind -/
def cl_L (w : mu_O) (x : Nat) (g : mu_H) : Prop := (w.1 < x ∧ mu_T g x = 11) ∧ (mu_R g x 0 = x + 1 ∧ mu_R g x 1 = x + 42 ∧ mu_R g x 2 = x + 83 ∧ mu_R g x 3 = x + 124 ∧ mu_R g x 4 = x + 129 ∧ mu_R g x 5 = x + 132 ∧ mu_R g x 6 = x + 133 ∧ mu_R g x 7 = x + 135 ∧ mu_R g x 8 = x + 136 ∧ mu_R g x 9 = x + 137) ∧
  (sc_L w (x + 1) g ∧ sc_L w (x + 42) g ∧ sc_L w (x + 83) g) ∧ (∃ b, sg_L w (x + 124) b g) ∧ sh_L w (x + 129) (x + 124) (x + 83) g ∧ (mu_T g (x + 132) = 21 ∧ mu_N g (x + 132) = 96) ∧ (mu_T g (x + 133) = 4 ∧ mu_R g (x + 133) 0 = x + 132 ∧ mu_R g (x + 133) 1 = x + 134 ∧ mu_T g (x + 134) = 20 ∧ mu_N g (x + 134) = 96) ∧ (mu_T g (x + 135) = 20 ∧ mu_N g (x + 135) = 60) ∧
  (mu_T g (x + 136) = 25 ∧ mu_N g (x + 136) = 4 ∧ ∀ i, i < 4 → mu_R g (x + 136) i = x + 138 + 2 * i) ∧ (mu_T g (x + 137) = 26 ∧ mu_N g (x + 137) = 5 ∧ ∀ i, i < 5 → mu_R g (x + 137) i = x + 146 + 3 * i) ∧ (∀ i, i < 4 → mu_T g (x + 138 + 2 * i) = 6 ∧ mu_R g (x + 138 + 2 * i) 0 = x + 139 + 2 * i ∧ mu_T g (x + 139 + 2 * i) = 21 ∧ mu_N g (x + 139 + 2 * i) = 24) ∧
  (∀ i, i < 5 → mu_T g (x + 146 + 3 * i) = 8 ∧ mu_R g (x + 146 + 3 * i) 0 = x + 147 + 3 * i ∧ mu_T g (x + 147 + 3 * i) = 6 ∧ mu_R g (x + 147 + 3 * i) 0 = x + 148 + 3 * i ∧ mu_T g (x + 148 + 3 * i) = 21 ∧ mu_N g (x + 148 + 3 * i) = 24)
section Cl2
variable {w : mu_O} {x : Nat} {g : mu_H}
theorem cl_w (h : cl_L w x g) : w.1 < x := h.1.1
theorem cl_T (h : cl_L w x g) : mu_T g x = 11 := h.1.2
theorem cl_R0 (h : cl_L w x g) : mu_R g x 0 = x + 1 := h.2.1.1
theorem cl_R1 (h : cl_L w x g) : mu_R g x 1 = x + 42 := h.2.1.2.1
theorem cl_R2 (h : cl_L w x g) : mu_R g x 2 = x + 83 := h.2.1.2.2.1
theorem cl_R3 (h : cl_L w x g) : mu_R g x 3 = x + 124 := h.2.1.2.2.2.1
theorem cl_R4 (h : cl_L w x g) : mu_R g x 4 = x + 129 := h.2.1.2.2.2.2.1
theorem cl_R5 (h : cl_L w x g) : mu_R g x 5 = x + 132 := h.2.1.2.2.2.2.2.1
theorem cl_R6 (h : cl_L w x g) : mu_R g x 6 = x + 133 := h.2.1.2.2.2.2.2.2.1
theorem cl_R7 (h : cl_L w x g) : mu_R g x 7 = x + 135 := h.2.1.2.2.2.2.2.2.2.1
theorem cl_R8 (h : cl_L w x g) : mu_R g x 8 = x + 136 := h.2.1.2.2.2.2.2.2.2.2.1
theorem cl_R9 (h : cl_L w x g) : mu_R g x 9 = x + 137 := h.2.1.2.2.2.2.2.2.2.2.2
theorem cl_n (h : cl_L w x g) : sc_L w (x + 1) g := h.2.2.1.1
theorem cl_i (h : cl_L w x g) : sc_L w (x + 42) g := h.2.2.1.2.1
theorem cl_t (h : cl_L w x g) : sc_L w (x + 83) g := h.2.2.1.2.2
theorem cl_g (h : cl_L w x g) : ∃ b, sg_L w (x + 124) b g := h.2.2.2.1
theorem cl_h (h : cl_L w x g) : sh_L w (x + 129) (x + 124) (x + 83) g := h.2.2.2.2.1
theorem cl_fr {A : Nat → Prop} {g' : mu_H} (h : cl_L w x g) (hf : mu_fr A g g') : cl_L w x g' := by
  obtain ⟨h1, h2, h3, h4, h5, h6⟩ := h
  refine ⟨by rw [hf.1]; exact h1, by rw [hf.2.2.1]; exact h2, ⟨sc_L_fr h3.1 hf, sc_L_fr h3.2.1 hf, sc_L_fr h3.2.2 hf⟩, ?_, sh_fr h5 hf, ?_⟩
  · obtain ⟨b, hb⟩ := h4
    exact ⟨b, sg_fr hb hf⟩
  · rw [hf.1, hf.2.1, hf.2.2.1]
    exact h6
end Cl2
/-- where calls about the scene of now may write -/
def nwA (x E : Nat) : Nat → Prop := fun a => (x + 1 ≤ a ∧ a < x + 42) ∨ (x + 83 ≤ a ∧ a < x + 132) ∨ jU E a
def nwB (x : Nat) : Nat → Prop := fun a => a = x + 88 ∨ a = x + 124
def cPost (w : mu_O) (x E : Nat) (q : Int32 × (Nat → Int32)) (g : mu_H) : Option Value → mu_H → Prop := fun r g' => ∃ v, r = some (.int v) ∧ (v = q.1 ∧ cl_L w x g' ∧ sc_V w E (x + 1) q.2 g' ∧ mu_fw (nwA x E) (nwB x) g g')
/-- what the reference found is still right -/
def caC (y : Nat) (s : Nat → Int32) (g : mu_H) : Prop := (mu_I g y 17 = 0 ∨ (mu_I g y 17 = 1 ∧ plC y s g)) ∧ (mu_I g y 18 = 0 ∨ (mu_I g y 18 = 1 ∧ shfC y s g))
def rfW (y : Nat) : Nat → Nat → Prop := fun a k => a = y + 1 ∨ a = y + 15 ∨ a = y + 16 ∨ a = y + 17 ∨ a = y + 19 ∨ a = y + 20 ∨ a = y + 21 ∨ a = y + 22 ∨ (a = y ∧ (k = 17 ∨ k = 18 ∨ k = 34))
def mPost (w : mu_O) (y : Nat) (q : Int32 × (Nat → Int32)) (g : mu_H) : Option Value → mu_H → Prop := fun r g' => ∃ v, r = some (.int v) ∧ (v = q.1 ∧ mu_I g' (y + 1) = q.2 ∧ caC y q.2 g' ∧ mu_f2 (rfW y) g g')
section Pu
variable {w : mu_O} {d x y E : Nat} {g : mu_H} {s : Nat → Int32}
theorem cp_ok {A : Nat → Prop} {g' : mu_H} {L : Nat × Nat} {Q : Option Value → mu_H → Prop} {q : Int32 × (Nat → Int32)} {v : Int32} (hC : cl_L w x g) (hQ : ∀ r g', cPost w x E q g r g' → mu_X g' = mu_X g → mu_S g' = mu_S g → Q r g') (hf : mu_fr A g g') (hA : ∀ a, A a → nwA x E a) (hv : v = q.1) (hV : sc_V w E (x + 1) q.2 g') : Q (some (.int v)) g' :=
  hQ _ _ ⟨_, rfl, hv, cl_fr hC hf, hV, fw_fr (mu_fr_mono hf hA)⟩ hf.2.2.2.1 hf.2.2.2.2.1
theorem stale_s (hs : mu_I g (y + 1) = s) : mu_I (md_stale y g) (y + 1) = s := by unfold md_stale; rw [mu_I_off _ _ _ (by omega), mu_I_off _ _ _ (by omega)]; exact hs
theorem stale_f : mu_f2 (rfW y) g (md_stale y g) := f2_tr (f2_sI (by unfold rfW; omega)) (f2_sI (by unfold rfW; omega))
theorem stale_c : mu_I (md_stale y g) y 17 = 0 ∧ mu_I (md_stale y g) y 18 = 0 := by unfold md_stale; exact ⟨by rw [I_sI_k _ _ _ (by omega), I_sI_same], by rw [I_sI_same]⟩
/-- one place of the row becomes another number -/
def becG (y : Nat) (g : mu_H) (k : Nat) (v : Int32) : mu_H := mu_sI (md_stale y g) (y + 1) k v
theorem bec_s {k : Nat} {v : Int32} (hs : mu_I g (y + 1) = s) : mu_I (becG y g k v) (y + 1) = upd s k v := by unfold becG; rw [mu_I_upd, stale_s hs]
theorem bec_f {k : Nat} {v : Int32} : mu_f2 (rfW y) g (becG y g k v) := f2_tr stale_f (f2_sI (Or.inl rfl))
theorem bec_c {k : Nat} {v : Int32} {c : Nat → Int32} : caC y c (becG y g k v) := ⟨Or.inl (by unfold becG; rw [I_sI_a _ _ _ _ (by omega)]; exact stale_c.1), Or.inl (by unfold becG; rw [I_sI_a _ _ _ _ (by omega)]; exact stale_c.2)⟩
theorem sp_X11_becomesN {k : Nat} {v : Int32} (hM : md_L w y g) (hs : mu_I g (y + 1) = s) (hk : k < 3470) : mu_met w mm_X11_becomes (d + 1) [.ref y, .int (nI k), .int v] g (some (.int (s k))) (becG y g k v) := by
  have h := sp_X11_becomes (d := d) (x := v) hM (show mu_in (nI k) 3470 by rw [mi_n (by omega)]; exact hk)
  rw [nI_clamp (by omega), hs] at h
  exact h
theorem sp_X10_wN {v la lb : Int32} {a b : Int} (ha : la.toInt = a) (hb : lb.toInt = b) : mu_met w mm_X10_isWithin d [.int v, .int la, .int lb] g (some (.int (cI (a ≤ v.toInt ∧ v.toInt ≤ b)))) g := by
  have := sp_X10_isWithin (w := w) (d := d) (g := g) (v := v) (a := la) (b := lb)
  rw [bI_cI, ha, hb] at this
  exact this
theorem sp_X11_iN {v : Int32} {la lb : Int64} {a b : Int} (ha : la.toInt = a) (hb : lb.toInt = b) : mu_met w mm_X11_isIn d [.long v.toInt64, .long la, .long lb] g (some (.int (cI (a ≤ v.toInt ∧ v.toInt ≤ b)))) g := by
  have := sp_X11_isIn (w := w) (d := d) (g := g) (a := v.toInt64) (b := la) (c := lb)
  rw [bI_cI, ha, hb, Int32.toInt_toInt64] at this
  exact this
/-- an index -/
theorem ix_of {v : Int32} {n : Nat} (h : 0 ≤ v.toInt ∧ v.toInt < (n : Int)) : ∃ k, k < n ∧ v = nI k ∧ v.toNatClampNeg = k ∧ k < 2 ^ 31 := by
  obtain ⟨e, h2⟩ := li_get h.1
  have : v.toInt = ((v.toNatClampNeg : Nat) : Int) := by
    have := congrArg Int32.toInt e
    rw [nI_toInt h2] at this
    exact this
  exact ⟨_, by omega, e, rfl, h2⟩
noncomputable def cif {α : Type} (p : Prop) (a b : α) : α := @ite _ p (Classical.propDecidable p) a b
theorem cif_t {α : Type} {p : Prop} {a b : α} (h : p) : cif p a b = a := if_pos h
theorem cif_f {α : Type} {p : Prop} {a b : α} (h : ¬ p) : cif p a b = b := if_neg h
def pSeed (s : Nat → Int32) (v : Int32) : Int32 × (Nat → Int32) := (s 8, upd s 8 v)
noncomputable def pWet (s : Nat → Int32) (v : Int32) : Int32 × (Nat → Int32) := cif (0 ≤ v.toInt ∧ v.toInt ≤ 1) (s 9, upd s 9 v) (-1000000001, s)
def pClear (s : Nat → Int32) : Int32 × (Nat → Int32) := (s 4, upd s 4 0)
theorem pc_seed {v : Int32} (hC : cl_L w x g) (hV : sc_V w E (x + 1) s g) (hW : wf_s s) : mu_mp w mm_X10_seed d [.ref x, .int v] g (cPost w x E (pSeed s v) g) := by
  refine mu_mkp mk_X10_seed rfl (fun L hL Q hQ => fm_X10_seed_0 ?_)
  simp only [cl_T hC, cl_R0 hC, sc_T (cl_n hC), sv_8 hV, true_and]
  exact cp_ok (L := L) hC hQ (mu_fr_sI (A := fun a => a = x + 1) rfl) (fun a q => Or.inl (by omega)) rfl (su_8 hV (ws_c hW))
theorem pm_seed {v : Int32} (hM : md_L w y g) (hs : mu_I g (y + 1) = s) : mu_mp w mm_X11_seed (d + 2) [.ref y, .int v] g (mPost w y (pSeed s v) g) :=
  mu_mkp mk_X11_seed rfl (fun L hL Q hQ => fm_X11_seed_0 ⟨md_T0 hM, mu_cI (sp_X11_becomesN (k := 8) hM hs (by omega)) hL (hQ _ _ ⟨_, rfl, rfl, bec_s hs, bec_c, bec_f⟩ rfl rfl)⟩)
theorem pc_wet {v : Int32} (hC : cl_L w x g) (hV : sc_V w E (x + 1) s g) (hW : wf_s s) : mu_mp w mm_X10_wet (d + 1) [.ref x, .int v] g (cPost w x E (pWet s v) g) := by
  refine mu_mkp mk_X10_wet rfl (fun L hL Q hQ => fm_X10_wet_0 (mu_cI (sp_X10_wN (a := 0) (b := 1) rfl rfl) hL ?_))
  unfold pWet at hQ
  simp only [cl_T hC, cl_R0 hC, sc_T (cl_n hC), hV.2.1.2.2.2.2.2.2.1, cI_0, Classical.not_not, true_and]
  refine ⟨fun h => ?_, fun h => ?_⟩
  · rw [cif_t h] at hQ
    exact cp_ok (L := L) hC hQ (mu_fr_sI (A := fun a => a = x + 1) rfl) (fun a q => Or.inl (by omega)) rfl (su_9 hV (ws_c hW))
  · rw [cif_f h] at hQ
    exact cp_ok (L := L) hC hQ (mu_fr_rf (A := fun _ => False)) (fun a q => q.elim) rfl hV
theorem pm_wet {v : Int32} (hM : md_L w y g) (hs : mu_I g (y + 1) = s) (hca : caC y s g) : mu_mp w mm_X11_wet (d + 2) [.ref y, .int v] g (mPost w y (pWet s v) g) := by
  refine mu_mkp mk_X11_wet rfl (fun L hL Q hQ => fm_X11_wet_0 (mu_cI (sp_X11_iN (a := 0) (b := 1) rfl rfl) hL ?_))
  unfold pWet at hQ
  rw [cI_0]
  refine ⟨fun h => ?_, fun h => ⟨md_T0 hM, mu_cI (sp_X11_becomesN (k := 9) hM hs (by omega)) hL ?_⟩⟩
  · rw [cif_f h] at hQ
    exact hQ _ _ ⟨_, rfl, rfl, hs, hca, f2_rf⟩ rfl rfl
  · rw [cif_t (Classical.not_not.mp h)] at hQ
    exact hQ _ _ ⟨_, rfl, rfl, bec_s hs, bec_c, bec_f⟩ rfl rfl
theorem pc_clear (hC : cl_L w x g) (hV : sc_V w E (x + 1) s g) (hW : wf_s s) : mu_mp w mm_X10_clear d [.ref x] g (cPost w x E (pClear s) g) := by
  refine mu_mkp mk_X10_clear rfl (fun L hL Q hQ => fm_X10_clear_0 ?_)
  simp only [cl_T hC, cl_R0 hC, sc_T (cl_n hC), hV.2.1.2.2.2.2.1, true_and]
  exact cp_ok (L := L) hC hQ (mu_fr_sI (A := fun a => a = x + 1) rfl) (fun a q => Or.inl (by omega)) rfl (su_4 hV (ws_c hW) (Nat.zero_le _))
theorem pm_clear (hM : md_L w y g) (hs : mu_I g (y + 1) = s) : mu_mp w mm_X11_clear (d + 2) [.ref y] g (mPost w y (pClear s) g) :=
  mu_mkp mk_X11_clear rfl (fun L hL Q hQ => fm_X11_clear_0 ⟨md_T0 hM, mu_cI (sp_X11_becomesN (k := 4) hM hs (by omega)) hL (hQ _ _ ⟨_, rfl, rfl, bec_s hs, bec_c, bec_f⟩ rfl rfl)⟩)
end Pu
