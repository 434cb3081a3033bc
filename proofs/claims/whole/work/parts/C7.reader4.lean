/-! CLIENTS: the class's reader: names; what it holds -/
def enP (key w v : Int32) : Int32 := if w = 0 then v else if w = 1 then nI (10000 + tx_ix key v.toNatClampNeg) else nI (20000 + v.toNatClampNeg)
def rd_C (x : Nat) (B : Nat → Nat) (n : Nat) (key : Int32) (s : PS) (g : mu_H) : Prop := tb_C x B n g ∧ tk_C x s.1 g ∧ mu_I g (x + 133) 5 = key ∧ mu_I g (x + 133) 6 = nI s.2.2.2.1 ∧ mu_I g (x + 133) 7 = nI s.2.2.2.2 ∧ ∀ i, i < s.2.2.2.1 → mu_I g (x + 134) i = enP key (s.2.1 i) (s.2.2.1 i)
def rdW (x : Nat) : Nat → Prop := fun a => a = x + 133 ∨ a = x + 134
section Rg
variable {w : mu_O} {d x n : Nat} {g g1 : mu_H} {B : Nat → Nat} {t : TK} {key : Int32} {s : PS} {L : Nat × Nat}
theorem sp_X3_nameHere {k : Nat} (hC : cl_L w x g) (hS : str_L w g) (hB : tb_C x B n g) (hk : tk_C x t g) (hT : tkW B n t) (h1 : t.1 = 1) (h5 : mu_I g (x + 133) 5 = nI k) (hk3 : k < 3) : mu_met w mm_X3_nameHere (d + 5) [.ref (x + 133)] g (some (.int (cif (t.2.2 - t.2.1 = 1 ∧ B t.2.1 ∈ tx_let (nI k)) (nI (10000 + tx_ix (nI k) (B t.2.1))) (-1)))) g := by
  refine mu_mk mk_X3_nameHere rfl rfl rfl (fun L hL Q hQ => fm_X3_nameHere_0 ?_)
  obtain ⟨c1, c2, -⟩ := cl_6 hC
  obtain ⟨k3, k4, k8⟩ := hk
  have hn := hB.1
  have hl := hT.2.2.2.1 (by omega)
  have hl2 := hT.2.1
  obtain ⟨b1, b2⟩ := hB.2.2 t.2.1 (by omega)
  have hlt := hT.2.2.2.2.2.1 h1 t.2.1 (by omega) hl
  have e1 : nI (t.2.2 - t.2.1) = (1 : Int32) ↔ t.2.2 - t.2.1 = 1 := nI_eq (b := 1) (by omega) (by decide)
  have ek0 : nI k = (0 : Int32) ↔ k = 0 := nI_eq (b := 0) (by omega) (by decide)
  have ek1 : nI k = (1 : Int32) ↔ k = 1 := nI_eq (b := 1) (by omega) (by decide)
  have ec : ((bz (B t.2.1)).toUInt32 % 65536).toInt32 = nI (B t.2.1) := (ch_all ⟨B t.2.1, by omega⟩).2.1
  obtain ⟨x1, x2⟩ := ix_let (c := B t.2.1) hk3
  have hm1 : ¬ (0 : Int32) ≤ -1 := by decide
  rw [c1, c2, h5, k3, k8, nI_sb (by omega), e1, ek0, ek1, (cl_5 hC).1, (cl_5 hC).2, nI_clamp (by omega), b2, ec]
  have hin : mu_in (nI t.2.1) 96 := mu_in_n (by omega) (by omega)
  have no : ¬ t.2.2 - t.2.1 = 1 → ((0 : Int32) ≤ -1 → Q (some (.int (10000 + -1))) g) ∧ (¬ ((0 : Int32) ≤ -1) → Q (some (.int (-1))) g) := fun q => ⟨fun z => absurd z hm1, fun _ => by rw [cif_f (fun z => q z.1)] at hQ; exact hQ⟩
  have yes : ∀ j, j = 3 + k → t.2.2 - t.2.1 = 1 → mu_T g (mu_sb w j) = 13 ∧ mu_callI w mm_J0_indexOf_0f7a4 (d + 4) L [.ref (mu_sb w j), .int (nI (B t.2.1))] g (fun x2 g1 => (0 ≤ x2 → Q (some (.int (10000 + x2))) g1) ∧ (¬ (0 ≤ x2) → Q (some (.int (-1))) g1)) := fun j hj q => by
    subst hj
    have hsl := stx_len (3 + k)
    refine ⟨(hS (3 + k) (by omega)).1.2.1, mu_cI (sp_index hS (by omega) (by omega)) hL ?_⟩
    by_cases hx : ixO (stx (3 + k)) (B t.2.1) < (stx (3 + k)).length
    · rw [if_pos hx]
      have hm := x1.mpr hx
      rw [cif_t ⟨q, hm⟩, x2 hm] at hQ
      refine ⟨fun _ => ?_, fun z => absurd (le0_n (by omega)) z⟩
      rw [show (10000 : Int32) + nI (ixO (stx (3 + k)) (B t.2.1)) = nI (10000 + ixO (stx (3 + k)) (B t.2.1)) from nI_add 10000 _]
      exact hQ
    · rw [if_neg hx]
      rw [cif_f (fun z => hx (x1.mp z.2))] at hQ
      exact ⟨fun z => absurd z hm1, fun _ => hQ⟩
  refine ⟨rfl, fun q0 => ⟨rfl, fun q1 => ⟨rfl, rfl, no, fun q => ?_⟩, fun q1 => ⟨rfl, rfl, no, fun q => ?_⟩⟩, fun q0 => ⟨rfl, rfl, no, fun q => ?_⟩⟩
  · exact ⟨rfl, rfl, rfl, hin, yes 5 (by omega) (Classical.not_not.mp q)⟩
  · exact ⟨rfl, rfl, rfl, hin, yes 4 (by omega) (Classical.not_not.mp q)⟩
  · exact ⟨rfl, rfl, rfl, hin, yes 3 (by omega) (Classical.not_not.mp q)⟩
/-- the word after this one -/
theorem rd_nx {K : mu_H → Prop} (hC : cl_L w x g) (hR : rd_C x B n key s g) (hT : tkW B n s.1) (hL : mu_fit2 L g) (hK : ∀ g', mu_fr (rdW x) g g' → rd_C x B n key (nx B n s) g' → K g') : mu_callV w mm_X3_goOn (d + 1) L [.ref (x + 133)] g K := by
  obtain ⟨r1, r2, r3, r4, r5, r6⟩ := hR
  refine mu_cVp (sp_X3_goOn hC r1 r2 hT.2.1 hT.2.2.1) hL (fun g' h _ _ => ?_)
  obtain ⟨f, t⟩ := h
  have o : ∀ k, ¬ (k = 3 ∨ k = 4 ∨ k = 8) → mu_I g' (x + 133) k = mu_I g (x + 133) k := fun k hk => f.2.2.2.2.2 _ _ (by unfold goW; omega)
  refine hK g' (f2_fr f (fun a k q => Or.inl q.1)) ⟨tb_f2 r1 f (by unfold goW; omega) (fun k => by unfold goW; omega), t, by rw [o 5 (by omega)]; exact r3, by rw [o 6 (by omega)]; exact r4, by rw [o 7 (by omega)]; exact r5, fun i hi => ?_⟩
  rw [f.2.2.2.2.2 _ _ (by unfold goW; omega)]
  exact r6 i hi
/-- a step is noted -/
theorem rd_nt {K : mu_H → Prop} {a v z : Int32} (hC : cl_L w x g) (hR : rd_C x B n key s g) (hc : s.2.2.2.1 < 96) (hz : z = enP key a v) (hL : mu_fit2 L g) (hK : ∀ g', mu_fr (rdW x) g g' → rd_C x B n key (emt s a v) g' → K g') : mu_callV w mm_X3_note d L [.ref (x + 133), .int z] g K := by
  obtain ⟨r1, r2, r3, r4, r5, r6⟩ := hR
  refine mu_cV (sp_X3_note hC r4 hc) hL (hK _ (mu_fr_tr (mu_fr_sI (Or.inr rfl)) (mu_fr_sI (Or.inl rfl))) ?_)
  have o : ∀ k, k ≠ 6 → mu_I (mu_sI (mu_sI g (x + 134) s.2.2.2.1 z) (x + 133) 6 (nI (s.2.2.2.1 + 1))) (x + 133) k = mu_I g (x + 133) k := fun k hk => by rw [I_sI_k _ _ _ hk, I_sI_a _ _ _ _ (by omega)]
  refine ⟨⟨r1.1, by rw [o 2 (by omega)]; exact r1.2.1, fun i hi => ?_⟩, ⟨by rw [o 3 (by omega)]; exact r2.1, by rw [o 4 (by omega)]; exact r2.2.1, by rw [o 8 (by omega)]; exact r2.2.2⟩, by rw [o 5 (by omega)]; exact r3, I_sI_same _ _ _ _, by rw [o 7 (by omega)]; exact r5, fun i hi => ?_⟩
  · rw [I_sI_a _ _ _ _ (by omega), I_sI_a _ _ _ _ (by omega)]; exact r1.2.2 i hi
  · have hi' : i < s.2.2.2.1 + 1 := hi
    show _ = enP key (upd s.2.1 s.2.2.2.1 a i) (upd s.2.2.1 s.2.2.2.1 v i)
    rw [I_sI_a _ _ _ _ (by omega)]
    by_cases e : i = s.2.2.2.1
    · rw [e, I_sI_same, pk_us, pk_us]; exact hz
    · rw [I_sI_k _ _ _ e, pk_un e, pk_un e]; exact r6 i (by omega)
/-- one number or name more -/
theorem rd_lf (hR : rd_C x B n key s g) : rd_C x B n key (lf s) (mu_sI g (x + 133) 7 (nI (s.2.2.2.2 + 1))) := by
  obtain ⟨r1, r2, r3, r4, r5, r6⟩ := hR
  have o : ∀ k, k ≠ 7 → mu_I (mu_sI g (x + 133) 7 (nI (s.2.2.2.2 + 1))) (x + 133) k = mu_I g (x + 133) k := fun k hk => I_sI_k _ _ _ hk
  refine ⟨⟨r1.1, by rw [o 2 (by omega)]; exact r1.2.1, fun i hi => ?_⟩, ⟨by rw [o 3 (by omega)]; exact r2.1, by rw [o 4 (by omega)]; exact r2.2.1, by rw [o 8 (by omega)]; exact r2.2.2⟩, by rw [o 5 (by omega)]; exact r3, by rw [o 6 (by omega)]; exact r4, I_sI_same _ _ _ _, fun i hi => ?_⟩
  · rw [I_sI_a _ _ _ _ (by omega)]; exact r1.2.2 i hi
  · rw [I_sI_a _ _ _ _ (by omega)]; exact r6 i hi
theorem str_fr {A : Nat → Prop} (hS : str_L w g) (hf : mu_fr A g g1) (hA : ∀ a, A a → w.1 < a) : str_L w g1 := fun j hj => by
  obtain ⟨⟨a1, a2, a3⟩, b1, b2, b3, b4⟩ := hS j hj
  rw [hf.1, hf.2.1, hf.2.2.1, hf.2.2.2.2.2 (mu_sb w j) (fun q => absurd (hA _ q) (by omega)), hf.2.2.2.2.2 (mu_R g (mu_sb w j) 0) (fun q => absurd (hA _ q) (by omega))]
  exact ⟨⟨a1, a2, a3⟩, b1, b2, b3, b4⟩
end Rg
