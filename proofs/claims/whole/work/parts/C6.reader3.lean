/-! CLIENTS: the class's reader: signs, numbers, names, keys, notes -/
theorem nI_sb {a e : Nat} (h : a ≤ e) : nI e - nI a = nI (e - a) := by
  have := nI_add (e - a) a
  rw [Nat.sub_add_cancel h] at this
  rw [← this, Int32.add_sub_cancel]
def isW (B : Nat → Nat) (t : TK) (j : Nat) : Prop := t.2.2 - t.2.1 = (stx j).length ∧ ∀ i, i < (stx j).length → B (t.2.1 + i) = (stx j).getD i 0
noncomputable def keyO (B : Nat → Nat) (t : TK) : Int32 := cif (t.1 = 1) (cif (isW B t 0) 0 (cif (isW B t 1) 1 (cif (isW B t 2) 2 (-1)))) (-1)
section Re
variable {w : mu_O} {d x n : Nat} {g g1 : mu_H} {B : Nat → Nat} {t : TK} {key : Int32}
theorem sp_X3_isSign {c : Nat} (hC : cl_L w x g) (hB : tb_C x B n g) (hk : tk_C x t g) (hT : tkW B n t) (hc : c < 128) : mu_met w mm_X3_isSign d [.ref (x + 133), .int (nI c)] g (some (.int (cI (t.1 = 3 ∧ B t.2.1 = c)))) g := by
  refine mu_mk mk_X3_isSign rfl rfl rfl (fun L hL Q hQ => fm_X3_isSign_0 ?_)
  obtain ⟨c1, c2, -⟩ := cl_6 hC
  obtain ⟨k3, k4, k8⟩ := hk
  have h4 := hT.2.2.1
  have hn := hB.1
  have n3 : nI t.1 = (3 : Int32) ↔ t.1 = 3 := nI_eq (b := 3) (by omega) (by decide)
  have h0 := cq hQ
  rw [c1, c2, k4, k8, n3, (cl_5 hC).1, (cl_5 hC).2]
  refine ⟨rfl, fun q => ⟨Or.inl rfl, h0.2 (fun z => q z.1)⟩, fun q => ?_⟩
  have q' := Classical.not_not.mp q
  have hl := hT.2.2.2.1 (by omega)
  have hl2 := hT.2.1
  obtain ⟨b1, b2⟩ := hB.2.2 t.2.1 (by omega)
  rw [nI_clamp (by omega), b2, bz_eq b1 hc]
  exact ⟨rfl, rfl, rfl, mu_in_n (by omega) (by omega), fun q2 => ⟨Or.inl rfl, h0.2 (fun z => q2 z.2)⟩, fun q2 => ⟨Or.inr rfl, h0.1 ⟨q', Classical.not_not.mp q2⟩⟩⟩
theorem sp_X3_isJoinOf {m : Nat} (hC : cl_L w x g) (hB : tb_C x B n g) (hk : tk_C x t g) (hT : tkW B n t) (hm : m ≤ 4) : mu_met w mm_X3_isJoinOf d [.ref (x + 133), .int (nI m)] g (some (.int (cI (t.1 = 3 ∧ B t.2.1 ∈ sgs m)))) g := by
  refine mu_mk mk_X3_isJoinOf rfl rfl rfl (fun L hL Q hQ => fm_X3_isJoinOf_0 ?_)
  obtain ⟨c1, c2, -⟩ := cl_6 hC
  obtain ⟨k3, k4, k8⟩ := hk
  have h4 := hT.2.2.1
  have hn := hB.1
  have n3 : nI t.1 = (3 : Int32) ↔ t.1 = 3 := nI_eq (b := 3) (by omega) (by decide)
  have h0 := cq hQ
  clear hQ
  rw [c1, c2, k4, k8, n3, (cl_5 hC).1, (cl_5 hC).2]
  refine ⟨rfl, fun q => ?_, fun q => ⟨Or.inl rfl, h0.2 (fun z => q z.1)⟩⟩
  have hl := hT.2.2.2.1 (by omega)
  have hl2 := hT.2.1
  obtain ⟨b1, b2⟩ := hB.2.2 t.2.1 (by omega)
  have e : ∀ c : Nat, c < 128 → (bz (B t.2.1) = nI c ↔ B t.2.1 = c) := fun c hc => bz_eq b1 hc
  have e42 : bz (B t.2.1) = (42 : Int32) ↔ B t.2.1 = 42 := e 42 (by decide)
  have e47 : bz (B t.2.1) = (47 : Int32) ↔ B t.2.1 = 47 := e 47 (by decide)
  have e124 : bz (B t.2.1) = (124 : Int32) ↔ B t.2.1 = 124 := e 124 (by decide)
  have e38 : bz (B t.2.1) = (38 : Int32) ↔ B t.2.1 = 38 := e 38 (by decide)
  have e60 : bz (B t.2.1) = (60 : Int32) ↔ B t.2.1 = 60 := e 60 (by decide)
  have e61 : bz (B t.2.1) = (61 : Int32) ↔ B t.2.1 = 61 := e 61 (by decide)
  have e62 : bz (B t.2.1) = (62 : Int32) ↔ B t.2.1 = 62 := e 62 (by decide)
  have e43 : bz (B t.2.1) = (43 : Int32) ↔ B t.2.1 = 43 := e 43 (by decide)
  have e45 : bz (B t.2.1) = (45 : Int32) ↔ B t.2.1 = 45 := e 45 (by decide)
  rw [nI_clamp (by omega), b2, e42, e47, e124, e38, e60, e61, e62, e43, e45, nI_toInt (by omega)]
  have in_ : mu_in (nI t.2.1) 96 := mu_in_n (by omega) (by omega)
  rcases (show m = 0 ∨ m = 1 ∨ m = 2 ∨ m = 3 ∨ m = 4 by omega) with rfl | rfl | rfl | rfl | rfl
  · have hs : ∀ c, c ∈ sgs 0 ↔ c = 124 := fun c => by unfold sgs; simp
    rw [hs] at h0
    grind
  · have hs : ∀ c, c ∈ sgs 1 ↔ c = 38 := fun c => by unfold sgs; simp
    rw [hs] at h0
    grind
  · have hs : ∀ c, c ∈ sgs 2 ↔ c = 60 ∨ c = 61 ∨ c = 62 := fun c => by unfold sgs; simp
    rw [hs] at h0
    grind
  · have hs : ∀ c, c ∈ sgs 3 ↔ c = 43 ∨ c = 45 := fun c => by unfold sgs; simp
    rw [hs] at h0
    grind
  · have hs : ∀ c, c ∈ sgs 4 ↔ c = 42 ∨ c = 47 := fun c => by unfold sgs; simp
    rw [hs] at h0
    grind
theorem sp_X3_note {c : Nat} {v : Int32} (hC : cl_L w x g) (h6 : mu_I g (x + 133) 6 = nI c) (hc : c < 96) : mu_met w mm_X3_note d [.ref (x + 133), .int v] g none (mu_sI (mu_sI g (x + 134) c v) (x + 133) 6 (nI (c + 1))) := by
  refine mu_mk mk_X3_note rfl rfl rfl (fun L hL Q hQ => fm_X3_note_0 ?_)
  obtain ⟨c1, c2, c3, c4, c5⟩ := cl_6 hC
  have hw := cl_w hC
  have e : (Int32.ofNat 96) ≤ nI c ↔ 96 ≤ c := nI_leI (a := 96) (by decide) (by omega)
  rw [c1, c3, c4, c5, h6, e, I_sI_a _ _ _ _ (by omega), h6, nI_clamp (by omega), show (nI c : Int32) + 1 = nI (c + 1) from nI_add _ 1]
  exact ⟨rfl, rfl, ⟨by decide, by decide⟩, fun q => absurd q (by omega), fun _ => ⟨rfl, rfl, by omega, rfl, mu_in_n hc (by omega), rfl, rfl, hQ⟩⟩
theorem bz_dg {b v : Nat} (h : 48 ≤ b ∧ b ≤ 57) : (10 : Int32) * nI v + (bz b - 48) = nI (10 * v + (b - 48)) := by
  have e1 : bz b = nI b := bz_lo (by omega)
  have e2 : nI b - 48 = nI (b - 48) := nI_sb (a := 48) h.1
  rw [e1, e2, li_n, pk_mul, nI_add]
theorem sp_X3_numberHere (hC : cl_L w x g) (hB : tb_C x B n g) (hk : tk_C x t g) (hT : tkW B n t) (h2 : t.1 = 2) : mu_met w mm_X3_numberHere d [.ref (x + 133)] g (some (.int (if t.2.2 - t.2.1 ≤ 4 then nI (nmv B t.2.1 (t.2.2 - t.2.1)) else -1))) g := by
  refine mu_mk mk_X3_numberHere rfl rfl rfl (fun L hL Q hQ => fm_X3_numberHere_0 ?_)
  obtain ⟨c1, c2, -⟩ := cl_6 hC
  obtain ⟨k3, k4, k8⟩ := hk
  have hn := hB.1
  have hl := hT.2.2.2.1 (by omega)
  have hl2 := hT.2.1
  have e4 : nI (t.2.2 - t.2.1) ≤ (4 : Int32) ↔ t.2.2 - t.2.1 ≤ 4 := nI_leI (b := 4) (by omega) (by decide)
  rw [c1, k3, k8, nI_sb (by omega), e4]
  refine ⟨rfl, rfl, fun q => ⟨rfl, ?_⟩, fun q => ?_⟩
  · rw [if_pos q] at hQ
    refine lp (n := t.2.2 - t.2.1) (P := fun j => mu_go w mm_X3_numberHere d L Q 22 [some (.ref (x + 133)), some (.int (nI (nmv B t.2.1 j))), some (.int (nI (t.2.1 + j)))] [] g) (fm_X3_numberHere_22 ?_) (fun j hj ih => fm_X3_numberHere_22 ?_)
    · rw [show t.2.1 + (t.2.2 - t.2.1) = t.2.2 by omega, k3]
      exact ⟨c1, fun _ => hQ, fun q => absurd (Int32.le_refl _) q⟩
    · obtain ⟨b1, b2⟩ := hB.2.2 (t.2.1 + j) (by omega)
      have hd := hT.2.2.2.2.2.2.1 h2 (t.2.1 + j) (by omega) (by omega)
      rw [c1, c2, k3, (cl_5 hC).1, (cl_5 hC).2, nI_clamp (by omega), b2, bz_dg hd, nI_leI (by omega) (by omega), show (nI (t.2.1 + j) : Int32) + 1 = nI (t.2.1 + (j + 1)) from nI_add _ 1]
      exact ⟨rfl, fun q => absurd q (by omega), fun _ => ⟨rfl, rfl, mu_in_n (by omega) (by omega), ih⟩⟩
  · rw [if_neg q] at hQ; exact hQ
theorem sp_X3_isHere {j : Nat} (hC : cl_L w x g) (hS : str_L w g) (hB : tb_C x B n g) (hk : tk_C x t g) (hT : tkW B n t) (hj : j < 6) : mu_met w mm_X3_isHere (d + 5) [.ref (x + 133), .ref (mu_sb w j)] g (some (.int (cI (isW B t j)))) g := by
  refine mu_mk mk_X3_isHere rfl rfl rfl (fun L hL Q hQ => fm_X3_isHere_0 ?_)
  obtain ⟨c1, c2, -⟩ := cl_6 hC
  obtain ⟨k3, k4, k8⟩ := hk
  have hn := hB.1
  have hl := hT.1
  have hl2 := hT.2.1
  have hsl := stx_len j
  have hst := (hS j hj).1.2.1
  have h0 := cq hQ
  rw [c1, k3, k8, nI_sb (by omega)]
  refine ⟨rfl, rfl, hst, mu_cI (sp_len hS hj) hL ?_⟩
  rw [nI_eq (by omega) (by omega)]
  refine ⟨fun q => ?_, fun q => ⟨Or.inl rfl, h0.2 (fun z => q z.1)⟩⟩
  refine lp (n := (stx j).length) (P := fun i => (∀ z, z < i → B (t.2.1 + z) = (stx j).getD z 0) → mu_go w mm_X3_isHere (d + 5) L Q 20 [some (.ref (x + 133)), some (.ref (mu_sb w j)), some (.int (nI i))] [] g) (fun hz => fm_X3_isHere_20 ⟨hst, mu_cI (sp_len hS hj) hL ⟨fun _ => ⟨Or.inr rfl, h0.1 ⟨q, hz⟩⟩, fun q => absurd (Int32.le_refl _) q⟩⟩) (fun i hi ih hz => fm_X3_isHere_20 ⟨hst, mu_cI (sp_len hS hj) hL ?_⟩) (fun z hz => absurd hz (Nat.not_lt_zero z))
  obtain ⟨b1, b2⟩ := hB.2.2 (t.2.1 + i) (by omega)
  have hch := stx_lt (k := i) hj
  rw [c1, c2, k8, (cl_5 hC).1, (cl_5 hC).2, nI_leI (by omega) (by omega), nI_add, nI_clamp (by omega), b2, show (nI i : Int32) + 1 = nI (i + 1) from nI_add _ 1]
  refine ⟨fun q => absurd q (by omega), fun _ => ⟨rfl, rfl, rfl, mu_in_n (by omega) (by omega), hst, mu_cI (sp_char hS hj hi) hL ?_⟩⟩
  rw [bz_eq b1 hch]
  refine ⟨fun q2 => ih (fun z hz2 => ?_), fun q2 => ⟨Or.inl rfl, h0.2 (fun z => q2 (z.2 i hi))⟩⟩
  by_cases e : z = i
  · rw [e]; exact q2
  · exact hz z (by omega)
theorem sp_X3_keyHere (hC : cl_L w x g) (hS : str_L w g) (hB : tb_C x B n g) (hk : tk_C x t g) (hT : tkW B n t) : mu_met w mm_X3_keyHere (d + 6) [.ref (x + 133)] g (some (.int (keyO B t))) g := by
  refine mu_mk mk_X3_keyHere rfl rfl rfl (fun L hL Q hQ => fm_X3_keyHere_0 ?_)
  obtain ⟨c1, c2, -⟩ := cl_6 hC
  have h4 := hT.2.2.1
  have n1 : nI t.1 = (1 : Int32) ↔ t.1 = 1 := nI_eq (b := 1) (by omega) (by decide)
  unfold keyO at hQ
  rw [c1, hk.2.1, n1]
  refine ⟨rfl, fun q => ⟨rfl, mu_cI (sp_X3_isHere hC hS hB hk hT (by omega)) hL ?_⟩, fun q => ?_⟩
  · rw [cif_t q] at hQ
    rw [cI_0]
    refine ⟨fun q0 => ⟨c1, mu_cI (sp_X3_isHere hC hS hB hk hT (by omega)) hL ?_⟩, fun q0 => ?_⟩
    · rw [cif_f q0] at hQ
      rw [cI_0]
      refine ⟨fun q1 => ⟨c1, mu_cI (sp_X3_isHere hC hS hB hk hT (by omega)) hL ?_⟩, fun q1 => ?_⟩
      · rw [cif_f q1] at hQ
        rw [cI_0]
        refine ⟨fun q2 => ?_, fun q2 => ?_⟩
        · rw [cif_f q2] at hQ; exact hQ
        · rw [cif_t (Classical.not_not.mp q2)] at hQ; exact hQ
      · rw [cif_t (Classical.not_not.mp q1)] at hQ; exact hQ
    · rw [cif_t (Classical.not_not.mp q0)] at hQ; exact hQ
  · rw [cif_f q] at hQ; exact hQ
theorem ix_let {k c : Nat} (hk : k < 3) : (c ∈ tx_let (nI k) ↔ ixO (stx (3 + k)) c < (stx (3 + k)).length) ∧ (c ∈ tx_let (nI k) → tx_ix (nI k) c = ixO (stx (3 + k)) c) := by
  have f1 : ∀ (l : List Nat) (i : Nat), i < l.length → l.getD i 0 = c → (∀ j, j < i → ¬ l.getD j 0 = c) → ixO l c = i := fun l i h1 h2 h3 => fsN_at (c := fun z => l.getD z 0 = c) (i := i) h2 h3 h1
  have f2 : ∀ (l : List Nat), (∀ j, j < l.length → ¬ l.getD j 0 = c) → ixO l c = l.length := fun l h => fsN_no h
  rcases (show k = 0 ∨ k = 1 ∨ k = 2 by omega) with rfl | rfl | rfl
  · have e1 : tx_let (nI 0) = [115, 116, 119] := if_pos rfl
    have e2 : tx_ix (nI 0) c = if c = 115 then 0 else if c = 116 then 1 else 2 := if_pos rfl
    have e3 : stx (3 + 0) = [115, 116, 119] := rfl
    rw [e1, e2, e3]
    by_cases c1 : c = 115
    · rw [f1 [115, 116, 119] 0 (by decide) c1.symm (fun j hj => by omega), c1]; decide
    · by_cases c2 : c = 116
      · rw [f1 [115, 116, 119] 1 (by decide) c2.symm (fun j hj => by rw [show j = 0 by omega]; exact fun q => c1 q.symm), c2]; decide
      · by_cases c3 : c = 119
        · rw [f1 [115, 116, 119] 2 (by decide) c3.symm (fun j hj => by rcases (show j = 0 ∨ j = 1 by omega) with rfl | rfl; exact fun q => c1 q.symm; exact fun q => c2 q.symm), c3]; decide
        · rw [f2 [115, 116, 119] (fun j hj => by rcases (show j = 0 ∨ j = 1 ∨ j = 2 by have : j < 3 := hj; omega) with rfl | rfl | rfl; exact fun q => c1 q.symm; exact fun q => c2 q.symm; exact fun q => c3 q.symm)]
          simp [c1, c2, c3]
  · have e1 : tx_let (nI 1) = [107, 115, 98, 97] := rfl
    have e2 : tx_ix (nI 1) c = if c = 107 then 0 else if c = 115 then 1 else if c = 98 then 2 else 3 := rfl
    have e3 : stx (3 + 1) = [107, 115, 98, 97] := rfl
    rw [e1, e2, e3]
    by_cases c1 : c = 107
    · rw [f1 [107, 115, 98, 97] 0 (by decide) c1.symm (fun j hj => by omega), c1]; decide
    · by_cases c2 : c = 115
      · rw [f1 [107, 115, 98, 97] 1 (by decide) c2.symm (fun j hj => by rw [show j = 0 by omega]; exact fun q => c1 q.symm), c2]; decide
      · by_cases c3 : c = 98
        · rw [f1 [107, 115, 98, 97] 2 (by decide) c3.symm (fun j hj => by rcases (show j = 0 ∨ j = 1 by omega) with rfl | rfl; exact fun q => c1 q.symm; exact fun q => c2 q.symm), c3]; decide
        · by_cases c4 : c = 97
          · rw [f1 [107, 115, 98, 97] 3 (by decide) c4.symm (fun j hj => by rcases (show j = 0 ∨ j = 1 ∨ j = 2 by omega) with rfl | rfl | rfl; exact fun q => c1 q.symm; exact fun q => c2 q.symm; exact fun q => c3 q.symm), c4]; decide
          · rw [f2 [107, 115, 98, 97] (fun j hj => by rcases (show j = 0 ∨ j = 1 ∨ j = 2 ∨ j = 3 by have : j < 4 := hj; omega) with rfl | rfl | rfl | rfl; exact fun q => c1 q.symm; exact fun q => c2 q.symm; exact fun q => c3 q.symm; exact fun q => c4 q.symm)]
            simp [c1, c2, c3, c4]
  · have e1 : tx_let (nI 2) = [110, 115] := rfl
    have e2 : tx_ix (nI 2) c = if c = 110 then 0 else 1 := rfl
    have e3 : stx (3 + 2) = [110, 115] := rfl
    rw [e1, e2, e3]
    by_cases c1 : c = 110
    · rw [f1 [110, 115] 0 (by decide) c1.symm (fun j hj => by omega), c1]; decide
    · by_cases c2 : c = 115
      · rw [f1 [110, 115] 1 (by decide) c2.symm (fun j hj => by rw [show j = 0 by omega]; exact fun q => c1 q.symm), c2]; decide
      · rw [f2 [110, 115] (fun j hj => by rcases (show j = 0 ∨ j = 1 by have : j < 2 := hj; omega) with rfl | rfl; exact fun q => c1 q.symm; exact fun q => c2 q.symm)]
        simp [c1, c2]
end Re
