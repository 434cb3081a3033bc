/-! CLIENTS: the reference's keys; the whole reading -/
section Rk
variable {w : mu_O} {d y n b : Nat} {g g1 : mu_H} {B : Nat → Nat} {t : TK} {s0 : Nat → Int32}
theorem isW_0 : isW B t 0 ↔ t.2.2 - t.2.1 = 4 ∧ B t.2.1 = 108 ∧ B (t.2.1 + 1) = 97 ∧ B (t.2.1 + 2) = 116 ∧ B (t.2.1 + 3) = 101 := by
  refine ⟨fun h => ⟨h.1, h.2 0 (by decide), h.2 1 (by decide), h.2 2 (by decide), h.2 3 (by decide)⟩, fun h => ⟨h.1, fun i hi => ?_⟩⟩
  rcases (show i = 0 ∨ i = 1 ∨ i = 2 ∨ i = 3 by have : i < 4 := hi; omega) with rfl | rfl | rfl | rfl
  · exact h.2.1
  · exact h.2.2.1
  · exact h.2.2.2.1
  · exact h.2.2.2.2
theorem isW_1 : isW B t 1 ↔ t.2.2 - t.2.1 = 3 ∧ B t.2.1 = 98 ∧ B (t.2.1 + 1) = 97 ∧ B (t.2.1 + 2) = 114 := by
  refine ⟨fun h => ⟨h.1, h.2 0 (by decide), h.2 1 (by decide), h.2 2 (by decide)⟩, fun h => ⟨h.1, fun i hi => ?_⟩⟩
  rcases (show i = 0 ∨ i = 1 ∨ i = 2 by have : i < 3 := hi; omega) with rfl | rfl | rfl
  · exact h.2.1
  · exact h.2.2.1
  · exact h.2.2.2
theorem isW_2 : isW B t 2 ↔ t.2.2 - t.2.1 = 5 ∧ B t.2.1 = 104 ∧ B (t.2.1 + 1) = 111 ∧ B (t.2.1 + 2) = 117 ∧ B (t.2.1 + 3) = 114 ∧ B (t.2.1 + 4) = 115 := by
  refine ⟨fun h => ⟨h.1, h.2 0 (by decide), h.2 1 (by decide), h.2 2 (by decide), h.2 3 (by decide), h.2 4 (by decide)⟩, fun h => ⟨h.1, fun i hi => ?_⟩⟩
  rcases (show i = 0 ∨ i = 1 ∨ i = 2 ∨ i = 3 ∨ i = 4 by have : i < 5 := hi; omega) with rfl | rfl | rfl | rfl | rfl
  · exact h.2.1
  · exact h.2.2.1
  · exact h.2.2.2.1
  · exact h.2.2.2.2.1
  · exact h.2.2.2.2.2
theorem tkm_1 (hT : tkW B n t) : (nI (tkm t) = (1 : Int32)) ↔ t.1 = 1 := by
  have h4 := hT.2.2.1
  have : tkm t ≤ 4 ∧ (tkm t = 1 ↔ t.1 = 1) := by unfold tkm; split <;> omega
  exact (nI_eq (b := 1) (by omega) (by decide)).trans this.2
theorem wd_at (hB : tb_M y B n g) (hen : t.2.2 ≤ n) {j c : Nat} (hj : t.2.1 + j < t.2.2) (hc : c < 128) : mu_I g (y + 18) (t.2.1 + j) = nI c ↔ B (t.2.1 + j) = c := by
  obtain ⟨b1, b2⟩ := hB.2.2 (t.2.1 + j) (by omega)
  rw [b2, nI_eq (by omega) (by omega)]
theorem sp_word0 (hM : md_L w y g) (hB : tb_M y B n g) (hk : tk_M y B t g) (hT : tkW B n t) : mu_met w mm_X11_isWordAt d [.ref y, .int 108, .int 97, .int 116, .int 101] g (some (.int (cI (t.1 = 1 ∧ isW B t 0)))) g := by
  refine mu_mk mk_X11_isWordAt rfl rfl rfl (fun L hL Q hQ => fm_X11_isWordAt_0 ?_)
  have h0 := cq hQ
  rw [isW_0] at h0
  clear hQ
  have hn := hB.1
  have hae := hT.1
  have hen := hT.2.1
  have n4 : nI (t.2.2 - t.2.1) = (4 : Int32) ↔ t.2.2 - t.2.1 = 4 := nI_eq (b := 4) (by omega) (by decide)
  have e1 : (nI t.2.1 : Int32) + 1 = nI (t.2.1 + 1) := nI_add _ 1
  have e2 : (nI t.2.1 : Int32) + 2 = nI (t.2.1 + 2) := nI_add _ 2
  have e3 : (nI t.2.1 : Int32) + 3 = nI (t.2.1 + 3) := nI_add _ 3
  rw [md_T0 hM, hk.1, hk.2.1, hk.2.2.1, tkm_1 hT, nI_sb hae, n4, e1, e2, e3, md_R20 hM, md_T18 hM, md_N18 hM, nI_clamp (by omega), nI_clamp (by omega), nI_clamp (by omega), nI_clamp (by omega)]
  refine ⟨fun _ => ⟨rfl, fun q => ⟨Or.inl rfl, h0.2 (fun z => q z.1)⟩, fun q => ⟨rfl, rfl, fun q4 => ⟨Or.inl rfl, h0.2 (fun z => q4 z.2.1)⟩, fun q4' => ?_⟩⟩, fun q => absurd (by decide) q⟩
  have q4 := Classical.not_not.mp q4'
  have a0 : mu_I g (y + 18) t.2.1 = (108 : Int32) ↔ B t.2.1 = 108 := wd_at (j := 0) (c := 108) hB hen (by omega) (by decide)
  have a1 : mu_I g (y + 18) (t.2.1 + 1) = (97 : Int32) ↔ B (t.2.1 + 1) = 97 := wd_at (c := 97) hB hen (by omega) (by decide)
  have a2 : mu_I g (y + 18) (t.2.1 + 2) = (116 : Int32) ↔ B (t.2.1 + 2) = 116 := wd_at (c := 116) hB hen (by omega) (by decide)
  have a3 : mu_I g (y + 18) (t.2.1 + 3) = (101 : Int32) ↔ B (t.2.1 + 3) = 101 := wd_at (c := 101) hB hen (by omega) (by decide)
  rw [a0, a1, a2, a3]
  refine ⟨rfl, rfl, rfl, mu_in_n (by omega) (by omega), fun q0 => ⟨Or.inl rfl, h0.2 (fun z => q0 z.2.2.1)⟩, fun q0 => ⟨rfl, rfl, rfl, mu_in_n (by omega) (by omega), fun q1 => ⟨Or.inl rfl, h0.2 (fun z => q1 z.2.2.2.1)⟩, fun q1 => ⟨rfl, rfl, rfl, mu_in_n (by omega) (by omega), fun q2 => ⟨Or.inl rfl, h0.2 (fun z => q2 z.2.2.2.2.1)⟩, fun q2 => ⟨fun q => absurd q (by decide), fun _ => ⟨rfl, rfl, rfl, mu_in_n (by omega) (by omega), fun q3 => ⟨Or.inl rfl, h0.2 (fun z => q3 z.2.2.2.2.2)⟩, fun q3 => ⟨Or.inr rfl, h0.1 ⟨Classical.not_not.mp q, q4, Classical.not_not.mp q0, Classical.not_not.mp q1, Classical.not_not.mp q2, Classical.not_not.mp q3⟩⟩⟩⟩⟩⟩⟩
theorem sp_word1 (hM : md_L w y g) (hB : tb_M y B n g) (hk : tk_M y B t g) (hT : tkW B n t) : mu_met w mm_X11_isWordAt d [.ref y, .int 98, .int 97, .int 114, .int 0] g (some (.int (cI (t.1 = 1 ∧ isW B t 1)))) g := by
  refine mu_mk mk_X11_isWordAt rfl rfl rfl (fun L hL Q hQ => fm_X11_isWordAt_0 ?_)
  have h0 := cq hQ
  rw [isW_1] at h0
  clear hQ
  have hn := hB.1
  have hae := hT.1
  have hen := hT.2.1
  have n4 : nI (t.2.2 - t.2.1) = (3 : Int32) ↔ t.2.2 - t.2.1 = 3 := nI_eq (b := 3) (by omega) (by decide)
  have e1 : (nI t.2.1 : Int32) + 1 = nI (t.2.1 + 1) := nI_add _ 1
  have e2 : (nI t.2.1 : Int32) + 2 = nI (t.2.1 + 2) := nI_add _ 2
  refine ⟨fun q => absurd rfl q, fun _ => ?_⟩
  rw [md_T0 hM, hk.1, hk.2.1, hk.2.2.1, tkm_1 hT, nI_sb hae, n4, e1, e2, md_R20 hM, md_T18 hM, md_N18 hM, nI_clamp (by omega), nI_clamp (by omega), nI_clamp (by omega)]
  refine ⟨rfl, fun q => ⟨Or.inl rfl, h0.2 (fun z => q z.1)⟩, fun q => ⟨rfl, rfl, fun q4 => ⟨Or.inl rfl, h0.2 (fun z => q4 z.2.1)⟩, fun q4' => ?_⟩⟩
  have q4 := Classical.not_not.mp q4'
  have a0 : mu_I g (y + 18) t.2.1 = (98 : Int32) ↔ B t.2.1 = 98 := wd_at (j := 0) (c := 98) hB hen (by omega) (by decide)
  have a1 : mu_I g (y + 18) (t.2.1 + 1) = (97 : Int32) ↔ B (t.2.1 + 1) = 97 := wd_at (c := 97) hB hen (by omega) (by decide)
  have a2 : mu_I g (y + 18) (t.2.1 + 2) = (114 : Int32) ↔ B (t.2.1 + 2) = 114 := wd_at (c := 114) hB hen (by omega) (by decide)
  rw [a0, a1, a2]
  refine ⟨rfl, rfl, rfl, mu_in_n (by omega) (by omega), fun q0 => ⟨Or.inl rfl, h0.2 (fun z => q0 z.2.2.1)⟩, fun q0 => ⟨rfl, rfl, rfl, mu_in_n (by omega) (by omega), fun q1 => ⟨Or.inl rfl, h0.2 (fun z => q1 z.2.2.2.1)⟩, fun q1 => ⟨rfl, rfl, rfl, mu_in_n (by omega) (by omega), fun q2 => ⟨Or.inl rfl, h0.2 (fun z => q2 z.2.2.2.2)⟩, fun q2 => ⟨fun _ => ⟨Or.inr rfl, h0.1 ⟨Classical.not_not.mp q, q4, Classical.not_not.mp q0, Classical.not_not.mp q1, Classical.not_not.mp q2⟩⟩, fun q => absurd rfl q⟩⟩⟩⟩
theorem sp_word2 (hM : md_L w y g) (hB : tb_M y B n g) (hk : tk_M y B t g) (hT : tkW B n t) : mu_met w mm_X11_isLong d [.ref y, .int 104, .int 111, .int 117, .int 114, .int 115, .int 0] g (some (.int (cI (t.1 = 1 ∧ isW B t 2)))) g := by
  refine mu_mk mk_X11_isLong rfl rfl rfl (fun L hL Q hQ => fm_X11_isLong_0 ?_)
  have h0 := cq hQ
  rw [isW_2] at h0
  clear hQ
  have hn := hB.1
  have hae := hT.1
  have hen := hT.2.1
  have n4 : nI (t.2.2 - t.2.1) = (5 : Int32) ↔ t.2.2 - t.2.1 = 5 := nI_eq (b := 5) (by omega) (by decide)
  have e1 : (nI t.2.1 : Int32) + 1 = nI (t.2.1 + 1) := nI_add _ 1
  have e2 : (nI t.2.1 : Int32) + 2 = nI (t.2.1 + 2) := nI_add _ 2
  have e3 : (nI t.2.1 : Int32) + 3 = nI (t.2.1 + 3) := nI_add _ 3
  have e4 : (nI t.2.1 : Int32) + 4 = nI (t.2.1 + 4) := nI_add _ 4
  refine ⟨fun q => absurd rfl q, fun _ => ?_⟩
  rw [md_T0 hM, hk.1, hk.2.1, hk.2.2.1, tkm_1 hT, nI_sb hae, n4, e1, e2, e3, e4, md_R20 hM, md_T18 hM, md_N18 hM, nI_clamp (by omega), nI_clamp (by omega), nI_clamp (by omega), nI_clamp (by omega), nI_clamp (by omega)]
  refine ⟨rfl, fun q => ⟨Or.inl rfl, h0.2 (fun z => q z.1)⟩, fun q => ⟨rfl, rfl, fun q4 => ⟨Or.inl rfl, h0.2 (fun z => q4 z.2.1)⟩, fun q4' => ?_⟩⟩
  have q4 := Classical.not_not.mp q4'
  have a0 : mu_I g (y + 18) t.2.1 = (104 : Int32) ↔ B t.2.1 = 104 := wd_at (j := 0) (c := 104) hB hen (by omega) (by decide)
  have a1 : mu_I g (y + 18) (t.2.1 + 1) = (111 : Int32) ↔ B (t.2.1 + 1) = 111 := wd_at (c := 111) hB hen (by omega) (by decide)
  have a2 : mu_I g (y + 18) (t.2.1 + 2) = (117 : Int32) ↔ B (t.2.1 + 2) = 117 := wd_at (c := 117) hB hen (by omega) (by decide)
  have a3 : mu_I g (y + 18) (t.2.1 + 3) = (114 : Int32) ↔ B (t.2.1 + 3) = 114 := wd_at (c := 114) hB hen (by omega) (by decide)
  have a4 : mu_I g (y + 18) (t.2.1 + 4) = (115 : Int32) ↔ B (t.2.1 + 4) = 115 := wd_at (c := 115) hB hen (by omega) (by decide)
  rw [a0, a1, a2, a3, a4]
  refine ⟨rfl, rfl, rfl, mu_in_n (by omega) (by omega), fun q0 => ⟨Or.inl rfl, h0.2 (fun z => q0 z.2.2.1)⟩, fun q0 => ⟨rfl, rfl, rfl, mu_in_n (by omega) (by omega), fun q1 => ⟨Or.inl rfl, h0.2 (fun z => q1 z.2.2.2.1)⟩, fun q1 => ⟨rfl, rfl, rfl, mu_in_n (by omega) (by omega), fun q2 => ⟨Or.inl rfl, h0.2 (fun z => q2 z.2.2.2.2.1)⟩, fun q2 => ⟨rfl, rfl, rfl, mu_in_n (by omega) (by omega), fun q3 => ⟨Or.inl rfl, h0.2 (fun z => q3 z.2.2.2.2.2.1)⟩, fun q3 => ⟨rfl, rfl, rfl, mu_in_n (by omega) (by omega), fun q5 => ⟨Or.inl rfl, h0.2 (fun z => q5 z.2.2.2.2.2.2)⟩, fun q5 => ⟨fun _ => ⟨Or.inr rfl, h0.1 ⟨Classical.not_not.mp q, q4, Classical.not_not.mp q0, Classical.not_not.mp q1, Classical.not_not.mp q2, Classical.not_not.mp q3, Classical.not_not.mp q5⟩⟩, fun q => absurd rfl q⟩⟩⟩⟩⟩⟩
theorem sp_X11_key (hM : md_L w y g) (hB : tb_M y B n g) (hk : tk_M y B t g) (hT : tkW B n t) : mu_met w mm_X11_key (d + 1) [.ref y] g (some (.int (keyO B t))) g := by
  refine mu_mk mk_X11_key rfl rfl rfl (fun L hL Q hQ => fm_X11_key_0 ⟨md_T0 hM, mu_cI (sp_word0 hM hB hk hT) hL ?_⟩)
  unfold keyO at hQ
  by_cases h1 : t.1 = 1
  · rw [cif_t h1] at hQ
    rw [cI_0]
    refine ⟨fun q => ⟨md_T0 hM, mu_cI (sp_word1 hM hB hk hT) hL ?_⟩, fun q => ?_⟩
    · rw [cif_f (fun z => q ⟨h1, z⟩)] at hQ
      rw [cI_0]
      refine ⟨fun q1 => ⟨md_T0 hM, mu_cI (sp_word2 hM hB hk hT) hL ?_⟩, fun q1 => ?_⟩
      · rw [cif_f (fun z => q1 ⟨h1, z⟩)] at hQ
        rw [cI_0]
        refine ⟨fun q2 => ?_, fun q2 => ?_⟩
        · rw [cif_f (fun z => q2 ⟨h1, z⟩)] at hQ; exact hQ
        · rw [cif_t (Classical.not_not.mp q2).2] at hQ; exact hQ
      · rw [cif_t (Classical.not_not.mp q1).2] at hQ; exact hQ
    · rw [cif_t (Classical.not_not.mp q).2] at hQ; exact hQ
  · rw [cif_f h1] at hQ
    rw [cI_0]
    refine ⟨fun _ => ⟨md_T0 hM, mu_cI (sp_word1 hM hB hk hT) hL ?_⟩, fun q => absurd (fun z => h1 z.1) q⟩
    rw [cI_0]
    refine ⟨fun _ => ⟨md_T0 hM, mu_cI (sp_word2 hM hB hk hT) hL ?_⟩, fun q => absurd (fun z => h1 z.1) q⟩
    rw [cI_0]
    exact ⟨fun _ => hQ, fun q => absurd (fun z => h1 z.1) q⟩
theorem key_ok : keyO B t = -1 ∨ ∃ k, k < 3 ∧ keyO B t = nI k ∧ t.1 = 1 := by
  unfold keyO
  by_cases h1 : t.1 = 1
  · rw [cif_t h1]
    by_cases h2 : isW B t 0
    · rw [cif_t h2]; exact Or.inr ⟨0, by omega, rfl, h1⟩
    · rw [cif_f h2]
      by_cases h3 : isW B t 1
      · rw [cif_t h3]; exact Or.inr ⟨1, by omega, rfl, h1⟩
      · rw [cif_f h3]
        by_cases h4 : isW B t 2
        · rw [cif_t h4]; exact Or.inr ⟨2, by omega, rfl, h1⟩
        · rw [cif_f h4]; exact Or.inl rfl
  · rw [cif_f h1]; exact Or.inl rfl
end Rk
/-- the whole reading: the key's word, what comes of the rest -/
def tkA (B : Nat → Nat) (n : Nat) : TK := nxt B n (0, 0, 0)
def psA (B : Nat → Nat) (n : Nat) : PS := (nxt B n (tkA B n), fun _ => 0, fun _ => 0, 0, 0)
noncomputable def rdA (B : Nat → Nat) (n : Nat) : Bool × PS := prs B n (keyO B (tkA B n)) 700 0 0 0 (psA B n)
def gdA (B : Nat → Nat) (n : Nat) : Prop := ¬ keyO B (tkA B n) = -1 ∧ (rdA B n).1 = true ∧ (rdA B n).2.1.1 = 0
/-- the steps that were left behind -/
noncomputable def stA (B : Nat → Nat) (n : Nat) : PS := cif (keyO B (tkA B n) = -1) (tkA B n, fun _ => 0, fun _ => 0, 0, 0) (rdA B n).2
section Wr
variable {B : Nat → Nat} {n : Nat}
theorem tkA_ok : tkW B n (tkA B n) := (nxt_ok (t := (0, 0, 0)) (Nat.zero_le n)).1
theorem nxt_30 : nxt B n (3, 0, 0) = nxt B n (0, 0, 0) := by
  unfold nxt
  dsimp only
  split
  · rfl
  · split
    · rfl
    · rw [if_neg (by omega), if_neg (by omega)]
theorem psA_ok : tkW B n (psA B n).1 ∧ (tkA B n).2.2 ≤ (psA B n).1.2.1 := nxt_ok tkA_ok.2.1
theorem rdA_ok (hn : n ≤ 96) : prT B n (keyO B (tkA B n)) (psA B n) (rdA B n) := (pr_ok 700).1 0 0 0 (psA B n) (by omega) psA_ok.1 (by omega)
/-- a reading that is good gives a text that is one -/
theorem gd_tx (hn : n ≤ 96) (h : gdA B n) : ∃ k, k < 3 ∧ keyO B (tkA B n) = nI k ∧ tx_ok (rdA B n).2.2.1 (rdA B n).2.2.2.1 (rdA B n).2.2.2.2.1 (rdA B n).2.2.2.2.2 ∧ (rdA B n).2.2.2.2.1 < 96 ∧ ∀ i, i < (rdA B n).2.2.2.2.1 → stK (nI k) ((rdA B n).2.2.1 i) ((rdA B n).2.2.2.1 i) := by
  obtain ⟨h1, h2, h3⟩ := h
  rcases key_ok (B := B) (t := tkA B n) with e | ⟨k, k1, k2, k3⟩
  · exact absurd e h1
  · obtain ⟨t1, q1, x1⟩ := rdA_ok (B := B) hn
    obtain ⟨l1, e1, g1⟩ := x1 h2
    have hp := psA_ok (B := B) (n := n)
    have tl := tkA_ok (B := B) (n := n)
    have hpos := tl.2.2.2.1 (by omega)
    have b1 := t1.1
    have b2 := t1.2.1
    obtain ⟨a1, a2, a3, a4, a5⟩ := q1
    have c0 : (psA B n).2.2.2.1 = 0 := rfl
    have c1 : (psA B n).2.2.2.2 = 0 := rfl
    have h0 : htP (psA B n) = 0 := rfl
    have g1' : rf_ht (rdA B n).2.2.1 (rdA B n).2.2.2.1 (rdA B n).2.2.2.2.1 = 1 := by have : htP (rdA B n).2 = 0 + 1 := g1; exact this
    have lv := e1.2 _ (Nat.zero_le _) (Nat.le_refl _)
    rw [k2] at e1
    refine ⟨k, k1, k2, ⟨by omega, by omega, by omega, g1', fun j hj => ⟨?_, fun hj2 => ?_⟩⟩, by omega, fun i hi => (e1.1 i (Nat.zero_le _) hi).1⟩
    · have := e1.2 j (Nat.zero_le _) hj; omega
    · obtain ⟨s1, s2, s3⟩ := e1.1 j (Nat.zero_le _) hj2
      refine ⟨?_, fun q => ?_, fun q q2 => by have := s2 q q2; omega, fun q q2 => by have := s3 q q2; omega⟩
      · rcases s1 with s | s | s
        · exact Or.inl s.1
        · exact Or.inr (Or.inl s.1)
        · exact Or.inr (Or.inr s.1)
      · rcases s1 with s | s | s
        · rw [s.1] at q; exact absurd q (by decide)
        · obtain ⟨c, c1, c2⟩ := s.2
          refine ⟨c, ?_, c2⟩
          unfold tx_let at c1
          split at c1
          · simp at c1; omega
          · split at c1 <;> simp at c1 <;> omega
        · rw [s.1] at q; exact absurd q (by decide)
end Wr
