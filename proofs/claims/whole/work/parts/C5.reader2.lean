/-! CLIENTS: the class's reader: texts of before, names, keys -/
def stx : Nat → List Nat
  | 0 => [108, 97, 116, 101]
  | 1 => [98, 97, 114]
  | 2 => [104, 111, 117, 114, 115]
  | 3 => [115, 116, 119]
  | 4 => [107, 115, 98, 97]
  | _ => [110, 115]
/-- the text constants -/
def str_L (w : mu_O) (g : mu_H) : Prop := ∀ j, j < 6 → (mu_sb w j ≤ w.1 ∧ mu_T g (mu_sb w j) = 13 ∧ mu_I g (mu_sb w j) 1 = 0) ∧ mu_R g (mu_sb w j) 0 ≤ w.1 ∧ mu_T g (mu_R g (mu_sb w j) 0) = 21 ∧ mu_N g (mu_R g (mu_sb w j) 0) = (stx j).length ∧ ∀ k, k < (stx j).length → mu_I g (mu_R g (mu_sb w j) 0) k = nI ((stx j).getD k 0)
theorem ch_all : ∀ c : Fin 128, (((nI c.1 &&& 255).toUInt32 % 65536).toInt32) = nI c.1 ∧ ((bz c.1).toUInt32 % 65536).toInt32 = nI c.1 ∧ (nI c.1).toInt8.toInt32 = nI c.1 := by decide +kernel
theorem getD_lt : ∀ (l : List Nat) (k : Nat), (∀ c ∈ l, c < 128) → l.getD k 0 < 128
  | [], k, _ => by simp
  | c :: l, 0, h => h c List.mem_cons_self
  | c :: l, k + 1, h => getD_lt l k (fun z hz => h z (List.mem_cons_of_mem _ hz))
theorem stx_lt {j k : Nat} (hj : j < 6) : (stx j).getD k 0 < 128 := by
  refine getD_lt _ k ?_
  rcases (show j = 0 ∨ j = 1 ∨ j = 2 ∨ j = 3 ∨ j = 4 ∨ j = 5 by omega) with e | e | e | e | e | e <;> subst e <;> decide
theorem stx_len (j : Nat) : (stx j).length ≤ 5 ∧ 2 ≤ (stx j).length := by
  unfold stx
  split <;> decide
section Js
variable {w : mu_O} {d j k : Nat} {g : mu_H}
theorem sp_coder (hS : str_L w g) (hj : j < 6) : mu_met w mm_J0_coder_7d493 d [.ref (mu_sb w j)] g (some (.int 0)) g := by
  refine mu_mk mk_J0_coder_7d493 rfl rfl rfl (fun L hL Q hQ => fm_J0_coder_7d493_0 ⟨fun q => absurd q (by decide), fun _ => ?_⟩)
  obtain ⟨⟨-, t, c⟩, -⟩ := hS j hj
  rw [t, c]
  exact ⟨rfl, rfl, hQ⟩
theorem sp_latin (hS : str_L w g) (hj : j < 6) : mu_met w mm_J0_isLatin1_aae02 d [.ref (mu_sb w j)] g (some (.int 1)) g := by
  refine mu_mk mk_J0_isLatin1_aae02 rfl rfl rfl (fun L hL Q hQ => fm_J0_isLatin1_aae02_0 ⟨fun q => absurd q (by decide), fun _ => ?_⟩)
  obtain ⟨⟨-, t, c⟩, -⟩ := hS j hj
  rw [t, c]
  exact ⟨rfl, fun q => absurd rfl q, fun _ => ⟨Or.inr rfl, hQ⟩⟩
theorem sp_len (hS : str_L w g) (hj : j < 6) : mu_met w mm_J0_length_8abf5 (d + 1) [.ref (mu_sb w j)] g (some (.int (nI (stx j).length))) g := by
  refine mu_mk mk_J0_length_8abf5 rfl rfl rfl (fun L hL Q hQ => fm_J0_length_8abf5_0 ?_)
  obtain ⟨⟨-, t, c⟩, -, t2, n2, -⟩ := hS j hj
  rw [t, t2, n2]
  refine ⟨rfl, ⟨by decide, by decide⟩, rfl, mu_cI (sp_coder hS hj) hL ?_⟩
  rw [sb_shr0]
  exact hQ
theorem sp_check {v n : Nat} (hv : v < n) (hn : n < 2 ^ 31) : mu_met w mm_J0_checkIndex_df160 (d + 2) [.int (nI v), .int (nI n)] g none g := by
  refine mu_mk mk_J0_checkIndex_df160 rfl rfl rfl (fun L hL Q hQ => fm_J0_checkIndex_df160_0 (mu_cI (g' := g) (x := nI v) ?_ hL hQ))
  refine mu_mk mk_J3_checkIndex_8e157 rfl rfl rfl (fun L hL Q hQ => fm_J3_checkIndex_8e157_0 ⟨fun q => absurd q (lt0_n (by omega)), fun _ => ⟨fun _ => hQ, fun q => absurd ((nI_ltI (by omega) hn).mpr hv) q⟩⟩)
theorem sp_char (hS : str_L w g) (hj : j < 6) (hk : k < (stx j).length) : mu_met w mm_J0_charAt_5068e (d + 4) [.ref (mu_sb w j), .int (nI k)] g (some (.int (nI ((stx j).getD k 0)))) g := by
  have hl := stx_len j
  have hc := stx_lt (k := k) hj
  refine mu_mk mk_J0_charAt_5068e rfl rfl rfl (fun L hL Q hQ => fm_J0_charAt_5068e_0 ?_)
  obtain ⟨⟨-, t, c⟩, -, t2, n2, ch⟩ := hS j hj
  have hnar : narrow .char (.int (nI ((stx j).getD k 0))) = .int (nI ((stx j).getD k 0)) := (pk_charN (by omega)).1
  refine ⟨t, mu_cI (sp_latin hS hj) hL ⟨fun q => absurd q (by decide), fun _ => ⟨t, mu_cI (g' := g) (x := nI ((stx j).getD k 0)) ?_ hL ⟨hnar, hQ⟩⟩⟩⟩
  refine mu_mk mk_J1_charAt_3b067 rfl rfl rfl (fun L hL Q hQ => fm_J1_charAt_3b067_0 ?_)
  rw [t2, n2]
  refine ⟨⟨by decide, by decide⟩, mu_cV (sp_check hk (by omega)) hL ?_⟩
  rw [t2, n2, nI_clamp (by omega), ch k hk, (ch_all ⟨_, hc⟩).1]
  exact ⟨rfl, mu_in_n hk (by omega), hnar, hQ⟩
/-- where a character stands in a text of before -/
noncomputable def ixO (l : List Nat) (c : Nat) : Nat := fsN (fun i => l.getD i 0 = c) l.length
theorem sp_index {c : Nat} (hS : str_L w g) (hj : j < 6) (hc : c < 128) : mu_met w mm_J0_indexOf_0f7a4 (d + 4) [.ref (mu_sb w j), .int (nI c)] g (some (.int (if ixO (stx j) c < (stx j).length then nI (ixO (stx j) c) else -1))) g := by
  have hl := stx_len j
  obtain ⟨⟨-, t, cc⟩, -, t2, n2, ch⟩ := hS j hj
  refine mu_mk mk_J0_indexOf_0f7a4 rfl rfl rfl (fun L hL Q hQ => fm_J0_indexOf_0f7a4_0 ⟨t, mu_cI (g' := g) ?_ hL hQ⟩)
  clear hQ hL L Q
  refine mu_mk mk_J0_indexOf_7cf53 rfl rfl rfl (fun L hL Q hQ => fm_J0_indexOf_7cf53_0 ⟨t, mu_cI (sp_latin hS hj) hL ⟨fun q => absurd q (by decide), fun _ => ⟨t, t, mu_cI (sp_len hS hj) hL (mu_cI (g' := g) ?_ hL hQ)⟩⟩⟩)
  clear hQ hL L Q
  refine mu_mk mk_J1_indexOf_4cfef rfl rfl rfl (fun L hL Q hQ => fm_J1_indexOf_4cfef_0 (mu_cI (g' := g) (x := 1) ?_ hL ⟨fun _ => ?_, fun q => absurd (by decide) q⟩))
  · refine mu_mk mk_J1_canEncode_9a6ad rfl rfl rfl (fun L hL Q hQ => fm_J1_canEncode_9a6ad_0 ⟨fun q => absurd q (lt0_n (by omega)), fun _ => ⟨fun q => ?_, fun _ => ⟨Or.inr rfl, hQ⟩⟩⟩)
    have := (nI_ltI (a := 255) (by decide) (by omega)).mp q
    omega
  · have e1 : mu_max (0 : Int32) 0 = nI 0 := rfl
    have e2 : mu_min (nI (stx j).length) (Int32.ofNat (stx j).length) = nI (stx j).length := by
      show mu_min (nI _) (nI _) = _
      rw [mn_n (by omega) (by omega), Nat.min_self]
    rw [t2, n2, e1, e2]
    refine ⟨⟨by decide, by decide⟩, fun _ => mu_cI (g' := g) ?_ hL hQ, fun q => absurd ((nI_ltI (by omega) (by omega)).mpr (by omega)) q⟩
    clear hQ hL L Q
    refine mu_mk mk_J1_indexOfChar_4cfef rfl rfl rfl (fun L hL Q hQ => fm_J1_indexOfChar_4cfef_0 ?_)
    rw [(ch_all ⟨c, hc⟩).2.2]
    refine lp (n := (stx j).length) (P := fun i => (∀ z, z < i → ¬ (stx j).getD z 0 = c) → mu_go w mm_J1_indexOfChar_4cfef _ L Q 7 [some (.ref (mu_R g (mu_sb w j) 0)), none, none, some (.int (nI (stx j).length)), some (.int (nI c)), some (.int (nI i))] [] g) (fun hz => fm_J1_indexOfChar_4cfef_7 ?_) (fun i hi ih hz => fm_J1_indexOfChar_4cfef_7 ?_) (fun z hz => absurd hz (Nat.not_lt_zero z))
    · have e : ixO (stx j) c = (stx j).length := fsN_no hz
      rw [e, if_neg (Nat.lt_irrefl _)] at hQ
      exact ⟨fun _ => hQ, fun q => absurd (Int32.le_refl _) q⟩
    · have hci := stx_lt (k := i) hj
      rw [t2, n2, nI_clamp (by omega), ch i hi, nI_eq (by omega) (by omega), nI_leI (by omega) (by omega), show (nI i : Int32) + 1 = nI (i + 1) from nI_add _ 1]
      refine ⟨fun q => absurd q (by omega), fun _ => ⟨rfl, mu_in_n hi (by omega), fun q => ih (fun z hz2 => ?_), fun q => ?_⟩⟩
      · by_cases e : z = i
        · rw [e]; exact q
        · exact hz z (by omega)
      · have e : ixO (stx j) c = i := fsN_at (c := fun z => (stx j).getD z 0 = c) (i := i) (Classical.not_not.mp q) hz hi
        rw [e, if_pos hi] at hQ
        exact hQ
end Js
