/-! CLIENTS: sheets: rows beside the row, leaves of the class -/
def fill (A : Nat → Int32) (a n : Nat) (v : Int32) : Nat → Int32 := fun j => if a ≤ j ∧ j < a + n then v else A j
def cpy (A : Nat → Int32) (a : Nat) (B : Nat → Int32) (b n : Nat) : Nat → Int32 := fun j => if a ≤ j ∧ j < a + n then B (b + (j - a)) else A j
theorem fill_0 {A : Nat → Int32} {a : Nat} {v : Int32} : fill A a 0 v = A := funext fun j => if_neg (by omega)
theorem cpy_0 {A B : Nat → Int32} {a b : Nat} : cpy A a B b 0 = A := funext fun j => if_neg (by omega)
theorem fill_s {A : Nat → Int32} {a n : Nat} {v : Int32} : upd (fill A a n v) (a + n) v = fill A a (n + 1) v := funext fun j => by
  by_cases e : j = a + n
  · rw [e, pk_us]; exact (if_pos (by omega)).symm
  · rw [pk_un e]
    unfold fill
    by_cases h : a ≤ j ∧ j < a + n
    · rw [if_pos h, if_pos (by omega)]
    · rw [if_neg h, if_neg (by omega)]
theorem cpy_s {A B : Nat → Int32} {a b n : Nat} : upd (cpy A a B b n) (a + n) (B (b + n)) = cpy A a B b (n + 1) := funext fun j => by
  by_cases e : j = a + n
  · rw [e, pk_us]
    unfold cpy
    rw [if_pos (by omega), show a + n - a = n by omega]
  · rw [pk_un e]
    unfold cpy
    by_cases h : a ≤ j ∧ j < a + n
    · rw [if_pos h, if_pos (by omega)]
    · rw [if_neg h, if_neg (by omega)]
theorem fill_i {A : Nat → Int32} {a n j : Nat} {v : Int32} (h : a ≤ j ∧ j < a + n) : fill A a n v j = v := if_pos h
theorem fill_o {A : Nat → Int32} {a n j : Nat} {v : Int32} (h : ¬ (a ≤ j ∧ j < a + n)) : fill A a n v j = A j := if_neg h
theorem cpy_i {A B : Nat → Int32} {a b n k : Nat} (h : k < n) : cpy A a B b n (a + k) = B (b + k) := by unfold cpy; rw [if_pos (by omega), show a + k - a = k by omega]
theorem cpy_o {A B : Nat → Int32} {a b n j : Nat} (h : ¬ (a ≤ j ∧ j < a + n)) : cpy A a B b n j = A j := if_neg h
/-- the class's sheets hold these rows -/
def sd_S (x : Nat) (A4 A5 A6 : Nat → Int32) (g : mu_H) : Prop := ∀ i, i < 4 → mu_I g (x + 138 + 2 * i) 1 = A4 i ∧ mu_I g (x + 138 + 2 * i) 2 = A5 i ∧ ∀ k, k < 24 → mu_I g (x + 139 + 2 * i) k = A6 (24 * i + k)
def sd_wS (A4 A5 : Nat → Int32) : Prop := ∀ i, i < 4 → (A4 i = -1 ∨ A4 i = 0 ∨ A4 i = 1) ∧ ∃ n : Nat, n ≤ 24 ∧ A5 i = nI n
/-- the class's slots hold these rows -/
def sd_H (x : Nat) (B7 B8 B9 B10 : Nat → Int32) (g : mu_H) : Prop := ∀ i, i < 5 → mu_I g (x + 146 + 3 * i) 1 = B7 i ∧ (B7 i = 1 → mu_I g (x + 146 + 3 * i) 2 = B8 i) ∧ (B7 i = 3 → mu_I g (x + 146 + 3 * i) 3 = B8 i) ∧ (B7 i = 2 → mu_I g (x + 147 + 3 * i) 2 = B9 i ∧ ∀ k, k < 24 → mu_I g (x + 148 + 3 * i) k = B10 (24 * i + k))
def sd_wH (B7 B8 B9 : Nat → Int32) : Prop := ∀ i, i < 5 → (B7 i = 0 ∨ B7 i = 1 ∨ B7 i = 2 ∨ B7 i = 3) ∧ (B7 i = 1 → ∃ k : Nat, k ≤ 5 ∧ B8 i = nI k) ∧ (B7 i = 2 → ∃ n : Nat, n ≤ 24 ∧ B9 i = nI n)
section Sh5
variable {w : mu_O} {d x y a c : Nat} {g g1 : mu_H} {v u : Int32}
theorem cl_5 (h : cl_L w x g) : mu_T g (x + 132) = 21 ∧ mu_N g (x + 132) = 96 := h.2.2.2.2.2.1
theorem cl_7 (h : cl_L w x g) : mu_T g (x + 135) = 20 ∧ mu_N g (x + 135) = 60 := h.2.2.2.2.2.2.2.1
theorem cl_T8 (h : cl_L w x g) : mu_T g (x + 136) = 25 := h.2.2.2.2.2.2.2.2.1.1
theorem cl_N8 (h : cl_L w x g) : mu_N g (x + 136) = 4 := h.2.2.2.2.2.2.2.2.1.2.1
theorem cl_RS (h : cl_L w x g) {i : Nat} (hi : i < 4) : mu_R g (x + 136) i = x + 138 + 2 * i := h.2.2.2.2.2.2.2.2.1.2.2 i hi
theorem cl_T9 (h : cl_L w x g) : mu_T g (x + 137) = 26 := h.2.2.2.2.2.2.2.2.2.1.1
theorem cl_N9 (h : cl_L w x g) : mu_N g (x + 137) = 5 := h.2.2.2.2.2.2.2.2.2.1.2.1
theorem cl_RO (h : cl_L w x g) {i : Nat} (hi : i < 5) : mu_R g (x + 137) i = x + 146 + 3 * i := h.2.2.2.2.2.2.2.2.2.1.2.2 i hi
theorem cl_S1 (h : cl_L w x g) {i : Nat} (hi : i < 4) : mu_T g (x + 138 + 2 * i) = 6 := (h.2.2.2.2.2.2.2.2.2.2.1 i hi).1
theorem cl_S2 (h : cl_L w x g) {i : Nat} (hi : i < 4) : mu_R g (x + 138 + 2 * i) 0 = x + 139 + 2 * i := (h.2.2.2.2.2.2.2.2.2.2.1 i hi).2.1
theorem cl_S3 (h : cl_L w x g) {i : Nat} (hi : i < 4) : mu_T g (x + 139 + 2 * i) = 21 := (h.2.2.2.2.2.2.2.2.2.2.1 i hi).2.2.1
theorem cl_S4 (h : cl_L w x g) {i : Nat} (hi : i < 4) : mu_N g (x + 139 + 2 * i) = 24 := (h.2.2.2.2.2.2.2.2.2.2.1 i hi).2.2.2
theorem cl_O1 (h : cl_L w x g) {i : Nat} (hi : i < 5) : mu_T g (x + 146 + 3 * i) = 8 := (h.2.2.2.2.2.2.2.2.2.2.2 i hi).1
theorem cl_O2 (h : cl_L w x g) {i : Nat} (hi : i < 5) : mu_R g (x + 146 + 3 * i) 0 = x + 147 + 3 * i := (h.2.2.2.2.2.2.2.2.2.2.2 i hi).2.1
theorem cl_O3 (h : cl_L w x g) {i : Nat} (hi : i < 5) : mu_T g (x + 147 + 3 * i) = 6 := (h.2.2.2.2.2.2.2.2.2.2.2 i hi).2.2.1
theorem cl_O4 (h : cl_L w x g) {i : Nat} (hi : i < 5) : mu_R g (x + 147 + 3 * i) 0 = x + 148 + 3 * i := (h.2.2.2.2.2.2.2.2.2.2.2 i hi).2.2.2.1
theorem cl_O5 (h : cl_L w x g) {i : Nat} (hi : i < 5) : mu_T g (x + 148 + 3 * i) = 21 := (h.2.2.2.2.2.2.2.2.2.2.2 i hi).2.2.2.2.1
theorem cl_O6 (h : cl_L w x g) {i : Nat} (hi : i < 5) : mu_N g (x + 148 + 3 * i) = 24 := (h.2.2.2.2.2.2.2.2.2.2.2 i hi).2.2.2.2.2
theorem sp_X5_become (hT : mu_T g a = 6) (hR : mu_R g a 0 = c) (hw : w.1 < c) (hT2 : mu_T g c = 21) (hN : mu_N g c = 24) (hne : c ≠ a) : mu_mp w mm_X5_become d [.ref a, .int v, .int u] g (fun r g' => r = none ∧ (mu_fr (fun z => z = a ∨ z = c) g g' ∧ mu_I g' a 1 = v ∧ mu_I g' a 2 = u ∧ ∀ k, k < 24 → mu_I g' c k = 0)) := by
  refine mu_mkp mk_X5_become rfl (fun L hL Q hQ => fm_X5_become_0 ⟨hT, hT, ?_⟩)
  refine lp (n := 24) (P := fun i => ∀ gi, mu_fr (fun z => z = a ∨ z = c) g gi → mu_I gi a 1 = v → mu_I gi a 2 = u → (∀ k, k < i → mu_I gi c k = 0) → mu_go w mm_X5_become d L Q 12 [some (.ref a), none, none, some (.int (nI i))] [] gi) (fun gi fi i1 i2 i3 => fm_X5_become_12 ⟨fun _ => hQ _ _ ⟨rfl, fi, i1, i2, i3⟩ fi.2.2.2.1 fi.2.2.2.2.1, fun q => absurd (Int32.le_refl _) q⟩) (fun i hi ih gi fi i1 i2 i3 => fm_X5_become_12 ?_) _ (mu_fr_tr (mu_fr_sI (Or.inl rfl)) (mu_fr_sI (Or.inl rfl))) (by rw [I_sI_k _ _ _ (by omega), I_sI_same]) (I_sI_same _ _ _ _) (fun k hk => absurd hk (Nat.not_lt_zero k))
  have e24 : (24 : Int32) ≤ nI i ↔ 24 ≤ i := nI_leI (a := 24) (by decide) (by omega)
  have e0 : ((0 : Int32).toInt8.toInt32) = 0 := by decide
  rw [e24, e0, fi.2.2.1, fi.1, fi.2.1, hR, hT, hT2, hN, nI_clamp (by omega)]
  refine ⟨fun q => absurd q (by omega), fun _ => ⟨rfl, hw, rfl, mu_in_n hi (by omega), ?_⟩⟩
  rw [show (nI i : Int32) + 1 = nI (i + 1) from nI_add _ 1]
  refine ih _ (mu_fr_tr fi (mu_fr_sI (Or.inr rfl))) (by rw [I_sI_a _ _ _ _ (Ne.symm hne)]; exact i1) (by rw [I_sI_a _ _ _ _ (Ne.symm hne)]; exact i2) (fun k hk => ?_)
  by_cases e : k = i
  · rw [e, I_sI_same]
  · rw [I_sI_k _ _ _ e]; exact i3 k (by omega)
theorem sp_X5_isMissing (hT : mu_T g a = 6) : mu_met w mm_X5_isMissing d [.ref a] g (some (.int (cI (mu_I g a 1 = -1)))) g := by
  refine mu_mk mk_X5_isMissing rfl rfl rfl (fun L hL Q hQ => fm_X5_isMissing_0 ⟨hT, fun h => ⟨Or.inl rfl, ?_⟩, fun h => ⟨Or.inr rfl, ?_⟩⟩)
  · exact (cq hQ).2 h
  · exact (cq hQ).1 (Classical.not_not.mp h)
theorem sp_X5_hasPlace {n : Nat} (hT : mu_T g a = 6) (h2 : mu_I g a 2 = nI n) (hn : n ≤ 24) : mu_met w mm_X5_hasPlace (d + 1) [.ref a, .int v] g (some (.int (cI (0 ≤ v.toInt ∧ v.toInt < (n : Int))))) g := by
  refine mu_mk mk_X5_hasPlace rfl rfl rfl (fun L hL Q hQ => fm_X5_hasPlace_0 ⟨hT, mu_cI sp_X10_isWithin hL ⟨bI_01 _, ?_⟩⟩)
  rw [bI_cI, h2, li_cnt (by omega), cI_c (show _ ↔ (0 ≤ v.toInt ∧ v.toInt < (n : Int)) by simp; omega)]
  exact hQ
theorem sp_X5_hasPlaces {n : Nat} (hT : mu_T g a = 6) (h2 : mu_I g a 2 = nI n) (hn : n ≤ 24) : mu_met w mm_X5_hasPlaces (d + 1) [.ref a, .int v, .int u] g (some (.int (cI (0 ≤ v.toInt ∧ 0 ≤ u.toInt ∧ v.toInt + u.toInt ≤ (n : Int))))) g := by
  refine mu_mk mk_X5_hasPlaces rfl rfl rfl (fun L hL Q hQ => fm_X5_hasPlaces_0 ⟨hT, mu_cI (sp_X10_wN (a := 0) (b := (n : Int)) rfl (by rw [h2, nI_toInt (by omega)])) hL ?_⟩)
  have h0 := cq hQ
  rw [cI_0]
  refine ⟨fun h => ⟨Or.inl rfl, h0.2 (by omega)⟩, fun h => ?_⟩
  replace h := Classical.not_not.mp h
  have e : (nI n - v).toInt = (n : Int) - v.toInt := by rw [li_sub (by rw [nI_toInt (by omega)]; omega), nI_toInt (by omega)]
  refine ⟨hT, mu_cI (sp_X10_wN (a := 0) (b := (n : Int) - v.toInt) rfl (by rw [h2]; exact e)) hL ?_⟩
  rw [cI_0]
  exact ⟨fun q => ⟨Or.inl rfl, h0.2 (by omega)⟩, fun q => ⟨Or.inr rfl, h0.1 (by omega)⟩⟩
/-- what a sheet of this sort keeps of a number -/
def kpt (so v : Int32) : Int32 := if so = 0 then v.toInt8.toInt32 else if v = 0 then 0 else 1
theorem i8_i8 (z : Int32) : z.toInt8.toInt32.toInt8.toInt32 = z.toInt8.toInt32 := by rw [Int8.toInt8_toInt32]
theorem sp_X5_put {n : Nat} {so : Int32} (hT : mu_T g a = 6) (hR : mu_R g a 0 = c) (hw : w.1 < c) (hT2 : mu_T g c = 21) (hN : mu_N g c = 24) (h1 : mu_I g a 1 = so) (hn : n < 24) : mu_met w mm_X5_put (d + 1) [.ref a, .int (nI n), .int v] g none (mu_sI g c n (kpt so v)) := by
  refine mu_mk mk_X5_put rfl rfl rfl (fun L hL Q hQ => fm_X5_put_0 ?_)
  have hin : mu_in (nI n) 24 := mu_in_n hn (by omega)
  rw [hT, hR, hT2, hN, h1, nI_clamp (by omega)]
  unfold kpt at hQ
  refine ⟨rfl, rfl, fun h => ?_, fun h => ?_⟩
  · rw [if_neg h] at hQ
    refine ⟨fun h2 => mu_cI sp_X10_asInt hL ?_, fun h2 => mu_cI sp_X10_asInt hL ?_⟩
    · rw [if_pos h2] at hQ
      rw [cI_f (fun q => q rfl), hT2, hN]
      exact ⟨hw, rfl, hin, hQ⟩
    · rw [if_neg h2] at hQ
      rw [cI_t (show ¬ (1 : Int32) = 0 by decide), hT2, hN]
      exact ⟨hw, rfl, hin, hQ⟩
  · rw [if_pos (Classical.not_not.mp h)] at hQ
    rw [i8_i8]
    exact ⟨hw, rfl, hin, hQ⟩
theorem sp_X7_findingOn (hT : mu_T g a = 8) : mu_met w mm_X7_findingOn d [.ref a, .int v] g (some (.int (cif (mu_I g a 1 = 0) (-1000000011) (cif (mu_I g a 1 = v) 0 (-1000000012))))) g := by
  refine mu_mk mk_X7_findingOn rfl rfl rfl (fun L hL Q hQ => fm_X7_findingOn_0 ⟨hT, fun h => ⟨hT, fun h2 => ?_, fun h2 => ?_⟩, fun h => ?_⟩)
  · rw [cif_f h, cif_f h2] at hQ; exact hQ
  · rw [cif_f h, cif_t (Classical.not_not.mp h2)] at hQ; exact hQ
  · rw [cif_t (Classical.not_not.mp h)] at hQ; exact hQ
end Sh5
