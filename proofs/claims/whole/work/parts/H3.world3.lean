/-! THE START: all of it -/
section Wh
variable {s : State} {A : Array Value} {b L : Nat} {xs : Nat → Int32}
theorem st_world (hts : ∀ x ∈ lw_tbl, x.before A s = true) (hgv : pG.before A s = true) (hX : va_X b L xs s s.heap) (hL : L ≤ 3072) (hh : heapFits s = true) :
    ∃ (w : mu_O) (g : mu_H), w.1 = s.heap.size ∧ mu_K w s ∧ mu_rep w g s s.heap ∧ mu_stat w s s.heap ∧ mu_S g = 0 ∧ mu_X g = s.heap.size + 1 ∧ Zr g ∧ st_L w g ∧ str_L w g ∧ sq w (b + 1, L, mu_I g (b + 1)) g := by
  obtain ⟨dC, dI, hK⟩ := kn_cls hts
  obtain ⟨cA, hA⟩ := kn_arr hts
  obtain ⟨adK, adV, ⟨hS1, hS2⟩, hSe⟩ := kn_str hgv
  obtain ⟨aA, hAe⟩ := kn_sta hgv
  obtain ⟨fz, hfz⟩ := kn_fmt hgv
  have hXT : va_T .int b L (fun j => .int (xs j)) (fun q => s.heap.size ≤ q) s s.heap := by
    obtain ⟨scr, x1, x2, x3, x4, x5⟩ := hX
    exact ⟨scr, x1, x2, x3, by omega, by rw [x4], x5, by have := (Array.getElem?_eq_some_iff.mp x1).1; omega⟩
  obtain ⟨rS, hrS⟩ : ∃ rS : Nat → Nat, ∀ a i, i < 6 → adK i = a → rS a = adV i + 1 := by
    have h0 : ∀ a : Nat, ∃ r : Nat, ∀ i, i < 6 → adK i = a → r = adV i + 1 := fun a => by
      by_cases h : ∃ i, i < 6 ∧ adK i = a
      · obtain ⟨i, hi, e⟩ := h
        exact ⟨adV i + 1, fun j hj e2 => by rw [hS2 i j hi hj (e.trans e2.symm)]⟩
      · exact ⟨0, fun i hi e => absurd ⟨i, hi, e⟩ h⟩
    exact Classical.axiomOfChoice h0
  have cB := aC_of (by omega) hXT
  have cS : ∀ j, j < 6 → aC .int (aA j) s ∧ hN s (aA j + 1) = 6 ∧ ∀ k, k < 6 → hI s (aA j + 1) k = st_v j k := fun j hj => aC_of (by omega) (hAe j hj).2
  have cV : ∀ i, i < 6 → aC .byte (adV i) s ∧ hN s (adV i + 1) = lenS.getD i 0 ∧ ∀ k, k < lenS.getD i 0 → hI s (adV i + 1) k = (bytS.getD i []).getD k 0 := fun i hi => aC_of (by have := (bS_eq i hi).2.1; omega) (hS1 i hi).2.2.2
  obtain ⟨pI, hpI⟩ : ∃ pI : Nat → Prop, pI = fun a => a = b ∨ ∃ j, j < 6 ∧ a = aA j := ⟨_, rfl⟩
  obtain ⟨pB, hpB⟩ : ∃ pB : Nat → Prop, pB = fun a => ∃ j, j < 6 ∧ a = adV j := ⟨_, rfl⟩
  obtain ⟨pS, hpS⟩ : ∃ pS : Nat → Prop, pS = fun a => ∃ j, j < 6 ∧ a = adK j := ⟨_, rfl⟩
  have tI : ∀ a, pI a → aC .int a s := fun a h => by
    rw [hpI] at h
    rcases h with rfl | ⟨j, hj, rfl⟩
    · exact cB.1
    · exact (cS j hj).1
  have tB : ∀ a, pB a → aC .byte a s := fun a h => by
    rw [hpB] at h
    obtain ⟨j, hj, rfl⟩ := h
    exact (cV j hj).1
  have tS : ∀ a, pS a → ∃ i, i < 6 ∧ a = adK i := fun a h => by rw [hpS] at h; exact h
  have nIB : ∀ a, pI a → ¬ pB a := fun a h1 h2 => aC_ne (tI a h1) (tB a h2)
  have nSI : ∀ a, pS a → ¬ pI a := fun a h1 h2 => by
    obtain ⟨i, hi, rfl⟩ := tS a h1
    exact aC_str hh rfl (tI _ h2) (hS1 i hi).2.2.1
  have nSB : ∀ a, pS a → ¬ pB a := fun a h1 h2 => by
    obtain ⟨i, hi, rfl⟩ := tS a h1
    exact aC_str hh rfl (tB _ h2) (hS1 i hi).2.2.1
  have ltS : ∀ a, pS a → a < s.heap.size := fun a h => by
    obtain ⟨i, hi, rfl⟩ := tS a h
    obtain ⟨cell, q, -⟩ := (hS1 i hi).1
    exact (Array.getElem?_eq_some_iff.mp q).1
  have inA : ∀ j, j < 6 → pI (aA j) := fun j hj => by rw [hpI]; exact Or.inr ⟨j, hj, rfl⟩
  have inb : pI b := by rw [hpI]; exact Or.inl rfl
  have inV : ∀ j, j < 6 → pB (adV j) := fun j hj => by rw [hpB]; exact ⟨j, hj, rfl⟩
  have inK : ∀ j, j < 6 → pS (adK j) := fun j hj => by rw [hpS]; exact ⟨j, hj, rfl⟩
  clear hpI hpB hpS
  refine ⟨(s.heap.size, dC, dI, cA, fun j => if j = 7 then fz else aA j + 1, fun j => adK j + 1), g00 s pI pB pS rS, rfl, ⟨⟨hK, fun k q hk => ?_⟩, fun q hq => va_Nw.of rfl (hts _ (nF_in q hq)), fun q hq => va_Nw.of rfl (hts _ (nM_in q hq)), kn_ao hts, fun j q hj => ⟨adK j, rfl, kn_ss hts hSe j q hj⟩⟩, ⟨rfl, Nat.le_refl _, cif_t rfl, fun a => ⟨fun c hc ht => ?_, fun q hq ht => ⟨fun ha => ?_, fun ha => ?_⟩, fun ht => ?_⟩⟩, ?_, rfl, rfl, fun z hz => ?_, fun j hj => ?_, fun j hj => ?_, ?_⟩
  · have hk7 : k < 7 := (List.getElem?_eq_some_iff.mp hk).1
    rw [mu_tys_at _ hk7] at hk
    cases hk
    exact hA k hk7
  · exfalso
    by_cases h1 : pI a
    · rw [g00_I h1] at ht; omega
    · by_cases h2 : pB a
      · rw [g00_B h1 h2] at ht; omega
      · by_cases h3 : pS a
        · rw [g00_S h1 h2 h3] at ht; omega
        · rw [g00_0 h1 h2 h3] at ht; omega
  · exfalso
    have ha : s.heap.size ≤ a := ha
    by_cases h1 : pI a
    · have := aC_lt (tI a h1); omega
    · by_cases h2 : pB a
      · have := aC_lt (tB a h2); omega
      · by_cases h3 : pS a
        · rw [g00_S h1 h2 h3] at ht; omega
        · rw [g00_0 h1 h2 h3] at ht; omega
  · by_cases h1 : pI a
    · rw [g00_I h1] at ht
      have e : q = 0 := by omega
      subst e
      have hs : ¬ pS a := fun h => nSI a h h1
      have ef : (fun j => mu_V (mu_Av (g00 s pI pB pS rS) 0 (a + 1) j)) = fun j => .int (hI s (a + 1) j) := funext fun j => by
        show Value.int (mu_I (g00 s pI pB pS rS) (a + 1) j) = _
        rw [g00_i hs]
      rw [ef]
      exact aC_T (tI a h1) ha
    · by_cases h2 : pB a
      · rw [g00_B h1 h2] at ht
        have e : q = 1 := by omega
        subst e
        have hs : ¬ pS a := fun h => nSB a h h2
        have ef : (fun j => mu_V (mu_Av (g00 s pI pB pS rS) 1 (a + 1) j)) = fun j => .int (hI s (a + 1) j) := funext fun j => by
          show Value.int (mu_I (g00 s pI pB pS rS) (a + 1) j) = _
          rw [g00_i hs]
        rw [ef]
        exact aC_T (tB a h2) ha
      · exfalso
        by_cases h3 : pS a
        · rw [g00_S h1 h2 h3] at ht; omega
        · rw [g00_0 h1 h2 h3] at ht; omega
  · have h3 : pS a := by
      by_cases h1 : pI a
      · rw [g00_I h1] at ht; omega
      · by_cases h2 : pB a
        · rw [g00_B h1 h2] at ht; omega
        · by_cases h3 : pS a
          · exact h3
          · rw [g00_0 h1 h2 h3] at ht; omega
    obtain ⟨i, hi, e⟩ := tS a h3
    obtain ⟨q1, q2, q3, -⟩ := hS1 i hi
    rw [← e] at q1 q2 q3
    unfold mu_str
    rw [g00_s h3, g00_r h3, hrS a i hi e.symm]
    exact ⟨q1, q3, q2⟩
  · refine kn_stat hts hgv rfl (fun j hj => ⟨aA j, ?_, (hAe j hj).1⟩) ?_
    · show (if j = 7 then fz else aA j + 1) = _
      rw [if_neg (by omega)]
    · exact hfz
  · have hz : s.heap.size + 1 ≤ z := hz
    obtain ⟨a, rfl⟩ : ∃ a, z = a + 1 := ⟨z - 1, by omega⟩
    exact g00_0 (fun h => by have := aC_lt (tI a h); omega) (fun h => by have := aC_lt (tB a h); omega) (fun h => by have := ltS a h; omega)
  · have e : mu_sa (s.heap.size, dC, dI, cA, (fun j => if j = 7 then fz else aA j + 1), fun j => adK j + 1) j = aA j + 1 := if_neg (by omega)
    rw [e]
    have hs : ¬ pS (aA j) := fun h => nSI _ h (inA j hj)
    refine ⟨aC_lt (cS j hj).1, g00_I (inA j hj), (cS j hj).2.1, fun k hk => ?_⟩
    rw [g00_i hs]
    exact (cS j hj).2.2 k hk
  · have e : mu_sb (s.heap.size, dC, dI, cA, (fun j => if j = 7 then fz else aA j + 1), fun j => adK j + 1) j = adK j + 1 := rfl
    have hp := inK j hj
    rw [e, g00_r hp, hrS _ j hj rfl]
    obtain ⟨b1, b2, b3⟩ := bS_eq j hj
    obtain ⟨v1, v2, v3⟩ := cV j hj
    have nI' : ¬ pI (adV j) := fun h => nIB _ h (inV j hj)
    have hs : ¬ pS (adV j) := fun h => nSB _ h (inV j hj)
    refine ⟨⟨ltS _ hp, g00_S (nSI _ hp) (nSB _ hp) hp, g00_s hp⟩, aC_lt v1, g00_B nI' (inV j hj), v2.trans b1, fun k hk => ?_⟩
    rw [g00_i hs, v3 k (by omega), b3 k hk]
  · exact ⟨aC_lt cB.1, g00_I inb, cB.2.1, rfl⟩
end Wh
