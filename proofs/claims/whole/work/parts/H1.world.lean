/-! THE START: the world that the Statement gives, as a heap of mine -/
theorem hp_arr {s : State} {a : Nat} {cell : Cell} {t : FieldType} {i : Nat} {v : Value} (hh : heapFits s = true) (hc : s.heap[a]? = some cell) (ha : s.isArrayOf cell t) (hv : cell.slots[i]? = some v) : fits t v = true := by
  have h1 : cellFits s cell = true := by
    have hm : cell ∈ s.heap := Array.mem_of_getElem? hc
    exact (Array.all_eq_true_iff_forall_mem.mp hh) cell hm
  have hi : i < cell.slots.size := (Array.getElem?_eq_some_iff.mp hv).1
  have h2 := (List.all_eq_true.mp h1) i (List.mem_range.mpr hi)
  rw [hv] at h2
  obtain ⟨h3, k, hk, comp, hkind⟩ := ha
  have h2 : s.fitsSlot cell.cls cell.vm i v = true := h2
  unfold State.fitsSlot at h2
  have h4 : s.slotType? cell.cls cell.vm i = some t := by
    unfold State.slotType?
    cases hvm : cell.vm with
    | statics q => exact absurd hvm (h3 q)
    | _ => simp [hk, hkind]
  rw [h4] at h2
  exact h2
section Ws
variable {s : State} {A : Array Value}
theorem kn_cls (hts : ∀ x ∈ lw_tbl, x.before A s = true) : ∃ (dC : Nat → ClassId) (dI : Nat → Nat → Nat), ∀ (c : Nat) (q : vw_C), vwCl[c]? = some q → u_Kn s q.1 q.2.1 q.2.2 (dC c) (dI c) := by
  have h0 : ∀ c : Nat, ∃ p : ClassId × (Nat → Nat), ∀ q : vw_C, vwCl[c]? = some q → u_Kn s q.1 q.2.1 q.2.2 p.1 p.2 := fun c => by
    by_cases hc : c < 12
    · obtain ⟨r, h1, -, -, ⟨h2, -⟩, -, h3, -⟩ := mu_cls hc
      obtain ⟨cC, iS, hK⟩ := u_known (C := r.1) (T := r.2.1) (N := r.2.2) hts (fun x hx => (List.mem_filter.mp (h3 x hx)).1) (hts _ h2)
      exact ⟨(cC, iS), fun q hq => by rw [h1] at hq; cases hq; exact hK⟩
    · exact ⟨(0, fun _ => 0), fun q hq => absurd (List.getElem?_eq_some_iff.mp hq).1 hc⟩
  obtain ⟨p, hp⟩ := Classical.axiomOfChoice h0
  exact ⟨fun c => (p c).1, fun c => (p c).2, hp⟩
theorem kn_prim {t : FieldType} (hw : (Jvm.Cond.arrayClass t).before A s = true) (hr : ∀ cA, s.vm.findClass ("[" ++ t.toString) = some cA → va_RA s cA t) : ∃ cA : ClassId, ArrOfT s cA t ∧ va_RA s cA t := by
  obtain ⟨cA, kA, comp, h1, h2, h3⟩ := Cond.arrayClass_spec hw
  exact ⟨cA, fun n z => ⟨fun k h => (by cases h), kA, h2, comp, h3⟩, hr cA h1⟩
theorem kn_obj {C : String} (hw : (Jvm.Cond.arrayOver (.object C)).before A s = true) : (∃ cA : ClassId, ArrOfT s cA (.object C) ∧ va_RA s cA (.object C)) ∧ va_AO C s := by
  obtain ⟨comp, cA, kA, h1, -, h2, h3, h4⟩ := Cond.arrayOver_spec hw
  exact ⟨⟨cA, fun n z => ⟨fun k h => (by cases h), kA, h2, comp, h3⟩, kA, comp, h2, h3, h1, h4⟩, va_AO.of hw⟩
theorem kn_arr (hts : ∀ x ∈ lw_tbl, x.before A s = true) : ∃ cA : Nat → ClassId, (∀ q, q < 7 → ArrOfT s (cA q) (mu_AE q) ∧ va_RA s (cA q) (mu_AE q)) := by
  have h0 : ∀ q : Nat, ∃ cA : ClassId, q < 7 → ArrOfT s cA (mu_AE q) ∧ va_RA s cA (mu_AE q) := fun q => by
    by_cases hq : q < 7
    · rcases (show q = 0 ∨ q = 1 ∨ q = 2 ∨ q = 3 ∨ q = 4 ∨ q = 5 ∨ q = 6 by omega) with rfl | rfl | rfl | rfl | rfl | rfl | rfl
      · obtain ⟨cA, h⟩ := kn_prim (hts _ arr_0) (fun _ h => h)
        exact ⟨cA, fun _ => h⟩
      · obtain ⟨cA, h⟩ := kn_prim (hts _ arr_1) (fun _ h => h)
        exact ⟨cA, fun _ => h⟩
      · obtain ⟨cA, h⟩ := (kn_obj (hts _ arr_2)).1
        exact ⟨cA, fun _ => h⟩
      · obtain ⟨cA, h⟩ := (kn_obj (hts _ arr_3)).1
        exact ⟨cA, fun _ => h⟩
      · obtain ⟨cA, h⟩ := (kn_obj (hts _ arr_4)).1
        exact ⟨cA, fun _ => h⟩
      · obtain ⟨cA, h⟩ := (kn_obj (hts _ arr_5)).1
        exact ⟨cA, fun _ => h⟩
      · obtain ⟨cA, h⟩ := (kn_obj (hts _ arr_6)).1
        exact ⟨cA, fun _ => h⟩
    · exact ⟨0, fun h => absurd h hq⟩
  obtain ⟨cA, h⟩ := Classical.axiomOfChoice h0
  exact ⟨cA, h⟩
theorem kn_ao (hts : ∀ x ∈ lw_tbl, x.before A s = true) : ∀ q : Nat, 1 < q → q < 7 → ∃ C, mu_AE q = .object C ∧ va_AO C s := fun q h1 h2 => by
  rcases (show q = 2 ∨ q = 3 ∨ q = 4 ∨ q = 5 ∨ q = 6 by omega) with rfl | rfl | rfl | rfl | rfl
  · exact ⟨_, rfl, va_AO.of (hts _ arr_2)⟩
  · exact ⟨_, rfl, va_AO.of (hts _ arr_3)⟩
  · exact ⟨_, rfl, va_AO.of (hts _ arr_4)⟩
  · exact ⟨_, rfl, va_AO.of (hts _ arr_5)⟩
  · exact ⟨_, rfl, va_AO.of (hts _ arr_6)⟩
theorem kn_str (hgv : pG.before A s = true) : ∃ adK adV : Nat → Nat, vk_S 6 lenS bytS adK adV (fun q => s.heap.size ≤ q) s s.heap ∧ ∀ i : Nat, i < 6 → (tmS i).eval A s none [] s = some (.ref (adK i)) := by
  have hs := flat_of_before _ hgv
  refine vk_Sof (fun i hi => ?_) (fun i hi => hs _ (pS_ex i hi)) (fun i hi => hs _ (pS_co i hi)) (fun i hi => hs _ (pS_ar i hi)) (fun i hi => hs _ (pS_le i hi)) (fun i hi j hj => hs _ (pS_el i hi j hj)) (fun i j hi hj h => (pS_ne i hi j hj h).imp (hs _) (hs _)) (fun a ha => by omega)
  have := (bS_eq i hi).2.1
  omega
theorem kn_sta (hgv : pG.before A s = true) : ∃ aA : Nat → Nat, ∀ j, j < 6 → (tmA j).eval A s none [] s = some (.ref (aA j)) ∧ va_T .int (aA j) 6 (fun k => .int (st_v j k)) (fun q => s.heap.size ≤ q) s s.heap := by
  have hs := flat_of_before _ hgv
  have h0 : ∀ j : Nat, ∃ t : Nat, j < 6 → (tmA j).eval A s none [] s = some (.ref t) ∧ va_T .int t 6 (fun k => .int (st_v j k)) (fun q => s.heap.size ≤ q) s s.heap := fun j => by
    by_cases hj : j < 6
    · obtain ⟨t, h1, h2⟩ := va_Tof (f := fun k => .int (st_v j k)) (A := fun q => s.heap.size ≤ q) (by omega) (hs _ (pA_ar j hj)) (va_eqt (hs _ (pA_le j hj))) (fun k hk => va_eqt (hs _ (pA_el j hj k hk))) (fun a ha => by omega)
      exact ⟨t, fun _ => ⟨h1, h2⟩⟩
    · exact ⟨0, fun h => absurd h hj⟩
  obtain ⟨aA, h⟩ := Classical.axiomOfChoice h0
  exact ⟨aA, h⟩
theorem kn_fmt (hgv : pG.before A s = true) : ∃ z : Nat, (Term.static "jdk/internal/util/Preconditions" "SIOOBE_FORMATTER" "Ljava/util/function/BiFunction;").eval A s none [] s = some (mu_V (.ref z)) := by
  obtain ⟨v, h1, h2⟩ := Cond.isRef_spec (flat_of_before _ hgv _ pC_7)
  cases v with
  | ref a => exact ⟨a + 1, h1⟩
  | null => exact ⟨0, h1⟩
  | _ => cases h2
theorem kn_ss (hts : ∀ x ∈ lw_tbl, x.before A s = true) {adK : Nat → Nat} (hK : ∀ i : Nat, i < 6 → (tmS i).eval A s none [] s = some (.ref (adK i))) : ∀ (j : Nat) (q : String × Nat × String), mu_ss[j]? = some q → vk_R q.1 q.2.1 q.2.2 (adK j) s := fun j q hj => by
  have hj6 : j < 6 := (List.getElem?_eq_some_iff.mp hj).1
  rcases (show j = 0 ∨ j = 1 ∨ j = 2 ∨ j = 3 ∨ j = 4 ∨ j = 5 by omega) with rfl | rfl | rfl | rfl | rfl | rfl
  · cases hj; exact vk_R.of (hts _ sref_0) (hK 0 (by omega))
  · cases hj; exact vk_R.of (hts _ sref_1) (hK 1 (by omega))
  · cases hj; exact vk_R.of (hts _ sref_2) (hK 2 (by omega))
  · cases hj; exact vk_R.of (hts _ sref_3) (hK 3 (by omega))
  · cases hj; exact vk_R.of (hts _ sref_4) (hK 4 (by omega))
  · cases hj; exact vk_R.of (hts _ sref_5) (hK 5 (by omega))
theorem kn_stat (hts : ∀ x ∈ lw_tbl, x.before A s = true) (hgv : pG.before A s = true) {w : mu_O} (hw : w.1 = s.heap.size) (h6 : ∀ j, j < 6 → ∃ t, w.2.2.2.2.1 j = t + 1 ∧ (tmA j).eval A s none [] s = some (.ref t)) (h7 : (Term.static "jdk/internal/util/Preconditions" "SIOOBE_FORMATTER" "Ljava/util/function/BiFunction;").eval A s none [] s = some (mu_V (.ref (w.2.2.2.2.1 7)))) : mu_stat w s s.heap := fun j q hj => by
  have hA : ∀ a : Nat, a < s.heap.size → ¬ mu_A w a := fun a ha h => by have h : w.1 ≤ a := h; omega
  have hj8 : j < 8 := (List.getElem?_eq_some_iff.mp hj).1
  have st : ∀ j, j < 6 → (tmA j).eval A s none [] s = some (mu_V (.ref (w.2.2.2.2.1 j))) := fun j hj => by
    obtain ⟨t, h1, h2⟩ := h6 j hj
    rw [h1]; exact h2
  rcases (show j = 0 ∨ j = 1 ∨ j = 2 ∨ j = 3 ∨ j = 4 ∨ j = 5 ∨ j = 6 ∨ j = 7 by omega) with rfl | rfl | rfl | rfl | rfl | rfl | rfl | rfl
  · cases hj; exact va_Zof (hts _ lay_0) (hts _ ini_0) (st 0 (by omega)) hA
  · cases hj; exact va_Zof (hts _ lay_1) (hts _ ini_0) (st 1 (by omega)) hA
  · cases hj; exact va_Zof (hts _ lay_2) (hts _ ini_0) (st 2 (by omega)) hA
  · cases hj; exact va_Zof (hts _ lay_3) (hts _ ini_0) (st 3 (by omega)) hA
  · cases hj; exact va_Zof (hts _ lay_4) (hts _ ini_0) (st 4 (by omega)) hA
  · cases hj; exact va_Zof (hts _ lay_5) (hts _ ini_0) (st 5 (by omega)) hA
  · cases hj; exact va_Zof (hts _ lay_6) (hts _ ini_1) (va_eqt (flat_of_before _ hgv _ pC_6)) hA
  · cases hj; exact va_Zof (hts _ lay_7) (hts _ ini_2) h7 hA
end Ws
