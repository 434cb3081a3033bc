/-! OWN SMALL MACHINE, PART 11: System.arraycopy between own rows of ints or bytes -/
section Mu13
variable {w : mu_O} {mi : mu_M} {d : Nat} {L : Nat × Nat} {Q : Option Value → mu_H → Prop} {pc : Nat} {ls : List (Option Value)} {st : List Value} {g : mu_H}
theorem mu_nn0 (z : Int32) (h : 0 ≤ z.toInt) : ¬ z < 0 ∧ z.toInt = (z.toNatClampNeg : Int) := by
  refine ⟨fun hz => ?_, ?_⟩
  · have := Int32.lt_iff_toInt_lt.mp hz
    have e : (0 : Int32).toInt = 0 := rfl
    omega
  · show z.toInt = ((z.toInt.toNat : Nat) : Int)
    omega
theorem mu_go_copy {x a b q : Nat} {sp dp n : Int32} (hq : q < 2) (hd : decode (mu_mB mi) pc = .ok (.invokestatic x, 3)) (hw : Jvm.Cond.methodLink (mu_mY mi).cls x arraycopyName ∈ lw_tbl ∧ goodWord (Jvm.Cond.methodLink (mu_mY mi).cls x arraycopyName) = true) (hs : (st.map fun v => v.category).sum ≤ 8) (h0 : 0 < d)
    (hwa : w.1 < a) (hwb : w.1 < b) (ta : mu_T g a = 20 + q) (tb : mu_T g b = 20 + q) (h1 : 0 ≤ sp.toInt) (h2 : 0 ≤ dp.toInt) (h3 : 0 ≤ n.toInt) (h4 : sp.toInt + n.toInt ≤ (mu_N g a : Int)) (h5 : dp.toInt + n.toInt ≤ (mu_N g b : Int))
    (k : mu_go w mi d L Q (pc + 3) ls st (mu_sC g a sp.toNatClampNeg b dp.toNatClampNeg n.toNatClampNeg)) : mu_go w mi d L Q pc ls (.int n :: .int dp :: .ref b :: .int sp :: .ref a :: st) g := by
  intro p l e R s m args below meth cd H locs cells slots S0 Qw lsA hc hy hl hret
  obtain ⟨a, rfl⟩ := mu_succ (a := a) (t := 19 + q) hy.1 (by omega)
  obtain ⟨b, rfl⟩ := mu_succ (a := b) (t := 19 + q) hy.1 (by omega)
  have hwa : w.1 ≤ a := by omega
  have hwb : w.1 ≤ b := by omega
  obtain ⟨s1, s2⟩ := mu_nn0 sp h1
  obtain ⟨d1, d2⟩ := mu_nn0 dp h2
  obtain ⟨n1, n2⟩ := mu_nn0 n h3
  have hvA : ∀ c : Nat, (fun j => mu_V (mu_Av g q c j)) = (fun j => Value.int (mu_I g c j)) := by
    intro c
    rcases (show q = 0 ∨ q = 1 by omega) with rfl | rfl <;> rfl
  have hca := ((hy.1.2.2.2 a).2.1 q (by omega) ta).1 hwa
  have hcb := ((hy.1.2.2.2 b).2.1 q (by omega) tb).1 hwb
  rw [hvA] at hca hcb
  have h := mu_kW
  unfold mu_ckW at h
  simp only [Bool.and_eq_true] at h
  obtain ⟨⟨⟨⟨⟨⟨⟨-, w8⟩, w9⟩, w10⟩, -⟩, -⟩, -⟩, -⟩ := h
  have t := fun {i : Nat} {x : Jvm.Cond} (h : mu_w i x = true) => hc.2.2.2.2.1 x (mu_w_e h).1 (mu_w_e h).2
  have hR := hc.2.2.2.2.2.2.2
  have hcat := mu_cat_map st
  have htys := (hc.2.2.2.2.2.1.1.2 q _ (mu_tys_at w (by omega))).1
  have hfit : ∀ i, i < n.toNatClampNeg → fits (mu_AE q) (.int (mu_I g (a + 1) (sp.toNatClampNeg + i))) = true := by
    intro i hi
    rcases (show q = 0 ∨ q = 1 by omega) with rfl | rfl
    · rfl
    · exact hca.2 rfl _ (by omega)
  have hprim : refKind (mu_AE q) = false := by
    rcases (show q = 0 ∨ q = 1 by omega) with rfl | rfl <;> rfl
  intro T hT X
  obtain ⟨-, k0, hk0, cm0, hkk0⟩ := htys (mu_N g (a + 1)) (fun j => .int (mu_I g (a + 1) j))
  obtain ⟨-, k1, hk1, cm1, hkk1⟩ := htys (mu_N g (b + 1)) (fun j => .int (mu_I g (b + 1) j))
  obtain ⟨vm', X', step⟩ := X.arraycopy hc.1 hc.2.2.2.1 (hc.2.2.2.2.1 _ hw.1 hw.2) (t w8) (t w9) (t w10) (src := a) (dst := b) (cs := arrV (w.2.2.2.1 q) (mu_N g (a + 1)) (fun j => .int (mu_I g (a + 1) j))) (cd := arrV (w.2.2.2.1 q) (mu_N g (b + 1)) (fun j => .int (mu_I g (b + 1) j))) (srcPos := sp) (destPos := dp) (n := n) (by rw [hT]; exact hca.1) (by rw [hT]; exact hcb.1)
    (fun _ h => by cases h) (fun _ h => by cases h) (fun h => by cases h) (fun h => by cases h) hk0 hk1 hkk0 hkk1 (by simp [hprim]) s1 d1 n1
    (by rw [arrV_size]; omega)
    (by rw [arrV_size]; omega)
    (fun vm₁ _ i hi => by
      have e : (arrV (w.2.2.2.1 q) (mu_N g (a + 1)) (fun j => .int (mu_I g (a + 1) j))).slots.getD (sp.toNatClampNeg + i) .null = .int (mu_I g (a + 1) (sp.toNatClampNeg + i)) := by
        rw [Array.getD_eq_getD_getElem?, arrV_read _ _ (by omega)]
        rfl
      refine ⟨?_, ?_⟩
      · rw [e]
        exact hfit i hi
      · rw [e]
        exact trivial)
    (g := F0 m pc lsA (.int n :: .int dp :: .ref b :: .int sp :: .ref a :: st.map mu_V)) rfl (hl.1.trans hc.2.2.1.symm) (rest := st.map mu_V) rfl (by rw [hc.2.1]; exact hd) (by omega) (by show 2 * 0 + _ + (5 + 2 + 11) ≤ _; omega)
  have e1 : copied (arrV (w.2.2.2.1 q) (mu_N g (a + 1)) (fun j => .int (mu_I g (a + 1) j))) (arrV (w.2.2.2.1 q) (mu_N g (b + 1)) (fun j => .int (mu_I g (b + 1) j))) sp dp n = arrV (w.2.2.2.1 q) (mu_N g (b + 1)) (fun j => .int (va_cpy (mu_I g (a + 1)) (mu_I g (b + 1)) sp.toNatClampNeg dp.toNatClampNeg n.toNatClampNeg j)) := va_copied (fun z => .int z) _ _ _ _ (by omega)
  rw [e1] at X' step
  have hlb : b < H.size := (Array.getElem?_eq_some_iff.mp hcb.1).1
  generalize hcell : arrV (w.2.2.2.1 q) (mu_N g (b + 1)) (fun j => Value.int (va_cpy (mu_I g (a + 1)) (mu_I g (b + 1)) sp.toNatClampNeg dp.toNatClampNeg n.toNatClampNeg j)) = cell at X' step
  have hheap : ((T.setVm vm').setCell b cell).heap = H.setIfInBounds b cell := by rw [← hT]; rfl
  have z1 : (H.setIfInBounds b cell)[b]? = some cell := by simp [Array.getElem?_setIfInBounds, hlb]
  have z2 : (H.setIfInBounds b cell).size = H.size := by simp
  have z3 : ∀ q : Nat, q ≠ b → (H.setIfInBounds b cell)[q]? = H[q]? := fun q hq => by simp [Array.getElem?_setIfInBounds, Ne.symm hq]
  have eI : ∀ j, mu_I (mu_sC g (a + 1) sp.toNatClampNeg (b + 1) dp.toNatClampNeg n.toNatClampNeg) (b + 1) j = va_cpy (mu_I g (a + 1)) (mu_I g (b + 1)) sp.toNatClampNeg dp.toNatClampNeg n.toNatClampNeg j := by
    intro j
    show (if b + 1 = b + 1 ∧ (dp.toNatClampNeg ≤ j ∧ j < dp.toNatClampNeg + n.toNatClampNeg) then _ else _) = if _ then _ else _
    by_cases hj : dp.toNatClampNeg ≤ j ∧ j < dp.toNatClampNeg + n.toNatClampNeg
    · rw [if_pos ⟨rfl, hj⟩, if_pos hj]
    · rw [if_neg (fun h => hj h.2), if_neg hj]
  have eO : ∀ x y, x ≠ b + 1 → mu_I (mu_sC g (a + 1) sp.toNatClampNeg (b + 1) dp.toNatClampNeg n.toNatClampNeg) x y = mu_I g x y := fun x y h => if_neg (fun q => h q.1)
  have hrep : mu_rep w (mu_sC g (a + 1) sp.toNatClampNeg (b + 1) dp.toNatClampNeg n.toNatClampNeg) s (H.setIfInBounds b cell) := by
    obtain ⟨r1, r2, r3, r4⟩ := hy.1
    refine ⟨by rw [z2]; exact r1, by rw [z2]; exact r2, r3, fun y => ?_⟩
    by_cases hyb : y = b
    · subst hyb
      have eT : mu_T (mu_sC g (a + 1) sp.toNatClampNeg (y + 1) dp.toNatClampNeg n.toNatClampNeg) (y + 1) = 20 + q := tb
      refine ⟨fun c' hc' ht' => ?_, fun q' hq' ht' => ?_, fun ht' => ?_⟩
      · rw [eT] at ht'; omega
      · rw [eT] at ht'
        have : q' = q := by omega
        subst this
        refine ⟨fun _ => ⟨?_, fun hq1 j hj => ?_⟩, fun h => absurd hwb h⟩
        · have ef : (fun j => Value.int (va_cpy (mu_I g (a + 1)) (mu_I g (y + 1)) sp.toNatClampNeg dp.toNatClampNeg n.toNatClampNeg j)) = (fun j => mu_V (mu_Av (mu_sC g (a + 1) sp.toNatClampNeg (y + 1) dp.toNatClampNeg n.toNatClampNeg) q' (y + 1) j)) := by
            funext j
            rw [← eI]
            rcases (show q' = 0 ∨ q' = 1 by omega) with rfl | rfl <;> rfl
          rw [z1, ← hcell, ef]
          rfl
        · rw [eI]
          unfold va_cpy
          split
          · subst hq1
            exact hfit _ (by omega)
          · exact hcb.2 hq1 j hj
      · rw [eT] at ht'; omega
    · exact mu_cell_kept (r4 y) (z3 y hyb) rfl rfl (fun j => eO _ j (by omega)) (fun _ => rfl)
  have hk := k p l e R s m args below meth cd (H.setIfInBounds b cell) _ cells slots S0 Qw lsA hc ⟨hrep, mu_stat_kept hy.2.1 (fun q _ hq => z3 q (fun h => hq (by rw [h]; exact hwb))), by rw [z2]; exact hy.2.2.1, hy.2.2.2.1, fun q hq => ?_, hy.2.2.2.2.2⟩ hl hret _ hheap X'
  · obtain ⟨t2, a1, b1⟩ := hk
    exact ⟨t2, step t2 a1, b1⟩
  · rcases List.mem_append.mp hq with h | h
    · exact hy.2.2.2.2.1 q h
    · obtain ⟨z, -, hz⟩ := List.mem_map.mp h
      rw [← hz]
      exact hwb
end Mu13
