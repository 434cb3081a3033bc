/-! CLIENTS: words for numbers, calls, the reference's cells -/
/-- a test's answer -/
def bI (p : Prop) [Decidable p] : Int32 := if p then 1 else 0
theorem bI_01 (p : Prop) [Decidable p] : bI p = 0 ∨ bI p = 1 := by unfold bI; split <;> simp
theorem bI_0 {p : Prop} [Decidable p] : bI p = 0 ↔ ¬ p := by unfold bI; split <;> simp_all
theorem bI_1 {p : Prop} [Decidable p] : bI p = 1 ↔ p := by unfold bI; split <;> simp_all
theorem bI_t {p : Prop} [Decidable p] (h : p) : bI p = 1 := by unfold bI; rw [if_pos h]
theorem bI_f {p : Prop} [Decidable p] (h : ¬ p) : bI p = 0 := by unfold bI; rw [if_neg h]
theorem bI_c {p q : Prop} [Decidable p] [Decidable q] (h : p ↔ q) : bI p = bI q := by unfold bI; simp only [h]
theorem li_n (n : Nat) : (OfNat.ofNat n : Int32) = nI n := rfl
theorem li_lt {x y : Int32} : x < y ↔ x.toInt < y.toInt := Int32.lt_iff_toInt_lt
theorem li_le {x y : Int32} : x ≤ y ↔ x.toInt ≤ y.toInt := Int32.le_iff_toInt_le
theorem li_eq {x y : Int32} : x = y ↔ x.toInt = y.toInt := Int32.toInt_inj.symm
theorem li_b (x : Int32) : -2147483648 ≤ x.toInt ∧ x.toInt ≤ 2147483647 := ⟨Int32.le_toInt x, by have := Int32.toInt_lt x; omega⟩
theorem li_add {x y : Int32} (h : -2147483648 ≤ x.toInt + y.toInt ∧ x.toInt + y.toInt ≤ 2147483647) : (x + y).toInt = x.toInt + y.toInt := by
  rw [Int32.toInt_add, Int.bmod_eq_of_le (by omega) (by omega)]
theorem li_sub {x y : Int32} (h : -2147483648 ≤ x.toInt - y.toInt ∧ x.toInt - y.toInt ≤ 2147483647) : (x - y).toInt = x.toInt - y.toInt := by
  rw [Int32.toInt_sub, Int.bmod_eq_of_le (by omega) (by omega)]
theorem li_mul {x y : Int32} (h : -2147483648 ≤ x.toInt * y.toInt ∧ x.toInt * y.toInt ≤ 2147483647) : (x * y).toInt = x.toInt * y.toInt := by
  rw [Int32.toInt_mul, Int.bmod_eq_of_le (by omega) (by omega)]
theorem li_nI {x : Int32} {n : Nat} (h : x.toInt = (n : Int)) : x = nI n := by
  apply Int32.toInt_inj.mp
  have := li_b x
  rw [h, nI_toInt (by omega)]
theorem li_get {x : Int32} (h : 0 ≤ x.toInt) : x = nI x.toNatClampNeg ∧ x.toNatClampNeg < 2 ^ 31 := by
  have e : ((x.toNatClampNeg : Nat) : Int) = x.toInt := by
    show ((x.toInt.toNat : Nat) : Int) = x.toInt
    omega
  have := li_b x
  exact ⟨li_nI e.symm, by omega⟩
theorem mu_in_n {p n : Nat} (h : p < n) (h2 : p < 2 ^ 31) : mu_in (nI p) n := by
  unfold mu_in
  rw [nI_toInt h2]
  omega
/-- room is left for what a heap has used -/
def mu_fit2 (L : Nat × Nat) (g : mu_H) : Prop := mu_X g ≤ L.1 ∧ mu_S g ≤ L.2
/-- a contract with one answer and one heap -/
def mu_met (w : mu_O) (mi : mu_M) (d : Nat) (As : List Value) (g : mu_H) (r : Option Value) (g' : mu_H) : Prop := mu_mt w mi d As g (fun r' g'' => r' = r ∧ g'' = g') (mu_X g') (mu_S g')
theorem mu_cI {w : mu_O} {mi : mu_M} {d : Nat} {L : Nat × Nat} {As : List Value} {g g' : mu_H} {x : Int32} {K : Int32 → mu_H → Prop} (hM : mu_met w mi d As g (some (.int x)) g') (hL : mu_fit2 L g') (hK : K x g') : mu_callI w mi d L As g K := ⟨_, _, _, hM, hL.1, hL.2, fun r g'' h _ _ => ⟨x, h.1, by rw [h.2]; exact hK⟩⟩
theorem mu_cV {w : mu_O} {mi : mu_M} {d : Nat} {L : Nat × Nat} {As : List Value} {g g' : mu_H} {K : mu_H → Prop} (hM : mu_met w mi d As g none g') (hL : mu_fit2 L g') (hK : K g') : mu_callV w mi d L As g K := ⟨_, _, _, hM, hL.1, hL.2, fun r g'' h _ _ => ⟨h.1, by rw [h.2]; exact hK⟩⟩
theorem mu_cR {w : mu_O} {mi : mu_M} {d : Nat} {L : Nat × Nat} {As : List Value} {g g' : mu_H} {x : Nat} {K : Nat → mu_H → Prop} (hM : mu_met w mi d As g (some (.ref x)) g') (hL : mu_fit2 L g') (hK : K x g') : mu_callR w mi d L As g K := ⟨_, _, _, hM, hL.1, hL.2, fun r g'' h _ _ => ⟨x, h.1, by rw [h.2]; exact hK⟩⟩
/-- a contract of a method that makes nothing: its heaps as P says -/
def mu_mp (w : mu_O) (mi : mu_M) (d : Nat) (As : List Value) (g : mu_H) (P : Option Value → mu_H → Prop) : Prop := mu_mt w mi d As g P (mu_X g) (mu_S g)
theorem mu_cIp {w : mu_O} {mi : mu_M} {d : Nat} {L : Nat × Nat} {As : List Value} {g : mu_H} {P : Int32 → mu_H → Prop} {K : Int32 → mu_H → Prop} (hM : mu_mp w mi d As g (fun r g' => ∃ x, r = some (.int x) ∧ P x g')) (hL : mu_fit2 L g) (hK : ∀ x g', P x g' → mu_X g' = mu_X g → mu_S g' = mu_S g → K x g') : mu_callI w mi d L As g K := ⟨_, _, _, hM, hL.1, hL.2, fun r g'' h hx hs => by obtain ⟨x, rfl, hp⟩ := h; exact ⟨x, rfl, hK x g'' hp hx hs⟩⟩
theorem mu_cVp {w : mu_O} {mi : mu_M} {d : Nat} {L : Nat × Nat} {As : List Value} {g : mu_H} {P : mu_H → Prop} {K : mu_H → Prop} (hM : mu_mp w mi d As g (fun r g' => r = none ∧ P g')) (hL : mu_fit2 L g) (hK : ∀ g', P g' → mu_X g' = mu_X g → mu_S g' = mu_S g → K g') : mu_callV w mi d L As g K := ⟨_, _, _, hM, hL.1, hL.2, fun r g'' h hx hs => ⟨h.1, hK g'' h.2 hx hs⟩⟩
theorem mu_cRp {w : mu_O} {mi : mu_M} {d : Nat} {L : Nat × Nat} {As : List Value} {g : mu_H} {P : Nat → mu_H → Prop} {K : Nat → mu_H → Prop} (hM : mu_mp w mi d As g (fun r g' => ∃ x, r = some (.ref x) ∧ P x g')) (hL : mu_fit2 L g) (hK : ∀ x g', P x g' → mu_X g' = mu_X g → mu_S g' = mu_S g → K x g') : mu_callR w mi d L As g K := ⟨_, _, _, hM, hL.1, hL.2, fun r g'' h hx hs => by obtain ⟨x, rfl, hp⟩ := h; exact ⟨x, rfl, hK x g'' hp hx hs⟩⟩
/-- a contract of a method that makes nothing -/
theorem mu_mk {w : mu_O} {mi : mu_M} {d : Nat} {As : List Value} {g g' : mu_H} {r : Option Value} (hm : mu_ok mi = true) (hlen : Nat.ble (mu_words As) (mu_mL mi) = true) (hX : mu_X g' = mu_X g) (hS : mu_S g' = mu_S g)
    (k : ∀ L : Nat × Nat, mu_fit2 L g → ∀ Q : Option Value → mu_H → Prop, Q r g' → mu_go w mi d L Q 0 (mu_ent (mu_mL mi) As) [] g) : mu_met w mi d As g r g' :=
  mu_mtG hm (k _ ⟨Nat.le_of_eq hX.symm, Nat.le_of_eq hS.symm⟩ _ ⟨⟨rfl, rfl⟩, rfl, rfl⟩) hlen (Nat.le_of_eq hX.symm) (Nat.le_of_eq hS.symm)
theorem mu_mkp {w : mu_O} {mi : mu_M} {d : Nat} {As : List Value} {g : mu_H} {P : Option Value → mu_H → Prop} (hm : mu_ok mi = true) (hlen : Nat.ble (mu_words As) (mu_mL mi) = true)
    (k : ∀ L : Nat × Nat, mu_fit2 L g → ∀ Q : Option Value → mu_H → Prop, (∀ r g', P r g' → mu_X g' = mu_X g → mu_S g' = mu_S g → Q r g') → mu_go w mi d L Q 0 (mu_ent (mu_mL mi) As) [] g) : mu_mp w mi d As g P :=
  mu_mtG hm (k _ ⟨Nat.le_refl _, Nat.le_refl _⟩ _ (fun r g' h hx hs => ⟨h, hx, hs⟩)) hlen (Nat.le_refl _) (Nat.le_refl _)
/-- more depth does no harm -/
theorem mu_met_d {w : mu_O} {mi : mu_M} {As : List Value} {g g' : mu_H} {r : Option Value} (h : ∀ d, mu_met w mi d As g r g') (d : Nat) : mu_met w mi d As g r g' := h d
-- leaves of both classes
theorem sp_X11_isIn {w : mu_O} {d : Nat} {a b c : Int64} {g : mu_H} : mu_met w mm_X11_isIn d [.long a, .long b, .long c] g (some (.int (bI (b.toInt ≤ a.toInt ∧ a.toInt ≤ c.toInt)))) g := by
  refine mu_mk mk_X11_isIn rfl rfl rfl (fun L hL Q hQ => fm_X11_isIn_0 ?_)
  have e1 : lg_cmp a b < 0 ↔ a.toInt < b.toInt := by
    unfold lg_cmp
    have h1 : a > b ↔ b.toInt < a.toInt := Int64.lt_iff_toInt_lt
    have h2 : a = b ↔ a.toInt = b.toInt := Int64.toInt_inj.symm
    split
    · simp_all; omega
    · split
      · simp_all
      · simp_all; omega
  have e2 : 0 < lg_cmp a c ↔ c.toInt < a.toInt := by
    unfold lg_cmp
    have h1 : a > c ↔ c.toInt < a.toInt := Int64.lt_iff_toInt_lt
    split
    · simp_all
    · split
      · simp_all
      · simp_all
  rw [e1, e2]
  refine ⟨fun h => ⟨Or.inl rfl, ?_⟩, fun h => ⟨fun h2 => ⟨Or.inl rfl, ?_⟩, fun h2 => ⟨Or.inr rfl, ?_⟩⟩⟩
  · rw [bI_f (by omega)] at hQ; exact hQ
  · rw [bI_f (by omega)] at hQ; exact hQ
  · rw [bI_t (by omega)] at hQ; exact hQ
theorem sp_X11_personAt {w : mu_O} {d y : Nat} {v : Int32} {g : mu_H} : mu_met w mm_X11_personAt d [.ref y, .int v] g (some (.int (20 + 4 * v))) g :=
  mu_mk mk_X11_personAt rfl rfl rfl (fun L hL Q hQ => fm_X11_personAt_0 hQ)
theorem sp_X11_moveAt {w : mu_O} {d y : Nat} {v : Int32} {g : mu_H} : mu_met w mm_X11_moveAt d [.ref y, .int v] g (some (.int (60 + 8 * v))) g :=
  mu_mk mk_X11_moveAt rfl rfl rfl (fun L hL Q hQ => fm_X11_moveAt_0 hQ)
theorem sp_X11_weaponAt {w : mu_O} {d y : Nat} {v : Int32} {g : mu_H} : mu_met w mm_X11_weaponAt d [.ref y, .int v] g (some (.int (270 + 2 * v))) g :=
  mu_mk mk_X11_weaponAt rfl rfl rfl (fun L hL Q hQ => fm_X11_weaponAt_0 hQ)
theorem sp_X11_textAt {w : mu_O} {d y : Nat} {v : Int32} {g : mu_H} : mu_met w mm_X11_textAt d [.ref y, .int v] g (some (.int (460 + 200 * v))) g :=
  mu_mk mk_X11_textAt rfl rfl rfl (fun L hL Q hQ => fm_X11_textAt_0 hQ)
theorem sp_X10_isWithin {w : mu_O} {d : Nat} {v a b : Int32} {g : mu_H} : mu_met w mm_X10_isWithin d [.int v, .int a, .int b] g (some (.int (bI (a.toInt ≤ v.toInt ∧ v.toInt ≤ b.toInt)))) g := by
  refine mu_mk mk_X10_isWithin rfl rfl rfl (fun L hL Q hQ => fm_X10_isWithin_0 ?_)
  simp only [li_lt, li_le]
  refine ⟨fun h => ⟨Or.inl trivial, ?_⟩, fun h => ⟨fun h2 => ⟨Or.inl trivial, ?_⟩, fun h2 => ⟨Or.inr trivial, ?_⟩⟩⟩
  · rw [bI_f (by omega)] at hQ; exact hQ
  · rw [bI_f (by omega)] at hQ; exact hQ
  · rw [bI_t (by omega)] at hQ; exact hQ
