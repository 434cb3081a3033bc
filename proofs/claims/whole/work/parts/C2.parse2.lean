/-! MATH: what reading leaves behind it -/
/-- the height of the pile after the steps so far -/
def htP (s : PS) : Nat := rf_ht s.2.1 s.2.2.1 s.2.2.2.1
def stK (key w v : Int32) : Prop := (w = 0 ∧ 0 ≤ v.toInt ∧ v.toInt ≤ 9999) ∨ (w = 1 ∧ ∃ c ∈ tx_let key, v = nI c) ∨ (w = 2 ∧ ∃ c ∈ [33, 38, 42, 43, 45, 47, 60, 61, 62, 124], v = nI c)
def eqP (j : Nat) (s s' : PS) : Prop := s.2.2.2.1 ≤ s'.2.2.2.1 ∧ s.2.2.2.2 ≤ s'.2.2.2.2 ∧ s'.2.2.2.1 + s.1.2.1 + j ≤ s.2.2.2.1 + s'.1.2.1 ∧ s'.2.2.2.2 + s.1.2.1 + j ≤ s.2.2.2.2 + s'.1.2.1 ∧ ∀ i, i < s.2.2.2.1 → s'.2.1 i = s.2.1 i ∧ s'.2.2.1 i = s.2.2.1 i
/-- steps that go well on a pile of at least h -/
def ehP (key : Int32) (h : Nat) (s s' : PS) : Prop := (∀ k, s.2.2.2.1 ≤ k → k < s'.2.2.2.1 → stK key (s'.2.1 k) (s'.2.2.1 k) ∧ (s'.2.1 k = 2 → s'.2.2.1 k = 33 → h + 1 ≤ rf_ht s'.2.1 s'.2.2.1 k) ∧ (s'.2.1 k = 2 → s'.2.2.1 k ≠ 33 → h + 2 ≤ rf_ht s'.2.1 s'.2.2.1 k)) ∧ ∀ k, s.2.2.2.1 ≤ k → k ≤ s'.2.2.2.1 → rf_ht s'.2.1 s'.2.2.1 k + s.2.2.2.2 ≤ htP s + s'.2.2.2.2
section Pq
variable {B : Nat → Nat} {n i j h h' : Nat} {key : Int32} {s s1 s2 s' : PS} {w v : Int32}
theorem ht_c {wh v wh' v' : Nat → Int32} : ∀ {k : Nat}, (∀ i, i < k → wh' i = wh i ∧ v' i = v i) → rf_ht wh' v' k = rf_ht wh v k
  | 0, _ => rfl
  | k + 1, e => by
    unfold rf_ht
    rw [ht_c (fun i hi => e i (by omega)), (e k (by omega)).1, (e k (by omega)).2]
theorem eq_rf : eqP 0 s s := ⟨Nat.le_refl _, Nat.le_refl _, by omega, by omega, fun _ _ => ⟨rfl, rfl⟩⟩
theorem eq_tr (h1 : eqP i s s1) (h2 : eqP j s1 s2) : eqP (i + j) s s2 := by
  obtain ⟨a1, a2, a3, a4, a5⟩ := h1
  obtain ⟨b1, b2, b3, b4, b5⟩ := h2
  exact ⟨by omega, by omega, by omega, by omega, fun k hk => ⟨(b5 k (by omega)).1.trans (a5 k hk).1, (b5 k (by omega)).2.trans (a5 k hk).2⟩⟩
theorem eq_dn (h1 : eqP (i + j) s s1) : eqP i s s1 := by
  obtain ⟨a1, a2, a3, a4, a5⟩ := h1
  exact ⟨a1, a2, by omega, by omega, a5⟩
theorem eq_nx (h : tkW B n s.1) (h0 : s.1.1 ≠ 0) : eqP 1 s (nx B n s) := by
  have h1 := h.2.2.2.1 h0
  have h2 := (nxt_ok (B := B) (t := s.1) h.2.1).2
  exact ⟨Nat.le_refl _, Nat.le_refl _, by show s.2.2.2.1 + s.1.2.1 + 1 ≤ s.2.2.2.1 + (nxt B n s.1).2.1; omega, by show s.2.2.2.2 + s.1.2.1 + 1 ≤ s.2.2.2.2 + (nxt B n s.1).2.1; omega, fun _ _ => ⟨rfl, rfl⟩⟩
theorem eq_em (h1 : eqP (i + 1) s s1) : eqP i s (emt s1 w v) := by
  obtain ⟨a1, a2, a3, a4, a5⟩ := h1
  refine ⟨by show _ ≤ s1.2.2.2.1 + 1; omega, a2, by show s1.2.2.2.1 + 1 + s.1.2.1 + i ≤ s.2.2.2.1 + s1.1.2.1; omega, by show s1.2.2.2.2 + s.1.2.1 + i ≤ s.2.2.2.2 + s1.1.2.1; omega, fun k hk => ?_⟩
  show upd _ _ _ k = _ ∧ upd _ _ _ k = _
  rw [pk_un (by omega), pk_un (by omega)]
  exact a5 k hk
theorem eq_a (h1 : eqP i s s1) : s.1.2.1 + i ≤ s1.1.2.1 := by
  obtain ⟨a1, a2, a3, a4, a5⟩ := h1
  omega
/-- a number or a name is read -/
theorem eq_lf (h : tkW B n s.1) (h0 : s.1.1 ≠ 0) : eqP 0 s (nx B n (emt (lf s) w v)) := by
  have h1 := h.2.2.2.1 h0
  have h2 := (nxt_ok (B := B) (t := s.1) h.2.1).2
  refine ⟨by show _ ≤ s.2.2.2.1 + 1; omega, by show _ ≤ s.2.2.2.2 + 1; omega, by show s.2.2.2.1 + 1 + s.1.2.1 + 0 ≤ s.2.2.2.1 + (nxt B n s.1).2.1; omega, by show s.2.2.2.2 + 1 + s.1.2.1 + 0 ≤ s.2.2.2.2 + (nxt B n s.1).2.1; omega, fun k hk => ?_⟩
  show upd _ _ _ k = _ ∧ upd _ _ _ k = _
  rw [pk_un (by show k ≠ s.2.2.2.1; omega), pk_un (by show k ≠ s.2.2.2.1; omega)]
  exact ⟨rfl, rfl⟩
theorem ht_nx : htP (nx B n s) = htP s := rfl
theorem ht_em : htP (emt s w v) = if w = 2 then (if v = 33 then htP s else htP s - 1) else htP s + 1 := by
  show rf_ht (upd s.2.1 s.2.2.2.1 w) (upd s.2.2.1 s.2.2.2.1 v) (s.2.2.2.1 + 1) = _
  unfold rf_ht
  rw [pk_us, pk_us, ht_c (wh := s.2.1) (v := s.2.2.1) (fun i hi => ⟨pk_un (by omega), pk_un (by omega)⟩)]
  rfl
theorem eh_rf : ehP key h s s := ⟨fun k h1 h2 => absurd h2 (by omega), fun k h1 h2 => by
  have e : k = s.2.2.2.1 := by omega
  rw [e]; exact Nat.le_refl _⟩
theorem eh_nx (h1 : ehP key h s s1) : ehP key h s (nx B n s1) := h1
theorem eh_nx0 (h1 : ehP key h (nx B n s) s1) : ehP key h s s1 := h1
theorem eh_tr (q1 : eqP i s s1) (q2 : eqP j s1 s2) (h1 : ehP key h s s1) (h2 : ehP key h' s1 s2) (hh : h ≤ h') : ehP key h s s2 := by
  have e : ∀ k, k ≤ s1.2.2.2.1 → rf_ht s2.2.1 s2.2.2.1 k = rf_ht s1.2.1 s1.2.2.1 k := fun k hk => ht_c (fun i hi => q2.2.2.2.2 i (by omega))
  have l1 := q1.2.1
  have l2 := q2.2.1
  refine ⟨fun k k1 k2 => ?_, fun k k1 k2 => ?_⟩
  · by_cases hk : k < s1.2.2.2.1
    · rw [e k (by omega), (q2.2.2.2.2 k hk).1, (q2.2.2.2.2 k hk).2]
      exact h1.1 k k1 hk
    · obtain ⟨a, b, c⟩ := h2.1 k (by omega) k2
      exact ⟨a, fun x y => by have := b x y; omega, fun x y => by have := c x y; omega⟩
  · by_cases hk : k ≤ s1.2.2.2.1
    · rw [e k hk]
      have := h1.2 k k1 hk
      omega
    · have a := h2.2 k (by omega) k2
      have b := h1.2 s1.2.2.2.1 q1.1 (Nat.le_refl _)
      have c : htP s1 = rf_ht s1.2.1 s1.2.2.1 s1.2.2.2.1 := rfl
      omega
/-- a step more -/
theorem eh_em (q : s.2.2.2.1 ≤ s1.2.2.2.1) (h1 : ehP key h s s1) (hk : stK key w v) (h33 : w = 2 → v = 33 → h + 1 ≤ htP s1) (hs : w = 2 → v ≠ 33 → h + 2 ≤ htP s1) (hw : w = 2) : ehP key h s (emt s1 w v) := by
  have e : ∀ k, k ≤ s1.2.2.2.1 → rf_ht (upd s1.2.1 s1.2.2.2.1 w) (upd s1.2.2.1 s1.2.2.2.1 v) k = rf_ht s1.2.1 s1.2.2.1 k := fun k hk => ht_c (fun i hi => ⟨pk_un (by omega), pk_un (by omega)⟩)
  refine ⟨fun k k1 k2 => ?_, fun k k1 k2 => ?_⟩
  · have k2' : k < s1.2.2.2.1 + 1 := k2
    show stK key (upd _ _ _ k) (upd _ _ _ k) ∧ (upd _ _ _ k = 2 → upd _ _ _ k = 33 → h + 1 ≤ rf_ht (upd s1.2.1 s1.2.2.2.1 w) (upd s1.2.2.1 s1.2.2.2.1 v) k) ∧ (upd _ _ _ k = 2 → upd _ _ _ k ≠ 33 → h + 2 ≤ rf_ht (upd s1.2.1 s1.2.2.2.1 w) (upd s1.2.2.1 s1.2.2.2.1 v) k)
    rw [e k (by omega)]
    by_cases ek : k = s1.2.2.2.1
    · rw [ek, pk_us, pk_us]
      exact ⟨hk, h33, hs⟩
    · rw [pk_un ek, pk_un ek]
      exact h1.1 k k1 (by omega)
  · have k2' : k ≤ s1.2.2.2.1 + 1 := k2
    show rf_ht (upd s1.2.1 s1.2.2.2.1 w) (upd s1.2.2.1 s1.2.2.2.1 v) k + s.2.2.2.2 ≤ htP s + s1.2.2.2.2
    by_cases ek : k ≤ s1.2.2.2.1
    · rw [e k ek]; exact h1.2 k k1 ek
    · have ek2 : k = s1.2.2.2.1 + 1 := by omega
      have b := h1.2 s1.2.2.2.1 q (Nat.le_refl _)
      have c := ht_em (s := s1) (w := w) (v := v)
      have d : htP (emt s1 w v) = rf_ht (upd s1.2.1 s1.2.2.2.1 w) (upd s1.2.2.1 s1.2.2.2.1 v) (s1.2.2.2.1 + 1) := rfl
      rw [ek2, ← d, c, if_pos hw]
      have f : htP s1 = rf_ht s1.2.1 s1.2.2.1 s1.2.2.2.1 := rfl
      split <;> omega
theorem eh_lf (hk : stK key w v) (hw : w = 0 ∨ w = 1) : ehP key h s (nx B n (emt (lf s) w v)) ∧ htP (nx B n (emt (lf s) w v)) = htP s + 1 := by
  have n2 : w ≠ 2 := by rcases hw with e | e <;> rw [e] <;> decide
  have c := ht_em (s := lf s) (w := w) (v := v)
  rw [if_neg n2] at c
  have c' : htP (nx B n (emt (lf s) w v)) = htP s + 1 := c
  refine ⟨⟨fun k k1 k2 => ?_, fun k k1 k2 => ?_⟩, c'⟩
  · have k2' : k < s.2.2.2.1 + 1 := k2
    have ek : k = s.2.2.2.1 := by omega
    subst ek
    show stK key (upd s.2.1 s.2.2.2.1 w s.2.2.2.1) (upd s.2.2.1 s.2.2.2.1 v s.2.2.2.1) ∧ (upd s.2.1 s.2.2.2.1 w s.2.2.2.1 = 2 → _ → _) ∧ (upd s.2.1 s.2.2.2.1 w s.2.2.2.1 = 2 → _ → _)
    rw [pk_us, pk_us]
    exact ⟨hk, fun q => absurd q n2, fun q => absurd q n2⟩
  · have k2' : k ≤ s.2.2.2.1 + 1 := k2
    show rf_ht (upd s.2.1 s.2.2.2.1 w) (upd s.2.2.1 s.2.2.2.1 v) k + s.2.2.2.2 ≤ htP s + (s.2.2.2.2 + 1)
    by_cases ek : k = s.2.2.2.1
    · rw [ek, ht_c (wh := s.2.1) (v := s.2.2.1) (fun i hi => ⟨pk_un (by omega), pk_un (by omega)⟩)]
      have : htP s = rf_ht s.2.1 s.2.2.1 s.2.2.2.1 := rfl
      omega
    · have ek2 : k = s.2.2.2.1 + 1 := by omega
      have d : htP (nx B n (emt (lf s) w v)) = rf_ht (upd s.2.1 s.2.2.2.1 w) (upd s.2.2.1 s.2.2.2.1 v) (s.2.2.2.1 + 1) := rfl
      rw [ek2, ← d, c']
      omega
end Pq
