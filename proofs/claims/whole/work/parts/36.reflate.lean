/-! CLIENTS: texts in the row s, and how late one may be -/
abbrev txw (s : Nat → Int32) (t k : Nat) : Int32 := s (460 + 200 * t + 4 + 2 * k)
abbrev txv (s : Nat → Int32) (t k : Nat) : Int32 := s (460 + 200 * t + 4 + 2 * k + 1)
def txn (s : Nat → Int32) (t : Nat) : Nat := (s (460 + 200 * t + 2)).toNatClampNeg
def txl (s : Nat → Int32) (t : Nat) : Nat := (s (460 + 200 * t + 1)).toNatClampNeg
/-- the letters that a key's texts may name -/
def tx_let (key : Int32) : List Nat := if key = 0 then [115, 116, 119] else if key = 1 then [107, 115, 98, 97] else [110, 115]
/-- a text of the row s is one that was read -/
def wf_text (s : Nat → Int32) (t : Nat) : Prop := s (460 + 200 * t + 2) = nI (txn s t) ∧ s (460 + 200 * t + 1) = nI (txl s t) ∧ (s (460 + 200 * t) = 0 ∨ s (460 + 200 * t) = 1 ∨ s (460 + 200 * t) = 2) ∧ tx_ok (txw s t) (txv s t) (txn s t) (txl s t) ∧
  ∀ k, k < txn s t → (txw s t k = 0 → 0 ≤ (txv s t k).toInt ∧ (txv s t k).toInt ≤ 9999) ∧ (txw s t k = 1 → ∃ c ∈ tx_let (s (460 + 200 * t)), txv s t k = nI c) ∧ (txw s t k = 2 → ∃ c ∈ [33, 38, 42, 43, 45, 47, 60, 61, 62, 124], txv s t k = nI c)
def wf_texts (s : Nat → Int32) (n : Nat) : Prop := ∀ t, t < n → wf_text s t
def tx_val (s : Nat → Int32) (t : Nat) (nm : Nat → Int32) : Int32 := (rf_rl (txw s t) (txv s t) nm (txn s t)).headD 0
theorem rf_rl_congr {wh v nm nm' : Nat → Int32} : ∀ {n : Nat}, (∀ k, k < n → wh k ≠ 2 → wh k ≠ 0 → nm (v k).toNatClampNeg = nm' (v k).toNatClampNeg) → rf_rl wh v nm n = rf_rl wh v nm' n
  | 0, _ => rfl
  | n + 1, h => by
    have ih := rf_rl_congr (n := n) (fun k hk => h k (by omega))
    unfold rf_rl
    rw [ih]
    unfold rf_sl
    split
    · rfl
    · rename_i h2
      split
      · rfl
      · rename_i h0
        rw [h n (by omega) h2 h0]
theorem tx_val_congr {s nm nm' : Nat → Int32} {t : Nat} (hw : wf_text s t) (h : ∀ c ∈ tx_let (s (460 + 200 * t)), nm c = nm' c) : tx_val s t nm = tx_val s t nm' := by
  unfold tx_val
  rw [rf_rl_congr (nm := nm) (nm' := nm')]
  intro k hk h2 h0
  obtain ⟨-, -, -, hok, hl⟩ := hw
  have h1 := ((hok.2.2.2.2 k (by omega)).2 hk).1
  obtain ⟨c, hc, e⟩ := (hl k hk).2.1 (by rcases h1 with p | p | p; exact absurd p h0; exact p; exact absurd p h2)
  have hc2 : c < 2 ^ 31 := by
    unfold tx_let at hc
    split at hc
    · simp at hc; omega
    · split at hc <;> simp at hc <;> omega
  rw [e, nI_clamp hc2]
  exact h c hc
theorem rf_last_ok {s : Nat → Int32} {key : Int32} : ∀ {n : Nat}, n ≤ 14 → rf_last s key n = -1 ∨ ∃ t, t < n ∧ rf_last s key n = nI t ∧ s (460 + 200 * t) = key
  | 0, _ => Or.inl rfl
  | n + 1, h => by
    unfold rf_last
    split
    · rename_i e; exact Or.inr ⟨n, by omega, rfl, e⟩
    · rcases rf_last_ok (s := s) (key := key) (n := n) (by omega) with e | ⟨t, h1, h2, h3⟩
      · exact Or.inl e
      · exact Or.inr ⟨t, by omega, h2, h3⟩
/-- a number held within 0 .. m -/
def rf_hold (v m : Int32) : Int32 := if v.toInt < 0 then 0 else if m.toInt < v.toInt then m else v
def rf_nmL (a b c : Int32) : Nat → Int32 := fun k => if k = 115 then a else if k = 116 then b else if k = 119 then c else 0
/-- what the text that counts of a key gives, or e where there is none -/
def rf_law (s : Nat → Int32) (key : Int32) (n : Nat) (nm : Nat → Int32) (e : Int32) : Int32 := if (rf_last s key n).toInt < 0 then e else tx_val s (rf_last s key n).toNatClampNeg nm
/-- LATE -/
def rf_late (s : Nat → Int32) (n p : Nat) : Int32 := rf_hold (rf_law s 0 n (rf_nmL (s (20 + 4 * p + 1)) (s (20 + 4 * p + 2)) (s 9)) ((9 - s (20 + 4 * p + 1)) / 3 + s (20 + 4 * p + 2) / 25 + s 9)) 3
