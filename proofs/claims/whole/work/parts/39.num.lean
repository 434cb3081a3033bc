/-! CLIENTS: words for numbers: tests, sums, the first of a row -/
theorem cI_dec (p : Prop) : Nonempty (Decidable p) := ⟨Classical.propDecidable p⟩
/-- a test's answer, of any statement -/
noncomputable def cI (p : Prop) : Int32 := @bI p (Classical.propDecidable p)
theorem cI_01 (p : Prop) : cI p = 0 ∨ cI p = 1 := @bI_01 p (Classical.propDecidable p)
theorem cI_0 {p : Prop} : cI p = 0 ↔ ¬ p := @bI_0 p (Classical.propDecidable p)
theorem cI_1 {p : Prop} : cI p = 1 ↔ p := @bI_1 p (Classical.propDecidable p)
theorem cI_t {p : Prop} (h : p) : cI p = 1 := cI_1.mpr h
theorem cI_f {p : Prop} (h : ¬ p) : cI p = 0 := cI_0.mpr h
theorem cI_c {p q : Prop} (h : p ↔ q) : cI p = cI q := by rw [propext h]
theorem bI_cI {p : Prop} [Decidable p] : bI p = cI p := by
  by_cases h : p
  · rw [bI_t h, cI_t h]
  · rw [bI_f h, cI_f h]
theorem cq {C : Prop} {g : mu_H} {Q : Option Value → mu_H → Prop} (hQ : Q (some (.int (cI C))) g) : (C → Q (some (.int 1)) g) ∧ (¬ C → Q (some (.int 0)) g) :=
  ⟨fun h => by rw [cI_t h] at hQ; exact hQ, fun h => by rw [cI_f h] at hQ; exact hQ⟩
theorem cq' {C : Prop} {g : mu_H} {Q : Option Value → mu_H → Prop} (hQ : Q (some (.int (cI C))) g) : (C → Q (some (.int (nI 1))) g) ∧ (¬ C → Q (some (.int (nI 0))) g) := cq hQ
theorem cI_0n {p : Prop} : cI p = nI 0 ↔ ¬ p := cI_0
theorem bI_0n {p : Prop} [Decidable p] : bI p = nI 0 ↔ ¬ p := bI_0
theorem cI_F : cI False = nI 0 := cI_f id
theorem cI_T : cI True = nI 1 := cI_t trivial
theorem cI_1n {p : Prop} : cI p = nI 1 ↔ p := cI_1
theorem bI_1n {p : Prop} [Decidable p] : bI p = nI 1 ↔ p := bI_1
theorem nor_p {p : Prop} : (¬ p ∨ p) ↔ True := iff_true_intro (Classical.em p).symm
theorem n2_lt (p : Prop) (h : p) : p ↔ True := iff_true_intro h
theorem nI_lit0 : (0 : Int32) = nI 0 := rfl
/-- a sum of n numbers -/
def sumN (f : Nat → Nat) : Nat → Nat
  | 0 => 0
  | n + 1 => sumN f n + f n
theorem sumN_c {f h : Nat → Nat} : ∀ {n : Nat}, (∀ i, i < n → f i = h i) → sumN f n = sumN h n
  | 0, _ => rfl
  | n + 1, e => by unfold sumN; rw [sumN_c (fun i hi => e i (by omega)), e n (by omega)]
theorem sumN_le {f : Nat → Nat} {m : Nat} : ∀ {n : Nat}, (∀ i, i < n → f i ≤ m) → sumN f n ≤ n * m
  | 0, _ => by unfold sumN; omega
  | n + 1, e => by
    have h1 := sumN_le (n := n) (fun i hi => e i (by omega))
    have h2 := e n (by omega)
    unfold sumN
    rw [Nat.succ_mul]
    omega
/-- 1 or 0 -/
noncomputable def cN (p : Prop) : Nat := @ite _ p (Classical.propDecidable p) 1 0
theorem cN_t {p : Prop} (h : p) : cN p = 1 := if_pos h
theorem cN_f {p : Prop} (h : ¬ p) : cN p = 0 := if_neg h
theorem cN_le (p : Prop) : cN p ≤ 1 := by unfold cN; split <;> omega
theorem cN_c {p q : Prop} (h : p ↔ q) : cN p = cN q := by rw [propext h]
theorem cI_n (p : Prop) : cI p = nI (cN p) := by
  by_cases h : p
  · rw [cI_t h, cN_t h]; rfl
  · rw [cI_f h, cN_f h]; rfl
/-- the first of the first n with c; n where there is none -/
noncomputable def fsN (c : Nat → Prop) : Nat → Nat
  | 0 => 0
  | n + 1 => if fsN c n < n then fsN c n else @ite _ (c n) (Classical.propDecidable _) n (n + 1)
theorem fsN_at {c : Nat → Prop} {i : Nat} (hc : c i) (hb : ∀ j, j < i → ¬ c j) : ∀ {n : Nat}, i < n → fsN c n = i
  | 0, h => absurd h (Nat.not_lt_zero _)
  | n + 1, h => by
    unfold fsN
    by_cases e : i < n
    · rw [fsN_at hc hb e, if_pos e]
    · have e2 : i = n := by omega
      subst e2
      have : ∀ k, k ≤ i → ¬ fsN c k < k := by
        intro k
        induction k with
        | zero => intro _; unfold fsN; omega
        | succ k ih =>
          intro hk
          have hk2 := ih (by omega)
          unfold fsN
          rw [if_neg hk2, if_neg (hb k (by omega))]
          omega
      rw [if_neg (this i (Nat.le_refl _)), if_pos hc]
theorem fsN_no {c : Nat → Prop} : ∀ {n : Nat}, (∀ j, j < n → ¬ c j) → fsN c n = n
  | 0, _ => rfl
  | n + 1, h => by
    unfold fsN
    rw [fsN_no (fun j hj => h j (by omega)), if_neg (Nat.lt_irrefl _), if_neg (h n (by omega))]
theorem fsN_ok {c : Nat → Prop} {n : Nat} : (fsN c n < n ∧ c (fsN c n) ∧ ∀ j, j < fsN c n → ¬ c j) ∨ (fsN c n = n ∧ ∀ j, j < n → ¬ c j) := by
  by_cases h : ∃ i, i < n ∧ c i
  · obtain ⟨i, ⟨h1, h2⟩, h3⟩ := pk_least (fun i => i < n ∧ c i) h
    have h4 : ∀ j, j < i → ¬ c j := fun j hj hc => h3 j hj ⟨by omega, hc⟩
    have e := fsN_at h2 h4 h1
    left
    rw [e]
    exact ⟨h1, h2, h4⟩
  · right
    have h2 : ∀ j, j < n → ¬ c j := fun j hj hc => h ⟨j, hj, hc⟩
    exact ⟨fsN_no h2, h2⟩
theorem fsN_c {c c' : Nat → Prop} {n : Nat} (h : ∀ i, i < n → (c i ↔ c' i)) : fsN c n = fsN c' n := by
  rcases fsN_ok (c := c) (n := n) with ⟨h1, h2, h3⟩ | ⟨h1, h2⟩
  · exact (fsN_at ((h _ h1).mp h2) (fun j hj hc => h3 j hj ((h j (by omega)).mpr hc)) h1).symm
  · rw [h1, fsN_no (fun j hj hc => h2 j hj ((h j hj).mpr hc))]
theorem mx_n {a b : Nat} (ha : a < 2 ^ 31) (hb : b < 2 ^ 31) : mu_max (nI a) (nI b) = nI (max a b) := by
  unfold mu_max
  simp only [nI_ltI ha hb]
  split <;> congr 1 <;> omega
theorem mn_n {a b : Nat} (ha : a < 2 ^ 31) (hb : b < 2 ^ 31) : mu_min (nI a) (nI b) = nI (min a b) := by
  unfold mu_min
  simp only [nI_ltI hb ha]
  split <;> congr 1 <;> omega
theorem dv_n {a b : Nat} (ha : a < 2 ^ 31) (h0 : 0 < b) (hb : b < 2 ^ 31) : nI a / nI b = nI (a / b) := pk_div ha h0 hb
theorem rm_n {a b : Nat} (ha : a < 2 ^ 31) (hb : b < 2 ^ 31) : nI a % nI b = nI (a % b) := by
  apply Int32.toInt_inj.mp
  have h2 : a % b ≤ a := Nat.mod_le a b
  rw [Int32.toInt_mod, nI_toInt ha, nI_toInt hb, nI_toInt (by omega)]
  exact (Int.ofNat_tmod a b).symm
/-- an index, or not -/
theorem ix_n (v : Int32) : v.toInt < 0 ∨ ∃ k : Nat, k < 2 ^ 31 ∧ v = nI k := by
  by_cases h : 0 ≤ v.toInt
  · obtain ⟨e, h2⟩ := li_get h
    exact Or.inr ⟨_, h2, e⟩
  · left; omega
theorem ofNat_n (n : Nat) : Int32.ofNat n = nI n := rfl
