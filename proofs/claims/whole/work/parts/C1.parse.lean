/-! MATH: how a tape is read -/
/-- the first place from i on, below n, where p does not hold -/
def whF (p : Nat → Bool) (n : Nat) : Nat → Nat → Nat
  | 0, i => i
  | f + 1, i => if i < n ∧ p i = true then whF p n f (i + 1) else i
def whl (p : Nat → Bool) (n i : Nat) : Nat := whF p n (n - i) i
section Wl
variable {p : Nat → Bool} {n : Nat}
theorem wh_s {i : Nat} (h : i < n) (hp : p i = true) : whl p n i = whl p n (i + 1) := by
  unfold whl
  rw [show n - i = (n - (i + 1)) + 1 by omega]
  show (if i < n ∧ p i = true then whF p n (n - (i + 1)) (i + 1) else i) = _
  rw [if_pos ⟨h, hp⟩]
theorem wh_e {i : Nat} (h : ¬ (i < n ∧ p i = true)) : whl p n i = i := by
  unfold whl
  generalize n - i = f
  cases f with
  | zero => rfl
  | succ f =>
    show (if i < n ∧ p i = true then whF p n f (i + 1) else i) = _
    rw [if_neg h]
theorem wh_ok : ∀ (m i : Nat), n - i = m → i ≤ n → i ≤ whl p n i ∧ whl p n i ≤ n ∧ (∀ j, i ≤ j → j < whl p n i → p j = true) ∧ ¬ (whl p n i < n ∧ p (whl p n i) = true)
  | 0, i, hm, hi => by
    have e : whl p n i = i := wh_e (by omega)
    rw [e]
    exact ⟨Nat.le_refl _, hi, fun j h1 h2 => absurd h2 (by omega), by omega⟩
  | m + 1, i, hm, hi => by
    by_cases h : i < n ∧ p i = true
    · obtain ⟨q1, q2, q3, q4⟩ := wh_ok m (i + 1) (by omega) (by omega)
      rw [wh_s h.1 h.2]
      refine ⟨by omega, q2, fun j h1 h2 => ?_, q4⟩
      by_cases e : j = i
      · rw [e]; exact h.2
      · exact q3 j (by omega) h2
    · rw [wh_e h]
      exact ⟨Nat.le_refl _, hi, fun j h1 h2 => absurd h2 (by omega), h⟩
theorem wh_ge {i : Nat} (h : i ≤ n) : i ≤ whl p n i := (wh_ok _ i rfl h).1
theorem wh_le {i : Nat} (h : i ≤ n) : whl p n i ≤ n := (wh_ok _ i rfl h).2.1
theorem wh_in {i j : Nat} (h : i ≤ n) (h1 : i ≤ j) (h2 : j < whl p n i) : p j = true := (wh_ok _ i rfl h).2.2.1 j h1 h2
end Wl
/-- a word or sign: its kind (0 end, 1 letters, 2 digits, 3 sign, 4 glued), where it begins, where it ends -/
abbrev TK : Type := Nat × Nat × Nat
def knd (B : Nat → Nat) (n i : Nat) : Nat := if n ≤ i then 0 else if 97 ≤ B i ∧ B i ≤ 122 then 1 else if 48 ≤ B i ∧ B i ≤ 57 then 2 else 3
def isBlk (B : Nat → Nat) : Nat → Bool := fun i => Nat.beq (B i) 32
def isKd (B : Nat → Nat) (n k : Nat) : Nat → Bool := fun i => Nat.beq (knd B n i) k
def nxt (B : Nat → Nat) (n : Nat) (t : TK) : TK :=
  let a := whl (isBlk B) n t.2.2
  if knd B n a = 0 then (0, a, a) else if knd B n a = 3 then (3, a, a + 1) else (if (t.1 = 1 ∨ t.1 = 2) ∧ a = t.2.2 then 4 else knd B n a, a, whl (isKd B n (knd B n a)) n a)
def nmv (B : Nat → Nat) (a : Nat) : Nat → Nat
  | 0 => 0
  | j + 1 => 10 * nmv B a j + (B (a + j) - 48)
/-- where reading stands: the word, the steps so far, how many, how many numbers and names -/
abbrev PS : Type := TK × (Nat → Int32) × (Nat → Int32) × Nat × Nat
def emt (s : PS) (w v : Int32) : PS := (s.1, upd s.2.1 s.2.2.2.1 w, upd s.2.2.1 s.2.2.2.1 v, s.2.2.2.1 + 1, s.2.2.2.2)
def lf (s : PS) : PS := (s.1, s.2.1, s.2.2.1, s.2.2.2.1, s.2.2.2.2 + 1)
def nx (B : Nat → Nat) (n : Nat) (s : PS) : PS := (nxt B n s.1, s.2)
def sgs (t : Nat) : List Nat := match t with
  | 0 => [124]
  | 1 => [38]
  | 2 => [60, 61, 62]
  | 3 => [43, 45]
  | _ => [42, 47]
def isSg (B : Nat → Nat) (s : PS) (c : Nat) : Prop := s.1.1 = 3 ∧ B s.1.2.1 = c
noncomputable def prs (B : Nat → Nat) (n : Nat) (key : Int32) : Nat → Nat → Nat → Nat → PS → Bool × PS
  | 0, _, _, _, s => (false, s)
  | f + 1, m, o, u, s =>
    cif (m < 5) (cif ((prs B n key f (m + 1) o u s).1 = true) (prs B n key f (10 + m) o u (prs B n key f (m + 1) o u s).2) (prs B n key f (m + 1) o u s))
    (cif (m = 5)
      (cif (s.1.1 = 2) (cif (s.1.2.2 - s.1.2.1 ≤ 4) (true, nx B n (emt (lf s) 0 (nI (nmv B s.1.2.1 (s.1.2.2 - s.1.2.1))))) (false, s))
      (cif (s.1.1 = 1) (cif (s.1.2.2 - s.1.2.1 = 1 ∧ B s.1.2.1 ∈ tx_let key) (true, nx B n (emt (lf s) 1 (nI (B s.1.2.1)))) (false, s))
      (cif (isSg B s 33 ∧ u < 8) (cif ((prs B n key f 5 o (u + 1) (nx B n s)).1 = true) (true, emt (prs B n key f 5 o (u + 1) (nx B n s)).2 2 33) (prs B n key f 5 o (u + 1) (nx B n s)))
      (cif (isSg B s 40 ∧ o < 8) (cif ((prs B n key f 0 (o + 1) u (nx B n s)).1 = true) (cif (isSg B (prs B n key f 0 (o + 1) u (nx B n s)).2 41) (true, nx B n (prs B n key f 0 (o + 1) u (nx B n s)).2) (false, (prs B n key f 0 (o + 1) u (nx B n s)).2)) (prs B n key f 0 (o + 1) u (nx B n s))) (false, s)))))
      (cif (s.1.1 = 3 ∧ B s.1.2.1 ∈ sgs (m - 10)) (cif ((prs B n key f (m - 10 + 1) o u (nx B n s)).1 = true) (cif (m = 12) (true, emt (prs B n key f (m - 10 + 1) o u (nx B n s)).2 2 (nI (B s.1.2.1))) (prs B n key f m o u (emt (prs B n key f (m - 10 + 1) o u (nx B n s)).2 2 (nI (B s.1.2.1))))) (prs B n key f (m - 10 + 1) o u (nx B n s))) (true, s)))
section Pr
variable {B : Nat → Nat} {n f m o u : Nat} {key : Int32} {s : PS}
theorem pr_t (h : m < 5) (h1 : (prs B n key f (m + 1) o u s).1 = true) : prs B n key (f + 1) m o u s = prs B n key f (10 + m) o u (prs B n key f (m + 1) o u s).2 := by show cif _ _ _ = _; rw [cif_t h, cif_t h1]
theorem pr_tf (h : m < 5) (h1 : ¬ (prs B n key f (m + 1) o u s).1 = true) : prs B n key (f + 1) m o u s = prs B n key f (m + 1) o u s := by show cif _ _ _ = _; rw [cif_t h, cif_f h1]
theorem pr_2 (h : s.1.1 = 2) (h1 : s.1.2.2 - s.1.2.1 ≤ 4) : prs B n key (f + 1) 5 o u s = (true, nx B n (emt (lf s) 0 (nI (nmv B s.1.2.1 (s.1.2.2 - s.1.2.1))))) := by show cif _ _ _ = _; rw [cif_f (by omega), cif_t rfl, cif_t h, cif_t h1]
theorem pr_2f (h : s.1.1 = 2) (h1 : ¬ s.1.2.2 - s.1.2.1 ≤ 4) : prs B n key (f + 1) 5 o u s = (false, s) := by show cif _ _ _ = _; rw [cif_f (by omega), cif_t rfl, cif_t h, cif_f h1]
theorem pr_1 (h : s.1.1 = 1) (h1 : s.1.2.2 - s.1.2.1 = 1 ∧ B s.1.2.1 ∈ tx_let key) : prs B n key (f + 1) 5 o u s = (true, nx B n (emt (lf s) 1 (nI (B s.1.2.1)))) := by show cif _ _ _ = _; rw [cif_f (by omega), cif_t rfl, cif_f (by omega), cif_t h, cif_t h1]
theorem pr_1f (h : s.1.1 = 1) (h1 : ¬ (s.1.2.2 - s.1.2.1 = 1 ∧ B s.1.2.1 ∈ tx_let key)) : prs B n key (f + 1) 5 o u s = (false, s) := by show cif _ _ _ = _; rw [cif_f (by omega), cif_t rfl, cif_f (by omega), cif_t h, cif_f h1]
theorem pr_n (h : isSg B s 33 ∧ u < 8) (h1 : (prs B n key f 5 o (u + 1) (nx B n s)).1 = true) : prs B n key (f + 1) 5 o u s = (true, emt (prs B n key f 5 o (u + 1) (nx B n s)).2 2 33) := by
  have := h.1.1
  show cif _ _ _ = _
  rw [cif_f (by omega), cif_t rfl, cif_f (by omega), cif_f (by omega), cif_t h, cif_t h1]
theorem pr_nf (h : isSg B s 33 ∧ u < 8) (h1 : ¬ (prs B n key f 5 o (u + 1) (nx B n s)).1 = true) : prs B n key (f + 1) 5 o u s = prs B n key f 5 o (u + 1) (nx B n s) := by
  have := h.1.1
  show cif _ _ _ = _
  rw [cif_f (by omega), cif_t rfl, cif_f (by omega), cif_f (by omega), cif_t h, cif_f h1]
theorem pr_p (h : isSg B s 40 ∧ o < 8) (h1 : (prs B n key f 0 (o + 1) u (nx B n s)).1 = true) (h2 : isSg B (prs B n key f 0 (o + 1) u (nx B n s)).2 41) : prs B n key (f + 1) 5 o u s = (true, nx B n (prs B n key f 0 (o + 1) u (nx B n s)).2) := by
  have h3 := h.1.1
  have h4 := h.1.2
  show cif _ _ _ = _
  rw [cif_f (by omega), cif_t rfl, cif_f (by omega), cif_f (by omega), cif_f (fun q => by have := q.1.2; omega), cif_t h, cif_t h1, cif_t h2]
theorem pr_pc (h : isSg B s 40 ∧ o < 8) (h1 : (prs B n key f 0 (o + 1) u (nx B n s)).1 = true) (h2 : ¬ isSg B (prs B n key f 0 (o + 1) u (nx B n s)).2 41) : prs B n key (f + 1) 5 o u s = (false, (prs B n key f 0 (o + 1) u (nx B n s)).2) := by
  have h3 := h.1.1
  have h4 := h.1.2
  show cif _ _ _ = _
  rw [cif_f (by omega), cif_t rfl, cif_f (by omega), cif_f (by omega), cif_f (fun q => by have := q.1.2; omega), cif_t h, cif_t h1, cif_f h2]
theorem pr_pf (h : isSg B s 40 ∧ o < 8) (h1 : ¬ (prs B n key f 0 (o + 1) u (nx B n s)).1 = true) : prs B n key (f + 1) 5 o u s = prs B n key f 0 (o + 1) u (nx B n s) := by
  have h3 := h.1.1
  have h4 := h.1.2
  show cif _ _ _ = _
  rw [cif_f (by omega), cif_t rfl, cif_f (by omega), cif_f (by omega), cif_f (fun q => by have := q.1.2; omega), cif_t h, cif_f h1]
theorem pr_0 (h1 : ¬ s.1.1 = 2) (h2 : ¬ s.1.1 = 1) (h3 : ¬ (isSg B s 33 ∧ u < 8)) (h4 : ¬ (isSg B s 40 ∧ o < 8)) : prs B n key (f + 1) 5 o u s = (false, s) := by show cif _ _ _ = _; rw [cif_f (by omega), cif_t rfl, cif_f h1, cif_f h2, cif_f h3, cif_f h4]
theorem pr_l {t : Nat} (h : s.1.1 = 3 ∧ B s.1.2.1 ∈ sgs t) (h1 : (prs B n key f (t + 1) o u (nx B n s)).1 = true) (h2 : t ≠ 2) : prs B n key (f + 1) (10 + t) o u s = prs B n key f (10 + t) o u (emt (prs B n key f (t + 1) o u (nx B n s)).2 2 (nI (B s.1.2.1))) := by
  have e : 10 + t - 10 = t := by omega
  show cif _ _ _ = _
  rw [cif_f (by omega), cif_f (by omega), e, cif_t h, cif_t h1, cif_f (by omega)]
theorem pr_l2 (h : s.1.1 = 3 ∧ B s.1.2.1 ∈ sgs 2) (h1 : (prs B n key f 3 o u (nx B n s)).1 = true) : prs B n key (f + 1) 12 o u s = (true, emt (prs B n key f 3 o u (nx B n s)).2 2 (nI (B s.1.2.1))) := by
  show cif _ _ _ = _
  rw [cif_f (by omega), cif_f (by omega), cif_t h, cif_t h1, cif_t rfl]
theorem pr_lf {t : Nat} (h : s.1.1 = 3 ∧ B s.1.2.1 ∈ sgs t) (h1 : ¬ (prs B n key f (t + 1) o u (nx B n s)).1 = true) : prs B n key (f + 1) (10 + t) o u s = prs B n key f (t + 1) o u (nx B n s) := by
  have e : 10 + t - 10 = t := by omega
  show cif _ _ _ = _
  rw [cif_f (by omega), cif_f (by omega), e, cif_t h, cif_f h1]
theorem pr_l0 {t : Nat} (h : ¬ (s.1.1 = 3 ∧ B s.1.2.1 ∈ sgs t)) : prs B n key (f + 1) (10 + t) o u s = (true, s) := by
  have e : 10 + t - 10 = t := by omega
  show cif _ _ _ = _
  rw [cif_f (by omega), cif_f (by omega), e, cif_f h]
/-- a word as it may stand -/
def tkW (B : Nat → Nat) (n : Nat) (t : TK) : Prop := t.2.1 ≤ t.2.2 ∧ t.2.2 ≤ n ∧ t.1 ≤ 4 ∧ (t.1 ≠ 0 → t.2.1 < t.2.2) ∧ (t.1 = 3 → t.2.2 = t.2.1 + 1) ∧ (t.1 = 1 → ∀ j, t.2.1 ≤ j → j < t.2.2 → 97 ≤ B j ∧ B j ≤ 122) ∧ (t.1 = 2 → ∀ j, t.2.1 ≤ j → j < t.2.2 → 48 ≤ B j ∧ B j ≤ 57) ∧ (t.1 = 0 → t.2.1 = n)
theorem kd_0 {i : Nat} (h : n ≤ i) : knd B n i = 0 := if_pos h
theorem kd_ne {i : Nat} (h : i < n) : knd B n i ≠ 0 ∧ knd B n i ≤ 3 := by
  unfold knd
  rw [if_neg (by omega)]
  split
  · omega
  · split <;> omega
theorem kd_1 {i : Nat} (h : knd B n i = 1) : i < n ∧ 97 ≤ B i ∧ B i ≤ 122 := by
  unfold knd at h
  split at h
  · omega
  · split at h
    · rename_i h1 h2; exact ⟨by omega, h2⟩
    · split at h <;> omega
theorem kd_2 {i : Nat} (h : knd B n i = 2) : i < n ∧ 48 ≤ B i ∧ B i ≤ 57 := by
  unfold knd at h
  split at h
  · omega
  · split at h
    · omega
    · split at h
      · rename_i h1 h2 h3; exact ⟨by omega, h3⟩
      · omega
theorem isKd_t {k i : Nat} (h : isKd B n k i = true) : knd B n i = k := Nat.eq_of_beq_eq_true h
theorem kd_isKd {i : Nat} : isKd B n (knd B n i) i = true := Nat.beq_refl _
theorem nxt_ok {t : TK} (h : t.2.2 ≤ n) : tkW B n (nxt B n t) ∧ t.2.2 ≤ (nxt B n t).2.1 := by
  have ha := wh_ge (p := isBlk B) h
  have hl := wh_le (p := isBlk B) h
  unfold nxt tkW
  dsimp only
  generalize whl (isBlk B) n t.2.2 = a at *
  by_cases h0 : knd B n a = 0
  · rw [if_pos h0]
    have hn : a = n := by
      rcases Nat.lt_or_ge a n with q | q
      · exact absurd h0 (kd_ne q).1
      · omega
    dsimp only
    exact ⟨⟨Nat.le_refl _, hl, by omega, by omega, by omega, by omega, by omega, fun _ => hn⟩, ha⟩
  · rw [if_neg h0]
    have hn : a < n := by
      rcases Nat.lt_or_ge a n with q | q
      · exact q
      · exact absurd (kd_0 q) h0
    by_cases h3 : knd B n a = 3
    · rw [if_pos h3]
      dsimp only
      exact ⟨⟨by omega, by omega, by omega, by omega, by omega, by omega, by omega, by omega⟩, ha⟩
    · rw [if_neg h3]
      have e1 : a + 1 ≤ whl (isKd B n (knd B n a)) n a := by rw [wh_s hn kd_isKd]; exact wh_ge (by omega)
      have e2 := wh_le (p := isKd B n (knd B n a)) hl
      have e3 : ∀ j, a ≤ j → j < whl (isKd B n (knd B n a)) n a → knd B n j = knd B n a := fun j h1 h2 => isKd_t (wh_in hl h1 h2)
      have hk := (kd_ne (B := B) hn).2
      generalize whl (isKd B n (knd B n a)) n a = e at *
      dsimp only
      by_cases hg : (t.1 = 1 ∨ t.1 = 2) ∧ a = t.2.2
      · rw [if_pos hg]
        exact ⟨⟨by omega, e2, by omega, fun _ => by omega, by omega, by omega, by omega, by omega⟩, ha⟩
      · rw [if_neg hg]
        exact ⟨⟨by omega, e2, by omega, fun _ => by omega, fun q => absurd q h3, fun q j h1 h2 => (kd_1 ((e3 j h1 h2).trans q)).2, fun q j h1 h2 => (kd_2 ((e3 j h1 h2).trans q)).2, fun q => absurd q h0⟩, ha⟩
end Pr
