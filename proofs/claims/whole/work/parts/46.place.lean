/-! MATH: where people are -/
/-- part i of n of the way from a to b, along one side -/
def bwc (a b i n : Nat) : Nat := (nI a + (nI b - nI a) * nI i / nI n).toNatClampNeg
def bwk (a b n i : Nat) : Bool := decide (nI a + (nI b - nI a) * nI i / nI n = nI (bwc a b i n)) && (Nat.ble (bwc a b i n) (max a b) && (!(Nat.beq i n) || Nat.beq (bwc a b i n) b))
set_option maxRecDepth 100000 in
theorem bwc_chk : ((List.range 12).all fun a => (List.range 12).all fun b => (List.range 4).all fun n => (List.range (n + 2)).all fun i => bwk a b (n + 1) i) = true := by decide +kernel
theorem bwc_all (a : Nat) (ha : a < 12) (b : Nat) (hb : b < 12) (n : Nat) (hn : n < 5) (i : Nat) (hi : i < 5) (h1 : 1 ≤ n) (h2 : i ≤ n) : nI a + (nI b - nI a) * nI i / nI n = nI (bwc a b i n) ∧ bwc a b i n ≤ max a b ∧ (i = n → bwc a b i n = b) := by
  have k1 := List.all_eq_true.mp bwc_chk a (List.mem_range.mpr ha)
  have k2 := List.all_eq_true.mp k1 b (List.mem_range.mpr hb)
  have k3 := List.all_eq_true.mp k2 (n - 1) (List.mem_range.mpr (by omega))
  have k4 := List.all_eq_true.mp k3 i (List.mem_range.mpr (by omega))
  rw [show n - 1 + 1 = n by omega] at k4
  unfold bwk at k4
  simp only [Bool.and_eq_true, decide_eq_true_eq, Bool.or_eq_true, Bool.not_eq_true'] at k4
  refine ⟨k4.1, Nat.le_of_ble_eq_true k4.2.1, fun e => ?_⟩
  rcases k4.2.2 with q | q
  · rw [e] at q
    exact absurd (Nat.beq_refl n) (by rw [q]; decide)
  · exact Nat.eq_of_beq_eq_true q
def bw (f t i n : Nat) : Nat := 10 * bwc (f / 10) (t / 10) i n + bwc (f % 10) (t % 10) i n
def okP (v : Nat) : Prop := v / 10 ≤ 11 ∧ v % 10 ≤ 7
theorem bw_ok {f t i n : Nat} (hf : okP f) (ht : okP t) (hn : 1 ≤ n) (hn4 : n ≤ 4) (hi : i ≤ n) : okP (bw f t i n) ∧ bw f t i n / 10 = bwc (f / 10) (t / 10) i n ∧ bw f t i n % 10 = bwc (f % 10) (t % 10) i n := by
  obtain ⟨f1, f2⟩ := hf
  obtain ⟨t1, t2⟩ := ht
  have h1 := (bwc_all (f / 10) (by omega) (t / 10) (by omega) n (by omega) i (by omega) hn hi).2.1
  have h2 := (bwc_all (f % 10) (by omega) (t % 10) (by omega) n (by omega) i (by omega) hn hi).2.1
  unfold okP bw
  omega
theorem bw_end {f t n : Nat} (hf : okP f) (ht : okP t) (hn : 1 ≤ n) (hn4 : n ≤ 4) : bw f t n n = t := by
  obtain ⟨f1, f2⟩ := hf
  obtain ⟨t1, t2⟩ := ht
  have h1 := (bwc_all (f / 10) (by omega) (t / 10) (by omega) n (by omega) n (by omega) hn (Nat.le_refl _)).2.2 rfl
  have h2 := (bwc_all (f % 10) (by omega) (t % 10) (by omega) n (by omega) n (by omega) hn (Nat.le_refl _)).2.2 rfl
  unfold bw
  omega
/-- a move by which p goes at beat t -/
def goAt (s : Nat → Int32) (p t m : Nat) : Prop := vM s m 0 = p ∧ mGo s m ∧ vM s m 2 ≤ t ∧ t < vM s m 2 + vM s m 3
noncomputable def acI (s : Nat → Int32) (p t : Nat) : Nat := fsN (goAt s p t) (nm s)
/-- where p's way began that p is on, and where p is; 0 is ahead of all beats, t + 1 is beat t -/
noncomputable def plB (s : Nat → Int32) (p : Nat) : Nat → Nat × Nat
  | 0 => (vP s p 0, vP s p 0)
  | t + 1 => if acI s p t < nm s then ((if vM s (acI s p t) 2 = t then (plB s p t).2 else (plB s p t).1), bw (if vM s (acI s p t) 2 = t then (plB s p t).2 else (plB s p t).1) (vM s (acI s p t) 4) (t - vM s (acI s p t) 2 + 1) (vM s (acI s p t) 3)) else ((plB s p t).2, (plB s p t).2)
noncomputable def PL (s : Nat → Int32) (p t : Nat) : Nat := (plB s p t).2
section Pl
variable {s : Nat → Int32} {p B : Nat}
theorem pl_0 : PL s p 0 = vP s p 0 := rfl
theorem pl_stay {t : Nat} (h : ∀ m, m < nm s → ¬ goAt s p t m) : PL s p (t + 1) = PL s p t := by
  have e : acI s p t = nm s := fsN_no h
  have e2 : plB s p (t + 1) = ((plB s p t).2, (plB s p t).2) := by rw [plB, e, if_neg (Nat.lt_irrefl _)]
  unfold PL
  rw [e2]
theorem ac_at (ha : wf_a s) {m t : Nat} (hm : m < nm s) (h : goAt s p t m) : acI s p t = m := by
  refine fsN_at h (fun j hj hc => ?_) hm
  have := ha j m (by omega) hm (by omega) (by rw [hc.1, h.1])
  have h1 := hc.2.2
  have h2 := h.2.2
  omega
theorem pl_go (ha : wf_a s) {m : Nat} (hm : m < nm s) (h1 : vM s m 0 = p) (h2 : mGo s m) : ∀ k, k < vM s m 3 → plB s p (vM s m 2 + k + 1) = (PL s p (vM s m 2), bw (PL s p (vM s m 2)) (vM s m 4) (k + 1) (vM s m 3)) := by
  intro k
  induction k with
  | zero =>
    intro hk
    have e : acI s p (vM s m 2 + 0) = m := ac_at ha hm ⟨h1, h2, by omega, by omega⟩
    show plB s p (vM s m 2 + 1) = _
    unfold plB
    rw [Nat.add_zero] at e
    rw [e, if_pos hm, if_pos rfl, Nat.sub_self]
    rfl
  | succ k ih =>
    intro hk
    have e : acI s p (vM s m 2 + (k + 1)) = m := ac_at ha hm ⟨h1, h2, by omega, by omega⟩
    have ih := ih (by omega)
    rw [show vM s m 2 + (k + 1) + 1 = (vM s m 2 + (k + 1)) + 1 from rfl]
    unfold plB
    rw [e, if_pos hm, if_neg (by omega), show vM s m 2 + (k + 1) = vM s m 2 + k + 1 from rfl, ih, show vM s m 2 + k + 1 - vM s m 2 + 1 = k + 1 + 1 by omega]
theorem pl_goP (ha : wf_a s) {m k : Nat} (hm : m < nm s) (h1 : vM s m 0 = p) (h2 : mGo s m) (hk : k < vM s m 3) : PL s p (vM s m 2 + k + 1) = bw (PL s p (vM s m 2)) (vM s m 4) (k + 1) (vM s m 3) := by
  have := pl_go ha hm h1 h2 k hk
  unfold PL
  rw [this]
  rfl
theorem pl_okB (hp : wf_p s) (hm : wf_m B s) (hi : p < np s) : ∀ t, okP (plB s p t).1 ∧ okP (plB s p t).2 := by
  intro t
  have h0 := wp_b hp hi
  induction t with
  | zero => exact ⟨⟨h0.1, h0.2.1⟩, ⟨h0.1, h0.2.1⟩⟩
  | succ t ih =>
    unfold plB
    by_cases h : acI s p t < nm s
    · rw [if_pos h]
      have hb := wm_b hm h
      have hg : goAt s p t (acI s p t) := by
        rcases fsN_ok (c := goAt s p t) (n := nm s) with ⟨-, h2, -⟩ | ⟨h1, -⟩
        · exact h2
        · exact absurd h1 (by unfold acI at h; omega)
      have hg2 := hg.2.2
      have ho : okP (if vM s (acI s p t) 2 = t then (plB s p t).2 else (plB s p t).1) := by
        split
        · exact ih.2
        · exact ih.1
      exact ⟨ho, (bw_ok ho ⟨hb.2.2.2.2.2.1, hb.2.2.2.2.2.2.1⟩ (by omega) (by omega) (by omega)).1⟩
    · rw [if_neg h]
      exact ⟨ih.2, ih.2⟩
theorem pl_ok (hp : wf_p s) (hm : wf_m B s) (hi : p < np s) (t : Nat) : okP (PL s p t) := (pl_okB hp hm hi t).2
theorem pl_end (hp : wf_p s) (hm : wf_m B s) (ha : wf_a s) (hi : p < np s) {m : Nat} (h0 : m < nm s) (h1 : vM s m 0 = p) (h2 : mGo s m) : PL s p (vM s m 2 + vM s m 3) = vM s m 4 := by
  have hb := wm_b hm h0
  have := pl_goP ha h0 h1 h2 (k := vM s m 3 - 1) (by omega)
  rw [show vM s m 2 + (vM s m 3 - 1) + 1 = vM s m 2 + vM s m 3 by omega, show vM s m 3 - 1 + 1 = vM s m 3 by omega, bw_end (pl_ok hp hm hi _) ⟨hb.2.2.2.2.2.1, hb.2.2.2.2.2.2.1⟩ (by omega) (by omega)] at this
  exact this
/-- only p's own start and goings count -/
theorem pl_c {s' : Nat → Int32} (h0 : vP s p 0 = vP s' p 0) (h1 : nm s = nm s') (h2 : ∀ m, m < nm s → ((vM s m 0 = p ∧ mGo s m) ↔ (vM s' m 0 = p ∧ mGo s' m)) ∧ (vM s m 0 = p → mGo s m → vM s m 2 = vM s' m 2 ∧ vM s m 3 = vM s' m 3 ∧ vM s m 4 = vM s' m 4)) : ∀ t, plB s p t = plB s' p t := by
  have hg : ∀ t m, m < nm s → (goAt s p t m ↔ goAt s' p t m) := fun t m hm => by
    obtain ⟨q1, q2⟩ := h2 m hm
    unfold goAt
    constructor
    · rintro ⟨a, b, c, e⟩
      obtain ⟨q3, q4, -⟩ := q2 a b
      obtain ⟨r1, r2⟩ := q1.mp ⟨a, b⟩
      exact ⟨r1, r2, by omega, by omega⟩
    · rintro ⟨a, b, c, e⟩
      obtain ⟨r1, r2⟩ := q1.mpr ⟨a, b⟩
      obtain ⟨q3, q4, -⟩ := q2 r1 r2
      exact ⟨r1, r2, by omega, by omega⟩
  have hac : ∀ t, acI s p t = acI s' p t := fun t => by
    unfold acI
    rw [← h1]
    exact fsN_c (fun i hi => hg t i hi)
  intro t
  induction t with
  | zero => unfold plB; rw [h0]
  | succ t ih =>
    unfold plB
    rw [← hac t, ← h1, ih]
    by_cases h : acI s p t < nm s
    · have hx : goAt s p t (acI s p t) := by
        rcases fsN_ok (c := goAt s p t) (n := nm s) with ⟨-, h2, -⟩ | ⟨h1, -⟩
        · exact h2
        · exact absurd h1 (by unfold acI at h; omega)
      obtain ⟨q3, q4, q5⟩ := (h2 _ h).2 hx.1 hx.2.1
      rw [if_pos h, if_pos h, q3, q4, q5]
    · rw [if_neg h, if_neg h]
theorem PL_c {s' : Nat → Int32} (h0 : vP s p 0 = vP s' p 0) (h1 : nm s = nm s') (h2 : ∀ m, m < nm s → ((vM s m 0 = p ∧ mGo s m) ↔ (vM s' m 0 = p ∧ mGo s' m)) ∧ (vM s m 0 = p → mGo s m → vM s m 2 = vM s' m 2 ∧ vM s m 3 = vM s' m 3 ∧ vM s m 4 = vM s' m 4)) (t : Nat) : PL s p t = PL s' p t := by
  unfold PL
  rw [pl_c h0 h1 h2]
/-- who does a blow stands still all through it -/
theorem pl_still (ha : wf_a s) {m : Nat} (hm : m < nm s) (h1 : vM s m 0 = p) (h2 : mBl s m) : ∀ k, k < vM s m 3 → PL s p (vM s m 2 + k + 1) = PL s p (vM s m 2 + 1) := by
  intro k
  induction k with
  | zero => intro _; rfl
  | succ k ih =>
    intro hk
    rw [← ih (by omega)]
    refine pl_stay (fun j hj hc => ?_)
    by_cases e : j = m
    · rw [e] at hc
      have := hc.2.1.2
      unfold mBl at h2
      unfold kGoes at this
      split at this <;> omega
    · have := ha j m hj hm e (by rw [hc.1, h1])
      have h3 := hc.2.2
      omega
end Pl
/-- how far two places are from each other -/
def dsN (a b : Nat) : Nat := max ((a / 10 - b / 10) + (b / 10 - a / 10)) ((a % 10 - b % 10) + (b % 10 - a % 10))
theorem dsN_le {a b : Nat} (ha : okP a) (hb : okP b) : dsN a b ≤ 11 := by
  unfold okP at ha hb
  unfold dsN
  omega
/-- the least of n numbers, or 99 -/
def mnF (f : Nat → Nat) : Nat → Nat
  | 0 => 99
  | n + 1 => min (mnF f n) (f n)
theorem mnF_le {f : Nat → Nat} : ∀ {n i : Nat}, i < n → mnF f n ≤ f i
  | 0, _, h => absurd h (Nat.not_lt_zero _)
  | n + 1, i, h => by
    unfold mnF
    by_cases e : i = n
    · rw [e]; omega
    · have := mnF_le (f := f) (n := n) (i := i) (by omega)
      omega
theorem mnF_99 {f : Nat → Nat} : ∀ {n : Nat}, mnF f n ≤ 99
  | 0 => Nat.le_refl _
  | n + 1 => by
    have := mnF_99 (f := f) (n := n)
    unfold mnF
    omega
theorem mnF_ex {f : Nat → Nat} : ∀ {n : Nat}, mnF f n = 99 ∨ ∃ i, i < n ∧ mnF f n = f i
  | 0 => Or.inl rfl
  | n + 1 => by
    unfold mnF
    by_cases h : mnF f n ≤ f n
    · rw [Nat.min_eq_left h]
      rcases mnF_ex (f := f) (n := n) with e | ⟨i, h1, h2⟩
      · exact Or.inl e
      · exact Or.inr ⟨i, by omega, h2⟩
    · rw [Nat.min_eq_right (by omega)]
      exact Or.inr ⟨n, by omega, rfl⟩
/-- the same values, the same least -/
theorem mnF_same {f h : Nat → Nat} {n k : Nat} (h1 : ∀ i, i < n → ∃ j, j < k ∧ h j = f i) (h2 : ∀ j, j < k → ∃ i, i < n ∧ f i = h j) : mnF f n = mnF h k := by
  have a1 : mnF f n ≤ mnF h k := by
    rcases mnF_ex (f := h) (n := k) with e | ⟨j, q1, q2⟩
    · rw [e]; exact mnF_99
    · obtain ⟨i, q3, q4⟩ := h2 j q1
      rw [q2, ← q4]; exact mnF_le q3
  have a2 : mnF h k ≤ mnF f n := by
    rcases mnF_ex (f := f) (n := n) with e | ⟨i, q1, q2⟩
    · rw [e]; exact mnF_99
    · obtain ⟨j, q3, q4⟩ := h1 i q1
      rw [q2, ← q4]; exact mnF_le q3
  omega
theorem mnF_c {f h : Nat → Nat} : ∀ {n : Nat}, (∀ i, i < n → f i = h i) → mnF f n = mnF h n
  | 0, _ => rfl
  | n + 1, e => by unfold mnF; rw [mnF_c (fun i hi => e i (by omega)), e n (by omega)]
