/-! CLIENTS: frames; the text that counts; two numbers joined -/
/-- only ints of the cells A may differ -/
def mu_fr (A : Nat → Prop) (g g' : mu_H) : Prop := mu_T g' = mu_T g ∧ mu_N g' = mu_N g ∧ mu_R g' = mu_R g ∧ mu_X g' = mu_X g ∧ mu_S g' = mu_S g ∧ ∀ a, ¬ A a → mu_I g' a = mu_I g a
theorem mu_fr_rf {A : Nat → Prop} {g : mu_H} : mu_fr A g g := ⟨rfl, rfl, rfl, rfl, rfl, fun _ _ => rfl⟩
theorem mu_fr_tr {A : Nat → Prop} {g g1 g2 : mu_H} (h1 : mu_fr A g g1) (h2 : mu_fr A g1 g2) : mu_fr A g g2 :=
  ⟨h2.1.trans h1.1, h2.2.1.trans h1.2.1, h2.2.2.1.trans h1.2.2.1, h2.2.2.2.1.trans h1.2.2.2.1, h2.2.2.2.2.1.trans h1.2.2.2.2.1, fun a ha => (h2.2.2.2.2.2 a ha).trans (h1.2.2.2.2.2 a ha)⟩
theorem mu_fr_mono {A B : Nat → Prop} {g g1 : mu_H} (h : mu_fr A g g1) (hAB : ∀ a, A a → B a) : mu_fr B g g1 :=
  ⟨h.1, h.2.1, h.2.2.1, h.2.2.2.1, h.2.2.2.2.1, fun a ha => h.2.2.2.2.2 a (fun q => ha (hAB a q))⟩
theorem mu_fr_sI {A : Nat → Prop} {g : mu_H} {a k : Nat} {v : Int32} (h : A a) : mu_fr A g (mu_sI g a k v) :=
  ⟨rfl, rfl, rfl, rfl, rfl, fun x hx => funext fun z => if_neg (fun q => hx (by rw [q.1]; exact h))⟩
theorem mu_fr_fit {A : Nat → Prop} {g g' : mu_H} {L : Nat × Nat} (h : mu_fr A g g') (hL : mu_fit2 L g) : mu_fit2 L g' := by
  unfold mu_fit2
  rw [h.2.2.2.1, h.2.2.2.2.1]
  exact hL
theorem md_L_fr {w : mu_O} {y : Nat} {g g' : mu_H} {A : Nat → Prop} (hM : md_L w y g) (h : mu_fr A g g') : md_L w y g' := by
  unfold md_L
  rw [h.1, h.2.1, h.2.2.1]
  exact hM
/-- the last text of a key among the first n; -1 -/
def rf_last (s : Nat → Int32) (key : Int32) : Nat → Int32
  | 0 => -1
  | n + 1 => if s (460 + 200 * n) = key then nI n else rf_last s key n
section Rc
variable {w : mu_O} {d y : Nat} {g : mu_H} {s : Nat → Int32}
theorem lp_X11_counts {L : Nat × Nat} {Q : Option Value → mu_H → Prop} {key : Int32} {n : Nat} (hM : md_L w y g) (hs : mu_I g (y + 1) = s) (hn : s 3 = nI n) (h14 : n ≤ 14) (hL : mu_fit2 L g) (hQ : Q (some (.int (rf_last s key n))) g) :
    ∀ k i : Nat, i + k = n → mu_go w mm_X11_counts (d + 1) L Q 4 [some (.ref y), some (.int key), some (.int (rf_last s key i)), some (.int (nI i))] [] g := by
  intro k
  induction k with
  | zero =>
    intro i hi
    refine fm_X11_counts_4 ?_
    have e : i = n := by omega
    subst e
    simp (disch := omega) only [md_T0 hM, md_R0 hM, md_T1 hM, md_N1 hM, hs, hn, li_n, nI_add, pk_mul, nI_clamp, nI_ltI, nI_leI, nI_eq, mi_n, Nat.add_zero, true_and, and_true, true_or, or_true, false_or, or_false, not_false_eq_true, not_true_eq_false, implies_true, forall_const, ne_eq, Classical.not_not, reduceCtorEq]
    exact ⟨by omega, fun _ => hQ, fun h => absurd (Nat.le_refl _) h⟩
  | succ k ih =>
    intro i hi
    refine fm_X11_counts_4 ?_
    simp (disch := omega) only [md_T0 hM, md_R0 hM, md_T1 hM, md_N1 hM, hs, hn, li_n, nI_add, pk_mul, nI_clamp, nI_ltI, nI_leI, nI_eq, mi_n, Nat.add_zero, true_and, and_true, true_or, or_true, false_or, or_false, not_false_eq_true, not_true_eq_false, implies_true, forall_const, ne_eq, Classical.not_not, reduceCtorEq]
    refine ⟨by omega, fun h => by omega, fun _ => mu_cI sp_X11_textAt hL ?_⟩
    simp (disch := omega) only [md_T0 hM, md_R0 hM, md_T1 hM, md_N1 hM, hs, hn, li_n, nI_add, pk_mul, nI_clamp, nI_ltI, nI_leI, nI_eq, mi_n, Nat.add_zero, true_and, and_true, true_or, or_true, false_or, or_false, not_false_eq_true, not_true_eq_false, implies_true, forall_const, ne_eq, Classical.not_not, reduceCtorEq]
    have e := ih (i + 1) (by omega)
    unfold rf_last at e
    refine ⟨by omega, fun h => ?_, fun h => ?_⟩
    · rw [if_neg h] at e; exact e
    · rw [if_pos h] at e; exact e
theorem sp_X11_counts {key : Int32} {n : Nat} (hM : md_L w y g) (hs : mu_I g (y + 1) = s) (hn : s 3 = nI n) (h14 : n ≤ 14) : mu_met w mm_X11_counts (d + 1) [.ref y, .int key] g (some (.int (rf_last s key n))) g :=
  mu_mk mk_X11_counts rfl rfl rfl (fun L hL Q hQ => fm_X11_counts_0 (lp_X11_counts hM hs hn h14 hL hQ n 0 (by omega)))
/-- two numbers joined by a sign -/
def rf_join (c x y : Int32) : Int32 :=
  if c = 43 then x + y else if c = 45 then x - y else if c = 42 then x * y else if c = 47 then (if y = 0 then 0 else x / y) else if c = 60 then bI (x < y) else if c = 62 then bI (y < x) else if c = 61 then bI (x = y) else if c = 38 then bI (x ≠ 0 ∧ y ≠ 0) else bI (x ≠ 0 ∨ y ≠ 0)
theorem li_divm1 (x : Int32) : x / (-1) = -x := by
  apply Int32.toInt_inj.mp
  have e : ((-1 : Int32)).toInt = -1 := rfl
  rw [Int32.toInt_div, e, Int32.toInt_neg, Int.tdiv_neg, Int.tdiv_one]
theorem jl_or {Q : Option Value → mu_H → Prop} {a b : Int32} (hQ : Q (some (.int (bI (a ≠ 0 ∨ b ≠ 0)))) g) : (¬ a = 0 → Q (some (.int 1)) g) ∧ (¬ (¬ a = 0) → (b = 0 → Q (some (.int 0)) g) ∧ (¬ (b = 0) → Q (some (.int 1)) g)) := by
  have h0 := bq hQ
  clear hQ
  grind
theorem jl_and {Q : Option Value → mu_H → Prop} {a b : Int32} (hQ : Q (some (.int (bI (a ≠ 0 ∧ b ≠ 0)))) g) : (a = 0 → Q (some (.int 0)) g) ∧ (¬ (a = 0) → (b = 0 → Q (some (.int 0)) g) ∧ (¬ (b = 0) → Q (some (.int 1)) g)) := by
  have h0 := bq hQ
  clear hQ
  grind
theorem jl_lt {Q : Option Value → mu_H → Prop} {a b : Int32} (hQ : Q (some (.int (bI (a < b)))) g) : (b ≤ a → Q (some (.int 0)) g) ∧ (¬ (b ≤ a) → Q (some (.int 1)) g) := by
  have h0 := bq hQ
  clear hQ
  simp only [← Int32.not_lt]
  grind
theorem jl_eq {Q : Option Value → mu_H → Prop} {a b : Int32} (hQ : Q (some (.int (bI (a = b)))) g) : (¬ a = b → Q (some (.int 0)) g) ∧ (¬ (¬ a = b) → Q (some (.int 1)) g) := by
  have h0 := bq hQ
  clear hQ
  grind
theorem jl_div {Q : Option Value → mu_H → Prop} {a b : Int32} (hQ : Q (some (.int (if b = 0 then 0 else a / b))) g) : (¬ b = 0 → (¬ b = -1 → ¬ b = 0 ∧ Q (some (.int (a / b))) g) ∧ (¬ (¬ b = -1) → Q (some (.int (-a))) g)) ∧ (¬ (¬ b = 0) → Q (some (.int 0)) g) := by
  refine ⟨fun h => ?_, fun h => ?_⟩
  · rw [if_neg h] at hQ
    refine ⟨fun _ => ⟨h, hQ⟩, fun h1 => ?_⟩
    rw [Classical.not_not.mp h1, li_divm1] at hQ
    exact hQ
  · rw [if_pos (Classical.not_not.mp h)] at hQ; exact hQ
theorem rf_join_else {c a b : Int32} (h : c.toInt < 38 ∨ 62 < c.toInt) : rf_join c a b = bI (a ≠ 0 ∨ b ≠ 0) := by
  have k : ∀ n : Int32, (37 < n.toInt ∧ n.toInt < 63) → ¬ c = n := fun n hn e => by rw [e] at h; omega
  unfold rf_join
  rw [if_neg (k _ (by decide)), if_neg (k _ (by decide)), if_neg (k _ (by decide)), if_neg (k _ (by decide)), if_neg (k _ (by decide)), if_neg (k _ (by decide)), if_neg (k _ (by decide)), if_neg (k _ (by decide))]
set_option maxHeartbeats 4000000 in
theorem sp_X11_joined {c a b : Int32} : mu_met w mm_X11_joined d [.int c, .int a, .int b] g (some (.int (rf_join c a b))) g := by
  refine mu_mk mk_X11_joined rfl rfl rfl (fun L hL Q hQ => fm_X11_joined_0 ?_)
  refine ⟨fun h => jl_or (by rw [← rf_join_else h]; exact hQ), ?_⟩
  have hc : ∀ k : Int, c.toInt = k → c = Int32.ofInt k := fun k h => by rw [← h, Int32.ofInt_toInt]
  refine ⟨fun h => ?_, fun h => ?_, fun h => ?_, fun h => ?_, fun h => ?_, fun h => ?_, fun h => ?_, fun h => ?_, fun h => ?_, fun h => ?_, fun h => ?_, fun h => ?_, fun h => ?_, fun h => ?_, fun h => ?_, fun h => ?_, fun h => ?_, fun h => ?_, fun h => ?_, fun h => ?_, fun h => ?_, fun h => ?_, fun h => ?_, fun h => ?_, fun h => ?_, trivial⟩
  all_goals (have e := hc _ h; subst e; first | exact jl_or hQ | exact jl_and hQ | exact hQ | exact jl_lt hQ | exact jl_eq hQ | exact jl_div hQ)
end Rc
