/-! CLIENTS: the class tries shifts -/
def sh_L (w : mu_O) (H S b : Nat) (g : mu_H) : Prop := w.1 < H ∧ mu_T g H = 7 ∧ mu_R g H 0 = b ∧ mu_R g H 1 = S ∧ mu_R g H 2 = H + 1 ∧ mu_R g H 5 = H + 2 ∧ (mu_T g (H + 1) = 20 ∧ mu_N g (H + 1) = 3) ∧ (mu_T g (H + 2) = 20 ∧ mu_N g (H + 2) = 3)
theorem sh_fr {w : mu_O} {H S b : Nat} {g g' : mu_H} {A : Nat → Prop} (h : sh_L w H S b g) (hf : mu_fr A g g') : sh_L w H S b g' := by
  unfold sh_L
  rw [hf.1, hf.2.1, hf.2.2.1]
  exact h
/-- where tries write -/
def skA (b S H : Nat) : Nat → Prop := fun a => (b ≤ a ∧ a < b + 41) ∨ a = S + 1 ∨ a = S + 2 ∨ a = H ∨ a = H + 2
/-- p goes by no chosen one -/
def noGo (s : Nat → Int32) (p : Nat) : Prop := ∀ k, k < nK s → vM s (vC s k) 0 = p → ¬ mGo s (vC s k)
/-- what holds between tries -/
def skI (w : mu_O) (E b S H : Nat) (s : Nat → Int32) (g : mu_H) : Prop := (∃ r : Nat → Nat, (∀ k, r k ≤ 5) ∧ sc_V w E b (shR s r (nK s)) g) ∧ mu_I g H 3 = nI (nK s) ∧ (∀ k, k < nK s → mu_I g (H + 1) k = nI (vM s (vC s k) 2)) ∧ (mu_I g H 4 = -1000000005 ∨ ∃ m, m < nm s ∧ mDo s m ∧ mu_I g H 4 = nI m) ∧ (∀ p, p < np s → noGo s p → trI S s p 101 g) ∧ sg_T' S s (lateN s) g
theorem sh_PL {s : Nat → Int32} {r : Nat → Nat} {p : Nat} (hw : wf_s s) (hr : ∀ k, r k ≤ 5) (hp : p < np s) (h : noGo s p) (t : Nat) : PL (shR s r (nK s)) p t = PL s p t := by
  have hb := wc_b (ws_c hw)
  have hn : nK s ≤ nch s := by unfold nK; omega
  have ha := shR_ag (r := r) hw hn
  refine PL_c (ab_vP ha (by omega) (by omega)) (ab_nm ha) (fun m hm => ?_) t
  rw [ab_nm ha] at hm
  refine ⟨by rw [ab_mGo ha (by omega), ab_vM ha (by omega) (by omega) (by omega)], fun h1 h2 => ?_⟩
  rw [ab_mGo ha (by omega)] at h2
  rw [ab_vM ha (by omega) (by omega) (by omega)] at h1
  refine ⟨(shR_beat hw hn (fun k _ => hr k) hm).2.2.2 (fun k hk e => ?_), ab_vM ha (by omega) (by omega) (by omega), ab_vM ha (by omega) (by omega) (by omega)⟩
  rw [← e] at h1 h2
  exact h k hk h1 h2
theorem sh_apart {s : Nat → Int32} {r : Nat → Nat} (hw : wf_s s) (hr : ∀ k, r k ≤ 5) : wf_a (shR s r (nK s)) ↔ ∀ k, k < nK s → ¬ ∃ j, j < nm s ∧ j ≠ vC s k ∧ vM (shR s r (nK s)) j 0 = vM (shR s r (nK s)) (vC s k) 0 ∧ vM (shR s r (nK s)) j 2 < vM (shR s r (nK s)) (vC s k) 2 + vM (shR s r (nK s)) (vC s k) 3 ∧ vM (shR s r (nK s)) (vC s k) 2 < vM (shR s r (nK s)) j 2 + vM (shR s r (nK s)) j 3 := by
  have hb := wc_b (ws_c hw)
  have hn : nK s ≤ nch s := by unfold nK; omega
  have ha := shR_ag (r := r) hw hn
  have en := ab_nm ha
  constructor
  · intro h k hk ⟨j, h1, h2, h3, h4, h5⟩
    have := h j (vC s k) (by rw [en]; exact h1) (by rw [en]; exact (ws_ch hw k (by omega)).2.1) h2 h3
    omega
  · intro h a b' ha' hb' hne he
    rw [en] at ha' hb'
    by_cases q1 : ∃ k, k < nK s ∧ vC s k = a
    · obtain ⟨k, k1, rfl⟩ := q1
      have := h k k1
      by_cases q : vM (shR s r (nK s)) (vC s k) 2 + vM (shR s r (nK s)) (vC s k) 3 ≤ vM (shR s r (nK s)) b' 2
      · exact Or.inl q
      · by_cases q' : vM (shR s r (nK s)) b' 2 + vM (shR s r (nK s)) b' 3 ≤ vM (shR s r (nK s)) (vC s k) 2
        · exact Or.inr q'
        · exact absurd ⟨b', hb', Ne.symm hne, he.symm, by omega, by omega⟩ this
    · by_cases q2 : ∃ k, k < nK s ∧ vC s k = b'
      · obtain ⟨k, k1, rfl⟩ := q2
        have := h k k1
        by_cases q : vM (shR s r (nK s)) a 2 + vM (shR s r (nK s)) a 3 ≤ vM (shR s r (nK s)) (vC s k) 2
        · exact Or.inl q
        · by_cases q' : vM (shR s r (nK s)) (vC s k) 2 + vM (shR s r (nK s)) (vC s k) 3 ≤ vM (shR s r (nK s)) a 2
          · exact Or.inr q'
          · exact absurd ⟨a, ha', hne, he, by omega, by omega⟩ this
      · have e1 := (shR_beat hw hn (fun k _ => hr k) ha').2.2.2 (fun k hk e => q1 ⟨k, hk, e⟩)
        have e2 := (shR_beat hw hn (fun k _ => hr k) hb').2.2.2 (fun k hk e => q2 ⟨k, hk, e⟩)
        rw [e1, e2, ab_vM ha (by omega) (by omega) (by omega), ab_vM ha (by omega) (by omega) (by omega)]
        rw [ab_vM ha (by omega) (by omega) (by omega), ab_vM ha (by omega) (by omega) (by omega)] at he
        exact ws_a hw a b' ha' hb' hne he
section Ck
variable {w : mu_O} {d b S H E : Nat} {g : mu_H} {s : Nat → Int32}
theorem sp_X6_isToTry {f u t n : Nat} (hH : sh_L w H S b g) (hn : n ≤ 3) (h3 : mu_I g H 3 = nI n) (hf : f ≤ 5) (hu : u ≤ 5) (ht : t < 100) : mu_met w mm_X6_isToTry d [.ref H, .int (nI f), .int (nI u), .int (nI t)] g (some (.int (cI (vd n f u t)))) (mu_sI (mu_sI (mu_sI g (H + 2) 0 (nI f)) (H + 2) 1 (nI u)) (H + 2) 2 (nI t)) := by
  refine mu_mk mk_X6_isToTry rfl rfl rfl (fun L hL Q hQ => fm_X6_isToTry_0 ?_)
  obtain ⟨h0, hT, r0, r1, r2, r5, ⟨t1, n1⟩, t2, n2⟩ := hH
  have w2 : w.1 < H + 2 := by omega
  have o3 : ∀ x k v, mu_I (mu_sI x (H + 2) k v) H 3 = mu_I x H 3 := fun x k v => I_sI_a _ _ _ _ (by omega)
  have h0' := cq' hQ
  clear hQ
  simp (disch := omega) only [hT, r5, t2, n2, w2, o3, h3, li_n, nI_add, pk_mul, nI_clamp, nI_ltI, nI_leI, nI_eq, mi_n, Nat.add_zero, true_and, and_true, true_or, or_true, false_or, or_false, not_false_eq_true, not_true_eq_false, implies_true, forall_const, ne_eq, Classical.not_not, reduceCtorEq, nor_p, cI_1n, bI_1n, cI_F, cI_T, cI_0, cI_0n, bI_0, bI_0n, cI_01, bI_01, Nat.reduceLeDiff, Nat.reduceLT, Nat.reduceEqDiff, Nat.reduceSub, Nat.reduceAdd, Nat.lt_irrefl, Nat.le_refl, false_implies, true_implies]
  generalize hg1 : mu_sI (mu_sI (mu_sI g (H + 2) 0 (nI f)) (H + 2) 1 (nI u)) (H + 2) 2 (nI t) = g1 at *
  have b0 : mu_I g1 (H + 2) 0 = nI f := by rw [← hg1, I_sI_k _ _ _ (by omega), I_sI_k _ _ _ (by omega), I_sI_same]
  have b1 : mu_I g1 (H + 2) 1 = nI u := by rw [← hg1, I_sI_k _ _ _ (by omega), I_sI_same]
  have b2 : mu_I g1 (H + 2) 2 = nI t := by rw [← hg1, I_sI_same]
  have hT1 : mu_T g1 H = 7 := by rw [← hg1]; exact hT
  have r51 : mu_R g1 H 5 = H + 2 := by rw [← hg1]; exact r5
  have t21 : mu_T g1 (H + 2) = 20 := by rw [← hg1]; exact t2
  have n21 : mu_N g1 (H + 2) = 3 := by rw [← hg1]; exact n2
  have e3 : (vd n f u t → t ≤ 5) ∧ True := ⟨fun h => h.2.2.1, trivial⟩
  have s3 : (∀ i, n ≤ i → i < 3 → tri f u t i = 0) → mu_go w mm_X6_isToTry d L Q 27 [some (.ref H), none, none, some (.int (nI t)), some (.int (nI 3))] [] g1 := fun hz => fm_X6_isToTry_27 (by
    simp (disch := omega) only [li_n, nI_add, pk_mul, nI_clamp, nI_ltI, nI_leI, nI_eq, mi_n, Nat.add_zero, true_and, and_true, true_or, or_true, false_or, or_false, not_false_eq_true, not_true_eq_false, implies_true, forall_const, ne_eq, Classical.not_not, reduceCtorEq, nor_p, cI_1n, bI_1n, cI_F, cI_T, cI_0, cI_0n, bI_0, bI_0n, cI_01, bI_01, Nat.reduceLeDiff, Nat.reduceLT, Nat.reduceEqDiff, Nat.reduceSub, Nat.reduceAdd, Nat.lt_irrefl, Nat.le_refl, false_implies, true_implies]
    refine ⟨fun h => h0'.2 (fun q => by have := q.2.2.1; omega), fun h => h0'.1 ⟨hf, hu, by omega, fun q => ?_, fun q => ?_, fun q => ?_⟩⟩
    · exact hz 2 (by omega) (by omega)
    · exact hz 1 (by omega) (by omega)
    · exact hz 0 (by omega) (by omega))
  have s2 : n ≤ 2 → (∀ i, n ≤ i → i < 2 → tri f u t i = 0) → mu_go w mm_X6_isToTry d L Q 27 [some (.ref H), none, none, some (.int (nI t)), some (.int (nI 2))] [] g1 := fun hn2 hz => fm_X6_isToTry_27 (by
    simp (disch := omega) only [hT1, r51, t21, n21, b2, li_n, nI_add, pk_mul, nI_clamp, nI_ltI, nI_leI, nI_eq, mi_n, Nat.add_zero, true_and, and_true, true_or, or_true, false_or, or_false, not_false_eq_true, not_true_eq_false, implies_true, forall_const, ne_eq, Classical.not_not, reduceCtorEq, nor_p, cI_1n, bI_1n, cI_F, cI_T, cI_0, cI_0n, bI_0, bI_0n, cI_01, bI_01, Nat.reduceLeDiff, Nat.reduceLT, Nat.reduceEqDiff, Nat.reduceSub, Nat.reduceAdd, Nat.lt_irrefl, Nat.le_refl, false_implies, true_implies]
    refine ⟨fun h => s3 (fun i q1 q2 => ?_), fun h => h0'.2 (fun q => h (by have := q.2.2.2.1 (by omega); omega))⟩
    by_cases e : i = 2
    · rw [e]; show t = 0; omega
    · exact hz i q1 (by omega))
  have s1 : n ≤ 1 → (∀ i, n ≤ i → i < 1 → tri f u t i = 0) → mu_go w mm_X6_isToTry d L Q 27 [some (.ref H), none, none, some (.int (nI t)), some (.int (nI 1))] [] g1 := fun hn2 hz => fm_X6_isToTry_27 (by
    simp (disch := omega) only [hT1, r51, t21, n21, b1, li_n, nI_add, pk_mul, nI_clamp, nI_ltI, nI_leI, nI_eq, mi_n, Nat.add_zero, true_and, and_true, true_or, or_true, false_or, or_false, not_false_eq_true, not_true_eq_false, implies_true, forall_const, ne_eq, Classical.not_not, reduceCtorEq, nor_p, cI_1n, bI_1n, cI_F, cI_T, cI_0, cI_0n, bI_0, bI_0n, cI_01, bI_01, Nat.reduceLeDiff, Nat.reduceLT, Nat.reduceEqDiff, Nat.reduceSub, Nat.reduceAdd, Nat.lt_irrefl, Nat.le_refl, false_implies, true_implies]
    refine ⟨fun h => s2 (by omega) (fun i q1 q2 => ?_), fun h => h0'.2 (fun q => h (by have := q.2.2.2.2.1 (by omega); omega))⟩
    by_cases e : i = 1
    · rw [e]; show u = 0; omega
    · exact hz i q1 (by omega))
  have s0 : n = 0 → mu_go w mm_X6_isToTry d L Q 27 [some (.ref H), none, none, some (.int (nI t)), some (.int (nI 0))] [] g1 := fun hn2 => fm_X6_isToTry_27 (by
    simp (disch := omega) only [hT1, r51, t21, n21, b0, li_n, nI_add, pk_mul, nI_clamp, nI_ltI, nI_leI, nI_eq, mi_n, Nat.add_zero, true_and, and_true, true_or, or_true, false_or, or_false, not_false_eq_true, not_true_eq_false, implies_true, forall_const, ne_eq, Classical.not_not, reduceCtorEq, nor_p, cI_1n, bI_1n, cI_F, cI_T, cI_0, cI_0n, bI_0, bI_0n, cI_01, bI_01, Nat.reduceLeDiff, Nat.reduceLT, Nat.reduceEqDiff, Nat.reduceSub, Nat.reduceAdd, Nat.lt_irrefl, Nat.le_refl, false_implies, true_implies]
    refine ⟨fun h => s1 (by omega) (fun i q1 q2 => ?_), fun h => h0'.2 (fun q => h (by have := q.2.2.2.2.2 (by omega); omega))⟩
    rw [show i = 0 by omega]; show f = 0; omega)
  rcases (show n = 0 ∨ n = 1 ∨ n = 2 ∨ n = 3 by omega) with rfl | rfl | rfl | rfl
  · exact s0 rfl
  · exact s1 (by omega) (fun i q1 q2 => by omega)
  · exact s2 (by omega) (fun i q1 q2 => by omega)
  · exact s3 (fun i q1 q2 => by omega)
end Ck
