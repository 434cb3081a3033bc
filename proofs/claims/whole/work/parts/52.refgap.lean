/-! CLIENTS: gaps in the reference -/
/-- the reference's rows of kinds -/
def md_K (y : Nat) (g : mu_H) : Prop := ∀ k, k < 6 → mu_I g (y + 11) k = nI (kReach k) ∧ mu_I g (y + 12) k = nI (kWorth k) ∧ mu_I g (y + 13) k = nI (kTires k) ∧ mu_I g (y + 14) k = nI (kWears k)
/-- all know how late they may be -/
def lt_C (y : Nat) (s : Nat → Int32) (l : Nat → Nat) (g : mu_H) : Prop := ∀ p, p < np s → l p ≤ 3 ∧ mu_I g (y + 17) p = nI (l p)
theorem min_n {a b : Nat} (ha : a < 2 ^ 31) (hb : b < 2 ^ 31) : (if (nI a).toInt < (nI b).toInt then nI a else nI b) = nI (min a b) := by
  rw [nI_toInt ha, nI_toInt hb]
  split <;> congr 1 <;> omega
theorem min_s {a b r : Nat} (ha : a < 2 ^ 20) (hb : b < 2 ^ 20) (hr : r < 2 ^ 20) : (if (nI a - nI r).toInt < (nI b - nI r).toInt then nI a - nI r else nI b - nI r) = nI (min a b) - nI r := by
  rw [pk_sub_toInt (by omega) (by omega), pk_sub_toInt (by omega) (by omega)]
  split
  · rw [Nat.min_eq_left (by omega)]
  · rw [Nat.min_eq_right (by omega)]
section Rg
variable {w : mu_O} {d y : Nat} {g : mu_H} {s : Nat → Int32} {l : Nat → Nat}
theorem sp_X11_distance {a b : Nat} (ha : a < 1000) (hb : b < 1000) : mu_met w mm_X11_distance d [.int (nI a), .int (nI b)] g (some (.int (nI (dsN a b)))) g := by
  refine mu_mk mk_X11_distance rfl rfl rfl (fun L hL Q hQ => fm_X11_distance_0 ?_)
  simp (disch := omega) only [dv_n, rm_n, li_n, nI_add, pk_mul, nI_clamp, nI_ltI, nI_leI, nI_eq, mi_n, Nat.add_zero, true_and, and_true, true_or, or_true, false_or, or_false, not_false_eq_true, not_true_eq_false, implies_true, forall_const, ne_eq, Classical.not_not, reduceCtorEq, nor_p, cI_1n, bI_1n, cI_F, cI_T, cI_0, cI_0n, bI_0, bI_0n, cI_01, bI_01, Nat.reduceLeDiff, Nat.reduceLT, Nat.reduceEqDiff, Nat.reduceSub, Nat.reduceAdd, Nat.lt_irrefl, Nat.le_refl, false_implies, true_implies]
  have c : ∀ x z : Nat, x < 1000 → z < 1000 → (z ≤ x → nI x - nI z = nI (x - z)) ∧ (x < z → -(nI x - nI z) = nI (z - x)) ∧ (nI 0 ≤ nI x - nI z ↔ z ≤ x) := fun x z hx hz => by
    refine ⟨fun h => pk_sub h, fun h => ?_, ?_⟩
    · apply li_nI
      have e : -(nI x - nI z) = nI z - nI x := by
        rw [Int32.neg_sub]
      rw [e, pk_sub_toInt (by omega) (by omega)]
      omega
    · rw [li_le, pk_sub_toInt (by omega) (by omega)]
      have : (nI 0).toInt = 0 := rfl
      omega
  obtain ⟨x1, x2, x3⟩ := c (a / 10) (b / 10) (by omega) (by omega)
  obtain ⟨y1, y2, y3⟩ := c (a % 10) (b % 10) (by omega) (by omega)
  unfold dsN at hQ
  rw [x3, y3]
  refine ⟨fun h1 => ⟨fun h2 => ?_, fun h2 => ?_⟩, fun h1 => ⟨fun h2 => ?_, fun h2 => ?_⟩⟩
  · rw [x1 h1, y1 h2, nI_leI (by omega) (by omega)]
    exact ⟨fun h => by rw [show max (a / 10 - b / 10 + (b / 10 - a / 10)) (a % 10 - b % 10 + (b % 10 - a % 10)) = a % 10 - b % 10 by omega] at hQ; exact hQ, fun h => by rw [show max (a / 10 - b / 10 + (b / 10 - a / 10)) (a % 10 - b % 10 + (b % 10 - a % 10)) = a / 10 - b / 10 by omega] at hQ; exact hQ⟩
  · rw [x1 h1, y2 (by omega), nI_leI (by omega) (by omega)]
    exact ⟨fun h => by rw [show max (a / 10 - b / 10 + (b / 10 - a / 10)) (a % 10 - b % 10 + (b % 10 - a % 10)) = b % 10 - a % 10 by omega] at hQ; exact hQ, fun h => by rw [show max (a / 10 - b / 10 + (b / 10 - a / 10)) (a % 10 - b % 10 + (b % 10 - a % 10)) = a / 10 - b / 10 by omega] at hQ; exact hQ⟩
  · rw [x2 (by omega), y1 h2, nI_leI (by omega) (by omega)]
    exact ⟨fun h => by rw [show max (a / 10 - b / 10 + (b / 10 - a / 10)) (a % 10 - b % 10 + (b % 10 - a % 10)) = a % 10 - b % 10 by omega] at hQ; exact hQ, fun h => by rw [show max (a / 10 - b / 10 + (b / 10 - a / 10)) (a % 10 - b % 10 + (b % 10 - a % 10)) = b / 10 - a / 10 by omega] at hQ; exact hQ⟩
  · rw [x2 (by omega), y2 (by omega), nI_leI (by omega) (by omega)]
    exact ⟨fun h => by rw [show max (a / 10 - b / 10 + (b / 10 - a / 10)) (a % 10 - b % 10 + (b % 10 - a % 10)) = b % 10 - a % 10 by omega] at hQ; exact hQ, fun h => by rw [show max (a / 10 - b / 10 + (b / 10 - a / 10)) (a % 10 - b % 10 + (b % 10 - a % 10)) = b / 10 - a / 10 by omega] at hQ; exact hQ⟩
theorem sp_X11_placeN {p : Nat} {t : Int32} (hM : md_L w y g) (hs : mu_I g (y + 1) = s) (hc : wf_c s) (hC : plC y s g) (hi : p < np s) (h : -10 ≤ t.toInt ∧ t.toInt < 111) : mu_met w mm_X11_placeOf d [.ref y, .int (nI p), .int t] g (some (.int (nI (PL s p (t.toInt + 1).toNat)))) g := by
  have hb := wc_b hc
  have := sp_X11_placeOf (d := d) (w := w) (p := p) (t := t) hM (by omega) (by omega)
  rw [hC p hi (t.toInt + 10).toNat (by omega), show (t.toInt + 10).toNat - 9 = (t.toInt + 1).toNat by omega] at this
  exact this
theorem sp_X11_wantedN {m q : Nat} (hM : md_L w y g) (hs : mu_I g (y + 1) = s) (hc : wf_c s) (hm : wf_m 90 s) (hi : m < nm s) (hq : q < 100) : mu_met w mm_X11_wanted (d + 2) [.ref y, .int (nI m), .int (nI q)] g (some (.int (nI (want s m q)))) g := by
  have hb := wc_b hc
  have hmb := wm_b hm hi
  have := sp_X11_wanted (d := d) (w := w) (m := m) (p := nI q) hM hs (by omega)
  rw [wm_v hm hi (by omega), wm_v hm hi (by omega), show (2 : Int32) = nI 2 from rfl, dv_n (by omega) (by omega) (by omega)] at this
  have e : (if nI q = nI (vM s m 5) then nI (vM s m 6 / 2) else nI (vM s m 6)) = nI (want s m q) := by
    unfold want
    simp only [nI_eq (show q < 2 ^ 31 by omega) (show vM s m 5 < 2 ^ 31 by omega)]
    split <;> rfl
  rw [e] at this
  exact this
set_option maxHeartbeats 1000000 in
theorem sp_X11_near {m q : Nat} {v : Int32} (hM : md_L w y g) (hs : mu_I g (y + 1) = s) (hc : wf_c s) (hK : md_K y g) (hp : wf_p s) (hm : wf_m 90 s) (ha : wf_a s) (hC : plC y s g) (hi : m < nm s) (hbl : mBl s m) (hq : q < np s) (hv : -4 < v.toInt ∧ v.toInt < 4) :
    mu_met w mm_X11_near (d + 2) [.ref y, .int (nI m), .int (nI q), .int v] g (some (.int (nI (gpV s m q ((vM s m 2 : Int) + v.toInt) (vM s m 3)) - nI (kReach (vM s m 1))))) g := by
  refine mu_mk mk_X11_near rfl rfl rfl (fun L hL Q hQ => fm_X11_near_0 ⟨md_T0 hM, mu_cI (sp_X11_fieldN (f := 2) hM hs hc hm hi (by omega)) hL ?_⟩)
  have hb := wc_b hc
  have hmb := wm_b hm hi
  have hw1 := pl_ok hp hm hmb.1 (vM s m 2 + 1)
  unfold gpV at hQ
  have body : ∀ (i : Nat) (best : Int32), i < vM s m 3 → (∀ x : Nat, x ≤ 11 → (if best.toInt < (nI x).toInt then best else nI x) = nI (min (mnF (fun k => dsN (PL s (vM s m 0) (vM s m 2 + 1)) (PL s q ((vM s m 2 : Int) + v.toInt + (k : Int) + 1).toNat)) i) x)) → mu_go w mm_X11_near (d + 2) L Q 13 [some (.ref y), some (.int (nI m)), some (.int (nI q)), some (.int v), some (.int (nI (mnF (fun k => dsN (PL s (vM s m 0) (vM s m 2 + 1)) (PL s q ((vM s m 2 : Int) + v.toInt + (k : Int) + 1).toNat)) (i + 1)))), some (.int (nI (vM s m 2 + (i + 1))))] [] g → mu_go w mm_X11_near (d + 2) L Q 13 [some (.ref y), some (.int (nI m)), some (.int (nI q)), some (.int v), some (.int best), some (.int (nI (vM s m 2 + i)))] [] g := by
    intro i best hi2 hbest hnext
    refine fm_X11_near_13 ⟨md_T0 hM, mu_cI (sp_X11_fieldN (f := 2) hM hs hc hm hi (by omega)) hL ⟨md_T0 hM, mu_cI (sp_X11_fieldN (f := 3) hM hs hc hm hi (by omega)) hL ?_⟩⟩
    simp (disch := omega) only [md_T0 hM, show (vM s m 2 + vM s m 3 ≤ vM s m 2 + i) = False from eq_false (by omega), li_n, nI_add, pk_mul, nI_clamp, nI_ltI, nI_leI, nI_eq, mi_n, Nat.add_zero, true_and, and_true, true_or, or_true, false_or, or_false, not_false_eq_true, not_true_eq_false, implies_true, forall_const, ne_eq, Classical.not_not, reduceCtorEq, nor_p, cI_1n, bI_1n, cI_F, cI_T, cI_0, cI_0n, bI_0, bI_0n, cI_01, bI_01, Nat.reduceLeDiff, Nat.reduceLT, Nat.reduceEqDiff, Nat.reduceSub, Nat.reduceAdd, Nat.lt_irrefl, Nat.le_refl, false_implies, true_implies]
    refine mu_cI (sp_X11_fieldN (f := 0) hM hs hc hm hi (by omega)) hL ⟨md_T0 hM, mu_cI (sp_X11_placeN hM hs hc hC hmb.1 (by rw [nI_toInt (by omega)]; omega)) hL ⟨md_T0 hM, ?_⟩⟩
    have e1 : (nI (vM s m 2 + i) + v).toInt = ((vM s m 2 + i : Nat) : Int) + v.toInt := by
      rw [li_add] <;> rw [nI_toInt (by omega)] ; omega
    refine mu_cI (sp_X11_placeN hM hs hc hC hq (by rw [e1]; omega)) hL ?_
    rw [e1, nI_toInt (by omega), show (((vM s m 2 + i : Nat) : Int) + 1).toNat = vM s m 2 + i + 1 by omega, pl_still ha hi rfl hbl i hi2, show (((vM s m 2 + i : Nat) : Int) + v.toInt + 1).toNat = ((vM s m 2 : Int) + v.toInt + (i : Int) + 1).toNat by omega]
    have hw2 := pl_ok hp hm hq ((vM s m 2 : Int) + v.toInt + (i : Int) + 1).toNat
    have hd := dsN_le hw1 hw2
    unfold okP at hw1 hw2
    refine mu_cI (sp_X11_distance (by omega) (by omega)) hL (mu_cI sp_X11_least hL ?_)
    rw [hbest _ hd]
    exact hnext
  have rest : ∀ k i, i + k = vM s m 3 → 1 ≤ i → mu_go w mm_X11_near (d + 2) L Q 13 [some (.ref y), some (.int (nI m)), some (.int (nI q)), some (.int v), some (.int (nI (mnF (fun k => dsN (PL s (vM s m 0) (vM s m 2 + 1)) (PL s q ((vM s m 2 : Int) + v.toInt + (k : Int) + 1).toNat)) i))), some (.int (nI (vM s m 2 + i)))] [] g := by
    intro k
    induction k with
    | zero =>
      intro i hik h1
      refine fm_X11_near_13 ⟨md_T0 hM, mu_cI (sp_X11_fieldN (f := 2) hM hs hc hm hi (by omega)) hL ⟨md_T0 hM, mu_cI (sp_X11_fieldN (f := 3) hM hs hc hm hi (by omega)) hL ?_⟩⟩
      rw [show i = vM s m 3 by omega]
      simp (disch := omega) only [md_T0 hM, li_n, nI_add, pk_mul, nI_clamp, nI_ltI, nI_leI, nI_eq, mi_n, Nat.add_zero, true_and, and_true, true_or, or_true, false_or, or_false, not_false_eq_true, not_true_eq_false, implies_true, forall_const, ne_eq, Classical.not_not, reduceCtorEq, nor_p, cI_1n, bI_1n, cI_F, cI_T, cI_0, cI_0n, bI_0, bI_0n, cI_01, bI_01, Nat.reduceLeDiff, Nat.reduceLT, Nat.reduceEqDiff, Nat.reduceSub, Nat.reduceAdd, Nat.lt_irrefl, Nat.le_refl, false_implies, true_implies]
      refine mu_cI (sp_X11_fieldN (f := 1) hM hs hc hm hi (by omega)) hL ?_
      simp (disch := omega) only [md_R11 hM, md_T11 hM, md_N11 hM, (hK (vM s m 1) (by omega)).1, li_n, nI_add, pk_mul, nI_clamp, nI_ltI, nI_leI, nI_eq, mi_n, Nat.add_zero, true_and, and_true, true_or, or_true, false_or, or_false, not_false_eq_true, not_true_eq_false, implies_true, forall_const, ne_eq, Classical.not_not, reduceCtorEq, nor_p, cI_1n, bI_1n, cI_F, cI_T, cI_0, cI_0n, bI_0, bI_0n, cI_01, bI_01, Nat.reduceLeDiff, Nat.reduceLT, Nat.reduceEqDiff, Nat.reduceSub, Nat.reduceAdd, Nat.lt_irrefl, Nat.le_refl, false_implies, true_implies]
      exact ⟨by omega, hQ⟩
    | succ k ih =>
      intro i hik h1
      refine body i _ (by omega) (fun x hx => min_n ?_ (by omega)) (ih (i + 1) (by omega) (by omega))
      have := mnF_99 (f := fun k => dsN (PL s (vM s m 0) (vM s m 2 + 1)) (PL s q ((vM s m 2 : Int) + v.toInt + (k : Int) + 1).toNat)) (n := i)
      omega
  have := body 0 (nI 1000) (by omega) (fun x hx => by
    rw [min_n (by omega) (by omega)]
    unfold mnF
    congr 1
    omega) (rest (vM s m 3 - 1) (0 + 1) (by omega) (by omega))
  exact this
set_option maxHeartbeats 1000000 in
theorem sp_X11_gapOf {m q : Nat} (hM : md_L w y g) (hs : mu_I g (y + 1) = s) (hc : wf_c s) (hK : md_K y g) (hp : wf_p s) (hm : wf_m 90 s) (ha : wf_a s) (hC : plC y s g) (hT : lt_C y s l g) (hi : m < nm s) (hbl : mBl s m) (hq : q < np s) :
    mu_met w mm_X11_gapOf (d + 3) [.ref y, .int (nI m), .int (nI q)] g (some (.int (nI (gpV s m q ((vM s m 2 : Int) - l q) (vM s m 3 + l q + l (vM s m 0))) - nI (kReach (vM s m 1))))) g := by
  refine mu_mk mk_X11_gapOf rfl rfl rfl (fun L hL Q hQ => fm_X11_gapOf_0 ?_)
  have hb := wc_b hc
  have hmb := wm_b hm hi
  obtain ⟨l1, l2⟩ := hT q hq
  obtain ⟨l3, l4⟩ := hT (vM s m 0) hmb.1
  have hkr : kReach (vM s m 1) ≤ 3 := by unfold kReach; split <;> omega
  have elt : ∀ j : Nat, j ≤ 8 → (nI j - nI (l q)).toInt = (j : Int) - l q := fun j hj => pk_sub_toInt (by omega) (by omega)
  have e0 : -(nI (l q)) = nI 0 - nI (l q) := by
    apply Int32.toInt_inj.mp
    rw [elt 0 (by omega), Int32.toInt_neg, nI_toInt (by omega), Int.bmod_eq_of_le (by omega) (by omega)]
    omega
  have hfin : mnF (fun j => gpV s m q ((vM s m 2 : Int) + ((j : Int) - l q)) (vM s m 3)) (l q + l (vM s m 0) + 1) = gpV s m q ((vM s m 2 : Int) - l q) (vM s m 3 + l q + l (vM s m 0)) := by
    have := mnF_two (h := fun k => dsN (PL s (vM s m 0) (vM s m 2 + 1)) (PL s q ((vM s m 2 : Int) - l q + (k : Int) + 1).toNat)) (len := vM s m 3) (J := l q + l (vM s m 0) + 1) (by omega) (by omega)
    rw [show l q + l (vM s m 0) + 1 + vM s m 3 - 1 = vM s m 3 + l q + l (vM s m 0) by omega] at this
    unfold gpV
    rw [← this]
    refine mnF_c (fun i _ => mnF_c (fun k _ => ?_))
    rw [show ((vM s m 2 : Int) + ((i : Int) - l q) + (k : Int) + 1).toNat = ((vM s m 2 : Int) - l q + ((i + k : Nat) : Int) + 1).toNat by omega]
  rw [← hfin] at hQ
  have nb : ∀ j, mnF (fun j => gpV s m q ((vM s m 2 : Int) + ((j : Int) - l q)) (vM s m 3)) j ≤ 99 := fun j => mnF_99
  simp (disch := omega) only [md_T0 hM, md_R19 hM, md_T17 hM, md_N17 hM, l2, e0, li_n, nI_add, pk_mul, nI_clamp, nI_ltI, nI_leI, nI_eq, mi_n, Nat.add_zero, true_and, and_true, true_or, or_true, false_or, or_false, not_false_eq_true, not_true_eq_false, implies_true, forall_const, ne_eq, Classical.not_not, reduceCtorEq, nor_p, cI_1n, bI_1n, cI_F, cI_T, cI_0, cI_0n, bI_0, bI_0n, cI_01, bI_01, Nat.reduceLeDiff, Nat.reduceLT, Nat.reduceEqDiff, Nat.reduceSub, Nat.reduceAdd, Nat.lt_irrefl, Nat.le_refl, false_implies, true_implies]
  refine ⟨by omega, ?_⟩
  have body : ∀ (j : Nat) (best : Int32), j < l q + l (vM s m 0) + 1 → (∀ x : Nat, x ≤ 99 → (if best.toInt < (nI x - nI (kReach (vM s m 1))).toInt then best else nI x - nI (kReach (vM s m 1))) = nI (min (mnF (fun j => gpV s m q ((vM s m 2 : Int) + ((j : Int) - l q)) (vM s m 3)) j) x) - nI (kReach (vM s m 1))) → mu_go w mm_X11_gapOf (d + 3) L Q 13 [some (.ref y), some (.int (nI m)), some (.int (nI q)), some (.int (nI (mnF (fun j => gpV s m q ((vM s m 2 : Int) + ((j : Int) - l q)) (vM s m 3)) (j + 1)) - nI (kReach (vM s m 1)))), some (.int (nI (j + 1) - nI (l q)))] [] g → mu_go w mm_X11_gapOf (d + 3) L Q 13 [some (.ref y), some (.int (nI m)), some (.int (nI q)), some (.int best), some (.int (nI j - nI (l q)))] [] g := by
    intro j best hj hbest hnext
    refine fm_X11_gapOf_13 ⟨md_T0 hM, md_T0 hM, mu_cI (sp_X11_fieldN (f := 0) hM hs hc hm hi (by omega)) hL ?_⟩
    have ej := elt j (by omega)
    have hcmp : (nI (l (vM s m 0)) < nI j - nI (l q)) = False := eq_false (by rw [li_lt, ej, nI_toInt (by omega)]; omega)
    simp (disch := omega) only [md_T0 hM, md_R19 hM, md_T17 hM, md_N17 hM, l4, hcmp, li_n, nI_add, pk_mul, nI_clamp, nI_ltI, nI_leI, nI_eq, mi_n, Nat.add_zero, true_and, and_true, true_or, or_true, false_or, or_false, not_false_eq_true, not_true_eq_false, implies_true, forall_const, ne_eq, Classical.not_not, reduceCtorEq, nor_p, cI_1n, bI_1n, cI_F, cI_T, cI_0, cI_0n, bI_0, bI_0n, cI_01, bI_01, Nat.reduceLeDiff, Nat.reduceLT, Nat.reduceEqDiff, Nat.reduceSub, Nat.reduceAdd, Nat.lt_irrefl, Nat.le_refl, false_implies, true_implies]
    refine ⟨by omega, mu_cI (sp_X11_near hM hs hc hK hp hm ha hC hi hbl hq (by omega)) hL (mu_cI sp_X11_least hL ?_)⟩
    rw [ej, hbest _ gpV_le]
    have e1 : nI j - nI (l q) + nI 1 = nI (j + 1) - nI (l q) := by
      apply Int32.toInt_inj.mp
      rw [elt (j + 1) (by omega), li_add] <;> rw [ej, nI_toInt (by omega)] <;> omega
    rw [e1]
    exact hnext
  have rest : ∀ k j, j + k = l q + l (vM s m 0) + 1 → 1 ≤ j → mu_go w mm_X11_gapOf (d + 3) L Q 13 [some (.ref y), some (.int (nI m)), some (.int (nI q)), some (.int (nI (mnF (fun j => gpV s m q ((vM s m 2 : Int) + ((j : Int) - l q)) (vM s m 3)) j) - nI (kReach (vM s m 1)))), some (.int (nI j - nI (l q)))] [] g := by
    intro k
    induction k with
    | zero =>
      intro j hjk h1
      refine fm_X11_gapOf_13 ⟨md_T0 hM, md_T0 hM, mu_cI (sp_X11_fieldN (f := 0) hM hs hc hm hi (by omega)) hL ?_⟩
      rw [show j = l q + l (vM s m 0) + 1 by omega]
      have ej := elt (l q + l (vM s m 0) + 1) (by omega)
      have hcmp : (nI (l (vM s m 0)) < nI (l q + l (vM s m 0) + 1) - nI (l q)) = True := eq_true (by rw [li_lt, ej, nI_toInt (by omega)]; omega)
      simp (disch := omega) only [md_T0 hM, md_R19 hM, md_T17 hM, md_N17 hM, l4, hcmp, li_n, nI_add, pk_mul, nI_clamp, nI_ltI, nI_leI, nI_eq, mi_n, Nat.add_zero, true_and, and_true, true_or, or_true, false_or, or_false, not_false_eq_true, not_true_eq_false, implies_true, forall_const, ne_eq, Classical.not_not, reduceCtorEq, nor_p, cI_1n, bI_1n, cI_F, cI_T, cI_0, cI_0n, bI_0, bI_0n, cI_01, bI_01, Nat.reduceLeDiff, Nat.reduceLT, Nat.reduceEqDiff, Nat.reduceSub, Nat.reduceAdd, Nat.lt_irrefl, Nat.le_refl, false_implies, true_implies]
      exact ⟨by omega, hQ⟩
    | succ k ih =>
      intro j hjk h1
      have := nb j
      exact body j _ (by omega) (fun x hx => min_s (by omega) (by omega) (by omega)) (ih (j + 1) (by omega) (by omega))
  have := body 0 (nI 1000) (by omega) (fun x hx => by
    rw [pk_sub_toInt (by omega) (by omega), nI_toInt (by omega), if_neg (by omega)]
    unfold mnF
    rw [Nat.min_eq_right hx]) (rest (l q + l (vM s m 0)) (0 + 1) (by omega) (by omega))
  exact this
theorem sp_X11_broken {m : Nat} (hM : md_L w y g) (hs : mu_I g (y + 1) = s) (hc : wf_c s) (hK : md_K y g) (hp : wf_p s) (hm : wf_m 90 s) (ha : wf_a s) (hC : plC y s g) (hT : lt_C y s l g) (hi : m < nm s) (hbl : mBl s m) :
    mu_met w mm_X11_broken (d + 4) [.ref y, .int (nI m)] g (some (.int (if fsN (brk s l m) (np s) < np s then nI (fsN (brk s l m) (np s)) else -1))) g := by
  refine mu_mk mk_X11_broken rfl rfl rfl (fun L hL Q hQ => fm_X11_broken_0 ?_)
  have hb := wc_b hc
  have hmb := wm_b hm hi
  have hkr : kReach (vM s m 1) ≤ 3 := by unfold kReach; split <;> omega
  refine lp (n := np s) (P := fun i => (∀ j, j < i → ¬ brk s l m j) → mu_go w mm_X11_broken (d + 4) L Q 2 [some (.ref y), some (.int (nI m)), some (.int (nI i))] [] g) (fun hj => fm_X11_broken_2 ?_) (fun i hi2 ih hj => fm_X11_broken_2 ?_) (fun j hj => absurd hj (Nat.not_lt_zero j))
  · simp (disch := omega) only [md_T0 hM, md_R0 hM, md_T1 hM, md_N1 hM, hs, wc_0 hc, wc_1 hc, wc_2 hc, wc_3 hc, wc_4 hc, wc_5 hc, wc_6 hc, wc_7 hc, wc_9 hc, li_n, nI_add, pk_mul, nI_clamp, nI_ltI, nI_leI, nI_eq, mi_n, Nat.add_zero, true_and, and_true, true_or, or_true, false_or, or_false, not_false_eq_true, not_true_eq_false, implies_true, forall_const, ne_eq, Classical.not_not, reduceCtorEq, nor_p, cI_1n, bI_1n, cI_F, cI_T, cI_0, cI_0n, bI_0, bI_0n, cI_01, bI_01, Nat.reduceLeDiff, Nat.reduceLT, Nat.reduceEqDiff, Nat.reduceSub, Nat.reduceAdd, Nat.lt_irrefl, Nat.le_refl, false_implies, true_implies]
    rw [fsN_no hj, if_neg (Nat.lt_irrefl _)] at hQ
    exact hQ
  · have ih2 : ¬ brk s l m i → mu_go w mm_X11_broken (d + 4) L Q 2 [some (.ref y), some (.int (nI m)), some (.int (nI (i + 1)))] [] g := fun h => ih (fun j h2 => by
      by_cases e : j = i
      · rw [e]; exact h
      · exact hj j (by omega))
    have hgp := gpV_le (s := s) (m := m) (q := i) (lo := (vM s m 2 : Int) - l i) (n := vM s m 3 + l i + l (vM s m 0))
    have hwt : want s m i ≤ 9 := by unfold want; split <;> omega
    simp (disch := omega) only [Nat.not_le_of_lt hi2, md_T0 hM, md_R0 hM, md_T1 hM, md_N1 hM, hs, wc_0 hc, wc_1 hc, wc_2 hc, wc_3 hc, wc_4 hc, wc_5 hc, wc_6 hc, wc_7 hc, wc_9 hc, li_n, nI_add, pk_mul, nI_clamp, nI_ltI, nI_leI, nI_eq, mi_n, Nat.add_zero, true_and, and_true, true_or, or_true, false_or, or_false, not_false_eq_true, not_true_eq_false, implies_true, forall_const, ne_eq, Classical.not_not, reduceCtorEq, nor_p, cI_1n, bI_1n, cI_F, cI_T, cI_0, cI_0n, bI_0, bI_0n, cI_01, bI_01, Nat.reduceLeDiff, Nat.reduceLT, Nat.reduceEqDiff, Nat.reduceSub, Nat.reduceAdd, Nat.lt_irrefl, Nat.le_refl, false_implies, true_implies]
    refine mu_cI (sp_X11_fieldN (f := 0) hM hs hc hm hi (by omega)) hL ?_
    simp (disch := omega) only [md_T0 hM, md_R0 hM, md_T1 hM, md_N1 hM, hs, wc_0 hc, wc_1 hc, wc_2 hc, wc_3 hc, wc_4 hc, wc_5 hc, wc_6 hc, wc_7 hc, wc_9 hc, li_n, nI_add, pk_mul, nI_clamp, nI_ltI, nI_leI, nI_eq, mi_n, Nat.add_zero, true_and, and_true, true_or, or_true, false_or, or_false, not_false_eq_true, not_true_eq_false, implies_true, forall_const, ne_eq, Classical.not_not, reduceCtorEq, nor_p, cI_1n, bI_1n, cI_F, cI_T, cI_0, cI_0n, bI_0, bI_0n, cI_01, bI_01, Nat.reduceLeDiff, Nat.reduceLT, Nat.reduceEqDiff, Nat.reduceSub, Nat.reduceAdd, Nat.lt_irrefl, Nat.le_refl, false_implies, true_implies]
    refine ⟨fun h => ih2 (fun q => q.1 h), fun h => mu_cI (sp_X11_gapOf hM hs hc hK hp hm ha hC hT hi hbl hi2) hL ⟨md_T0 hM, mu_cI (sp_X11_wantedN hM hs hc hm hi (by omega)) hL ?_⟩⟩
    rw [le_sub_n (by omega) (by omega) (by omega)]
    refine ⟨fun h2 => ih2 (fun q => by have := q.2; omega), fun h2 => ?_⟩
    rw [fsN_at (c := brk s l m) ⟨h, by omega⟩ hj hi2, if_pos hi2] at hQ
    exact hQ
theorem sp_X11_findLates (hM : md_L w y g) (hs : mu_I g (y + 1) = s) (hc : wf_c s) (hT : wf_texts s (ntx s)) :
    mu_mp w mm_X11_findLates (d + 3) [.ref y] g (fun r g' => r = none ∧ (mu_fr (fun a => a = y + 17 ∨ a = y + 19 ∨ a = y + 20) g g' ∧ lt_C y s (lateN s) g')) := by
  refine mu_mkp mk_X11_findLates rfl (fun L hL Q hQ => fm_X11_findLates_0 ?_)
  have hb := wc_b hc
  have hw17 := md_wj hM 17
  refine lp (n := np s) (P := fun i => ∀ g', mu_fr (fun a => a = y + 17 ∨ a = y + 19 ∨ a = y + 20) g g' → (∀ p, p < i → mu_I g' (y + 17) p = nI (lateN s p)) → mu_go w mm_X11_findLates (d + 3) L Q 2 [some (.ref y), some (.int (nI i))] [] g') (fun g' hf hj => fm_X11_findLates_2 ?_) (fun i hi ih g' hf hj => fm_X11_findLates_2 ?_) g mu_fr_rf (fun j hj => absurd hj (Nat.not_lt_zero j))
  · have hM' := md_L_fr hM hf
    have hs' : mu_I g' (y + 1) = s := (hf.2.2.2.2.2 _ (by omega)).trans hs
    simp (disch := omega) only [md_T0 hM', md_R0 hM', md_T1 hM', md_N1 hM', hs', wc_0 hc, li_n, nI_add, pk_mul, nI_clamp, nI_ltI, nI_leI, nI_eq, mi_n, Nat.add_zero, true_and, and_true, true_or, or_true, false_or, or_false, not_false_eq_true, not_true_eq_false, implies_true, forall_const, ne_eq, Classical.not_not, reduceCtorEq, nor_p, cI_1n, bI_1n, cI_F, cI_T, cI_0, cI_0n, bI_0, bI_0n, cI_01, bI_01, Nat.reduceLeDiff, Nat.reduceLT, Nat.reduceEqDiff, Nat.reduceSub, Nat.reduceAdd, Nat.lt_irrefl, Nat.le_refl, false_implies, true_implies]
    exact hQ _ _ ⟨rfl, hf, fun p hp => ⟨(lateN_ok s p).2, hj p hp⟩⟩ hf.2.2.2.1 hf.2.2.2.2.1
  · have hM' := md_L_fr hM hf
    have hs' : mu_I g' (y + 1) = s := (hf.2.2.2.2.2 _ (by omega)).trans hs
    have hL' := mu_fr_fit hf hL
    simp (disch := omega) only [Nat.not_le_of_lt hi, md_T0 hM', md_R0 hM', md_T1 hM', md_N1 hM', md_R19 hM', hs', wc_0 hc, li_n, nI_add, pk_mul, nI_clamp, nI_ltI, nI_leI, nI_eq, mi_n, Nat.add_zero, true_and, and_true, true_or, or_true, false_or, or_false, not_false_eq_true, not_true_eq_false, implies_true, forall_const, ne_eq, Classical.not_not, reduceCtorEq, nor_p, cI_1n, bI_1n, cI_F, cI_T, cI_0, cI_0n, bI_0, bI_0n, cI_01, bI_01, Nat.reduceLeDiff, Nat.reduceLT, Nat.reduceEqDiff, Nat.reduceSub, Nat.reduceAdd, Nat.lt_irrefl, Nat.le_refl, false_implies, true_implies]
    refine mu_cIp (sp_X11_late hM' hs' hc hT hi) hL' (fun x g2 hx hX2 hS2 => ?_)
    have hf2 := mu_fr_tr hf (mu_fr_mono hx.2 (fun a q => Or.inr q))
    have hM2 := md_L_fr hM hf2
    simp (disch := omega) only [md_T17 hM2, md_N17 hM2, hw17, li_n, nI_add, pk_mul, nI_clamp, nI_ltI, nI_leI, nI_eq, mi_n, Nat.add_zero, true_and, and_true, true_or, or_true, false_or, or_false, not_false_eq_true, not_true_eq_false, implies_true, forall_const, ne_eq, Classical.not_not, reduceCtorEq, nor_p, cI_1n, bI_1n, cI_F, cI_T, cI_0, cI_0n, bI_0, bI_0n, cI_01, bI_01, Nat.reduceLeDiff, Nat.reduceLT, Nat.reduceEqDiff, Nat.reduceSub, Nat.reduceAdd, Nat.lt_irrefl, Nat.le_refl, false_implies, true_implies]
    refine ⟨by omega, ih _ (mu_fr_tr hf2 (mu_fr_sI (Or.inl rfl))) (fun p hp => ?_)⟩
    by_cases e : p = i
    · rw [e, I_sI_same, hx.1]; exact (lateN_ok s i).1
    · rw [I_sI_k _ _ _ (by omega), hx.2.2.2.2.2.2 _ (by unfold rJ; omega)]; exact hj p (by omega)
end Rg
