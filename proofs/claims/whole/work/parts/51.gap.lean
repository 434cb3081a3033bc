/-! gaps: math, and in the class -/
/-- the least distance of a blow from q over n beats from lo on -/
noncomputable def gpV (s : Nat → Int32) (m q : Nat) (lo : Int) (n : Nat) : Nat := mnF (fun k => dsN (PL s (vM s m 0) (vM s m 2 + 1)) (PL s q (lo + (k : Int) + 1).toNat)) n
/-- what a blow must keep from q -/
def want (s : Nat → Int32) (m q : Nat) : Nat := if q = vM s m 5 then vM s m 6 / 2 else vM s m 6
/-- q is too near to a blow, all being late by at most l -/
def brk (s : Nat → Int32) (l : Nat → Nat) (m q : Nat) : Prop := q ≠ vM s m 0 ∧ gpV s m q ((vM s m 2 : Int) - l q) (vM s m 3 + l q + l (vM s m 0)) < want s m q + kReach (vM s m 1)
/-- somebody is -/
def brkA (s : Nat → Int32) (l : Nat → Nat) (m : Nat) : Prop := ∃ q, q < np s ∧ brk s l m q
/-- the first that is not cut and does not keep -/
noncomputable def fBr (s : Nat → Int32) (l : Nat → Nat) : Nat := fsN (fun m => mDo s m ∧ brkA s l m) (nm s)
def sSeen (s : Nat → Int32) (m : Nat) : Prop := ¬ ∃ q, q < np s ∧ q ≠ vM s m 5 ∧ PL s q (vM s m 2 + 1) / 10 = PL s (vM s m 0) (vM s m 2 + 1) / 10 ∧ PL s (vM s m 0) (vM s m 2 + 1) % 10 < PL s q (vM s m 2 + 1) % 10
noncomputable def lateN (s : Nat → Int32) (p : Nat) : Nat := (sLate s p).toNatClampNeg
theorem lateN_ok (s : Nat → Int32) (p : Nat) : sLate s p = nI (lateN s p) ∧ lateN s p ≤ 3 := by
  have h : 0 ≤ (sLate s p).toInt ∧ (sLate s p).toInt ≤ 3 := by
    unfold sLate rf_late rf_hold
    have e3 : (3 : Int32).toInt = 3 := rfl
    split
    · exact ⟨by decide, by decide⟩
    · split
      · rw [e3]; omega
      · rename_i h1 h2; rw [e3] at h2; omega
  obtain ⟨e, h2⟩ := li_get h.1
  refine ⟨e, ?_⟩
  unfold lateN
  have : (nI (sLate s p).toNatClampNeg).toInt = ((sLate s p).toNatClampNeg : Int) := nI_toInt h2
  rw [← e] at this
  omega
theorem dsN_comm (a b : Nat) : dsN a b = dsN b a := by unfold dsN; omega
theorem ab_n {a b : Nat} (ha : a < 2 ^ 30) (hb : b < 2 ^ 30) : mu_abs (nI a - nI b) = nI ((a - b) + (b - a)) := by
  have e := pk_sub_toInt ha hb
  have h0 : (0 : Int32).toInt = 0 := rfl
  unfold mu_abs
  apply li_nI
  by_cases h : b ≤ a
  · rw [if_pos (by rw [li_le, e, h0]; omega), e]; omega
  · rw [if_neg (by rw [li_le, e, h0]; omega), li_sub (by rw [e, h0]; omega), e, h0]; omega
theorem mnF_two {h : Nat → Nat} {len J : Nat} (h1 : 1 ≤ len) (h2 : 1 ≤ J) : mnF (fun i => mnF (fun k => h (i + k)) len) J = mnF h (J + len - 1) := by
  have a1 : mnF (fun i => mnF (fun k => h (i + k)) len) J ≤ mnF h (J + len - 1) := by
    rcases mnF_ex (f := h) (n := J + len - 1) with e | ⟨t, q1, q2⟩
    · rw [e]; exact mnF_99
    · rw [q2]
      by_cases q : t < J
      · have i1 := mnF_le (f := fun i => mnF (fun k => h (i + k)) len) (n := J) (i := t) q
        have i2 := mnF_le (f := fun k => h (t + k)) (n := len) (i := 0) (by omega)
        rw [Nat.add_zero] at i2
        omega
      · have i1 := mnF_le (f := fun i => mnF (fun k => h (i + k)) len) (n := J) (i := J - 1) (by omega)
        have i2 := mnF_le (f := fun k => h (J - 1 + k)) (n := len) (i := t - (J - 1)) (by omega)
        rw [show J - 1 + (t - (J - 1)) = t by omega] at i2
        omega
  have a2 : mnF h (J + len - 1) ≤ mnF (fun i => mnF (fun k => h (i + k)) len) J := by
    rcases mnF_ex (f := fun i => mnF (fun k => h (i + k)) len) (n := J) with e | ⟨i, q1, q2⟩
    · rw [e]; exact mnF_99
    · rw [q2]
      rcases mnF_ex (f := fun k => h (i + k)) (n := len) with e | ⟨k, r1, r2⟩
      · rw [e]; exact mnF_99
      · rw [r2]; exact mnF_le (by omega)
  omega
theorem gpV_le {s : Nat → Int32} {m q : Nat} {lo : Int} {n : Nat} : gpV s m q lo n ≤ 99 := mnF_99
/-- over places that are clamped at 0 -/
theorem gpV_slots {s : Nat → Int32} {m q : Nat} {lo hi : Int} (h : lo ≤ hi) : mnF (fun k => dsN (PL s (vM s m 0) (vM s m 2 + 1)) (PL s q ((lo + 1).toNat + k))) ((hi + 1).toNat - (lo + 1).toNat + 1) = gpV s m q lo (hi - lo + 1).toNat := by
  unfold gpV
  refine mnF_same (fun i hi2 => ?_) (fun j hj => ?_)
  · by_cases q : 0 ≤ lo + 1
    · exact ⟨i, by omega, by rw [show (lo + (i : Int) + 1).toNat = (lo + 1).toNat + i by omega]⟩
    · by_cases q2 : 0 ≤ hi + 1
      · exact ⟨(-(lo + 1)).toNat + i, by omega, by rw [show (lo + (((-(lo + 1)).toNat + i : Nat) : Int) + 1).toNat = (lo + 1).toNat + i by omega]⟩
      · exact ⟨0, by omega, by rw [show (lo + ((0 : Nat) : Int) + 1).toNat = (lo + 1).toNat + i by omega]⟩
  · exact ⟨(lo + (j : Int) + 1).toNat - (lo + 1).toNat, by omega, by rw [show (lo + 1).toNat + ((lo + (j : Int) + 1).toNat - (lo + 1).toNat) = (lo + (j : Int) + 1).toNat by omega]⟩
theorem fs_lt {c : Nat → Prop} {n : Nat} : fsN c n < n ↔ ∃ i, i < n ∧ c i := by
  rcases fsN_ok (c := c) (n := n) with ⟨h1, h2, h3⟩ | ⟨h1, h2⟩
  · exact ⟨fun _ => ⟨_, h1, h2⟩, fun _ => h1⟩
  · rw [h1]
    exact ⟨fun h => absurd h (Nat.lt_irrefl _), fun ⟨i, q1, q2⟩ => absurd q2 (h2 i q1)⟩
/-- NONE is no number from 0 on -/
theorem none_n {k : Nat} (h : k < 1000) : ¬ nI k = -1000000005 := fun e => by
  have := congrArg Int32.toInt e
  rw [nI_toInt (by omega)] at this
  have h2 : (-1000000005 : Int32).toInt = -1000000005 := rfl
  omega
theorem none_n' {k : Nat} (h : k < 1000) : ¬ nI k = -nI 1000000005 := none_n h
theorem le_sub_n {a b c : Nat} (ha : a < 2 ^ 20) (hb : b < 2 ^ 20) (hc : c < 2 ^ 20) : nI a ≤ nI b - nI c ↔ a + c ≤ b := by
  rw [li_le, pk_sub_toInt (by omega) (by omega), nI_toInt (by omega)]
  omega
/-- all ways are laid down -/
def sg_P (S : Nat) (s : Nat → Int32) (g : mu_H) : Prop := ∀ p, p < np s → trI S s p 101 g
/-- all know how late they may be -/
def sg_T' (S : Nat) (s : Nat → Int32) (l : Nat → Nat) (g : mu_H) : Prop := ∀ p, p < np s → l p ≤ 3 ∧ mu_I g (S + 3) p = nI (l p)
section Ci
variable {w : mu_O} {d b S E : Nat} {g : mu_H} {s : Nat → Int32} {l : Nat → Nat}
theorem sp_X8_placeAt {p : Nat} {v : Int32} (hc : wf_c s) (hG : sg_L w S b g) (hP : sg_P S s g) (hi : p < np s) (hv : v.toInt < 100) : mu_met w mm_X8_placeAt (d + 2) [.ref S, .int (nI p), .int v] g (some (.int (nI (PL s p (v.toInt + 1).toNat)))) g := by
  refine mu_mk mk_X8_placeAt rfl rfl rfl (fun L hL Q hQ => fm_X8_placeAt_0 ?_)
  have hb := wc_b hc
  refine mu_cI (sp_X8_spotAt (by omega) (by omega)) hL ?_
  obtain ⟨e1, e2⟩ := hP p hi (v.toInt + 1).toNat (by omega)
  simp (disch := omega) only [sg_T hG, sg_R0 hG, sg_R1 hG, sg_R2 hG, sg_R3 hG, sg_R4 hG, sg_T1 hG, sg_N1 hG, sg_T2 hG, sg_N2 hG, sg_T3 hG, sg_N3 hG, sg_T4 hG, sg_N4 hG, sg_w1 hG, sg_w2 hG, sg_w3 hG, sg_w4 hG, e1, e2, li_n, nI_add, pk_mul, nI_clamp, nI_ltI, nI_leI, nI_eq, mi_n, Nat.add_zero, true_and, and_true, true_or, or_true, false_or, or_false, not_false_eq_true, not_true_eq_false, implies_true, forall_const, ne_eq, Classical.not_not, reduceCtorEq, nor_p, cI_1n, bI_1n, cI_F, cI_T, cI_0, cI_0n, bI_0, bI_0n, cI_01, bI_01, Nat.reduceLeDiff, Nat.reduceLT, Nat.reduceEqDiff, Nat.reduceSub, Nat.reduceAdd, Nat.lt_irrefl, Nat.le_refl, false_implies, true_implies]
  rw [show 10 * (PL s p (v.toInt + 1).toNat / 10) + PL s p (v.toInt + 1).toNat % 10 = PL s p (v.toInt + 1).toNat by omega]
  exact ⟨by omega, by omega, hQ⟩
set_option maxHeartbeats 1000000 in
theorem sp_X8_leastGap {m q : Nat} {u v : Int32} (hS : sc_L w b g) (hV : sc_V w E b s g) (hc : wf_c s) (hG : sg_L w S b g) (hSE : b + 41 ≤ S ∧ S + 5 ≤ E) (hst : st_L w g) (hp : wf_p s) (hm : wf_m 90 s) (hP : sg_P S s g) (hi : m < nm s) (hq : q < np s) (h1 : -1000 < u.toInt) (h2 : u.toInt ≤ v.toInt) (h3 : v.toInt < 100) :
    mu_met w mm_X8_leastGap (d + 2) [.ref S, .ref (b + 21 + m), .int (nI q), .int u, .int v] g (some (.int (nI (gpV s m q u.toInt (v.toInt - u.toInt + 1).toNat) - nI (kReach (vM s m 1))))) g := by
  refine mu_mk mk_X8_leastGap rfl rfl rfl (fun L hL Q hQ => fm_X8_leastGap_0 ?_)
  have hb := wc_b hc
  have hmb := wm_b hm hi
  have hmx : ∀ x : Int32, x.toInt < 1000 → (nI q * nI 101 + nI 1 + mu_max (-nI 1) x : Int32) = nI (101 * q + (x.toInt + 1).toNat) := fun x hx => by
    have e1 : (nI q * nI 101 + nI 1 : Int32) = nI (q * 101 + 1) := by rw [pk_mul, nI_add]
    have e2 : (nI (q * 101 + 1)).toInt = ((q * 101 + 1 : Nat) : Int) := nI_toInt (by omega)
    have hm : (mu_max (-nI 1) x).toInt = if -1 < x.toInt then x.toInt else -1 := by
      unfold mu_max
      simp only [li_lt]
      have : (-nI 1 : Int32).toInt = -1 := rfl
      rw [this]
      split <;> simp [this]
    apply li_nI
    rw [e1, li_add] <;> rw [e2, hm] <;> split <;> omega
  have hmx' := hmx
  simp only [pk_mul, nI_add] at hmx'
  simp (disch := omega) only [sv_m hV hm, hmx', sc_T hS, sc_R0 hS, sc_R1 hS, sc_R2 hS, sc_R3 hS, sc_R4 hS, sc_R5 hS, sc_R6 hS, sc_R7 hS, sc_R8 hS, sc_R9 hS, sc_T1 hS, sc_N1 hS, sc_RP hS, sc_T2 hS, sc_N2 hS, sc_RM hS, sc_T3 hS, sc_N3 hS, sc_T4 hS, sc_N4 hS, sc_T5 hS, sc_N5 hS, sc_T6 hS, sc_N6 hS, sc_T7 hS, sc_N7 hS, sc_T8 hS, sc_N8 hS, sc_T9 hS, sc_N9 hS, sc_T10 hS, sc_RL0 hS, sc_RL1 hS, sc_T11 hS, sc_N11 hS, sc_T12 hS, sc_N12 hS, sc_TP hS, sc_TM hS, sc_w hS, sc_wj hS, sc_wp hS, sv_0 hV hc, sv_1 hV hc, sv_2 hV hc, sv_3 hV hc, sv_4 hV hc, sv_5 hV hc, sv_6 hV hc, sv_7 hV hc, sv_9 hV hc, sv_8 hV, li_n, nI_add, pk_mul, nI_clamp, nI_ltI, nI_leI, nI_eq, mi_n, Nat.add_zero, true_and, and_true, true_or, or_true, false_or, or_false, not_false_eq_true, not_true_eq_false, implies_true, forall_const, ne_eq, Classical.not_not, reduceCtorEq, nor_p, cI_1n, bI_1n, cI_F, cI_T, cI_0, cI_0n, bI_0, bI_0n, cI_01, bI_01, Nat.reduceLeDiff, Nat.reduceLT, Nat.reduceEqDiff, Nat.reduceSub, Nat.reduceAdd, Nat.lt_irrefl, Nat.le_refl, false_implies, true_implies]
  rw [← gpV_slots h2] at hQ
  have ewho : vM s m 0 * 101 + 1 + vM s m 2 = 101 * vM s m 0 + (vM s m 2 + 1) := by omega
  rw [ewho]
  obtain ⟨x1, x2⟩ := hP (vM s m 0) hmb.1 (vM s m 2 + 1) (by omega)
  have hw1 := pl_ok hp hm hmb.1 (vM s m 2 + 1)
  have e1 : (u.toInt + 1).toNat ≤ (v.toInt + 1).toNat := by omega
  have e2 : (v.toInt + 1).toNat ≤ 100 := by omega
  generalize (u.toInt + 1).toNat = U at *
  generalize (v.toInt + 1).toNat = V at *
  refine lp (n := V - U + 1) (P := fun i => mu_go w mm_X8_leastGap (d + 2) L Q 49 [some (.ref S), some (.ref (b + 21 + m)), none, none, none, some (.int (nI (101 * vM s m 0 + (vM s m 2 + 1)))), none, some (.int (nI (101 * q + V))), some (.int (nI (mnF (fun k => dsN (PL s (vM s m 0) (vM s m 2 + 1)) (PL s q (U + k))) i))), some (.int (nI (101 * q + (U + i)))), none] [] g) (fm_X8_leastGap_49 ?_) (fun i hi2 ih => fm_X8_leastGap_49 ?_)
  · simp (disch := omega) only [show (101 * q + V < 101 * q + (U + (V - U + 1))) = True from eq_true (by omega), sv_m hV hm, st_T hst, st_N hst, st_0 hst, st_1 hst, st_2 hst, st_3 hst, st_4 hst, st_5 hst, sc_T hS, sc_R0 hS, sc_R1 hS, sc_R2 hS, sc_R3 hS, sc_R4 hS, sc_R5 hS, sc_R6 hS, sc_R7 hS, sc_R8 hS, sc_R9 hS, sc_T1 hS, sc_N1 hS, sc_RP hS, sc_T2 hS, sc_N2 hS, sc_RM hS, sc_T3 hS, sc_N3 hS, sc_T4 hS, sc_N4 hS, sc_T5 hS, sc_N5 hS, sc_T6 hS, sc_N6 hS, sc_T7 hS, sc_N7 hS, sc_T8 hS, sc_N8 hS, sc_T9 hS, sc_N9 hS, sc_T10 hS, sc_RL0 hS, sc_RL1 hS, sc_T11 hS, sc_N11 hS, sc_T12 hS, sc_N12 hS, sc_TP hS, sc_TM hS, sc_w hS, sc_wj hS, sc_wp hS, sv_0 hV hc, sv_1 hV hc, sv_2 hV hc, sv_3 hV hc, sv_4 hV hc, sv_5 hV hc, sv_6 hV hc, sv_7 hV hc, sv_9 hV hc, sv_8 hV, li_n, nI_add, pk_mul, nI_clamp, nI_ltI, nI_leI, nI_eq, mi_n, Nat.add_zero, true_and, and_true, true_or, or_true, false_or, or_false, not_false_eq_true, not_true_eq_false, implies_true, forall_const, ne_eq, Classical.not_not, reduceCtorEq, nor_p, cI_1n, bI_1n, cI_F, cI_T, cI_0, cI_0n, bI_0, bI_0n, cI_01, bI_01, Nat.reduceLeDiff, Nat.reduceLT, Nat.reduceEqDiff, Nat.reduceSub, Nat.reduceAdd, Nat.lt_irrefl, Nat.le_refl, false_implies, true_implies]
    exact ⟨by omega, hQ⟩
  · obtain ⟨y1, y2⟩ := hP q hq (U + i) (by omega)
    have hw2 := pl_ok hp hm hq (U + i)
    unfold okP at hw1 hw2
    have hmn := mnF_99 (f := fun k => dsN (PL s (vM s m 0) (vM s m 2 + 1)) (PL s q (U + k))) (n := i)
    simp (disch := omega) only [show (101 * q + V < 101 * q + (U + i)) = False from eq_false (by omega), sg_T hG, sg_R0 hG, sg_R1 hG, sg_R2 hG, sg_R3 hG, sg_R4 hG, sg_T1 hG, sg_N1 hG, sg_T2 hG, sg_N2 hG, sg_T3 hG, sg_N3 hG, sg_T4 hG, sg_N4 hG, sg_w1 hG, sg_w2 hG, sg_w3 hG, sg_w4 hG, x1, x2, y1, y2, ab_n, mx_n, mn_n, sc_T hS, sc_R0 hS, sc_R1 hS, sc_R2 hS, sc_R3 hS, sc_R4 hS, sc_R5 hS, sc_R6 hS, sc_R7 hS, sc_R8 hS, sc_R9 hS, sc_T1 hS, sc_N1 hS, sc_RP hS, sc_T2 hS, sc_N2 hS, sc_RM hS, sc_T3 hS, sc_N3 hS, sc_T4 hS, sc_N4 hS, sc_T5 hS, sc_N5 hS, sc_T6 hS, sc_N6 hS, sc_T7 hS, sc_N7 hS, sc_T8 hS, sc_N8 hS, sc_T9 hS, sc_N9 hS, sc_T10 hS, sc_RL0 hS, sc_RL1 hS, sc_T11 hS, sc_N11 hS, sc_T12 hS, sc_N12 hS, sc_TP hS, sc_TM hS, sc_w hS, sc_wj hS, sc_wp hS, sv_0 hV hc, sv_1 hV hc, sv_2 hV hc, sv_3 hV hc, sv_4 hV hc, sv_5 hV hc, sv_6 hV hc, sv_7 hV hc, sv_9 hV hc, sv_8 hV, li_n, nI_add, pk_mul, nI_clamp, nI_ltI, nI_leI, nI_eq, mi_n, Nat.add_zero, true_and, and_true, true_or, or_true, false_or, or_false, not_false_eq_true, not_true_eq_false, implies_true, forall_const, ne_eq, Classical.not_not, reduceCtorEq, nor_p, cI_1n, bI_1n, cI_F, cI_T, cI_0, cI_0n, bI_0, bI_0n, cI_01, bI_01, Nat.reduceLeDiff, Nat.reduceLT, Nat.reduceEqDiff, Nat.reduceSub, Nat.reduceAdd, Nat.lt_irrefl, Nat.le_refl, false_implies, true_implies]
    refine ⟨by omega, by omega, by omega, by omega, ?_⟩
    have e3 : max (PL s q (U + i) / 10 - PL s (vM s m 0) (vM s m 2 + 1) / 10 + (PL s (vM s m 0) (vM s m 2 + 1) / 10 - PL s q (U + i) / 10)) (PL s q (U + i) % 10 - PL s (vM s m 0) (vM s m 2 + 1) % 10 + (PL s (vM s m 0) (vM s m 2 + 1) % 10 - PL s q (U + i) % 10)) = dsN (PL s (vM s m 0) (vM s m 2 + 1)) (PL s q (U + i)) := dsN_comm _ _
    rw [e3]
    exact ih
theorem sp_X8_gapTo {m q : Nat} (hS : sc_L w b g) (hV : sc_V w E b s g) (hc : wf_c s) (hG : sg_L w S b g) (hSE : b + 41 ≤ S ∧ S + 5 ≤ E) (hst : st_L w g) (hp : wf_p s) (hm : wf_m 90 s) (hP : sg_P S s g) (hT : sg_T' S s l g) (hi : m < nm s) (hq : q < np s) :
    mu_met w mm_X8_gapTo (d + 3) [.ref S, .ref (b + 21 + m), .int (nI q)] g (some (.int (nI (gpV s m q ((vM s m 2 : Int) - l q) (vM s m 3 + l q + l (vM s m 0))) - nI (kReach (vM s m 1))))) g := by
  refine mu_mk mk_X8_gapTo rfl rfl rfl (fun L hL Q hQ => fm_X8_gapTo_0 ?_)
  have hb := wc_b hc
  have hmb := wm_b hm hi
  obtain ⟨l1, l2⟩ := hT q hq
  obtain ⟨l3, l4⟩ := hT (vM s m 0) hmb.1
  have e1 : nI (vM s m 2 + vM s m 3) - nI 1 = nI (vM s m 2 + vM s m 3 - 1) := pk_sub (by omega)
  simp (disch := omega) only [sv_m hV hm, l2, l4, e1, sg_T hG, sg_R0 hG, sg_R1 hG, sg_R2 hG, sg_R3 hG, sg_R4 hG, sg_T1 hG, sg_N1 hG, sg_T2 hG, sg_N2 hG, sg_T3 hG, sg_N3 hG, sg_T4 hG, sg_N4 hG, sg_w1 hG, sg_w2 hG, sg_w3 hG, sg_w4 hG, sc_T hS, sc_R0 hS, sc_R1 hS, sc_R2 hS, sc_R3 hS, sc_R4 hS, sc_R5 hS, sc_R6 hS, sc_R7 hS, sc_R8 hS, sc_R9 hS, sc_T1 hS, sc_N1 hS, sc_RP hS, sc_T2 hS, sc_N2 hS, sc_RM hS, sc_T3 hS, sc_N3 hS, sc_T4 hS, sc_N4 hS, sc_T5 hS, sc_N5 hS, sc_T6 hS, sc_N6 hS, sc_T7 hS, sc_N7 hS, sc_T8 hS, sc_N8 hS, sc_T9 hS, sc_N9 hS, sc_T10 hS, sc_RL0 hS, sc_RL1 hS, sc_T11 hS, sc_N11 hS, sc_T12 hS, sc_N12 hS, sc_TP hS, sc_TM hS, sc_w hS, sc_wj hS, sc_wp hS, sv_0 hV hc, sv_1 hV hc, sv_2 hV hc, sv_3 hV hc, sv_4 hV hc, sv_5 hV hc, sv_6 hV hc, sv_7 hV hc, sv_9 hV hc, sv_8 hV, li_n, nI_add, pk_mul, nI_clamp, nI_ltI, nI_leI, nI_eq, mi_n, Nat.add_zero, true_and, and_true, true_or, or_true, false_or, or_false, not_false_eq_true, not_true_eq_false, implies_true, forall_const, ne_eq, Classical.not_not, reduceCtorEq, nor_p, cI_1n, bI_1n, cI_F, cI_T, cI_0, cI_0n, bI_0, bI_0n, cI_01, bI_01, Nat.reduceLeDiff, Nat.reduceLT, Nat.reduceEqDiff, Nat.reduceSub, Nat.reduceAdd, Nat.lt_irrefl, Nat.le_refl, false_implies, true_implies]
  have e2 : (nI (vM s m 2) - nI (l q)).toInt = (vM s m 2 : Int) - l q := pk_sub_toInt (by omega) (by omega)
  have e3 : (nI (vM s m 2 + vM s m 3 - 1 + l (vM s m 0))).toInt = ((vM s m 2 + vM s m 3 - 1 + l (vM s m 0) : Nat) : Int) := nI_toInt (by omega)
  refine ⟨by omega, by omega, mu_cI (sp_X8_leastGap hS hV hc hG hSE hst hp hm hP hi hq (by omega) (by omega) (by omega)) hL ?_⟩
  rw [e2, e3, show (((vM s m 2 + vM s m 3 - 1 + l (vM s m 0) : Nat) : Int) - ((vM s m 2 : Int) - l q) + 1).toNat = vM s m 3 + l q + l (vM s m 0) by omega]
  exact hQ
theorem sp_X8_tooNearTo {m : Nat} (hS : sc_L w b g) (hV : sc_V w E b s g) (hc : wf_c s) (hG : sg_L w S b g) (hSE : b + 41 ≤ S ∧ S + 5 ≤ E) (hst : st_L w g) (hp : wf_p s) (hm : wf_m 90 s) (hP : sg_P S s g) (hT : sg_T' S s l g) (hi : m < nm s) :
    mu_met w mm_X8_tooNearTo (d + 4) [.ref S, .ref (b + 21 + m)] g (some (.int (if fsN (brk s l m) (np s) < np s then nI (fsN (brk s l m) (np s)) else -1000000005))) g := by
  refine mu_mk mk_X8_tooNearTo rfl rfl rfl (fun L hL Q hQ => fm_X8_tooNearTo_0 ?_)
  have hb := wc_b hc
  have hmb := wm_b hm hi
  have hkr : kReach (vM s m 1) ≤ 3 := by unfold kReach; split <;> omega
  refine lp (n := np s) (P := fun i => (∀ j, j < i → ¬ brk s l m j) → mu_go w mm_X8_tooNearTo (d + 4) L Q 2 [some (.ref S), some (.ref (b + 21 + m)), some (.int (nI i))] [] g) (fun hj => fm_X8_tooNearTo_2 ?_) (fun i hi2 ih hj => fm_X8_tooNearTo_2 ?_) (fun j hj => absurd hj (Nat.not_lt_zero j))
  · simp (disch := omega) only [sg_T hG, sg_R0 hG, sg_R1 hG, sg_R2 hG, sg_R3 hG, sg_R4 hG, sg_T1 hG, sg_N1 hG, sg_T2 hG, sg_N2 hG, sg_T3 hG, sg_N3 hG, sg_T4 hG, sg_N4 hG, sg_w1 hG, sg_w2 hG, sg_w3 hG, sg_w4 hG, sc_T hS, sc_R0 hS, sc_R1 hS, sc_R2 hS, sc_R3 hS, sc_R4 hS, sc_R5 hS, sc_R6 hS, sc_R7 hS, sc_R8 hS, sc_R9 hS, sc_T1 hS, sc_N1 hS, sc_RP hS, sc_T2 hS, sc_N2 hS, sc_RM hS, sc_T3 hS, sc_N3 hS, sc_T4 hS, sc_N4 hS, sc_T5 hS, sc_N5 hS, sc_T6 hS, sc_N6 hS, sc_T7 hS, sc_N7 hS, sc_T8 hS, sc_N8 hS, sc_T9 hS, sc_N9 hS, sc_T10 hS, sc_RL0 hS, sc_RL1 hS, sc_T11 hS, sc_N11 hS, sc_T12 hS, sc_N12 hS, sc_TP hS, sc_TM hS, sc_w hS, sc_wj hS, sc_wp hS, sv_0 hV hc, sv_1 hV hc, sv_2 hV hc, sv_3 hV hc, sv_4 hV hc, sv_5 hV hc, sv_6 hV hc, sv_7 hV hc, sv_9 hV hc, sv_8 hV, li_n, nI_add, pk_mul, nI_clamp, nI_ltI, nI_leI, nI_eq, mi_n, Nat.add_zero, true_and, and_true, true_or, or_true, false_or, or_false, not_false_eq_true, not_true_eq_false, implies_true, forall_const, ne_eq, Classical.not_not, reduceCtorEq, nor_p, cI_1n, bI_1n, cI_F, cI_T, cI_0, cI_0n, bI_0, bI_0n, cI_01, bI_01, Nat.reduceLeDiff, Nat.reduceLT, Nat.reduceEqDiff, Nat.reduceSub, Nat.reduceAdd, Nat.lt_irrefl, Nat.le_refl, false_implies, true_implies]
    rw [fsN_no hj, if_neg (Nat.lt_irrefl _)] at hQ
    exact hQ
  · have ih2 : ¬ brk s l m i → mu_go w mm_X8_tooNearTo (d + 4) L Q 2 [some (.ref S), some (.ref (b + 21 + m)), some (.int (nI (i + 1)))] [] g := fun h => ih (fun j h2 => by
      by_cases e : j = i
      · rw [e]; exact h
      · exact hj j (by omega))
    have hgp := gpV_le (s := s) (m := m) (q := i) (lo := (vM s m 2 : Int) - l i) (n := vM s m 3 + l i + l (vM s m 0))
    simp (disch := omega) only [Nat.not_le_of_lt hi2, sv_m hV hm, sg_T hG, sg_R0 hG, sg_R1 hG, sg_R2 hG, sg_R3 hG, sg_R4 hG, sg_T1 hG, sg_N1 hG, sg_T2 hG, sg_N2 hG, sg_T3 hG, sg_N3 hG, sg_T4 hG, sg_N4 hG, sg_w1 hG, sg_w2 hG, sg_w3 hG, sg_w4 hG, sc_T hS, sc_R0 hS, sc_R1 hS, sc_R2 hS, sc_R3 hS, sc_R4 hS, sc_R5 hS, sc_R6 hS, sc_R7 hS, sc_R8 hS, sc_R9 hS, sc_T1 hS, sc_N1 hS, sc_RP hS, sc_T2 hS, sc_N2 hS, sc_RM hS, sc_T3 hS, sc_N3 hS, sc_T4 hS, sc_N4 hS, sc_T5 hS, sc_N5 hS, sc_T6 hS, sc_N6 hS, sc_T7 hS, sc_N7 hS, sc_T8 hS, sc_N8 hS, sc_T9 hS, sc_N9 hS, sc_T10 hS, sc_RL0 hS, sc_RL1 hS, sc_T11 hS, sc_N11 hS, sc_T12 hS, sc_N12 hS, sc_TP hS, sc_TM hS, sc_w hS, sc_wj hS, sc_wp hS, sv_0 hV hc, sv_1 hV hc, sv_2 hV hc, sv_3 hV hc, sv_4 hV hc, sv_5 hV hc, sv_6 hV hc, sv_7 hV hc, sv_9 hV hc, sv_8 hV, li_n, nI_add, pk_mul, nI_clamp, nI_ltI, nI_leI, nI_eq, mi_n, Nat.add_zero, true_and, and_true, true_or, or_true, false_or, or_false, not_false_eq_true, not_true_eq_false, implies_true, forall_const, ne_eq, Classical.not_not, reduceCtorEq, nor_p, cI_1n, bI_1n, cI_F, cI_T, cI_0, cI_0n, bI_0, bI_0n, cI_01, bI_01, Nat.reduceLeDiff, Nat.reduceLT, Nat.reduceEqDiff, Nat.reduceSub, Nat.reduceAdd, Nat.lt_irrefl, Nat.le_refl, false_implies, true_implies]
    refine ⟨fun h => ih2 (fun q => q.1 h), fun h => mu_cI (sp_X8_gapTo hS hV hc hG hSE hst hp hm hP hT hi hi2) hL ⟨sc_TM hS (by omega), mu_cI (sp_X1_spanTo (sc_TM hS (by omega)) (sv_m hV hm hi (by omega)) (sv_m hV hm hi (by omega)) (by omega)) hL ?_⟩⟩
    have ew : (if i = vM s m 5 then vM s m 6 / 2 else vM s m 6) = want s m i := rfl
    have hwt : want s m i ≤ 9 := by unfold want; split <;> omega
    rw [ew, le_sub_n (by omega) (by omega) (by omega)]
    refine ⟨fun h2 => ih2 (fun q => by have := q.2; omega), fun h2 => ?_⟩
    rw [fsN_at (c := brk s l m) ⟨h, by omega⟩ hj hi2, if_pos hi2] at hQ
    exact hQ
theorem sp_X8_firstBreach (hS : sc_L w b g) (hV : sc_V w E b s g) (hc : wf_c s) (hG : sg_L w S b g) (hSE : b + 41 ≤ S ∧ S + 5 ≤ E) (hst : st_L w g) (hp : wf_p s) (hm : wf_m 90 s) (hP : sg_P S s g) (hT : sg_T' S s l g) :
    mu_met w mm_X8_firstBreach (d + 5) [.ref S] g (some (.int (if fBr s l < nm s then nI (fBr s l) else -1000000005))) g := by
  refine mu_mk mk_X8_firstBreach rfl rfl rfl (fun L hL Q hQ => fm_X8_firstBreach_0 ?_)
  have hb := wc_b hc
  unfold fBr at hQ
  refine lp (n := nm s) (P := fun i => (∀ j, j < i → ¬ (mDo s j ∧ brkA s l j)) → mu_go w mm_X8_firstBreach (d + 5) L Q 2 [some (.ref S), some (.int (nI i)), none] [] g) (fun hj => fm_X8_firstBreach_2 ?_) (fun i hi ih hj => fm_X8_firstBreach_2 ?_) (fun j hj => absurd hj (Nat.not_lt_zero j))
  · simp (disch := omega) only [sg_T hG, sg_R0 hG, sg_R1 hG, sg_R2 hG, sg_R3 hG, sg_R4 hG, sg_T1 hG, sg_N1 hG, sg_T2 hG, sg_N2 hG, sg_T3 hG, sg_N3 hG, sg_T4 hG, sg_N4 hG, sg_w1 hG, sg_w2 hG, sg_w3 hG, sg_w4 hG, sc_T hS, sc_R0 hS, sc_R1 hS, sc_R2 hS, sc_R3 hS, sc_R4 hS, sc_R5 hS, sc_R6 hS, sc_R7 hS, sc_R8 hS, sc_R9 hS, sc_T1 hS, sc_N1 hS, sc_RP hS, sc_T2 hS, sc_N2 hS, sc_RM hS, sc_T3 hS, sc_N3 hS, sc_T4 hS, sc_N4 hS, sc_T5 hS, sc_N5 hS, sc_T6 hS, sc_N6 hS, sc_T7 hS, sc_N7 hS, sc_T8 hS, sc_N8 hS, sc_T9 hS, sc_N9 hS, sc_T10 hS, sc_RL0 hS, sc_RL1 hS, sc_T11 hS, sc_N11 hS, sc_T12 hS, sc_N12 hS, sc_TP hS, sc_TM hS, sc_w hS, sc_wj hS, sc_wp hS, sv_0 hV hc, sv_1 hV hc, sv_2 hV hc, sv_3 hV hc, sv_4 hV hc, sv_5 hV hc, sv_6 hV hc, sv_7 hV hc, sv_9 hV hc, sv_8 hV, li_n, nI_add, pk_mul, nI_clamp, nI_ltI, nI_leI, nI_eq, mi_n, Nat.add_zero, true_and, and_true, true_or, or_true, false_or, or_false, not_false_eq_true, not_true_eq_false, implies_true, forall_const, ne_eq, Classical.not_not, reduceCtorEq, nor_p, cI_1n, bI_1n, cI_F, cI_T, cI_0, cI_0n, bI_0, bI_0n, cI_01, bI_01, Nat.reduceLeDiff, Nat.reduceLT, Nat.reduceEqDiff, Nat.reduceSub, Nat.reduceAdd, Nat.lt_irrefl, Nat.le_refl, false_implies, true_implies]
    rw [fsN_no hj, if_neg (Nat.lt_irrefl _)] at hQ
    exact hQ
  · have ih2 : ¬ (mDo s i ∧ brkA s l i) → mu_go w mm_X8_firstBreach (d + 5) L Q 2 [some (.ref S), some (.int (nI (i + 1))), none] [] g := fun h => ih (fun j h2 => by
      by_cases e : j = i
      · rw [e]; exact h
      · exact hj j (by omega))
    have hmb := wm_b hm hi
    simp (disch := omega) only [Nat.not_le_of_lt hi, sg_T hG, sg_R0 hG, sg_R1 hG, sg_R2 hG, sg_R3 hG, sg_R4 hG, sg_T1 hG, sg_N1 hG, sg_T2 hG, sg_N2 hG, sg_T3 hG, sg_N3 hG, sg_T4 hG, sg_N4 hG, sg_w1 hG, sg_w2 hG, sg_w3 hG, sg_w4 hG, sc_T hS, sc_R0 hS, sc_R1 hS, sc_R2 hS, sc_R3 hS, sc_R4 hS, sc_R5 hS, sc_R6 hS, sc_R7 hS, sc_R8 hS, sc_R9 hS, sc_T1 hS, sc_N1 hS, sc_RP hS, sc_T2 hS, sc_N2 hS, sc_RM hS, sc_T3 hS, sc_N3 hS, sc_T4 hS, sc_N4 hS, sc_T5 hS, sc_N5 hS, sc_T6 hS, sc_N6 hS, sc_T7 hS, sc_N7 hS, sc_T8 hS, sc_N8 hS, sc_T9 hS, sc_N9 hS, sc_T10 hS, sc_RL0 hS, sc_RL1 hS, sc_T11 hS, sc_N11 hS, sc_T12 hS, sc_N12 hS, sc_TP hS, sc_TM hS, sc_w hS, sc_wj hS, sc_wp hS, sv_0 hV hc, sv_1 hV hc, sv_2 hV hc, sv_3 hV hc, sv_4 hV hc, sv_5 hV hc, sv_6 hV hc, sv_7 hV hc, sv_9 hV hc, sv_8 hV, li_n, nI_add, pk_mul, nI_clamp, nI_ltI, nI_leI, nI_eq, mi_n, Nat.add_zero, true_and, and_true, true_or, or_true, false_or, or_false, not_false_eq_true, not_true_eq_false, implies_true, forall_const, ne_eq, Classical.not_not, reduceCtorEq, nor_p, cI_1n, bI_1n, cI_F, cI_T, cI_0, cI_0n, bI_0, bI_0n, cI_01, bI_01, Nat.reduceLeDiff, Nat.reduceLT, Nat.reduceEqDiff, Nat.reduceSub, Nat.reduceAdd, Nat.lt_irrefl, Nat.le_refl, false_implies, true_implies]
    refine ⟨by omega, mu_cI (sp_X1_isBlowToDo hst (sc_TM hS (by omega)) (sv_m hV hm hi (by omega)) hmb.2.1 (sv_m hV hm hi (by omega)) hmb.2.2.2.2.2.2.2.2.2.2) hL ?_⟩
    simp (disch := omega) only [sg_T hG, sg_R0 hG, sg_R1 hG, sg_R2 hG, sg_R3 hG, sg_R4 hG, sg_T1 hG, sg_N1 hG, sg_T2 hG, sg_N2 hG, sg_T3 hG, sg_N3 hG, sg_T4 hG, sg_N4 hG, sg_w1 hG, sg_w2 hG, sg_w3 hG, sg_w4 hG, sc_T hS, sc_R0 hS, sc_R1 hS, sc_R2 hS, sc_R3 hS, sc_R4 hS, sc_R5 hS, sc_R6 hS, sc_R7 hS, sc_R8 hS, sc_R9 hS, sc_T1 hS, sc_N1 hS, sc_RP hS, sc_T2 hS, sc_N2 hS, sc_RM hS, sc_T3 hS, sc_N3 hS, sc_T4 hS, sc_N4 hS, sc_T5 hS, sc_N5 hS, sc_T6 hS, sc_N6 hS, sc_T7 hS, sc_N7 hS, sc_T8 hS, sc_N8 hS, sc_T9 hS, sc_N9 hS, sc_T10 hS, sc_RL0 hS, sc_RL1 hS, sc_T11 hS, sc_N11 hS, sc_T12 hS, sc_N12 hS, sc_TP hS, sc_TM hS, sc_w hS, sc_wj hS, sc_wp hS, sv_0 hV hc, sv_1 hV hc, sv_2 hV hc, sv_3 hV hc, sv_4 hV hc, sv_5 hV hc, sv_6 hV hc, sv_7 hV hc, sv_9 hV hc, sv_8 hV, li_n, nI_add, pk_mul, nI_clamp, nI_ltI, nI_leI, nI_eq, mi_n, Nat.add_zero, true_and, and_true, true_or, or_true, false_or, or_false, not_false_eq_true, not_true_eq_false, implies_true, forall_const, ne_eq, Classical.not_not, reduceCtorEq, nor_p, cI_1n, bI_1n, cI_F, cI_T, cI_0, cI_0n, bI_0, bI_0n, cI_01, bI_01, Nat.reduceLeDiff, Nat.reduceLT, Nat.reduceEqDiff, Nat.reduceSub, Nat.reduceAdd, Nat.lt_irrefl, Nat.le_refl, false_implies, true_implies]
    refine ⟨fun h => ih2 (fun q => h q.1), fun h => mu_cI (sp_X8_tooNearTo hS hV hc hG hSE hst hp hm hP hT hi) hL ?_⟩
    by_cases hb2 : brkA s l i
    · have hlt := fs_lt.mpr hb2
      rw [if_pos hlt]
      refine ⟨fun q => absurd q (none_n' (by omega)), fun _ => ?_⟩
      rw [fsN_at (c := fun m => mDo s m ∧ brkA s l m) ⟨h, hb2⟩ hj hi, if_pos hi] at hQ
      exact hQ
    · rw [if_neg (fun q => hb2 (fs_lt.mp q))]
      exact ⟨fun _ => ih2 (fun q => hb2 q.2), fun q => absurd rfl q⟩
theorem sp_X8_isSeen {m : Nat} (hS : sc_L w b g) (hV : sc_V w E b s g) (hc : wf_c s) (hG : sg_L w S b g) (hSE : b + 41 ≤ S ∧ S + 5 ≤ E) (hm : wf_m 90 s) (hp : wf_p s) (hP : sg_P S s g) (hi : m < nm s) : mu_met w mm_X8_isSeen (d + 2) [.ref S, .ref (b + 21 + m)] g (some (.int (cI (sSeen s m)))) g := by
  refine mu_mk mk_X8_isSeen rfl rfl rfl (fun L hL Q hQ => fm_X8_isSeen_0 ?_)
  have h0 := cq' hQ
  clear hQ
  have hb := wc_b hc
  have hmb := wm_b hm hi
  have ebt : (nI (vM s m 2)).toInt = (vM s m 2 : Int) := nI_toInt (by omega)
  obtain ⟨x1, x2⟩ := hP (vM s m 0) hmb.1 (vM s m 2 + 1) (by omega)
  have hw1 := pl_ok hp hm hmb.1 (vM s m 2 + 1)
  simp (disch := omega) only [sv_m hV hm, sc_T hS, sc_R0 hS, sc_R1 hS, sc_R2 hS, sc_R3 hS, sc_R4 hS, sc_R5 hS, sc_R6 hS, sc_R7 hS, sc_R8 hS, sc_R9 hS, sc_T1 hS, sc_N1 hS, sc_RP hS, sc_T2 hS, sc_N2 hS, sc_RM hS, sc_T3 hS, sc_N3 hS, sc_T4 hS, sc_N4 hS, sc_T5 hS, sc_N5 hS, sc_T6 hS, sc_N6 hS, sc_T7 hS, sc_N7 hS, sc_T8 hS, sc_N8 hS, sc_T9 hS, sc_N9 hS, sc_T10 hS, sc_RL0 hS, sc_RL1 hS, sc_T11 hS, sc_N11 hS, sc_T12 hS, sc_N12 hS, sc_TP hS, sc_TM hS, sc_w hS, sc_wj hS, sc_wp hS, sv_0 hV hc, sv_1 hV hc, sv_2 hV hc, sv_3 hV hc, sv_4 hV hc, sv_5 hV hc, sv_6 hV hc, sv_7 hV hc, sv_9 hV hc, sv_8 hV, li_n, nI_add, pk_mul, nI_clamp, nI_ltI, nI_leI, nI_eq, mi_n, Nat.add_zero, true_and, and_true, true_or, or_true, false_or, or_false, not_false_eq_true, not_true_eq_false, implies_true, forall_const, ne_eq, Classical.not_not, reduceCtorEq, nor_p, cI_1n, bI_1n, cI_F, cI_T, cI_0, cI_0n, bI_0, bI_0n, cI_01, bI_01, Nat.reduceLeDiff, Nat.reduceLT, Nat.reduceEqDiff, Nat.reduceSub, Nat.reduceAdd, Nat.lt_irrefl, Nat.le_refl, false_implies, true_implies]
  refine mu_cI (sp_X8_spotAt (by omega) (by omega)) hL ?_
  rw [ebt, show ((vM s m 2 : Int) + 1).toNat = vM s m 2 + 1 by omega]
  refine lp (n := np s) (P := fun i => (∀ j, j < i → ¬ (j ≠ vM s m 5 ∧ PL s j (vM s m 2 + 1) / 10 = PL s (vM s m 0) (vM s m 2 + 1) / 10 ∧ PL s (vM s m 0) (vM s m 2 + 1) % 10 < PL s j (vM s m 2 + 1) % 10)) → mu_go w mm_X8_isSeen (d + 2) L Q 14 [some (.ref S), some (.ref (b + 21 + m)), some (.int (nI (101 * vM s m 0 + (vM s m 2 + 1)))), some (.int (nI i)), none] [] g) (fun hj => fm_X8_isSeen_14 ?_) (fun i hi2 ih hj => fm_X8_isSeen_14 ?_) (fun j hj => absurd hj (Nat.not_lt_zero j))
  · simp (disch := omega) only [sg_T hG, sg_R0 hG, sg_R1 hG, sg_R2 hG, sg_R3 hG, sg_R4 hG, sg_T1 hG, sg_N1 hG, sg_T2 hG, sg_N2 hG, sg_T3 hG, sg_N3 hG, sg_T4 hG, sg_N4 hG, sg_w1 hG, sg_w2 hG, sg_w3 hG, sg_w4 hG, sc_T hS, sc_R0 hS, sc_R1 hS, sc_R2 hS, sc_R3 hS, sc_R4 hS, sc_R5 hS, sc_R6 hS, sc_R7 hS, sc_R8 hS, sc_R9 hS, sc_T1 hS, sc_N1 hS, sc_RP hS, sc_T2 hS, sc_N2 hS, sc_RM hS, sc_T3 hS, sc_N3 hS, sc_T4 hS, sc_N4 hS, sc_T5 hS, sc_N5 hS, sc_T6 hS, sc_N6 hS, sc_T7 hS, sc_N7 hS, sc_T8 hS, sc_N8 hS, sc_T9 hS, sc_N9 hS, sc_T10 hS, sc_RL0 hS, sc_RL1 hS, sc_T11 hS, sc_N11 hS, sc_T12 hS, sc_N12 hS, sc_TP hS, sc_TM hS, sc_w hS, sc_wj hS, sc_wp hS, sv_0 hV hc, sv_1 hV hc, sv_2 hV hc, sv_3 hV hc, sv_4 hV hc, sv_5 hV hc, sv_6 hV hc, sv_7 hV hc, sv_9 hV hc, sv_8 hV, li_n, nI_add, pk_mul, nI_clamp, nI_ltI, nI_leI, nI_eq, mi_n, Nat.add_zero, true_and, and_true, true_or, or_true, false_or, or_false, not_false_eq_true, not_true_eq_false, implies_true, forall_const, ne_eq, Classical.not_not, reduceCtorEq, nor_p, cI_1n, bI_1n, cI_F, cI_T, cI_0, cI_0n, bI_0, bI_0n, cI_01, bI_01, Nat.reduceLeDiff, Nat.reduceLT, Nat.reduceEqDiff, Nat.reduceSub, Nat.reduceAdd, Nat.lt_irrefl, Nat.le_refl, false_implies, true_implies]
    exact h0.1 (fun ⟨q, q1, q2⟩ => hj q q1 q2)
  · obtain ⟨y1, y2⟩ := hP i hi2 (vM s m 2 + 1) (by omega)
    have hw2 := pl_ok hp hm hi2 (vM s m 2 + 1)
    unfold okP at hw1 hw2
    have ih2 : ¬ (i ≠ vM s m 5 ∧ PL s i (vM s m 2 + 1) / 10 = PL s (vM s m 0) (vM s m 2 + 1) / 10 ∧ PL s (vM s m 0) (vM s m 2 + 1) % 10 < PL s i (vM s m 2 + 1) % 10) → mu_go w mm_X8_isSeen (d + 2) L Q 14 [some (.ref S), some (.ref (b + 21 + m)), some (.int (nI (101 * vM s m 0 + (vM s m 2 + 1)))), some (.int (nI (i + 1))), none] [] g := fun h => ih (fun j h2 => by
      by_cases e : j = i
      · rw [e]; exact h
      · exact hj j (by omega))
    simp (disch := omega) only [Nat.not_le_of_lt hi2, sv_m hV hm, sg_T hG, sg_R0 hG, sg_R1 hG, sg_R2 hG, sg_R3 hG, sg_R4 hG, sg_T1 hG, sg_N1 hG, sg_T2 hG, sg_N2 hG, sg_T3 hG, sg_N3 hG, sg_T4 hG, sg_N4 hG, sg_w1 hG, sg_w2 hG, sg_w3 hG, sg_w4 hG, sc_T hS, sc_R0 hS, sc_R1 hS, sc_R2 hS, sc_R3 hS, sc_R4 hS, sc_R5 hS, sc_R6 hS, sc_R7 hS, sc_R8 hS, sc_R9 hS, sc_T1 hS, sc_N1 hS, sc_RP hS, sc_T2 hS, sc_N2 hS, sc_RM hS, sc_T3 hS, sc_N3 hS, sc_T4 hS, sc_N4 hS, sc_T5 hS, sc_N5 hS, sc_T6 hS, sc_N6 hS, sc_T7 hS, sc_N7 hS, sc_T8 hS, sc_N8 hS, sc_T9 hS, sc_N9 hS, sc_T10 hS, sc_RL0 hS, sc_RL1 hS, sc_T11 hS, sc_N11 hS, sc_T12 hS, sc_N12 hS, sc_TP hS, sc_TM hS, sc_w hS, sc_wj hS, sc_wp hS, sv_0 hV hc, sv_1 hV hc, sv_2 hV hc, sv_3 hV hc, sv_4 hV hc, sv_5 hV hc, sv_6 hV hc, sv_7 hV hc, sv_9 hV hc, sv_8 hV, li_n, nI_add, pk_mul, nI_clamp, nI_ltI, nI_leI, nI_eq, mi_n, Nat.add_zero, true_and, and_true, true_or, or_true, false_or, or_false, not_false_eq_true, not_true_eq_false, implies_true, forall_const, ne_eq, Classical.not_not, reduceCtorEq, nor_p, cI_1n, bI_1n, cI_F, cI_T, cI_0, cI_0n, bI_0, bI_0n, cI_01, bI_01, Nat.reduceLeDiff, Nat.reduceLT, Nat.reduceEqDiff, Nat.reduceSub, Nat.reduceAdd, Nat.lt_irrefl, Nat.le_refl, false_implies, true_implies]
    refine mu_cI (sp_X8_spotAt (by omega) (by omega)) hL ?_
    rw [ebt, show ((vM s m 2 : Int) + 1).toNat = vM s m 2 + 1 by omega]
    simp (disch := omega) only [sv_m hV hm, x1, x2, y1, y2, sg_T hG, sg_R0 hG, sg_R1 hG, sg_R2 hG, sg_R3 hG, sg_R4 hG, sg_T1 hG, sg_N1 hG, sg_T2 hG, sg_N2 hG, sg_T3 hG, sg_N3 hG, sg_T4 hG, sg_N4 hG, sg_w1 hG, sg_w2 hG, sg_w3 hG, sg_w4 hG, sc_T hS, sc_R0 hS, sc_R1 hS, sc_R2 hS, sc_R3 hS, sc_R4 hS, sc_R5 hS, sc_R6 hS, sc_R7 hS, sc_R8 hS, sc_R9 hS, sc_T1 hS, sc_N1 hS, sc_RP hS, sc_T2 hS, sc_N2 hS, sc_RM hS, sc_T3 hS, sc_N3 hS, sc_T4 hS, sc_N4 hS, sc_T5 hS, sc_N5 hS, sc_T6 hS, sc_N6 hS, sc_T7 hS, sc_N7 hS, sc_T8 hS, sc_N8 hS, sc_T9 hS, sc_N9 hS, sc_T10 hS, sc_RL0 hS, sc_RL1 hS, sc_T11 hS, sc_N11 hS, sc_T12 hS, sc_N12 hS, sc_TP hS, sc_TM hS, sc_w hS, sc_wj hS, sc_wp hS, sv_0 hV hc, sv_1 hV hc, sv_2 hV hc, sv_3 hV hc, sv_4 hV hc, sv_5 hV hc, sv_6 hV hc, sv_7 hV hc, sv_9 hV hc, sv_8 hV, li_n, nI_add, pk_mul, nI_clamp, nI_ltI, nI_leI, nI_eq, mi_n, Nat.add_zero, true_and, and_true, true_or, or_true, false_or, or_false, not_false_eq_true, not_true_eq_false, implies_true, forall_const, ne_eq, Classical.not_not, reduceCtorEq, nor_p, cI_1n, bI_1n, cI_F, cI_T, cI_0, cI_0n, bI_0, bI_0n, cI_01, bI_01, Nat.reduceLeDiff, Nat.reduceLT, Nat.reduceEqDiff, Nat.reduceSub, Nat.reduceAdd, Nat.lt_irrefl, Nat.le_refl, false_implies, true_implies]
    refine ⟨fun h => ih2 (fun q => q.1 h), fun h => ⟨by omega, by omega, fun h2 => ih2 (fun q => h2 q.2.1), fun h2 => ⟨by omega, by omega, fun h3 => ih2 (fun q => by have := q.2.2; omega), fun h3 => h0.2 (fun q => q ⟨i, hi2, h, h2, by omega⟩)⟩⟩⟩
end Ci
