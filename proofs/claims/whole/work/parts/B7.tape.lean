/-! CLIENTS: the tape, the numbers told: both public calls -/
/-- the byte k of twelve -/
def fB (v1 v2 v3 : Int32) (k : Nat) : Int32 := ((if k < 4 then v1 else if k < 8 then v2 else v3) >>> ((24 - 8 * (nI k % 4)) &&& 31)) &&& 255
def shv : Nat → Int32
  | 0 => 24
  | 1 => 16
  | 2 => 8
  | 3 => 0
  | _ => -8
/-- the class's tape holds the bytes of T -/
def tp_C (x : Nat) (T : Nat → Int32) (tl : Nat) (g : mu_H) : Prop := mu_I g x 10 = nI tl ∧ ∀ i, i < tl → mu_I g (x + 132) i = (T i).toInt8.toInt32
def tp_W (T : Nat → Int32) (tl : Nat) : Prop := tl ≤ 96 ∧ ∀ i, i < tl → ∃ b : Nat, b < 256 ∧ T i = nI b
/-- the first 255 -/
theorem and255 (z : Int32) : ∃ b : Nat, b < 256 ∧ z &&& 255 = nI b := by
  refine ⟨z.toBitVec.toNat % 256, by omega, ?_⟩
  apply Int32.toBitVec_inj.mp
  apply BitVec.eq_of_toNat_eq
  have e : (255 : Int32).toBitVec.toNat = 2 ^ 8 - 1 := by decide
  rw [Int32.toBitVec_and, BitVec.toNat_and, e, Nat.and_two_pow_sub_one_eq_mod]
  show z.toBitVec.toNat % 2 ^ 8 = (BitVec.ofNat 32 (z.toBitVec.toNat % 256)).toNat
  rw [BitVec.toNat_ofNat]
  omega
theorem fa_byte_low (x : Int32) : (x &&& 255).toInt8 = x.toInt8 := by
  apply Int8.toBitVec_inj.1
  apply BitVec.eq_of_getLsbD_eq
  intro i hi
  have h2 : (255 : Int32).toBitVec.getLsbD i = true := by
    have : ∀ j : Fin 8, (255 : Int32).toBitVec.getLsbD j.val = true := by decide +kernel
    exact this ⟨i, hi⟩
  have h4 : (x &&& 255).toBitVec.getLsbD i = x.toBitVec.getLsbD i := by
    show (x.toBitVec &&& (255 : Int32).toBitVec).getLsbD i = _
    rw [BitVec.getLsbD_and, h2, Bool.and_true]
  have h3 : i < 32 := by omega
  first
    | (show (((x &&& 255).toBitVec).signExtend 8).getLsbD i = (x.toBitVec.signExtend 8).getLsbD i; rw [BitVec.getLsbD_signExtend, BitVec.getLsbD_signExtend, if_pos h3, if_pos h3, h4])
    | (show (((x &&& 255).toBitVec).setWidth 8).getLsbD i = (x.toBitVec.setWidth 8).getLsbD i; rw [BitVec.getLsbD_setWidth, BitVec.getLsbD_setWidth, h4])
    | (simp [hi, h3, h4]; done)
theorem fB_c {v1 v2 v3 : Int32} {j k : Nat} (hj : j < 4) (hk : k < 12) (hjk : k % 4 = j) : (fB v1 v2 v3 k).toInt8.toInt32 = ((if k < 4 then v1 else if k < 8 then v2 else v3) >>> (shv j &&& 31)).toInt8.toInt32 := by
  unfold fB
  rw [fa_byte_low]
  have : ∀ k : Fin 12, (24 - 8 * (nI k.1 % 4)) = shv (k.1 % 4) := by decide +kernel
  rw [this ⟨k, hk⟩, hjk]
section Tp
variable {w : mu_O} {d x y t : Nat} {g g1 : mu_H} {T W : Nat → Int32} {tl wl : Nat} {v v1 v2 v3 : Int32}
def tpF (x : Nat) : Nat → Nat → Prop := fun a k => (a = x ∧ k = 10) ∨ a = x + 132
theorem sp_X10_feedOne (hC : cl_L w x g) (ht : mu_I g x 10 = nI t) (h96 : t + 4 ≤ 96) : mu_mp w mm_X10_feedOne d [.ref x, .int v] g (fun r g' => r = none ∧ (mu_f2 (tpF x) g g' ∧ mu_I g' x 10 = nI (t + 4) ∧ (∀ i, i < t → mu_I g' (x + 132) i = mu_I g (x + 132) i) ∧ ∀ j, j < 4 → mu_I g' (x + 132) (t + j) = (v >>> (shv j &&& 31)).toInt8.toInt32)) := by
  refine mu_mkp mk_X10_feedOne rfl (fun L hL Q hQ => fm_X10_feedOne_0 ?_)
  have hw := cl_w hC
  refine lp (n := 4) (P := fun j => ∀ gi, mu_f2 (tpF x) g gi → mu_I gi x 10 = nI (t + j) → (∀ i, i < t → mu_I gi (x + 132) i = mu_I g (x + 132) i) → (∀ i, i < j → mu_I gi (x + 132) (t + i) = (v >>> (shv i &&& 31)).toInt8.toInt32) → mu_go w mm_X10_feedOne d L Q 3 [some (.ref x), some (.int v), some (.int (shv j))] [] gi) (fun gi fi i1 i2 i3 => fm_X10_feedOne_3 ⟨fun _ => hQ _ _ ⟨rfl, fi, i1, i2, i3⟩ fi.2.2.2.1 fi.2.2.2.2.1, fun q => absurd (show shv 4 < 0 by decide) q⟩) (fun j hj ih gi fi i1 i2 i3 => fm_X10_feedOne_3 ?_) g f2_rf ht (fun _ _ => rfl) (fun i hi => absurd hi (Nat.not_lt_zero i))
  have Ci := cl_fr hC (f2_T fi)
  have en : ¬ shv j < 0 := by
    have : ∀ j : Fin 4, ¬ shv j.1 < 0 := by decide
    exact this ⟨j, hj⟩
  have es : shv j + -8 = shv (j + 1) := by
    have : ∀ j : Fin 4, shv j.1 + -8 = shv (j.1 + 1) := by decide
    exact this ⟨j, hj⟩
  refine ⟨fun q => absurd q en, fun _ => ?_⟩
  rw [cl_T Ci, cl_R5 Ci, (cl_5 Ci).1, (cl_5 Ci).2, i1, nI_clamp (by omega), es, i8_i8, I_sI_a _ _ _ _ (by omega), i1, show (nI (t + j) : Int32) + 1 = nI (t + (j + 1)) from nI_add _ 1]
  refine ⟨rfl, rfl, by omega, rfl, mu_in_n (by omega) (by omega), rfl, rfl, ih _ (f2_tr fi (f2_tr (f2_sI (Or.inr rfl)) (f2_sI (Or.inl ⟨rfl, rfl⟩)))) (I_sI_same _ _ _ _) (fun i hi => ?_) (fun i hi => ?_)⟩
  · rw [I_sI_a _ _ _ _ (by omega), I_sI_k _ _ _ (by omega)]; exact i2 i hi
  · rw [I_sI_a _ _ _ _ (by omega)]
    by_cases e : i = j
    · rw [e, I_sI_same]
    · rw [I_sI_k _ _ _ (by omega)]; exact i3 i (by omega)
noncomputable def pFeed (T : Nat → Int32) (tl : Nat) (v1 v2 v3 : Int32) : Int32 × (Nat → Int32) × Nat := cif (tl + 12 ≤ 96) (nI (tl + 12), cpy T tl (fB v1 v2 v3) 0 12, tl + 12) (-1000000003, T, tl)
theorem tp_W_feed (h : tp_W T tl) : tp_W (pFeed T tl v1 v2 v3).2.1 (pFeed T tl v1 v2 v3).2.2 := by
  unfold pFeed
  by_cases h1 : tl + 12 ≤ 96
  · rw [cif_t h1]
    refine ⟨h1, fun i hi => ?_⟩
    dsimp only at hi ⊢
    by_cases e : tl ≤ i
    · obtain ⟨k, rfl⟩ : ∃ k, i = tl + k := ⟨i - tl, by omega⟩
      rw [cpy_i (by omega)]
      exact and255 _
    · rw [cpy_o (by omega)]; exact h.2 i (by omega)
  · rw [cif_f h1]; exact h
theorem pc_feed (hC : cl_L w x g) (hT : tp_C x T tl g) (hW : tp_W T tl) : mu_mp w mm_X10_feed (d + 1) [.ref x, .int v1, .int v2, .int v3] g (fun r g' => ∃ v, r = some (.int v) ∧ (v = (pFeed T tl v1 v2 v3).1 ∧ tp_C x (pFeed T tl v1 v2 v3).2.1 (pFeed T tl v1 v2 v3).2.2 g' ∧ mu_f2 (tpF x) g g')) := by
  refine mu_mkp mk_X10_feed rfl (fun L hL Q hQ => fm_X10_feed_0 ?_)
  have h96 := hW.1
  unfold pFeed at hQ
  have e12 : (nI tl : Int32) + 12 = nI (tl + 12) := nI_add _ 12
  have e96 : nI (tl + 12) ≤ (96 : Int32) ↔ tl + 12 ≤ 96 := nI_leI (b := 96) (by omega) (by decide)
  rw [cl_T hC, hT.1, e12, e96]
  refine ⟨rfl, fun h => ⟨rfl, mu_cVp (sp_X10_feedOne hC hT.1 (by omega)) hL (fun g1 h1 _ _ => ?_)⟩, fun h => ?_⟩
  · rw [cif_t h] at hQ
    obtain ⟨f1, a1, b1, c1⟩ := h1
    have C1 := cl_fr hC (f2_T f1)
    refine ⟨cl_T C1, mu_cVp (sp_X10_feedOne C1 a1 (by omega)) (f2_fit f1 hL) (fun g2 h2 _ _ => ?_)⟩
    obtain ⟨f2, a2, b2, c2⟩ := h2
    have ff2 := f2_tr f1 f2
    have C2 := cl_fr hC (f2_T ff2)
    refine ⟨cl_T C2, mu_cVp (sp_X10_feedOne C2 a2 (by omega)) (f2_fit ff2 hL) (fun g3 h3 _ _ => ?_)⟩
    obtain ⟨f3, a3, b3, c3⟩ := h3
    have ff3 := f2_tr ff2 f3
    have C3 := cl_fr hC (f2_T ff3)
    have a3' : mu_I g3 x 10 = nI (tl + 12) := by rw [a3]
    refine ⟨cl_T C3, hQ _ _ ⟨_, rfl, a3', ⟨a3', fun i hi => ?_⟩, ff3⟩ ff3.2.2.2.1 ff3.2.2.2.2.1⟩
    dsimp only at hi ⊢
    by_cases e : tl ≤ i
    · obtain ⟨k, rfl⟩ : ∃ k, i = tl + k := ⟨i - tl, by omega⟩
      rw [cpy_i (by omega), Nat.zero_add]
      by_cases k4 : k < 4
      · rw [b3 _ (by omega), b2 _ (by omega), c1 k k4, fB_c k4 (by omega) (by omega), if_pos k4]
      · by_cases k8 : k < 8
        · obtain ⟨j, rfl⟩ : ∃ j, k = 4 + j := ⟨k - 4, by omega⟩
          rw [b3 _ (by omega), show tl + (4 + j) = tl + 4 + j by omega, c2 j (by omega), fB_c (j := j) (by omega) (by omega) (by omega), if_neg k4, if_pos k8]
        · obtain ⟨j, rfl⟩ : ∃ j, k = 8 + j := ⟨k - 8, by omega⟩
          rw [show tl + (8 + j) = tl + 4 + 4 + j by omega, c3 j (by omega), fB_c (j := j) (by omega) (by omega) (by omega), if_neg k4, if_neg k8]
    · rw [cpy_o (by omega), b3 _ (by omega), b2 _ (by omega), b1 _ (by omega)]
      exact hT.2 i (by omega)
  · rw [cif_f h] at hQ
    exact hQ _ _ ⟨_, rfl, rfl, hT, f2_rf⟩ rfl rfl
def tmF (y : Nat) : Nat → Nat → Prop := fun a k => (a = y ∧ k = 21) ∨ a = y + 18
theorem pm_feed (hM : md_L w y g) (h21 : mu_I g y 21 = nI tl) (h18 : mu_I g (y + 18) = T) (hW : tp_W T tl) : mu_mp w mm_X11_feed d [.ref y, .int v1, .int v2, .int v3] g (fun r g' => ∃ v, r = some (.int v) ∧ (v = (pFeed T tl v1 v2 v3).1 ∧ mu_I g' y 21 = nI (pFeed T tl v1 v2 v3).2.2 ∧ mu_I g' (y + 18) = (pFeed T tl v1 v2 v3).2.1 ∧ mu_f2 (tmF y) g g')) := by
  refine mu_mkp mk_X11_feed rfl (fun L hL Q hQ => fm_X11_feed_0 ?_)
  have h96 := hW.1
  have hw18 := md_wj hM 18
  unfold pFeed at hQ
  have e12 : (nI tl : Int32) + 12 = nI (tl + 12) := nI_add _ 12
  have e96 : nI (tl + 12) ≤ (96 : Int32) ↔ tl + 12 ≤ 96 := nI_leI (b := 96) (by omega) (by decide)
  rw [md_T0 hM, h21, e12, e96]
  refine ⟨rfl, fun h => ?_, fun h => ?_⟩
  · rw [cif_t h] at hQ
    refine lp (n := 12) (P := fun k => ∀ gi, mu_f2 (tmF y) g gi → mu_I gi y 21 = nI (tl + k) → mu_I gi (y + 18) = cpy T tl (fB v1 v2 v3) 0 k → mu_go w mm_X11_feed d L Q 18 [some (.ref y), some (.int v1), some (.int v2), some (.int v3), some (.int (nI k)), none] [] gi) (fun gi fi i1 i2 => fm_X11_feed_18 ?_) (fun k hk ih gi fi i1 i2 => fm_X11_feed_18 ?_) g f2_rf h21 (by rw [cpy_0]; exact h18)
    · have Mi := md_L_fr hM (f2_T fi)
      exact ⟨fun _ => ⟨md_T0 Mi, hQ _ _ ⟨_, rfl, i1, i1, i2, fi⟩ fi.2.2.2.1 fi.2.2.2.2.1⟩, fun q => absurd (Int32.le_refl _) q⟩
    · have Mi := md_L_fr hM (f2_T fi)
      have n12 : (12 : Int32) ≤ nI k ↔ 12 ≤ k := nI_leI (a := 12) (by decide) (by omega)
      have n4 : (4 : Int32) ≤ nI k ↔ 4 ≤ k := nI_leI (a := 4) (by decide) (by omega)
      have n8 : (8 : Int32) ≤ nI k ↔ 8 ≤ k := nI_leI (a := 8) (by decide) (by omega)
      have nx : ∀ z, z = fB v1 v2 v3 k → mu_go w mm_X11_feed d L Q 18 [some (.ref y), some (.int v1), some (.int v2), some (.int v3), some (.int (nI k + 1)), none] [] (mu_sI (mu_sI gi (y + 18) (tl + k) z) y 21 (nI (tl + k) + 1)) := fun z hz => by
        rw [hz, show (nI k : Int32) + 1 = nI (k + 1) from nI_add _ 1, show (nI (tl + k) : Int32) + 1 = nI (tl + (k + 1)) from nI_add _ 1]
        refine ih _ (f2_tr fi (f2_tr (f2_sI (Or.inr rfl)) (f2_sI (Or.inl ⟨rfl, rfl⟩)))) (I_sI_same _ _ _ _) ?_
        rw [mu_I_off _ _ _ (by omega), mu_I_upd, i2]
        have := cpy_s (A := T) (a := tl) (B := fB v1 v2 v3) (b := 0) (n := k)
        rw [Nat.zero_add] at this
        exact this
      rw [n12, n4, n8, md_T0 Mi, md_R20 Mi, md_T18 Mi, md_N18 Mi, i1, nI_clamp (by omega), I_sI_a _ _ _ _ (by omega), I_sI_a _ _ _ _ (by omega), I_sI_a _ _ _ _ (by omega), i1]
      have hin : mu_in (nI (tl + k)) 96 := mu_in_n (by omega) (by omega)
      refine ⟨fun q => absurd q (by omega), fun _ => ⟨fun q4 => ⟨fun q8 => ⟨rfl, rfl, by decide, hw18, rfl, hin, rfl, rfl, nx _ ?_⟩, fun q8 => ⟨rfl, rfl, by decide, hw18, rfl, hin, rfl, rfl, nx _ ?_⟩⟩, fun q4 => ⟨rfl, rfl, by decide, hw18, rfl, hin, rfl, rfl, nx _ ?_⟩⟩⟩
      · unfold fB; rw [if_neg (by omega), if_neg (by omega)]
      · unfold fB; rw [if_neg (by omega), if_pos (by omega)]
      · unfold fB; rw [if_pos (by omega)]
  · rw [cif_f h] at hQ
    exact hQ _ _ ⟨_, rfl, rfl, h21, h18, f2_rf⟩ rfl rfl
noncomputable def pTrim (tl : Nat) (v : Int32) : Int32 × Nat := cif (0 ≤ v.toInt ∧ v.toInt ≤ (tl : Int)) (v, v.toNatClampNeg) (-1000000001, tl)
theorem tm_le : (pTrim tl v).2 ≤ tl := by
  unfold pTrim
  by_cases h : 0 ≤ v.toInt ∧ v.toInt ≤ (tl : Int)
  · rw [cif_t h]
    obtain ⟨k, k1, -, k3, -⟩ := ix_of (v := v) (n := tl + 1) ⟨h.1, by omega⟩
    show v.toNatClampNeg ≤ tl
    omega
  · rw [cif_f h]; exact Nat.le_refl _
theorem tp_W_trim (h : tp_W T tl) : tp_W T (pTrim tl v).2 := by
  have := tm_le (tl := tl) (v := v)
  have h1 := h.1
  exact ⟨by omega, fun i hi => h.2 i (by omega)⟩
theorem pc_trim (hC : cl_L w x g) (hT : tp_C x T tl g) (h96 : tl ≤ 96) : mu_mp w mm_X10_trim (d + 1) [.ref x, .int v] g (fun r g' => ∃ z, r = some (.int z) ∧ (z = (pTrim tl v).1 ∧ tp_C x T (pTrim tl v).2 g' ∧ mu_f2 (tpF x) g g')) := by
  have hle := tm_le (tl := tl) (v := v)
  refine mu_mkp mk_X10_trim rfl (fun L hL Q hQ => fm_X10_trim_0 ⟨cl_T hC, mu_cI (sp_X10_wN (a := 0) (b := (tl : Int)) rfl (by rw [hT.1, nI_toInt (by omega)])) hL ?_⟩)
  unfold pTrim at hQ hle
  rw [cI_0]
  refine ⟨fun h => ⟨cl_T hC, ?_⟩, fun h => ?_⟩
  · replace h := Classical.not_not.mp h
    rw [cif_t h] at hQ hle
    obtain ⟨k, k1, ek, k3, -⟩ := ix_of (v := v) (n := tl + 1) ⟨h.1, by omega⟩
    refine hQ _ _ ⟨_, rfl, rfl, ⟨?_, fun i hi => ?_⟩, f2_sI (Or.inl ⟨rfl, rfl⟩)⟩ rfl rfl
    · rw [I_sI_same]
      show v = nI v.toNatClampNeg
      rw [k3]; exact ek
    · rw [I_sI_a _ _ _ _ (by omega)]
      exact hT.2 i (Nat.lt_of_lt_of_le hi hle)
  · rw [cif_f (fun q => h (fun z => z q))] at hQ
    exact hQ _ _ ⟨_, rfl, rfl, hT, f2_rf⟩ rfl rfl
theorem pm_trim (hM : md_L w y g) (h21 : mu_I g y 21 = nI tl) (h96 : tl ≤ 96) : mu_mp w mm_X11_trim (d + 1) [.ref y, .int v] g (fun r g' => ∃ z, r = some (.int z) ∧ (z = (pTrim tl v).1 ∧ mu_I g' y 21 = nI (pTrim tl v).2 ∧ mu_f2 (fun a k => a = y ∧ k = 21) g g')) := by
  refine mu_mkp mk_X11_trim rfl (fun L hL Q hQ => fm_X11_trim_0 ⟨md_T0 hM, mu_cI (sp_X11_iN (a := 0) (b := (tl : Int)) rfl (by rw [h21, Int32.toInt_toInt64, nI_toInt (by omega)])) hL ?_⟩)
  unfold pTrim at hQ
  rw [cI_0]
  refine ⟨fun h => ⟨md_T0 hM, ?_⟩, fun h => ?_⟩
  · replace h := Classical.not_not.mp h
    rw [cif_t h] at hQ
    obtain ⟨k, k1, ek, k3, -⟩ := ix_of (v := v) (n := tl + 1) ⟨h.1, by omega⟩
    refine hQ _ _ ⟨_, rfl, rfl, ?_, f2_sI ⟨rfl, rfl⟩⟩ rfl rfl
    rw [I_sI_same]
    show v = nI v.toNatClampNeg
    rw [k3]; exact ek
  · rw [cif_f (fun q => h (fun z => z q))] at hQ
    exact hQ _ _ ⟨_, rfl, rfl, h21, f2_rf⟩ rfl rfl
noncomputable def pTell (W : Nat → Int32) (wl : Nat) (v : Int32) : Int32 × (Nat → Int32) × Nat := cif (wl < 60) (nI (wl + 1), upd W wl v, wl + 1) (-1000000003, W, wl)
def tp_D (x : Nat) (W : Nat → Int32) (wl : Nat) (g : mu_H) : Prop := mu_I g x 11 = nI wl ∧ ∀ i, i < wl → mu_I g (x + 135) i = W i
theorem tl_le (h : wl ≤ 60) : (pTell W wl v).2.2 ≤ 60 := by
  unfold pTell
  by_cases h1 : wl < 60
  · rw [cif_t h1]; exact h1
  · rw [cif_f h1]; exact h
theorem pc_tell (hC : cl_L w x g) (hD : tp_D x W wl g) (h60 : wl ≤ 60) : mu_mp w mm_X10_tell d [.ref x, .int v] g (fun r g' => ∃ z, r = some (.int z) ∧ (z = (pTell W wl v).1 ∧ tp_D x (pTell W wl v).2.1 (pTell W wl v).2.2 g' ∧ mu_f2 (fun a k => (a = x ∧ k = 11) ∨ a = x + 135) g g')) := by
  refine mu_mkp mk_X10_tell rfl (fun L hL Q hQ => fm_X10_tell_0 ?_)
  have hw := cl_w hC
  unfold pTell at hQ
  have n60 : nI wl < (60 : Int32) ↔ wl < 60 := nI_ltI (b := 60) (by omega) (by decide)
  rw [cl_T hC, cl_R7 hC, (cl_7 hC).1, (cl_7 hC).2, I_sI_same, I_sI_a _ _ _ _ (by omega), hD.1, n60, nI_clamp (by omega), show (nI wl : Int32) + 1 = nI (wl + 1) from nI_add _ 1]
  refine ⟨rfl, fun h => ⟨rfl, rfl, by omega, rfl, mu_in_n (by omega) (by omega), rfl, rfl, rfl, ?_⟩, fun h => ?_⟩
  · rw [cif_t h] at hQ
    refine hQ _ _ ⟨_, rfl, rfl, ⟨I_sI_same _ _ _ _, fun i hi => ?_⟩, f2_tr (f2_sI (Or.inr rfl)) (f2_sI (Or.inl ⟨rfl, rfl⟩))⟩ rfl rfl
    dsimp only at hi ⊢
    rw [I_sI_a _ _ _ _ (by omega)]
    by_cases e : i = wl
    · rw [e, I_sI_same, pk_us]
    · rw [I_sI_k _ _ _ e, pk_un e]; exact hD.2 i (by omega)
  · rw [cif_f h] at hQ
    exact hQ _ _ ⟨_, rfl, rfl, hD, f2_rf⟩ rfl rfl
theorem pm_tell (hM : md_L w y g) (h39 : mu_I g y 39 = nI wl) (h24 : mu_I g (y + 24) = W) (h60 : wl ≤ 60) : mu_mp w mm_X11_tell d [.ref y, .int v] g (fun r g' => ∃ z, r = some (.int z) ∧ (z = (pTell W wl v).1 ∧ mu_I g' y 39 = nI (pTell W wl v).2.2 ∧ mu_I g' (y + 24) = (pTell W wl v).2.1 ∧ mu_f2 (fun a k => (a = y ∧ k = 39) ∨ a = y + 24) g g')) := by
  refine mu_mkp mk_X11_tell rfl (fun L hL Q hQ => fm_X11_tell_0 ?_)
  have hw := md_wj hM 24
  unfold pTell at hQ
  have n60 : nI wl = (60 : Int32) ↔ wl = 60 := nI_eq (b := 60) (by omega) (by decide)
  rw [md_T0 hM, md_R38 hM, md_T24 hM, md_N24 hM, I_sI_same, I_sI_a _ _ _ _ (by omega), h39, n60, nI_clamp (by omega), show (nI wl : Int32) + 1 = nI (wl + 1) from nI_add _ 1]
  refine ⟨rfl, fun h => ⟨rfl, rfl, hw, rfl, mu_in_n (by omega) (by omega), rfl, rfl, rfl, ?_⟩, fun h => ?_⟩
  · rw [cif_t (by omega)] at hQ
    refine hQ _ _ ⟨_, rfl, rfl, I_sI_same _ _ _ _, ?_, f2_tr (f2_sI (Or.inr rfl)) (f2_sI (Or.inl ⟨rfl, rfl⟩))⟩ rfl rfl
    rw [mu_I_off _ _ _ (by omega), mu_I_upd, h24]
  · rw [cif_f (by omega)] at hQ
    exact hQ _ _ ⟨_, rfl, rfl, h39, h24, f2_rf⟩ rfl rfl
end Tp
