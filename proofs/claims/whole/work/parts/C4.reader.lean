/-! CLIENTS: the class's reader: words, signs -/
def bz (b : Nat) : Int32 := (nI b).toInt8.toInt32
theorem bz_all : ∀ b : Fin 256, (b.1 < 128 → bz b.1 = nI b.1) ∧ (128 ≤ b.1 → (bz b.1).toInt < 0) := by decide +kernel
theorem bz_lo {b : Nat} (h : b < 128) : bz b = nI b := (bz_all ⟨b, by omega⟩).1 h
theorem bz_hi {b : Nat} (h : 128 ≤ b) (h2 : b < 256) : (bz b).toInt < 0 := (bz_all ⟨b, h2⟩).2 h
theorem bz_eq {b c : Nat} (hb : b < 256) (hc : c < 128) : bz b = nI c ↔ b = c := by
  rcases Nat.lt_or_ge b 128 with h | h
  · rw [bz_lo h, nI_eq (by omega) (by omega)]
  · have := bz_hi h hb
    refine ⟨fun e => ?_, fun e => by omega⟩
    rw [e, nI_toInt (by omega)] at this
    omega
theorem bz_lt {b c : Nat} (hb : b < 256) (hc : c < 128) : bz b < nI c ↔ b < c ∨ 128 ≤ b := by
  rw [li_lt, nI_toInt (by omega)]
  rcases Nat.lt_or_ge b 128 with h | h
  · rw [bz_lo h, nI_toInt (by omega)]; omega
  · have := bz_hi h hb; omega
theorem bz_gt {b c : Nat} (hb : b < 256) (hc : c < 128) : nI c < bz b ↔ c < b ∧ b < 128 := by
  rw [li_lt, nI_toInt (by omega)]
  rcases Nat.lt_or_ge b 128 with h | h
  · rw [bz_lo h, nI_toInt (by omega)]; omega
  · have := bz_hi h hb; omega
/-- the reader's word -/
def tk_C (x : Nat) (t : TK) (g : mu_H) : Prop := mu_I g (x + 133) 3 = nI t.2.2 ∧ mu_I g (x + 133) 4 = nI t.1 ∧ mu_I g (x + 133) 8 = nI t.2.1
/-- the tape as the class has it -/
def tb_C (x : Nat) (B : Nat → Nat) (n : Nat) (g : mu_H) : Prop := n ≤ 96 ∧ mu_I g (x + 133) 2 = nI n ∧ ∀ i, i < n → B i < 256 ∧ mu_I g (x + 132) i = bz (B i)
def goW (x : Nat) : Nat → Nat → Prop := fun a k => a = x + 133 ∧ (k = 3 ∨ k = 4 ∨ k = 8)
section Rd
variable {w : mu_O} {d x n : Nat} {g g1 : mu_H} {B : Nat → Nat} {t : TK} {key : Int32}
theorem cl_6 (h : cl_L w x g) : mu_T g (x + 133) = 4 ∧ mu_R g (x + 133) 0 = x + 132 ∧ mu_R g (x + 133) 1 = x + 134 ∧ mu_T g (x + 134) = 20 ∧ mu_N g (x + 134) = 96 := h.2.2.2.2.2.2.1
theorem tb_f2 {A : Nat → Nat → Prop} (h : tb_C x B n g) (hf : mu_f2 A g g1) (h2 : ¬ A (x + 133) 2) (h3 : ∀ k, ¬ A (x + 132) k) : tb_C x B n g1 := ⟨h.1, by rw [hf.2.2.2.2.2 _ _ h2]; exact h.2.1, fun i hi => by rw [hf.2.2.2.2.2 _ _ (h3 i)]; exact h.2.2 i hi⟩
theorem sp_X3_foundAt {i : Nat} (hC : cl_L w x g) (hB : tb_C x B n g) (hi : i < 2 ^ 31) : mu_met w mm_X3_foundAt d [.ref (x + 133), .int (nI i)] g (some (.int (nI (knd B n i)))) g := by
  refine mu_mk mk_X3_foundAt rfl rfl rfl (fun L hL Q hQ => fm_X3_foundAt_0 ?_)
  obtain ⟨c1, c2, -⟩ := cl_6 hC
  obtain ⟨b1, b2, b3⟩ := hB
  have e1 : nI i < nI n ↔ i < n := nI_ltI hi (by omega)
  rw [c1, c2, b2, (cl_5 hC).1, (cl_5 hC).2, e1, nI_clamp hi]
  unfold knd at hQ
  refine ⟨rfl, fun h => ⟨rfl, rfl, mu_in_n (by omega) hi, ?_⟩, fun h => ?_⟩
  · obtain ⟨h1, h2⟩ := b3 i h
    rw [if_neg (by omega)] at hQ
    have l97 : bz (B i) < 97 ↔ B i < 97 ∨ 128 ≤ B i := bz_lt (c := 97) h1 (by decide)
    have l48 : bz (B i) < 48 ↔ B i < 48 ∨ 128 ≤ B i := bz_lt (c := 48) h1 (by decide)
    have g57 : (57 : Int32) < bz (B i) ↔ 57 < B i ∧ B i < 128 := bz_gt (c := 57) h1 (by decide)
    have g122 : (122 : Int32) < bz (B i) ↔ 122 < B i ∧ B i < 128 := bz_gt (c := 122) h1 (by decide)
    rw [h2, l97, l48, g57, g122]
    refine ⟨fun q => ⟨fun q2 => ?_, fun q2 => ⟨fun q3 => ?_, fun q3 => ?_⟩⟩, fun q => ⟨fun q4 => ⟨fun q2 => ?_, fun q2 => ⟨fun q3 => ?_, fun q3 => ?_⟩⟩, fun q4 => ?_⟩⟩
    · rw [if_neg (by omega), if_neg (by omega)] at hQ; exact hQ
    · rw [if_neg (by omega), if_neg (by omega)] at hQ; exact hQ
    · rw [if_neg (by omega), if_pos (by omega)] at hQ; exact hQ
    · rw [if_neg (by omega), if_neg (by omega)] at hQ; exact hQ
    · rw [if_neg (by omega), if_neg (by omega)] at hQ; exact hQ
    · rw [if_neg (by omega), if_pos (by omega)] at hQ; exact hQ
    · rw [if_pos (by omega)] at hQ; exact hQ
  · rw [if_pos (by omega)] at hQ; exact hQ
theorem nx_0 {a : Nat} (ha : whl (isBlk B) n t.2.2 = a) (h : knd B n a = 0) : nxt B n t = (0, a, a) := by unfold nxt; dsimp only; rw [ha, if_pos h]
theorem nx_3 {a : Nat} (ha : whl (isBlk B) n t.2.2 = a) (h : knd B n a = 3) : nxt B n t = (3, a, a + 1) := by unfold nxt; dsimp only; rw [ha, if_neg (by omega), if_pos h]
theorem nx_k {a k e : Nat} (ha : whl (isBlk B) n t.2.2 = a) (hk : knd B n a = k) (h0 : k ≠ 0) (h3 : k ≠ 3) (he : whl (isKd B n k) n a = e) : nxt B n t = (if (t.1 = 1 ∨ t.1 = 2) ∧ a = t.2.2 then 4 else k, a, e) := by unfold nxt; dsimp only; rw [ha, hk, if_neg h0, if_neg h3, he]
theorem kd_bl {a : Nat} : knd B n a ≤ 3 := by
  unfold knd
  split
  · omega
  · split
    · omega
    · split <;> omega
theorem go_end {L : Nat × Nat} {Q : Option Value → mu_H → Prop} {a k : Nat} {v1 : Int32} (hC : cl_L w x g) (hB : tb_C x B n g) (ht : t.2.2 ≤ n) (hv : v1 = cI (t.1 = 1 ∨ t.1 = 2)) (ha : whl (isBlk B) n t.2.2 = a) (hk : knd B n a = k) (h0 : k ≠ 0) (h3 : k ≠ 3) (hL : mu_fit2 L g) (h8 : mu_I g (x + 133) 8 = nI a) (h4 : mu_I g (x + 133) 4 = nI k) (h33 : mu_I g (x + 133) 3 = nI a)
    (hQ : ∀ g', mu_f2 (goW x) g g' → tk_C x (nxt B n t) g' → Q none g') : mu_go w mm_X3_goOn (d + 1) L Q 121 [some (.ref (x + 133)), some (.int v1), some (.int (nI t.2.2))] [] g := by
  have hn := hB.1
  have hal : a ≤ n := by rw [← ha]; exact wh_le ht
  have e1 := wh_ge (p := isKd B n k) hal
  have e2 := wh_le (p := isKd B n k) hal
  have e3 := fun j h1 h2 => wh_in (p := isKd B n k) (j := j) hal h1 h2
  have e4 := (wh_ok (p := isKd B n k) _ a rfl hal).2.2.2
  have en := nx_k ha hk h0 h3 rfl
  have hk3 : k ≤ 3 := by rw [← hk]; exact kd_bl
  generalize whl (isKd B n k) n a = e at *
  obtain ⟨c1, -⟩ := cl_6 hC
  have fin : ∀ gi, mu_f2 (goW x) g gi → mu_I gi (x + 133) 3 = nI e → mu_I gi (x + 133) 4 = nI k → mu_I gi (x + 133) 8 = nI a → (v1 = 0 → Q none gi) ∧ (¬ v1 = 0 → mu_T gi (x + 133) = 4 ∧ (¬ mu_I gi (x + 133) 8 = nI t.2.2 → Q none gi) ∧ (¬ ¬ mu_I gi (x + 133) 8 = nI t.2.2 → mu_T gi (x + 133) = 4 ∧ Q none (mu_sI gi (x + 133) 4 4))) := fun gi fi i3 i4 i8 => by
    rw [hv, cI_0, i8, fi.1, c1]
    refine ⟨fun q => hQ gi fi ?_, fun q => ⟨rfl, fun q2 => hQ gi fi ?_, fun q2 => ⟨rfl, hQ _ (f2_tr fi (f2_sI ⟨rfl, Or.inr (Or.inl rfl)⟩)) ?_⟩⟩⟩
    · rw [en, if_neg (fun z => q z.1)]; exact ⟨i3, i4, i8⟩
    · rw [en, if_neg (fun z => q2 (by rw [z.2]))]; exact ⟨i3, i4, i8⟩
    · rw [en, if_pos ⟨Classical.not_not.mp q, (nI_eq (by omega) (by omega)).mp (Classical.not_not.mp q2)⟩]
      exact ⟨by rw [I_sI_k _ _ _ (by omega)]; exact i3, I_sI_same _ _ _ _, by rw [I_sI_k _ _ _ (by omega)]; exact i8⟩
  refine lp (n := e - a) (P := fun j => ∀ gi, mu_f2 (goW x) g gi → mu_I gi (x + 133) 3 = nI (a + j) → mu_I gi (x + 133) 4 = nI k → mu_I gi (x + 133) 8 = nI a → mu_go w mm_X3_goOn (d + 1) L Q 121 [some (.ref (x + 133)), some (.int v1), some (.int (nI t.2.2))] [] gi) (fun gi fi i3 i4 i8 => fm_X3_goOn_121 ?_) (fun j hj ih gi fi i3 i4 i8 => fm_X3_goOn_121 ?_) g f2_rf h33 h4 h8
  · rw [show a + (e - a) = e by omega] at i3
    have Bi := tb_f2 hB fi (by unfold goW; omega) (fun k => by unfold goW; omega)
    have Ci := cl_fr hC (f2_T fi)
    obtain ⟨k1, -⟩ := cl_6 Ci
    have ef := fin gi fi i3 i4 i8
    refine ⟨k1, k1, fun _ => ef, fun q => ⟨k1, k1, ?_⟩⟩
    rw [Bi.2.1, i3, nI_leI (by omega) (by omega)] at q
    rw [i3]
    refine mu_cI (sp_X3_foundAt Ci Bi (by omega)) (f2_fit fi hL) ⟨k1, fun _ => ef, fun q2 => ?_⟩
    rw [i4, nI_eq (by have := kd_bl (B := B) (n := n) (a := e); omega) (by omega)] at q2
    exact absurd ⟨by omega, by show Nat.beq (knd B n e) k = true; rw [Classical.not_not.mp q2]; exact Nat.beq_refl _⟩ e4
  · have Bi := tb_f2 hB fi (by unfold goW; omega) (fun k => by unfold goW; omega)
    have Ci := cl_fr hC (f2_T fi)
    obtain ⟨k1, -⟩ := cl_6 Ci
    have hkj : knd B n (a + j) = k := isKd_t (e3 (a + j) (by omega) (by omega))
    refine ⟨k1, k1, fun q => ?_, fun q => ⟨k1, k1, ?_⟩⟩
    · rw [Bi.2.1, i3, nI_leI (by omega) (by omega)] at q; omega
    · rw [i3]
      refine mu_cI (sp_X3_foundAt Ci Bi (by omega)) (f2_fit fi hL) ⟨k1, fun q2 => absurd (by rw [hkj, i4]) q2, fun _ => ⟨k1, k1, ?_⟩⟩
      rw [i3, show (nI (a + j) : Int32) + 1 = nI (a + (j + 1)) from nI_add _ 1]
      exact ih _ (f2_tr fi (f2_sI ⟨rfl, Or.inl rfl⟩)) (I_sI_same _ _ _ _) (by rw [I_sI_k _ _ _ (by omega)]; exact i4) (by rw [I_sI_k _ _ _ (by omega)]; exact i8)
theorem go_skip {L : Nat × Nat} {Q : Option Value → mu_H → Prop} {v1 : Int32} (hC : cl_L w x g) (hB : tb_C x B n g) (ht : t.2.2 ≤ n) (hv : v1 = cI (t.1 = 1 ∨ t.1 = 2)) (hL : mu_fit2 L g) (h8 : mu_I g (x + 133) 8 = nI t.2.2)
    (hQ : ∀ g', mu_f2 (goW x) g g' → tk_C x (nxt B n t) g' → Q none g') : mu_go w mm_X3_goOn (d + 1) L Q 35 [some (.ref (x + 133)), some (.int v1), some (.int (nI t.2.2))] [] g := by
  have hn := hB.1
  have e1 := wh_ge (p := isBlk B) ht
  have e2 := wh_le (p := isBlk B) ht
  have e3 := fun j h1 h2 => wh_in (p := isBlk B) (j := j) ht h1 h2
  have e4 := (wh_ok (p := isBlk B) _ t.2.2 rfl ht).2.2.2
  generalize ha : whl (isBlk B) n t.2.2 = a at *
  refine lp (n := a - t.2.2) (P := fun j => ∀ gi, mu_f2 (goW x) g gi → mu_I gi (x + 133) 8 = nI (t.2.2 + j) → mu_go w mm_X3_goOn (d + 1) L Q 35 [some (.ref (x + 133)), some (.int v1), some (.int (nI t.2.2))] [] gi) (fun gi fi i8 => fm_X3_goOn_35 ?_) (fun j hj ih gi fi i8 => fm_X3_goOn_35 ?_) g f2_rf h8
  · rw [show t.2.2 + (a - t.2.2) = a by omega] at i8
    have Bi := tb_f2 hB fi (by unfold goW; omega) (fun k => by unfold goW; omega)
    have Ci := cl_fr hC (f2_T fi)
    obtain ⟨k1, k2, -⟩ := cl_6 Ci
    have fs : mu_f2 (goW x) gi (mu_sI gi (x + 133) 3 (nI a)) := f2_sI ⟨rfl, Or.inl rfl⟩
    have F := f2_tr fi fs
    have Bs := tb_f2 hB F (by unfold goW; omega) (fun k => by unfold goW; omega)
    have Cs := cl_fr hC (f2_T F)
    have s8 : mu_I (mu_sI gi (x + 133) 3 (nI a)) (x + 133) 8 = nI a := by rw [I_sI_k _ _ _ (by omega)]; exact i8
    have hL' := f2_fit F hL
    have hk3 := kd_bl (B := B) (n := n) (a := a)
    have fin : mu_callI w mm_X3_foundAt d L [.ref (x + 133), .int (mu_I (mu_sI gi (x + 133) 3 (nI a)) (x + 133) 8)] (mu_sI gi (x + 133) 3 (nI a)) (fun x4 g3 => mu_T g3 (x + 133) = 4 ∧ (mu_T g3 (x + 133) = 4 ∧ ((¬ (mu_I (mu_sI g3 (x + 133) 4 x4) (x + 133) 4) = 3 → (mu_T g3 (x + 133) = 4 ∧ (((mu_I (mu_sI g3 (x + 133) 4 x4) (x + 133) 4) = 0 → Q none (mu_sI g3 (x + 133) 4 x4)) ∧ (¬ ((mu_I (mu_sI g3 (x + 133) 4 x4) (x + 133) 4) = 0) → mu_go w mm_X3_goOn (d + 1) L Q 121 [some (.ref (x + 133)), some (.int v1), some (.int (nI t.2.2))] [] (mu_sI g3 (x + 133) 4 x4))))) ∧ (¬ (¬ (mu_I (mu_sI g3 (x + 133) 4 x4) (x + 133) 4) = 3) → (mu_T g3 (x + 133) = 4 ∧ (mu_T g3 (x + 133) = 4 ∧ Q none (mu_sI (mu_sI g3 (x + 133) 4 x4) (x + 133) 3 ((mu_I (mu_sI g3 (x + 133) 4 x4) (x + 133) 3) + 1)))))))) := by
      rw [s8]
      refine mu_cI (sp_X3_foundAt Cs Bs (by omega)) hL' ?_
      rw [Cs.2.2.2.2.2.2.1.1, I_sI_same]
      have n3 : nI (knd B n a) = (3 : Int32) ↔ knd B n a = 3 := nI_eq (b := 3) (by omega) (by decide)
      have n0 : nI (knd B n a) = (0 : Int32) ↔ knd B n a = 0 := nI_eq (b := 0) (by omega) (by decide)
      rw [n3, n0]
      have f4 : mu_f2 (goW x) (mu_sI gi (x + 133) 3 (nI a)) (mu_sI (mu_sI gi (x + 133) 3 (nI a)) (x + 133) 4 (nI (knd B n a))) := f2_sI ⟨rfl, Or.inr (Or.inl rfl)⟩
      have F4 := f2_tr F f4
      refine ⟨rfl, rfl, fun q3 => ⟨rfl, fun q0 => hQ _ F4 ?_, fun q0 => ?_⟩, fun q3 => ⟨rfl, rfl, ?_⟩⟩
      · rw [nx_0 ha q0]
        refine ⟨by rw [I_sI_k _ _ _ (by omega), I_sI_same], by rw [I_sI_same, q0], by rw [I_sI_k _ _ _ (by omega)]; exact s8⟩
      · refine go_end (cl_fr hC (f2_T F4)) (tb_f2 hB F4 (by unfold goW; omega) (fun k => by unfold goW; omega)) ht hv ha rfl q0 q3 (f2_fit F4 hL) (by rw [I_sI_k _ _ _ (by omega)]; exact s8) (I_sI_same _ _ _ _) (by rw [I_sI_k _ _ _ (by omega), I_sI_same]) (fun g' f' t' => hQ g' (f2_tr F4 f') t')
      · rw [I_sI_k _ _ _ (by omega), I_sI_same, show (nI a : Int32) + 1 = nI (a + 1) from nI_add _ 1]
        refine hQ _ (f2_tr F4 (f2_sI ⟨rfl, Or.inl rfl⟩)) ?_
        rw [nx_3 ha (Classical.not_not.mp q3)]
        refine ⟨I_sI_same _ _ _ _, by rw [I_sI_k _ _ _ (by omega), I_sI_same, Classical.not_not.mp q3], by rw [I_sI_k _ _ _ (by omega), I_sI_k _ _ _ (by omega)]; exact s8⟩
    rw [k1, i8]
    refine ⟨rfl, rfl, fun q => ⟨rfl, rfl, rfl, rfl, fin⟩, fun q => ⟨rfl, rfl, by rw [k2]; exact (cl_5 Ci).1, ?_⟩⟩
    rw [Bi.2.1, nI_leI (by omega) (by omega)] at q
    obtain ⟨b1, b2⟩ := Bi.2.2 a (by omega)
    have b3 : bz (B a) = 32 ↔ B a = 32 := bz_eq (c := 32) b1 (by decide)
    rw [k2, (cl_5 Ci).2, nI_clamp (by omega), b2, b3]
    exact ⟨mu_in_n (by omega) (by omega), fun q2 => ⟨rfl, rfl, rfl, rfl, fin⟩, fun q2 => absurd ⟨by omega, by show Nat.beq (B a) 32 = true; rw [Classical.not_not.mp q2]; rfl⟩ e4⟩
  · have Bi := tb_f2 hB fi (by unfold goW; omega) (fun k => by unfold goW; omega)
    have Ci := cl_fr hC (f2_T fi)
    obtain ⟨k1, k2, -⟩ := cl_6 Ci
    have hbk : B (t.2.2 + j) = 32 := Nat.eq_of_beq_eq_true (e3 (t.2.2 + j) (by omega) (by omega))
    obtain ⟨b1, b2⟩ := Bi.2.2 (t.2.2 + j) (by omega)
    have b3 : bz (B (t.2.2 + j)) = 32 ↔ B (t.2.2 + j) = 32 := bz_eq (c := 32) b1 (by decide)
    rw [k1, i8, Bi.2.1, k2, (cl_5 Ci).1, (cl_5 Ci).2, nI_clamp (by omega), b2, b3, nI_leI (by omega) (by omega), show (nI (t.2.2 + j) : Int32) + 1 = nI (t.2.2 + (j + 1)) from nI_add _ 1]
    exact ⟨rfl, rfl, fun q => absurd q (by omega), fun _ => ⟨rfl, rfl, rfl, mu_in_n (by omega) (by omega), fun q => absurd hbk q, fun _ => ⟨rfl, rfl, ih _ (f2_tr fi (f2_sI ⟨rfl, Or.inr (Or.inr rfl)⟩)) (I_sI_same _ _ _ _)⟩⟩⟩
theorem sp_X3_goOnG (hC : cl_L w x g) (hB : tb_C x B n g) (k3 : mu_I g (x + 133) 3 = nI t.2.2) (k4 : mu_I g (x + 133) 4 = nI t.1) (ht : t.2.2 ≤ n) (ht4 : t.1 ≤ 4) : mu_mp w mm_X3_goOn (d + 1) [.ref (x + 133)] g (fun r g' => r = none ∧ (mu_f2 (goW x) g g' ∧ tk_C x (nxt B n t) g')) := by
  refine mu_mkp mk_X3_goOn rfl (fun L hL Q hQ => fm_X3_goOn_0 ?_)
  have hn := hB.1
  obtain ⟨c1, -⟩ := cl_6 hC
  have n1 : nI t.1 = (1 : Int32) ↔ t.1 = 1 := nI_eq (b := 1) (by omega) (by decide)
  have n2 : nI t.1 = (2 : Int32) ↔ t.1 = 2 := nI_eq (b := 2) (by omega) (by decide)
  rw [c1, k4, k3, n1, n2]
  have fs : mu_f2 (goW x) g (mu_sI g (x + 133) 8 (nI t.2.2)) := f2_sI ⟨rfl, Or.inr (Or.inr rfl)⟩
  have go : ∀ v1, v1 = cI (t.1 = 1 ∨ t.1 = 2) → mu_go w mm_X3_goOn (d + 1) L Q 35 [some (.ref (x + 133)), some (.int v1), some (.int (nI t.2.2))] [] (mu_sI g (x + 133) 8 (nI t.2.2)) := fun v1 hv => go_skip (cl_fr hC (f2_T fs)) (tb_f2 hB fs (by unfold goW; omega) (fun k => by unfold goW; omega)) ht hv (f2_fit fs hL) (I_sI_same _ _ _ _) (fun g' f' t' => hQ _ _ ⟨rfl, f2_tr fs f', t'⟩ f'.2.2.2.1 f'.2.2.2.2.1)
  exact ⟨rfl, fun q => ⟨rfl, rfl, rfl, go _ (cI_t (Or.inl q)).symm⟩, fun q => ⟨rfl, fun q2 => ⟨rfl, rfl, rfl, go _ (cI_f (fun z => z.elim q q2)).symm⟩, fun q2 => ⟨rfl, rfl, rfl, go _ (cI_t (Or.inr (Classical.not_not.mp q2))).symm⟩⟩⟩
theorem sp_X3_goOn (hC : cl_L w x g) (hB : tb_C x B n g) (hk : tk_C x t g) (ht : t.2.2 ≤ n) (ht4 : t.1 ≤ 4) : mu_mp w mm_X3_goOn (d + 1) [.ref (x + 133)] g (fun r g' => r = none ∧ (mu_f2 (goW x) g g' ∧ tk_C x (nxt B n t) g')) := sp_X3_goOnG hC hB hk.1 hk.2.1 ht ht4
end Rd
