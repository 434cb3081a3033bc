/-! CLIENTS: the class's reader: the whole reading -/
def rdF (x : Nat) (g : mu_H) (v : Int32) : mu_H := mu_sI (mu_sI (mu_sI (mu_sI (mu_sI g (x + 133) 2 v) (x + 133) 3 0) (x + 133) 4 0) (x + 133) 6 0) (x + 133) 7 0
section Rd
variable {w : mu_O} {d x n : Nat} {g g1 : mu_H} {B : Nat → Nat} {L : Nat × Nat} {Q : Option Value → mu_H → Prop}
theorem read_go (hC : cl_L w x g) (hS : str_L w g) (hn : n ≤ 96) (hT : ∀ i, i < n → B i < 256 ∧ mu_I g (x + 132) i = bz (B i)) (hL : mu_fit2 L g) (hx : x + 135 ≤ mu_X g)
    (hbad : ¬ gdA B n → ∀ g', mu_fr (rdW x) g g' → mu_I g' (x + 133) 8 = nI (stA B n).1.2.1 → Q (some (.ref 0)) g')
    (hgood : gdA B n → (mu_X g + 3 ≤ L.1 ∧ mu_S g + 4 + (stA B n).2.2.2.1 + (stA B n).2.2.2.2 ≤ L.2) ∧ ∀ g5 g', mu_fr (rdW x) g g5 → (∀ i, i < (stA B n).2.2.2.1 → mu_I g5 (x + 134) i = enP (keyO B (tkA B n)) ((stA B n).2.1 i) ((stA B n).2.2.1 i)) → nwT (mu_X g) (stA B n).2.2.2.1 (stA B n).2.2.2.2 (keyO B (tkA B n)) (x + 134) g5 g' → Q (some (.ref (mu_X g))) g') :
    mu_go w mm_X3_read (d + 1411) L Q 0 [some (.ref (x + 133)), some (.int (nI n))] [] g := by
  refine fm_X3_read_0 ?_
  have hw := cl_w hC
  obtain ⟨r1, r2, r3, r4, r5⟩ := hC.2.2.2.2.2.2.1
  have hT2 : mu_T g (x + 132) = 21 := hC.2.2.2.2.2.1.1
  have hN2 : mu_N g (x + 132) = 96 := hC.2.2.2.2.2.1.2
  have e96 : mu_min (nI n) (Int32.ofNat 96) = nI n := by rw [show Int32.ofNat 96 = nI 96 from rfl, mn_n (by omega) (by omega), show min n 96 = n by omega]
  rw [r2, hT2, hN2, e96]
  refine ⟨r1, by decide, r1, r1, r1, r1, r1, r1, ?_⟩
  have F5 : mu_fr (rdW x) g (rdF x g (nI n)) := mu_fr_tr (mu_fr_tr (mu_fr_tr (mu_fr_tr (mu_fr_sI (Or.inl rfl)) (mu_fr_sI (Or.inl rfl))) (mu_fr_sI (Or.inl rfl))) (mu_fr_sI (Or.inl rfl))) (mu_fr_sI (Or.inl rfl))
  have c2 : mu_I (rdF x g (nI n)) (x + 133) 2 = nI n := by unfold rdF; simp (disch := omega) only [I_sI_k, I_sI_same]
  have c3 : mu_I (rdF x g (nI n)) (x + 133) 3 = 0 := by unfold rdF; simp (disch := omega) only [I_sI_k, I_sI_same]
  have c4 : mu_I (rdF x g (nI n)) (x + 133) 4 = 0 := by unfold rdF; simp (disch := omega) only [I_sI_k, I_sI_same]
  have c6 : mu_I (rdF x g (nI n)) (x + 133) 6 = 0 := by unfold rdF; simp (disch := omega) only [I_sI_k, I_sI_same]
  have c7 : mu_I (rdF x g (nI n)) (x + 133) 7 = 0 := by unfold rdF; exact I_sI_same _ _ _ _
  show mu_callV w mm_X3_goOn (d + 1410) L [.ref (x + 133)] (rdF x g (nI n)) _
  generalize rdF x g (nI n) = G at *
  have B5 : tb_C x B n G := ⟨hn, c2, fun i hi => ⟨(hT i hi).1, by rw [F5.2.2.2.2.2 _ (by unfold rdW; omega)]; exact (hT i hi).2⟩⟩
  refine mu_cVp (sp_X3_goOnG (d := d + 1409) (t := (0, 0, 0)) (cl_fr hC F5) B5 c3 c4 (Nat.zero_le _) (by omega)) (mu_fr_fit F5 hL) (fun g2 h2 _ _ => ?_)
  obtain ⟨f2, tk⟩ := h2
  have o2 : ∀ k, ¬ (k = 3 ∨ k = 4 ∨ k = 8) → mu_I g2 (x + 133) k = mu_I G (x + 133) k := fun k hk => f2.2.2.2.2.2 _ _ (fun q => hk q.2)
  have tk' : tk_C x (tkA B n) g2 := tk
  have F2 : mu_fr (rdW x) g g2 := mu_fr_tr F5 (f2_fr f2 (fun a k q => Or.inl q.1))
  have B2 := tb_f2 B5 f2 (fun q => by have := q.2; omega) (fun k q => by have := q.1; omega)
  have C2 := cl_fr hC F2
  have S2 := str_fr hS F2 (fun a q => by unfold rdW at q; omega)
  have K2 := tkA_ok (B := B) (n := n)
  have T2 : mu_T g2 (x + 133) = 4 := C2.2.2.2.2.2.2.1.1
  refine ⟨T2, ?_⟩
  refine mu_cI (sp_X3_keyHere (d := d + 1404) C2 S2 B2 tk' K2) (mu_fr_fit F2 hL) ?_
  have F3 : ∀ v, mu_fr (rdW x) g (mu_sI g2 (x + 133) 5 v) := fun v => mu_fr_tr F2 (mu_fr_sI (Or.inl rfl))
  rw [I_sI_same]
  rcases key_ok (B := B) (t := tkA B n) with ek | ⟨k, k1, ek, kk⟩
  · have ng : ¬ gdA B n := fun z => z.1 ek
    have es : stA B n = (tkA B n, fun _ => 0, fun _ => 0, 0, 0) := by unfold stA; rw [cif_t ek]
    rw [ek]
    refine ⟨T2, T2, fun q => absurd q (by decide), fun _ => hbad ng _ (F3 _) ?_⟩
    rw [I_sI_k _ _ _ (by omega), es]
    exact tk'.2.2
  · have hne : ¬ keyO B (tkA B n) = -1 := by rw [ek]; exact m1_n (by omega)
    have es : stA B n = (rdA B n).2 := by unfold stA; rw [cif_f hne]
    have er : rdA B n = prs B n (nI k) 700 0 0 0 (psA B n) := by unfold rdA; rw [ek]
    have hp := psA_ok (B := B) (n := n)
    have hpos := K2.2.2.2.1 (by omega)
    rw [ek] at hgood ⊢
    refine ⟨T2, T2, fun _ => ⟨T2, ?_⟩, fun q => absurd (le0_n (by omega)) q⟩
    have C3 := cl_fr hC (F3 (nI k))
    have R3 : rd_C x B n (nI k) (tkA B n, fun _ => 0, fun _ => 0, 0, 0) (mu_sI g2 (x + 133) 5 (nI k)) := by
      have o3 : ∀ j, j ≠ 5 → mu_I (mu_sI g2 (x + 133) 5 (nI k)) (x + 133) j = mu_I g2 (x + 133) j := fun j hj => I_sI_k _ _ _ hj
      refine ⟨⟨hn, by rw [o3 _ (by omega)]; exact B2.2.1, fun i hi => ⟨(hT i hi).1, by rw [I_sI_a _ _ _ _ (by omega)]; exact (B2.2.2 i hi).2⟩⟩, ⟨by rw [o3 _ (by omega)]; exact tk'.1, by rw [o3 _ (by omega)]; exact tk'.2.1, by rw [o3 _ (by omega)]; exact tk'.2.2⟩, I_sI_same _ _ _ _, ?_, ?_, fun i hi => absurd hi (Nat.not_lt_zero i)⟩
      · rw [o3 _ (by omega), o2 _ (by omega), c6]; rfl
      · rw [o3 _ (by omega), o2 _ (by omega), c7]; rfl
    refine rd_nx (d := d + 1409) C3 R3 K2 (mu_fr_fit (F3 _) hL) (fun g4 f4 R4 => ?_)
    have F4 := mu_fr_tr (F3 _) f4
    have C4 := cl_fr hC F4
    have S4 := str_fr hS F4 (fun a q => by unfold rdW at q; omega)
    refine ⟨C4.2.2.2.2.2.2.1.1, ?_⟩
    refine mu_cIp ((rd_ok (w := w) (x := x) (n := n) (B := B) (k := k) k1 700).1 d 0 0 0 (psA B n) g4 (by omega) (by omega) (by omega) hp.1 (by omega) (by show 0 + n < _; omega) C4 S4 R4) (mu_fr_fit F4 hL) (fun z g5 hz X5 S5 => ?_)
    obtain ⟨rfl, f5, R5⟩ := hz
    rw [← er] at R5 ⊢
    have G5 := mu_fr_tr F4 f5
    have C5 := cl_fr hC G5
    have T5 : mu_T g5 (x + 133) = 4 := C5.2.2.2.2.2.2.1.1
    have eX : mu_X g5 = mu_X g := G5.2.2.2.1
    have eS : mu_S g5 = mu_S g := G5.2.2.2.2.1
    obtain ⟨t1, -, -⟩ := rdA_ok (B := B) hn
    have ht4 := t1.2.2.1
    have e4 : mu_I g5 (x + 133) 4 = 0 ↔ (rdA B n).2.1.1 = 0 := by
      rw [R5.2.1.2.1]
      exact nI_eq (b := 0) (by omega) (by decide)
    have no : ¬ gdA B n → Q (some (.ref 0)) g5 := fun ng => hbad ng _ G5 (by rw [es]; exact R5.2.1.2.2)
    rw [cI_0, e4]
    refine ⟨fun q => no (fun z => q z.2.1), fun q => ⟨T5, fun q0 => ?_, fun q0 => no (fun z => q0 z.2.2)⟩⟩
    have hg : gdA B n := ⟨hne, Classical.not_not.mp q, q0⟩
    obtain ⟨⟨l1, l2⟩, hq⟩ := hgood hg
    obtain ⟨k', k1', k2', k3', k4', k5'⟩ := gd_tx hn hg
    rw [es] at hq l2
    have hlv := k3'.2.1
    have hlv2 := k3'.2.2.1
    have cc6 : mu_I g5 (x + 133) 6 = nI (rdA B n).2.2.2.2.1 := R5.2.2.2.1
    have cc7 : mu_I g5 (x + 133) 7 = nI (rdA B n).2.2.2.2.2 := R5.2.2.2.2.1
    have cc5 : mu_I g5 (x + 133) 5 = nI k := R5.2.2.1
    have cc8 : ∀ i, i < (rdA B n).2.2.2.2.1 → mu_I g5 (x + 134) i = enP (nI k) ((rdA B n).2.2.1 i) ((rdA B n).2.2.2.1 i) := R5.2.2.2.2.2
    have q134 : mu_T g5 (x + 134) = 20 := C5.2.2.2.2.2.2.1.2.2.2.1
    have n134 : mu_N g5 (x + 134) = 96 := C5.2.2.2.2.2.2.1.2.2.2.2
    have r134 : mu_R g5 (x + 133) 1 = x + 134 := C5.2.2.2.2.2.2.1.2.2.1
    generalize (rdA B n).2.2.2.2.1 = c at *
    generalize (rdA B n).2.2.2.2.2 = lv at *
    refine ⟨by omega, by omega, fun g7 e7 => ?_⟩
    have a1 : ∀ z, z < mu_X g → mu_T g7 z = mu_T g5 z ∧ mu_N g7 z = mu_N g5 z ∧ mu_I g7 z = mu_I g5 z ∧ mu_R g7 z = mu_R g5 z := fun z hz => by
      rw [e7]
      exact ⟨N_T (by omega), N_N (by omega), N_I (by omega), N_R (by omega)⟩
    obtain ⟨p1, p2, p3, p4⟩ := a1 (x + 133) (by omega)
    obtain ⟨p5, p6, -, -⟩ := a1 (x + 134) (by omega)
    have X7 : mu_X g7 = mu_X g + 1 := by rw [e7, ← eX]; rfl
    have S7 : mu_S g7 = mu_S g + 4 := by rw [e7, ← eS]; rfl
    have T7 : mu_T g7 (mu_X g) = 10 := by rw [e7, ← eX]; exact N_Tx
    rw [p1, p3, p4, T5, cc5, cc6, cc7, r134]
    refine ⟨rfl, rfl, rfl, rfl, mu_cR (sp_copyOf (d := d + 1409) (by rw [p5]; exact q134) (by omega) (by omega) (by rw [p6]; exact n134) (by omega) (by omega)) ⟨?_, ?_⟩ ⟨by omega, ?_⟩⟩
    · show mu_X g7 + 1 ≤ _
      omega
    · show mu_S g7 + c ≤ _
      omega
    · rw [eX, X7]
      refine mu_cV (sp_X9_init (d := d + 1409) (by omega) ?_ ?_ hlv hlv2) ⟨?_, ?_⟩ ?_
      · have : mu_T (cpG g7 (x + 134) c) (mu_X g) = mu_T g7 (mu_X g) := N_T (t := 20) (n := c) (v := c) (by omega)
        rw [this]; exact T7
      · show mu_X g ≠ mu_X g7 + 1
        omega
      · show mu_X g7 + 1 + 1 ≤ _
        omega
      · show mu_S g7 + c + lv ≤ _
        omega
      · refine hq g5 _ G5 cc8 ?_
        have := nw_ok (g := g5) (r := x + 134) (c := c) (lv := lv) (key := nI k) (by omega)
        rw [e7, ← eX]
        exact this
end Rd
