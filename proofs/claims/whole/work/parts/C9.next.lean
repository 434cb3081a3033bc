/-! CLIENTS: the reference's words -/
def tkm (t : TK) : Nat := if t.1 = 2 ∧ 4 < t.2.2 - t.2.1 then 4 else t.1
def tk_M (y : Nat) (B : Nat → Nat) (t : TK) (g : mu_H) : Prop := mu_I g y 22 = nI t.2.1 ∧ mu_I g y 23 = nI t.2.2 ∧ mu_I g y 24 = nI (tkm t) ∧ (t.1 = 2 → t.2.2 - t.2.1 ≤ 4 → mu_I g y 25 = nI (nmv B t.2.1 (t.2.2 - t.2.1))) ∧ (t.1 = 1 → mu_I g y 26 = if t.2.2 - t.2.1 = 1 then nI (B t.2.1) else 0) ∧ (t.1 = 3 → mu_I g y 26 = nI (B t.2.1))
def tb_M (y : Nat) (B : Nat → Nat) (n : Nat) (g : mu_H) : Prop := n ≤ 96 ∧ mu_I g y 21 = nI n ∧ ∀ i, i < n → B i < 256 ∧ mu_I g (y + 18) i = nI (B i)
def nxW (y : Nat) : Nat → Nat → Prop := fun a k => a = y ∧ 22 ≤ k ∧ k ≤ 26
/-- what is asked of a walk behind the blanks -/
def nxB (w : mu_O) (d : Nat) (L : Nat × Nat) (Q : Option Value → mu_H → Prop) (y : Nat) (ta : Int32) (g : mu_H) : Prop := (mu_T g y = 12 ∧ (mu_T g y = 12 ∧ (mu_T g y = 12 ∧ (mu_T g y = 12 ∧ ((¬ (mu_I (mu_sI g y 22 (mu_I g y 23)) y 22) = (mu_I (mu_sI g y 22 (mu_I g y 23)) y 21) → (mu_T g y = 12 ∧ (mu_T g y = 12 ∧ mu_callI w mm_X11_isLetter d L [.ref y, .int (mu_I (mu_sI g y 22 (mu_I g y 23)) y 22)] (mu_sI g y 22 (mu_I g y 23)) (fun x2 g1 => (x2 = 0 → (mu_T g1 y = 12 ∧ (mu_T g1 y = 12 ∧ mu_callI w mm_X11_isDigit d L [.ref y, .int (mu_I g1 y 22)] g1 (fun x4 g3 => (x4 = 0 → (mu_T g3 y = 12 ∧ (mu_T g3 y = 12 ∧ (mu_T g3 y = 12 ∧ (mu_T g3 (mu_R g3 y 20) = 20 ∧ mu_in (mu_I (mu_sI g3 y 24 (3 : Int32)) y 22) (mu_N g3 (mu_R g3 y 20)) ∧ (mu_T g3 y = 12 ∧ (mu_T g3 y = 12 ∧ (mu_T g3 y = 12 ∧ Q none (mu_sI (mu_sI (mu_sI g3 y 24 (3 : Int32)) y 26 (mu_I (mu_sI g3 y 24 (3 : Int32)) (mu_R g3 y 20) ((mu_I (mu_sI g3 y 24 (3 : Int32)) y 22).toNatClampNeg))) y 23 ((mu_I (mu_sI (mu_sI g3 y 24 (3 : Int32)) y 26 (mu_I (mu_sI g3 y 24 (3 : Int32)) (mu_R g3 y 20) ((mu_I (mu_sI g3 y 24 (3 : Int32)) y 22).toNatClampNeg))) y 23) + (1 : Int32))))))))))) ∧ (¬ (x4 = 0) → (mu_T g3 y = 12 ∧ mu_go w mm_X11_next (d + 1) L Q 214 [some (.ref y), some (.int ta), none] [] (mu_sI g3 y 25 (0 : Int32)))))))) ∧ (¬ (x2 = 0) → mu_go w mm_X11_next (d + 1) L Q 128 [some (.ref y), some (.int ta), none] [] g1))))) ∧ (¬ (¬ (mu_I (mu_sI g y 22 (mu_I g y 23)) y 22) = (mu_I (mu_sI g y 22 (mu_I g y 23)) y 21)) → (mu_T g y = 12 ∧ Q none (mu_sI (mu_sI g y 22 (mu_I g y 23)) y 24 (0 : Int32)))))))))
section Nx
variable {w : mu_O} {d y n : Nat} {g g1 : mu_H} {B : Nat → Nat} {t : TK}
theorem tm_f2 {A : Nat → Nat → Prop} (h : tb_M y B n g) (hf : mu_f2 A g g1) (h2 : ¬ A y 21) (h3 : ∀ k, ¬ A (y + 18) k) : tb_M y B n g1 := ⟨h.1, by rw [hf.2.2.2.2.2 _ _ h2]; exact h.2.1, fun i hi => by rw [hf.2.2.2.2.2 _ _ (h3 i)]; exact h.2.2 i hi⟩
theorem sp_X11_isLetter {i : Nat} (hM : md_L w y g) (hB : tb_M y B n g) (hi : i ≤ 96) : mu_met w mm_X11_isLetter (d + 1) [.ref y, .int (nI i)] g (some (.int (cI (knd B n i = 1)))) g := by
  refine mu_mk mk_X11_isLetter rfl rfl rfl (fun L hL Q hQ => fm_X11_isLetter_0 ?_)
  obtain ⟨b1, b2, b3⟩ := hB
  have h0 := cq hQ
  have e1 : nI n ≤ nI i ↔ n ≤ i := nI_leI (by omega) (by omega)
  rw [md_T0 hM, md_R20 hM, md_T18 hM, md_N18 hM, b2, e1, nI_clamp (by omega)]
  refine ⟨rfl, fun q => ⟨Or.inl rfl, h0.2 (fun z => ?_)⟩, fun q => ?_⟩
  · rw [kd_0 q] at z; omega
  · obtain ⟨c1, c2⟩ := b3 i (by omega)
    rw [c2]
    refine ⟨rfl, rfl, mu_in_n (by omega) (by omega), mu_cI (sp_X11_iN (a := 97) (b := 122) rfl rfl) hL ?_⟩
    rw [cI_0, nI_toInt (by omega)]
    refine ⟨fun q2 => ⟨Or.inl rfl, h0.2 (fun z => ?_)⟩, fun q2 => ⟨Or.inr rfl, h0.1 ?_⟩⟩
    · have := (kd_1 z).2; omega
    · unfold knd; rw [if_neg q, if_pos (by omega)]
theorem sp_X11_isDigit {i : Nat} (hM : md_L w y g) (hB : tb_M y B n g) (hi : i ≤ 96) : mu_met w mm_X11_isDigit (d + 1) [.ref y, .int (nI i)] g (some (.int (cI (knd B n i = 2)))) g := by
  refine mu_mk mk_X11_isDigit rfl rfl rfl (fun L hL Q hQ => fm_X11_isDigit_0 ?_)
  obtain ⟨b1, b2, b3⟩ := hB
  have h0 := cq hQ
  have e1 : nI n ≤ nI i ↔ n ≤ i := nI_leI (by omega) (by omega)
  rw [md_T0 hM, md_R20 hM, md_T18 hM, md_N18 hM, b2, e1, nI_clamp (by omega)]
  refine ⟨rfl, fun q => ⟨Or.inl rfl, h0.2 (fun z => ?_)⟩, fun q => ?_⟩
  · rw [kd_0 q] at z; omega
  · obtain ⟨c1, c2⟩ := b3 i (by omega)
    rw [c2]
    refine ⟨rfl, rfl, mu_in_n (by omega) (by omega), mu_cI (sp_X11_iN (a := 48) (b := 57) rfl rfl) hL ?_⟩
    rw [cI_0, nI_toInt (by omega)]
    refine ⟨fun q2 => ⟨Or.inl rfl, h0.2 (fun z => ?_)⟩, fun q2 => ⟨Or.inr rfl, h0.1 ?_⟩⟩
    · have := (kd_2 z).2; omega
    · unfold knd; rw [if_neg q, if_neg (by omega), if_pos (by omega)]
theorem sp_X11_isSign {c : Nat} (hM : md_L w y g) (hk : tk_M y B t g) (hT : tkW B n t) (hB : tb_M y B n g) (hc : c < 128) : mu_met w mm_X11_isSign d [.ref y, .int (nI c)] g (some (.int (cI (t.1 = 3 ∧ B t.2.1 = c)))) g := by
  refine mu_mk mk_X11_isSign rfl rfl rfl (fun L hL Q hQ => fm_X11_isSign_0 ?_)
  obtain ⟨k1, k2, k3, k4, k5, k6⟩ := hk
  have h4 := hT.2.2.1
  have h0 := cq hQ
  have ht : tkm t ≤ 4 ∧ (tkm t = 3 ↔ t.1 = 3) := by unfold tkm; split <;> omega
  have n3 : nI (tkm t) = (3 : Int32) ↔ t.1 = 3 := (nI_eq (b := 3) (by omega) (by decide)).trans ht.2
  rw [md_T0 hM, k3, n3]
  refine ⟨rfl, fun q => ⟨Or.inl rfl, h0.2 (fun z => q z.1)⟩, fun q => ?_⟩
  have q' := Classical.not_not.mp q
  have hn := hB.1
  have hl := hT.2.2.2.1 (by omega)
  have hl2 := hT.2.1
  obtain ⟨b1, b2⟩ := hB.2.2 t.2.1 (by omega)
  rw [k6 q', nI_eq (by omega) (by omega)]
  exact ⟨rfl, fun q2 => ⟨Or.inl rfl, h0.2 (fun z => q2 z.2)⟩, fun q2 => ⟨Or.inr rfl, h0.1 ⟨q', Classical.not_not.mp q2⟩⟩⟩
theorem nx_let {L : Nat × Nat} {Q : Option Value → mu_H → Prop} {a : Nat} {ta : Int32} {T : Prop} (hM : md_L w y g) (hB : tb_M y B n g) (ha : a ≤ n) (hk : knd B n a = 1) (hta : ta = cI T) (hL : mu_fit2 L g) (h22 : mu_I g y 22 = nI a) (h23 : mu_I g y 23 = nI a)
    (hQ : ∀ (g' : mu_H) (k : Nat), mu_f2 (nxW y) g g' → (T → k = 4) → (¬ T → k = 1) → tk_M y B (k, a, whl (isKd B n 1) n a) g' → Q none g') : mu_go w mm_X11_next (d + 2) L Q 128 [some (.ref y), some (.int ta), none] [] g := by
  have hn := hB.1
  have e1 := wh_ge (p := isKd B n 1) ha
  have e2 := wh_le (p := isKd B n 1) ha
  have e3 := fun j h1 h2 => wh_in (p := isKd B n 1) (j := j) ha h1 h2
  have e4 := (wh_ok (p := isKd B n 1) _ a rfl ha).2.2.2
  have han := (kd_1 hk).1
  generalize whl (isKd B n 1) n a = e at *
  refine lp (n := e - a) (P := fun j => ∀ gi, mu_f2 (nxW y) g gi → mu_I gi y 22 = nI a → mu_I gi y 23 = nI (a + j) → mu_go w mm_X11_next (d + 2) L Q 128 [some (.ref y), some (.int ta), none] [] gi) (fun gi fi i2 i3 => fm_X11_next_128 ?_) (fun j hj ih gi fi i2 i3 => fm_X11_next_128 ?_) g f2_rf h22 h23
  · rw [show a + (e - a) = e by omega] at i3
    have Mi := md_L_fr hM (f2_T fi)
    have Bi := tm_f2 hB fi (by unfold nxW; omega) (fun k => by unfold nxW; omega)
    rw [i3]
    refine ⟨md_T0 Mi, md_T0 Mi, mu_cI (sp_X11_isLetter Mi Bi (by omega)) (f2_fit fi hL) ?_⟩
    have hke : ¬ knd B n e = 1 := fun z => e4 ⟨(kd_1 z).1, by show Nat.beq (knd B n e) 1 = true; rw [z]; rfl⟩
    rw [cI_0]
    have n1 : nI (e - a) = (1 : Int32) ↔ e - a = 1 := nI_eq (b := 1) (by omega) (by decide)
    have o : ∀ (z : Int32) k, k ≠ 24 → mu_I (mu_sI gi y 24 z) y k = mu_I gi y k := fun z k h => I_sI_k _ _ _ h
    have tm : ∀ k, k = 1 ∨ k = 4 → tkm (k, a, e) = k := fun k h => by unfold tkm; dsimp only; rw [if_neg (by omega)]
    have fin0 : ∀ (z : Int32) (k : Nat), z = nI k → k = 1 ∨ k = 4 → ¬ e - a = 1 → tk_M y B (k, a, e) (mu_sI (mu_sI gi y 24 z) y 26 0) := fun z k hz hk q => ⟨by rw [I_sI_k _ _ _ (by omega), o _ _ (by omega)]; exact i2, by rw [I_sI_k _ _ _ (by omega), o _ _ (by omega)]; exact i3, by rw [I_sI_k _ _ _ (by omega), I_sI_same, tm k hk, hz], fun z => by dsimp only at z; omega, fun _ => by rw [I_sI_same]; exact (if_neg q).symm, fun z => by dsimp only at z; omega⟩
    have fin1 : ∀ (z : Int32) (k : Nat), z = nI k → k = 1 ∨ k = 4 → e - a = 1 → tk_M y B (k, a, e) (mu_sI (mu_sI gi y 24 z) y 26 (nI (B a))) := fun z k hz hk q => ⟨by rw [I_sI_k _ _ _ (by omega), o _ _ (by omega)]; exact i2, by rw [I_sI_k _ _ _ (by omega), o _ _ (by omega)]; exact i3, by rw [I_sI_k _ _ _ (by omega), I_sI_same, tm k hk, hz], fun z => by dsimp only at z; omega, fun _ => by rw [I_sI_same]; exact (if_pos q).symm, fun z => by dsimp only at z; omega⟩
    have F : ∀ z v, mu_f2 (nxW y) g (mu_sI (mu_sI gi y 24 z) y 26 v) := fun z v => f2_tr fi (f2_tr (f2_sI ⟨rfl, by omega, by omega⟩) (f2_sI ⟨rfl, by omega, by omega⟩))
    have i18 : mu_I gi (y + 18) a = nI (B a) := (Bi.2.2 a han).2
    have o18 : ∀ (z : Int32), mu_I (mu_sI gi y 24 z) (y + 18) a = nI (B a) := fun z => by rw [I_sI_a _ _ _ _ (by omega)]; exact i18
    rw [hta, cI_0]
    refine ⟨fun _ => ⟨fun qT => ?_, fun qT => ?_⟩, fun q => absurd hke q⟩
    · rw [md_T0 Mi, o 1 23 (by omega), o 1 22 (by omega), i3, i2, nI_sb (by omega), n1, md_R20 Mi, md_T18 Mi, md_N18 Mi, nI_clamp (by omega), o18]
      exact ⟨rfl, rfl, rfl, fun q => ⟨rfl, hQ _ 1 (F _ _) (fun z => absurd z qT) (fun _ => rfl) (fin0 1 1 rfl (Or.inl rfl) q)⟩, fun q => ⟨rfl, rfl, rfl, mu_in_n (by omega) (by omega), rfl, hQ _ 1 (F _ _) (fun z => absurd z qT) (fun _ => rfl) (fin1 1 1 rfl (Or.inl rfl) (Classical.not_not.mp q))⟩⟩
    · rw [md_T0 Mi, o 4 23 (by omega), o 4 22 (by omega), i3, i2, nI_sb (by omega), n1, md_R20 Mi, md_T18 Mi, md_N18 Mi, nI_clamp (by omega), o18]
      exact ⟨rfl, rfl, rfl, fun q => ⟨rfl, hQ _ 4 (F _ _) (fun _ => rfl) (fun z => absurd z qT) (fin0 4 4 rfl (Or.inr rfl) q)⟩, fun q => ⟨rfl, rfl, rfl, mu_in_n (by omega) (by omega), rfl, hQ _ 4 (F _ _) (fun _ => rfl) (fun z => absurd z qT) (fin1 4 4 rfl (Or.inr rfl) (Classical.not_not.mp q))⟩⟩
  · have Mi := md_L_fr hM (f2_T fi)
    have Bi := tm_f2 hB fi (by unfold nxW; omega) (fun k => by unfold nxW; omega)
    have hkj : knd B n (a + j) = 1 := isKd_t (e3 (a + j) (by omega) (by omega))
    rw [i3]
    refine ⟨md_T0 Mi, md_T0 Mi, mu_cI (sp_X11_isLetter Mi Bi (by omega)) (f2_fit fi hL) ?_⟩
    rw [cI_0]
    refine ⟨fun q => absurd hkj q, fun _ => ⟨md_T0 Mi, md_T0 Mi, ?_⟩⟩
    rw [i3, show (nI (a + j) : Int32) + 1 = nI (a + (j + 1)) from nI_add _ 1]
    exact ih _ (f2_tr fi (f2_sI ⟨rfl, by omega, by omega⟩)) (by rw [I_sI_k _ _ _ (by omega)]; exact i2) (I_sI_same _ _ _ _)
theorem dg_n {b v : Nat} (h : 48 ≤ b) : (10 : Int32) * nI v + nI b - 48 = nI (10 * v + (b - 48)) := by
  rw [li_n 10, pk_mul, nI_add, show (48 : Int32) = nI 48 from rfl, nI_sb (by omega)]
  congr 1
  omega
theorem nx_dig {L : Nat × Nat} {Q : Option Value → mu_H → Prop} {a : Nat} {ta : Int32} {T : Prop} (hM : md_L w y g) (hB : tb_M y B n g) (ha : a ≤ n) (hk : knd B n a = 2) (hta : ta = cI T) (hL : mu_fit2 L g) (h22 : mu_I g y 22 = nI a) (h23 : mu_I g y 23 = nI a) (h25 : mu_I g y 25 = 0)
    (hQ : ∀ (g' : mu_H) (k : Nat), mu_f2 (nxW y) g g' → (T → k = 4) → (¬ T → k = 2) → tk_M y B (k, a, whl (isKd B n 2) n a) g' → Q none g') : mu_go w mm_X11_next (d + 2) L Q 214 [some (.ref y), some (.int ta), none] [] g := by
  have hn := hB.1
  have e1 := wh_ge (p := isKd B n 2) ha
  have e2 := wh_le (p := isKd B n 2) ha
  have e3 := fun j h1 h2 => wh_in (p := isKd B n 2) (j := j) ha h1 h2
  have e4 := (wh_ok (p := isKd B n 2) _ a rfl ha).2.2.2
  generalize whl (isKd B n 2) n a = e at *
  refine lp (n := e - a) (P := fun j => ∀ gi, mu_f2 (nxW y) g gi → mu_I gi y 22 = nI a → mu_I gi y 23 = nI (a + j) → mu_I gi y 25 = nI (nmv B a (min j 4)) → mu_go w mm_X11_next (d + 2) L Q 214 [some (.ref y), some (.int ta), none] [] gi) (fun gi fi i2 i3 i5 => fm_X11_next_214 ?_) (fun j hj ih gi fi i2 i3 i5 => fm_X11_next_214 ?_) g f2_rf h22 h23 h25
  · rw [show a + (e - a) = e by omega] at i3
    have Mi := md_L_fr hM (f2_T fi)
    have Bi := tm_f2 hB fi (by unfold nxW; omega) (fun k => by unfold nxW; omega)
    have hke : ¬ knd B n e = 2 := fun z => e4 ⟨(kd_2 z).1, by show Nat.beq (knd B n e) 2 = true; rw [z]; rfl⟩
    have n4 : nI (e - a) ≤ (4 : Int32) ↔ e - a ≤ 4 := nI_leI (b := 4) (by omega) (by decide)
    rw [i3]
    refine ⟨md_T0 Mi, md_T0 Mi, mu_cI (sp_X11_isDigit Mi Bi (by omega)) (f2_fit fi hL) ?_⟩
    rw [cI_0, hta, cI_0, i3, i2, nI_sb (by omega), n4, md_T0 Mi]
    have F : ∀ z, mu_f2 (nxW y) g (mu_sI gi y 24 z) := fun z => f2_tr fi (f2_sI ⟨rfl, by omega, by omega⟩)
    have fin : ∀ (z : Int32) (k : Nat), z = nI (tkm (k, a, e)) → k = 2 ∨ k = 4 → tk_M y B (k, a, e) (mu_sI gi y 24 z) := fun z k hz hk => ⟨by rw [I_sI_k _ _ _ (by omega)]; exact i2, by rw [I_sI_k _ _ _ (by omega)]; exact i3, by rw [I_sI_same]; exact hz, fun _ q => by rw [I_sI_k _ _ _ (by omega), i5]; dsimp only at q ⊢; rw [Nat.min_eq_left q], fun z => by dsimp only at z; omega, fun z => by dsimp only at z; omega⟩
    refine ⟨fun _ => ⟨fun qT => ⟨rfl, hQ _ 4 (F _) (fun _ => rfl) (fun z => absurd z qT) (fin _ 4 (by unfold tkm; dsimp only; rw [if_neg (by omega)]; rfl) (Or.inr rfl))⟩, fun qT => ⟨rfl, rfl, fun q => ⟨rfl, hQ _ 2 (F _) (fun z => absurd z (Classical.not_not.mp qT)) (fun _ => rfl) (fin _ 2 (by unfold tkm; dsimp only; rw [if_neg (by omega)]; rfl) (Or.inl rfl))⟩, fun q => ⟨rfl, hQ _ 2 (F _) (fun z => absurd z (Classical.not_not.mp qT)) (fun _ => rfl) (fin _ 2 (by unfold tkm; dsimp only; rw [if_pos (by omega)]; rfl) (Or.inl rfl))⟩⟩⟩, fun q => absurd hke q⟩
  · have Mi := md_L_fr hM (f2_T fi)
    have Bi := tm_f2 hB fi (by unfold nxW; omega) (fun k => by unfold nxW; omega)
    have hkj : knd B n (a + j) = 2 := isKd_t (e3 (a + j) (by omega) (by omega))
    have hd := (kd_2 hkj).2
    obtain ⟨b1, b2⟩ := Bi.2.2 (a + j) (by omega)
    have n4 : (4 : Int32) ≤ nI (a + j - a) ↔ 4 ≤ a + j - a := nI_leI (a := 4) (by decide) (by omega)
    rw [i3]
    refine ⟨md_T0 Mi, md_T0 Mi, mu_cI (sp_X11_isDigit Mi Bi (by omega)) (f2_fit fi hL) ?_⟩
    rw [cI_0, i3, i2, i5, nI_sb (by omega), n4, md_T0 Mi, md_R20 Mi, md_T18 Mi, md_N18 Mi, nI_clamp (by omega), b2, I_sI_k _ _ _ (by omega), I_sI_k _ _ _ (by omega), i3, dg_n hd.1, show (nI (a + j) : Int32) + 1 = nI (a + (j + 1)) from nI_add _ 1]
    have F : ∀ z v, mu_f2 (nxW y) g (mu_sI (mu_sI gi y 25 z) y 23 v) := fun z v => f2_tr fi (f2_tr (f2_sI ⟨rfl, by omega, by omega⟩) (f2_sI ⟨rfl, by omega, by omega⟩))
    refine ⟨fun q => absurd hkj q, fun _ => ⟨rfl, rfl, fun q => ⟨rfl, rfl, rfl, rfl, ih _ (F _ _) (by rw [I_sI_k _ _ _ (by omega), I_sI_k _ _ _ (by omega)]; exact i2) (I_sI_same _ _ _ _) ?_⟩, fun q => ⟨rfl, rfl, rfl, rfl, mu_in_n (by omega) (by omega), rfl, rfl, rfl, ih _ (F _ _) (by rw [I_sI_k _ _ _ (by omega), I_sI_k _ _ _ (by omega)]; exact i2) (I_sI_same _ _ _ _) ?_⟩⟩⟩
    · rw [I_sI_k _ _ _ (by omega), I_sI_same, Nat.min_eq_right (by omega), Nat.min_eq_right (by omega)]
    · rw [I_sI_k _ _ _ (by omega), I_sI_same, Nat.min_eq_left (by omega), Nat.min_eq_left (by omega)]
      rfl
theorem nx_body {L : Nat × Nat} {Q : Option Value → mu_H → Prop} {a : Nat} {ta : Int32} {T : Prop} (hM : md_L w y g) (hB : tb_M y B n g) (ha : a ≤ n) (hta : ta = cI T) (hL : mu_fit2 L g) (h23 : mu_I g y 23 = nI a)
    (hQ : ∀ (g' : mu_H) (t : TK), mu_f2 (nxW y) g g' → t = (if knd B n a = 0 then (0, a, a) else if knd B n a = 3 then (3, a, a + 1) else (cif T 4 (knd B n a), a, whl (isKd B n (knd B n a)) n a)) → tk_M y B t g' → Q none g') : nxB w (d + 1) L Q y ta g := by
  have hn := hB.1
  have hk3 := kd_bl (B := B) (n := n) (a := a)
  unfold nxB
  have f0 : mu_f2 (nxW y) g (mu_sI g y 22 (nI a)) := f2_sI ⟨rfl, by omega, by omega⟩
  have M0 := md_L_fr hM (f2_T f0)
  have B0 := tm_f2 hB f0 (by unfold nxW; omega) (fun k => by unfold nxW; omega)
  have s23 : mu_I (mu_sI g y 22 (nI a)) y 23 = nI a := by rw [I_sI_k _ _ _ (by omega)]; exact h23
  have s22 : mu_I (mu_sI g y 22 (nI a)) y 22 = nI a := I_sI_same _ _ _ _
  rw [h23, s22, B0.2.1, nI_eq (by omega) (by omega), md_T0 hM]
  generalize mu_sI g y 22 (nI a) = G at *
  refine ⟨rfl, rfl, rfl, rfl, fun q => ⟨rfl, rfl, mu_cI (sp_X11_isLetter M0 B0 (by omega)) (f2_fit f0 hL) ?_⟩, fun q => ⟨rfl, hQ _ (0, a, a) (f2_tr f0 (f2_sI ⟨rfl, by omega, by omega⟩)) ?_ ?_⟩⟩
  · have han : a < n := by omega
    obtain ⟨b1, b2⟩ := B0.2.2 a han
    have k0 := (kd_ne (B := B) han).1
    rw [cI_0]
    refine ⟨fun q1 => ⟨md_T0 M0, md_T0 M0, ?_⟩, fun q1 => ?_⟩
    · rw [s22]
      refine mu_cI (sp_X11_isDigit M0 B0 (by omega)) (f2_fit f0 hL) ?_
      rw [cI_0]
      refine ⟨fun q2 => ?_, fun q2 => ⟨md_T0 M0, ?_⟩⟩
      · rw [md_T0 M0, md_R20 M0, md_T18 M0, md_N18 M0, I_sI_k _ _ _ (by omega), s22, nI_clamp (by omega), I_sI_a _ _ _ _ (by omega), b2, I_sI_k _ _ _ (by omega), I_sI_k _ _ _ (by omega), s23, show (nI a : Int32) + 1 = nI (a + 1) from nI_add _ 1]
        refine ⟨rfl, rfl, rfl, rfl, mu_in_n (by omega) (by omega), rfl, rfl, rfl, hQ _ (3, a, a + 1) (f2_tr f0 (f2_tr (f2_tr (f2_sI ⟨rfl, by omega, by omega⟩) (f2_sI ⟨rfl, by omega, by omega⟩)) (f2_sI ⟨rfl, by omega, by omega⟩))) ?_ ?_⟩
        · rw [if_neg k0, if_pos (by omega)]
        · refine ⟨by rw [I_sI_k _ _ _ (by omega), I_sI_k _ _ _ (by omega), I_sI_k _ _ _ (by omega)]; exact s22, I_sI_same _ _ _ _, ?_, fun z => by dsimp only at z; omega, fun z => by dsimp only at z; omega, fun _ => ?_⟩
          · rw [I_sI_k _ _ _ (by omega), I_sI_k _ _ _ (by omega), I_sI_same]
            unfold tkm; dsimp only; rw [if_neg (by omega)]; rfl
          · rw [I_sI_k _ _ _ (by omega), I_sI_same]
      · have k2 := Classical.not_not.mp q2
        have f5 : mu_f2 (nxW y) G (mu_sI G y 25 0) := f2_sI ⟨rfl, by omega, by omega⟩
        have F5 := f2_tr f0 f5
        refine nx_dig (T := T) (md_L_fr hM (f2_T F5)) (tm_f2 hB F5 (by unfold nxW; omega) (fun k => by unfold nxW; omega)) ha k2 hta (f2_fit F5 hL) (by rw [I_sI_k _ _ _ (by omega)]; exact s22) (by rw [I_sI_k _ _ _ (by omega)]; exact s23) (I_sI_same _ _ _ _) (fun g' k f' t1 t2 tk => hQ g' _ (f2_tr F5 f') ?_ tk)
        rw [if_neg k0, if_neg (by omega), k2]
        by_cases hT : T
        · rw [cif_t hT, t1 hT]
        · rw [cif_f hT, t2 hT]
    · have k1 := Classical.not_not.mp q1
      refine nx_let (T := T) M0 B0 ha k1 hta (f2_fit f0 hL) s22 s23 (fun g' k f' t1 t2 tk => hQ g' _ (f2_tr f0 f') ?_ tk)
      rw [if_neg k0, if_neg (by omega), k1]
      by_cases hT : T
      · rw [cif_t hT, t1 hT]
      · rw [cif_f hT, t2 hT]
  · rw [if_pos (kd_0 (by omega))]
  · refine ⟨by rw [I_sI_k _ _ _ (by omega)]; exact s22, by rw [I_sI_k _ _ _ (by omega)]; exact s23, ?_, fun z => by dsimp only at z; omega, fun z => by dsimp only at z; omega, fun z => by dsimp only at z; omega⟩
    rw [I_sI_same]
    unfold tkm; dsimp only; rw [if_neg (by omega)]; rfl
theorem sp_X11_nextG (hM : md_L w y g) (hB : tb_M y B n g) (k2 : mu_I g y 23 = nI t.2.2) (k3 : mu_I g y 24 = nI t.1) (hen : t.2.2 ≤ n) (h4 : t.1 ≤ 4) (hpos : t.1 = 1 ∨ t.1 = 2 → 0 < t.2.2) : mu_mp w mm_X11_next (d + 2) [.ref y] g (fun r g' => r = none ∧ (mu_f2 (nxW y) g g' ∧ tk_M y B (nxt B n t) g')) := by
  refine mu_mkp mk_X11_next rfl (fun L hL Q hQ => fm_X11_next_0 ?_)
  have hn := hB.1
  have n1 : nI t.1 = (1 : Int32) ↔ t.1 = 1 := nI_eq (b := 1) (by omega) (by decide)
  have n2 : nI t.1 = (2 : Int32) ↔ t.1 = 2 := nI_eq (b := 2) (by omega) (by decide)
  have n0 : nI t.2.2 ≤ (0 : Int32) ↔ t.2.2 ≤ 0 := nI_leI (b := 0) (by omega) (by decide)
  have e1 := wh_ge (p := isBlk B) hen
  have e2 := wh_le (p := isBlk B) hen
  have e3 := fun j h1 h2 => wh_in (p := isBlk B) (j := j) hen h1 h2
  have e4 := (wh_ok (p := isBlk B) _ t.2.2 rfl hen).2.2.2
  have go : ∀ v1, v1 = cI (t.1 = 1 ∨ t.1 = 2) → mu_go w mm_X11_next (d + 2) L Q 34 [some (.ref y), some (.int v1), some (.int (nI t.2.2))] [] g := fun v1 hv => by
    generalize ha : whl (isBlk B) n t.2.2 = a at *
    have fin : ∀ gi, mu_f2 (nxW y) g gi → mu_I gi y 23 = nI a → (v1 = 0 → nxB w (d + 1) L Q y 0 gi) ∧ (¬ v1 = 0 → mu_T gi y = 12 ∧ (¬ nI t.2.2 = mu_I gi y 23 → nxB w (d + 1) L Q y 0 gi) ∧ (¬ ¬ nI t.2.2 = mu_I gi y 23 → nxB w (d + 1) L Q y 1 gi)) := fun gi fi i3 => by
      have Mi := md_L_fr hM (f2_T fi)
      have Bi := tm_f2 hB fi (by unfold nxW; omega) (fun k => by unfold nxW; omega)
      have hb : ∀ (ta : Int32) (T : Prop), ta = cI T → (T ↔ (t.1 = 1 ∨ t.1 = 2) ∧ a = t.2.2) → nxB w (d + 1) L Q y ta gi := fun ta T hta hTT => nx_body (T := T) Mi Bi e2 hta (f2_fit fi hL) i3 (fun g' t' f' ht' tk => hQ _ _ ⟨rfl, f2_tr fi f', by
        have en : nxt B n t = t' := by
          rw [ht']
          unfold nxt
          dsimp only
          rw [ha]
          by_cases hq : (t.1 = 1 ∨ t.1 = 2) ∧ a = t.2.2
          · rw [if_pos hq, cif_t (hTT.mpr hq)]
          · rw [if_neg hq, cif_f (fun z => hq (hTT.mp z))]
        rw [en]; exact tk⟩ (f2_tr fi f').2.2.2.1 (f2_tr fi f').2.2.2.2.1)
      rw [hv, cI_0, i3, nI_eq (by omega) (by omega)]
      refine ⟨fun q => hb 0 False (cI_f id).symm ⟨fun z => z.elim, fun z => q z.1⟩, fun q => ⟨md_T0 Mi, fun q2 => hb 0 False (cI_f id).symm ⟨fun z => z.elim, fun z => q2 z.2.symm⟩, fun q2 => hb 1 True (cI_t trivial).symm ⟨fun _ => ⟨Classical.not_not.mp q, (Classical.not_not.mp q2).symm⟩, fun _ => trivial⟩⟩⟩
    refine lp (n := a - t.2.2) (P := fun j => ∀ gi, mu_f2 (nxW y) g gi → mu_I gi y 23 = nI (t.2.2 + j) → mu_go w mm_X11_next (d + 2) L Q 34 [some (.ref y), some (.int v1), some (.int (nI t.2.2))] [] gi) (fun gi fi i3 => fm_X11_next_34 ?_) (fun j hj ih gi fi i3 => fm_X11_next_34 ?_) g f2_rf k2
    · rw [show t.2.2 + (a - t.2.2) = a by omega] at i3
      have Mi := md_L_fr hM (f2_T fi)
      have Bi := tm_f2 hB fi (by unfold nxW; omega) (fun k => by unfold nxW; omega)
      have ef := fin gi fi i3
      refine ⟨md_T0 Mi, md_T0 Mi, fun _ => ef, fun q => ?_⟩
      rw [Bi.2.1, i3, nI_leI (by omega) (by omega)] at q
      obtain ⟨b1, b2⟩ := Bi.2.2 a (by omega)
      have b3 : nI (B a) = (32 : Int32) ↔ B a = 32 := nI_eq (b := 32) (by omega) (by decide)
      have b2' : mu_I gi (mu_R gi y 20) (mu_I gi y 23).toNatClampNeg = nI (B a) := by rw [md_R20 Mi, i3, nI_clamp (by omega)]; exact b2
      refine ⟨md_T0 Mi, md_T0 Mi, by rw [md_R20 Mi]; exact md_T18 Mi, by rw [md_R20 Mi, md_N18 Mi, i3]; exact mu_in_n (by omega) (by omega), fun _ => ef, fun q2 => ?_⟩
      rw [b2', b3] at q2
      exact absurd ⟨by omega, by show Nat.beq (B a) 32 = true; rw [Classical.not_not.mp q2]; rfl⟩ e4
    · have Mi := md_L_fr hM (f2_T fi)
      have Bi := tm_f2 hB fi (by unfold nxW; omega) (fun k => by unfold nxW; omega)
      have hbk : B (t.2.2 + j) = 32 := Nat.eq_of_beq_eq_true (e3 (t.2.2 + j) (by omega) (by omega))
      obtain ⟨b1, b2⟩ := Bi.2.2 (t.2.2 + j) (by omega)
      have b2' : mu_I gi (mu_R gi y 20) (mu_I gi y 23).toNatClampNeg = 32 := by rw [md_R20 Mi, i3, nI_clamp (by omega), b2, hbk]; rfl
      refine ⟨md_T0 Mi, md_T0 Mi, fun q => ?_, fun q => ⟨md_T0 Mi, md_T0 Mi, by rw [md_R20 Mi]; exact md_T18 Mi, by rw [md_R20 Mi, md_N18 Mi, i3]; exact mu_in_n (by omega) (by omega), fun q2 => absurd b2' q2, fun _ => ⟨md_T0 Mi, md_T0 Mi, ?_⟩⟩⟩
      · rw [Bi.2.1, i3, nI_leI (by omega) (by omega)] at q; omega
      · rw [i3, show (nI (t.2.2 + j) : Int32) + 1 = nI (t.2.2 + (j + 1)) from nI_add _ 1]
        exact ih _ (f2_tr fi (f2_sI ⟨rfl, by omega, by omega⟩)) (I_sI_same _ _ _ _)
  rw [md_T0 hM, k2, k3, n0, n1, n2]
  exact ⟨rfl, fun q => ⟨rfl, go _ (cI_f (fun z => by have := hpos z; omega)).symm⟩, fun q => ⟨rfl, fun q1 => ⟨rfl, go _ (cI_t (Or.inl q1)).symm⟩, fun q1 => ⟨rfl, fun q2 => ⟨rfl, go _ (cI_f (fun z => z.elim q1 q2)).symm⟩, fun q2 => ⟨rfl, go _ (cI_t (Or.inr (Classical.not_not.mp q2))).symm⟩⟩⟩⟩
theorem sp_X11_next (hM : md_L w y g) (hB : tb_M y B n g) (hk : tk_M y B t g) (hT : tkW B n t) (h5 : t.1 = 2 → t.2.2 - t.2.1 ≤ 4) : mu_mp w mm_X11_next (d + 2) [.ref y] g (fun r g' => r = none ∧ (mu_f2 (nxW y) g g' ∧ tk_M y B (nxt B n t) g')) := by
  have etm : tkm t = t.1 := by unfold tkm; rw [if_neg (fun z => by have := h5 z.1; omega)]
  refine sp_X11_nextG hM hB hk.2.1 (by rw [hk.2.2.1, etm]) hT.2.1 hT.2.2.1 (fun z => ?_)
  have := hT.2.2.2.1 (by omega)
  omega
end Nx
