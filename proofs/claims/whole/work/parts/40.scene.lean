/-! CLIENTS: the class's cells: a scene at b, its rows, its people and moves behind it -/
def sc_N : Nat → Nat
  | 3 => 20
  | 4 => 20
  | 6 => 64
  | 7 => 6
  | 8 => 6
  | 9 => 6
  | 11 => 90
  | 12 => 20
  | _ => 0
def sc_L (w : mu_O) (b : Nat) (g : mu_H) : Prop := w.1 < b ∧ mu_T g b = 5 ∧ (∀ k, k < 10 → mu_R g b k = b + (1 + k)) ∧ (mu_T g (b + 1) = 22 ∧ mu_N g (b + 1) = 8 ∧ ∀ i, i < 8 → mu_R g (b + 1) i = b + 13 + i) ∧ (mu_T g (b + 2) = 23 ∧ mu_N g (b + 2) = 20 ∧ ∀ i, i < 20 → mu_R g (b + 2) i = b + 21 + i) ∧
  (∀ k ∈ [3, 4, 6, 7, 8, 9, 11, 12], mu_T g (b + k) = 20 ∧ mu_N g (b + k) = sc_N k) ∧ (mu_T g (b + 5) = 24 ∧ mu_N g (b + 5) = 14 ∧ ∀ i, i < 14 → mu_R g (b + 5) i = 0 ∨ mu_T g (mu_R g (b + 5) i) = 10) ∧ (mu_T g (b + 10) = 1 ∧ mu_R g (b + 10) 0 = b + 11 ∧ mu_R g (b + 10) 1 = b + 12) ∧ (∀ i, i < 8 → mu_T g (b + 13 + i) = 3) ∧ (∀ i, i < 20 → mu_T g (b + 21 + i) = 2)
section Sc
variable {w : mu_O} {b : Nat} {g : mu_H}
theorem sc_w (h : sc_L w b g) : w.1 < b := h.1
theorem sc_wj (h : sc_L w b g) {j : Nat} : w.1 < b + j := Nat.lt_of_lt_of_le h.1 (Nat.le_add_right b j)
theorem sc_wp (h : sc_L w b g) {i j : Nat} : w.1 < b + i + j := by have := h.1; omega
theorem sc_T (h : sc_L w b g) : mu_T g b = 5 := h.2.1
theorem sc_R0 (h : sc_L w b g) : mu_R g b 0 = b + 1 := h.2.2.1 0 (by decide)
theorem sc_R1 (h : sc_L w b g) : mu_R g b 1 = b + 2 := h.2.2.1 1 (by decide)
theorem sc_R2 (h : sc_L w b g) : mu_R g b 2 = b + 3 := h.2.2.1 2 (by decide)
theorem sc_R3 (h : sc_L w b g) : mu_R g b 3 = b + 4 := h.2.2.1 3 (by decide)
theorem sc_R4 (h : sc_L w b g) : mu_R g b 4 = b + 5 := h.2.2.1 4 (by decide)
theorem sc_R5 (h : sc_L w b g) : mu_R g b 5 = b + 6 := h.2.2.1 5 (by decide)
theorem sc_R6 (h : sc_L w b g) : mu_R g b 6 = b + 7 := h.2.2.1 6 (by decide)
theorem sc_R7 (h : sc_L w b g) : mu_R g b 7 = b + 8 := h.2.2.1 7 (by decide)
theorem sc_R8 (h : sc_L w b g) : mu_R g b 8 = b + 9 := h.2.2.1 8 (by decide)
theorem sc_R9 (h : sc_L w b g) : mu_R g b 9 = b + 10 := h.2.2.1 9 (by decide)
theorem sc_T1 (h : sc_L w b g) : mu_T g (b + 1) = 22 := h.2.2.2.1.1
theorem sc_N1 (h : sc_L w b g) : mu_N g (b + 1) = 8 := h.2.2.2.1.2.1
theorem sc_RP (h : sc_L w b g) {i : Nat} (hi : i < 8) : mu_R g (b + 1) i = b + 13 + i := h.2.2.2.1.2.2 i hi
theorem sc_T2 (h : sc_L w b g) : mu_T g (b + 2) = 23 := h.2.2.2.2.1.1
theorem sc_N2 (h : sc_L w b g) : mu_N g (b + 2) = 20 := h.2.2.2.2.1.2.1
theorem sc_RM (h : sc_L w b g) {i : Nat} (hi : i < 20) : mu_R g (b + 2) i = b + 21 + i := h.2.2.2.2.1.2.2 i hi
theorem sc_T3 (h : sc_L w b g) : mu_T g (b + 3) = 20 := (h.2.2.2.2.2.1 3 (by decide)).1
theorem sc_N3 (h : sc_L w b g) : mu_N g (b + 3) = 20 := (h.2.2.2.2.2.1 3 (by decide)).2
theorem sc_T4 (h : sc_L w b g) : mu_T g (b + 4) = 20 := (h.2.2.2.2.2.1 4 (by decide)).1
theorem sc_N4 (h : sc_L w b g) : mu_N g (b + 4) = 20 := (h.2.2.2.2.2.1 4 (by decide)).2
theorem sc_T6 (h : sc_L w b g) : mu_T g (b + 6) = 20 := (h.2.2.2.2.2.1 6 (by decide)).1
theorem sc_N6 (h : sc_L w b g) : mu_N g (b + 6) = 64 := (h.2.2.2.2.2.1 6 (by decide)).2
theorem sc_T7 (h : sc_L w b g) : mu_T g (b + 7) = 20 := (h.2.2.2.2.2.1 7 (by decide)).1
theorem sc_N7 (h : sc_L w b g) : mu_N g (b + 7) = 6 := (h.2.2.2.2.2.1 7 (by decide)).2
theorem sc_T8 (h : sc_L w b g) : mu_T g (b + 8) = 20 := (h.2.2.2.2.2.1 8 (by decide)).1
theorem sc_N8 (h : sc_L w b g) : mu_N g (b + 8) = 6 := (h.2.2.2.2.2.1 8 (by decide)).2
theorem sc_T9 (h : sc_L w b g) : mu_T g (b + 9) = 20 := (h.2.2.2.2.2.1 9 (by decide)).1
theorem sc_N9 (h : sc_L w b g) : mu_N g (b + 9) = 6 := (h.2.2.2.2.2.1 9 (by decide)).2
theorem sc_T11 (h : sc_L w b g) : mu_T g (b + 11) = 20 := (h.2.2.2.2.2.1 11 (by decide)).1
theorem sc_N11 (h : sc_L w b g) : mu_N g (b + 11) = 90 := (h.2.2.2.2.2.1 11 (by decide)).2
theorem sc_T12 (h : sc_L w b g) : mu_T g (b + 12) = 20 := (h.2.2.2.2.2.1 12 (by decide)).1
theorem sc_N12 (h : sc_L w b g) : mu_N g (b + 12) = 20 := (h.2.2.2.2.2.1 12 (by decide)).2
theorem sc_T5 (h : sc_L w b g) : mu_T g (b + 5) = 24 := h.2.2.2.2.2.2.1.1
theorem sc_N5 (h : sc_L w b g) : mu_N g (b + 5) = 14 := h.2.2.2.2.2.2.1.2.1
theorem sc_RX (h : sc_L w b g) {i : Nat} (hi : i < 14) : mu_R g (b + 5) i = 0 ∨ mu_T g (mu_R g (b + 5) i) = 10 := h.2.2.2.2.2.2.1.2.2 i hi
theorem sc_T10 (h : sc_L w b g) : mu_T g (b + 10) = 1 := h.2.2.2.2.2.2.2.1.1
theorem sc_RL0 (h : sc_L w b g) : mu_R g (b + 10) 0 = b + 11 := h.2.2.2.2.2.2.2.1.2.1
theorem sc_RL1 (h : sc_L w b g) : mu_R g (b + 10) 1 = b + 12 := h.2.2.2.2.2.2.2.1.2.2
theorem sc_TP (h : sc_L w b g) {i : Nat} (hi : i < 8) : mu_T g (b + 13 + i) = 3 := h.2.2.2.2.2.2.2.2.1 i hi
theorem sc_TM (h : sc_L w b g) {i : Nat} (hi : i < 20) : mu_T g (b + 21 + i) = 2 := h.2.2.2.2.2.2.2.2.2 i hi
theorem sc_L_fr {A : Nat → Prop} {g' : mu_H} (hS : sc_L w b g) (h : mu_fr A g g') : sc_L w b g' := by
  unfold sc_L
  rw [h.1, h.2.1, h.2.2.1]
  exact hS
end Sc
/-- what the kinds are -/
def kReach : Nat → Nat
  | 2 => 2
  | 3 => 3
  | 4 => 1
  | _ => 0
def kWorth : Nat → Nat
  | 1 => 1
  | 2 => 5
  | 3 => 7
  | 4 => 2
  | 5 => 4
  | _ => 0
def kTires : Nat → Nat
  | 2 => 2
  | 3 => 3
  | 4 => 2
  | 5 => 3
  | _ => 1
def kWears : Nat → Nat
  | 2 => 1
  | 3 => 2
  | _ => 0
def kGoes : Nat → Nat
  | 1 => 1
  | 5 => 1
  | _ => 0
def kAbove : Nat → Int32
  | 0 => -1
  | 3 => 2
  | 4 => 2
  | _ => 0
/-- the class's own rows of before -/
def st_v : Nat → Nat → Int32
  | 0, k => kAbove k
  | 1, k => nI (kReach k)
  | 2, k => nI (kWorth k)
  | 3, k => nI (kTires k)
  | 4, k => nI (kWears k)
  | _, k => nI (kGoes k)
def st_L (w : mu_O) (g : mu_H) : Prop := ∀ j, j < 6 → mu_sa w j ≤ w.1 ∧ mu_T g (mu_sa w j) = 20 ∧ mu_N g (mu_sa w j) = 6 ∧ ∀ k, k < 6 → mu_I g (mu_sa w j) k = st_v j k
section St
variable {w : mu_O} {g : mu_H}
theorem st_T (h : st_L w g) {j : Nat} (hj : j < 6) : mu_T g (mu_sa w j) = 20 := (h j hj).2.1
theorem st_N (h : st_L w g) {j : Nat} (hj : j < 6) : mu_N g (mu_sa w j) = 6 := (h j hj).2.2.1
theorem st_0 (h : st_L w g) {k : Nat} (hk : k < 6) : mu_I g (mu_sa w 0) k = kAbove k := (h 0 (by decide)).2.2.2 k hk
theorem st_1 (h : st_L w g) {k : Nat} (hk : k < 6) : mu_I g (mu_sa w 1) k = nI (kReach k) := (h 1 (by decide)).2.2.2 k hk
theorem st_2 (h : st_L w g) {k : Nat} (hk : k < 6) : mu_I g (mu_sa w 2) k = nI (kWorth k) := (h 2 (by decide)).2.2.2 k hk
theorem st_3 (h : st_L w g) {k : Nat} (hk : k < 6) : mu_I g (mu_sa w 3) k = nI (kTires k) := (h 3 (by decide)).2.2.2 k hk
theorem st_4 (h : st_L w g) {k : Nat} (hk : k < 6) : mu_I g (mu_sa w 4) k = nI (kWears k) := (h 4 (by decide)).2.2.2 k hk
theorem st_5 (h : st_L w g) {k : Nat} (hk : k < 6) : mu_I g (mu_sa w 5) k = nI (kGoes k) := (h 5 (by decide)).2.2.2 k hk
theorem st_fr {A : Nat → Prop} {g' : mu_H} (hs : st_L w g) (h : mu_fr A g g') (hA : ∀ a, A a → w.1 < a) : st_L w g' := by
  intro j hj
  obtain ⟨h1, h2, h3, h4⟩ := hs j hj
  rw [h.1, h.2.1, h.2.2.2.2.2 _ (fun q => absurd (hA _ q) (by omega))]
  exact ⟨h1, h2, h3, h4⟩
theorem st_sI {a k : Nat} {v : Int32} (hs : st_L w g) (h : w.1 < a) : st_L w (mu_sI g a k v) := st_fr hs (mu_fr_sI (A := fun x => x = a) rfl) (fun x hx => by rw [hx]; exact h)
end St
/-! the row s as numbers -/
def np (s : Nat → Int32) : Nat := (s 0).toNatClampNeg
def nm (s : Nat → Int32) : Nat := (s 1).toNatClampNeg
def nsg (s : Nat → Int32) : Nat := (s 2).toNatClampNeg
def ntx (s : Nat → Int32) : Nat := (s 3).toNatClampNeg
def nch (s : Nat → Int32) : Nat := (s 4).toNatClampNeg
def nwp (s : Nat → Int32) : Nat := (s 5).toNatClampNeg
def nsh (s : Nat → Int32) : Nat := (s 6).toNatClampNeg
def nlg (s : Nat → Int32) : Nat := (s 7).toNatClampNeg
def nwt (s : Nat → Int32) : Nat := (s 9).toNatClampNeg
def vP (s : Nat → Int32) (p f : Nat) : Nat := (s (20 + 4 * p + f)).toNatClampNeg
def vM (s : Nat → Int32) (m f : Nat) : Nat := (s (60 + 8 * m + f)).toNatClampNeg
def vG (s : Nat → Int32) (i f : Nat) : Nat := (s (220 + 2 * i + f)).toNatClampNeg
def vC (s : Nat → Int32) (i : Nat) : Nat := (s (260 + i)).toNatClampNeg
def vW (s : Nat → Int32) (i : Nat) : Nat := (s (270 + 2 * i)).toNatClampNeg
def vH (s : Nat → Int32) (k : Nat) : Nat := (s (290 + k)).toNatClampNeg
def vL (s : Nat → Int32) (i f : Nat) : Nat := (s (360 + 3 * i + f)).toNatClampNeg
def wf_c (s : Nat → Int32) : Prop := (s 0 = nI (np s) ∧ np s ≤ 8) ∧ (s 1 = nI (nm s) ∧ nm s ≤ 20) ∧ (s 2 = nI (nsg s) ∧ nsg s ≤ 20) ∧ (s 3 = nI (ntx s) ∧ ntx s ≤ 14) ∧ (s 4 = nI (nch s) ∧ nch s ≤ 6) ∧ (s 5 = nI (nwp s) ∧ nwp s ≤ 6) ∧ (s 6 = nI (nsh s) ∧ nsh s ≤ 1100) ∧ (s 7 = nI (nlg s) ∧ nlg s ≤ 30) ∧ (s 9 = nI (nwt s) ∧ nwt s ≤ 1)
def wf_p (s : Nat → Int32) : Prop := ∀ p, p < np s → (∀ f, f < 3 → s (20 + 4 * p + f) = nI (vP s p f)) ∧ vP s p 0 / 10 ≤ 11 ∧ vP s p 0 % 10 ≤ 7 ∧ vP s p 1 ≤ 9 ∧ vP s p 2 ≤ 99
/-- moves, their beats at most B -/
def wf_m (B : Nat) (s : Nat → Int32) : Prop := ∀ m, m < nm s → (∀ f, f < 8 → s (60 + 8 * m + f) = nI (vM s m f)) ∧ vM s m 0 < np s ∧ vM s m 1 ≤ 5 ∧ vM s m 2 ≤ B ∧ 1 ≤ vM s m 3 ∧ vM s m 3 ≤ 4 ∧ vM s m 4 / 10 ≤ 11 ∧ vM s m 4 % 10 ≤ 7 ∧ vM s m 5 < np s ∧ vM s m 5 ≠ vM s m 0 ∧ vM s m 6 ≤ 9 ∧ vM s m 7 ≤ 1
def wf_a (s : Nat → Int32) : Prop := ∀ a b, a < nm s → b < nm s → a ≠ b → vM s a 0 = vM s b 0 → vM s a 2 + vM s a 3 ≤ vM s b 2 ∨ vM s b 2 + vM s b 3 ≤ vM s a 2
def wf_g (s : Nat → Int32) : Prop := ∀ i, i < nsg s → (∀ f, f < 2 → s (220 + 2 * i + f) = nI (vG s i f)) ∧ vG s i 0 < np s ∧ vG s i 1 ≤ 99
def wf_ch (s : Nat → Int32) : Prop := ∀ i, i < nch s → s (260 + i) = nI (vC s i) ∧ vC s i < nm s ∧ ∀ j, j < nch s → vC s i = vC s j → i = j
/-- weapons and their holders -/
def wf_w (s : Nat → Int32) : Prop := (∀ k, k < nwp s → s (270 + 2 * k) = nI (vW s k) ∧ vW s k ≤ 99 ∧ (s (270 + 2 * k + 1) = -1 ∨ ∃ p, p < np s ∧ s (270 + 2 * k + 1) = nI p ∧ s (20 + 4 * p + 3) = nI k)) ∧ (∀ p, p < np s → s (20 + 4 * p + 3) = -1 ∨ ∃ k, k < nwp s ∧ s (20 + 4 * p + 3) = nI k ∧ s (270 + 2 * k + 1) = nI p)
def wf_h (s : Nat → Int32) : Prop := (∀ k, k < 64 → s (290 + k) = nI (vH s k) ∧ vH s k ≤ 99) ∧ ∀ a b, a < 8 → b < 8 → vH s (8 * a + b) = vH s (8 * b + a)
def wf_l (s : Nat → Int32) : Prop := ∀ i, i < nlg s → (∀ f, f < 3 → s (360 + 3 * i + f) = nI (vL s i f)) ∧ vL s i 1 < nm s
def wf_s (s : Nat → Int32) : Prop := wf_c s ∧ wf_p s ∧ wf_m 90 s ∧ wf_a s ∧ wf_g s ∧ wf_ch s ∧ wf_w s ∧ wf_h s ∧ wf_l s ∧ wf_texts s (ntx s)
section Ws
variable {s : Nat → Int32} {B : Nat}
theorem wc_0 (h : wf_c s) : s 0 = nI (np s) := h.1.1
theorem wc_1 (h : wf_c s) : s 1 = nI (nm s) := h.2.1.1
theorem wc_2 (h : wf_c s) : s 2 = nI (nsg s) := h.2.2.1.1
theorem wc_3 (h : wf_c s) : s 3 = nI (ntx s) := h.2.2.2.1.1
theorem wc_4 (h : wf_c s) : s 4 = nI (nch s) := h.2.2.2.2.1.1
theorem wc_5 (h : wf_c s) : s 5 = nI (nwp s) := h.2.2.2.2.2.1.1
theorem wc_6 (h : wf_c s) : s 6 = nI (nsh s) := h.2.2.2.2.2.2.1.1
theorem wc_7 (h : wf_c s) : s 7 = nI (nlg s) := h.2.2.2.2.2.2.2.1.1
theorem wc_9 (h : wf_c s) : s 9 = nI (nwt s) := h.2.2.2.2.2.2.2.2.1
theorem wc_b (h : wf_c s) : np s ≤ 8 ∧ nm s ≤ 20 ∧ nsg s ≤ 20 ∧ ntx s ≤ 14 ∧ nch s ≤ 6 ∧ nwp s ≤ 6 ∧ nsh s ≤ 1100 ∧ nlg s ≤ 30 ∧ nwt s ≤ 1 := ⟨h.1.2, h.2.1.2, h.2.2.1.2, h.2.2.2.1.2, h.2.2.2.2.1.2, h.2.2.2.2.2.1.2, h.2.2.2.2.2.2.1.2, h.2.2.2.2.2.2.2.1.2, h.2.2.2.2.2.2.2.2.2⟩
theorem wp_v (h : wf_p s) {p f : Nat} (hp : p < np s) (hf : f < 3) : s (20 + 4 * p + f) = nI (vP s p f) := (h p hp).1 f hf
theorem wp_v0 (h : wf_p s) {p : Nat} (hp : p < np s) : s (20 + 4 * p) = nI (vP s p 0) := (h p hp).1 0 (by decide)
theorem wm_v (h : wf_m B s) {m f : Nat} (hm : m < nm s) (hf : f < 8) : s (60 + 8 * m + f) = nI (vM s m f) := (h m hm).1 f hf
theorem wm_v0 (h : wf_m B s) {m : Nat} (hm : m < nm s) : s (60 + 8 * m) = nI (vM s m 0) := (h m hm).1 0 (by decide)
theorem wm_b (h : wf_m B s) {m : Nat} (hm : m < nm s) : vM s m 0 < np s ∧ vM s m 1 ≤ 5 ∧ vM s m 2 ≤ B ∧ 1 ≤ vM s m 3 ∧ vM s m 3 ≤ 4 ∧ vM s m 4 / 10 ≤ 11 ∧ vM s m 4 % 10 ≤ 7 ∧ vM s m 5 < np s ∧ vM s m 5 ≠ vM s m 0 ∧ vM s m 6 ≤ 9 ∧ vM s m 7 ≤ 1 := (h m hm).2
theorem wp_b (h : wf_p s) {p : Nat} (hp : p < np s) : vP s p 0 / 10 ≤ 11 ∧ vP s p 0 % 10 ≤ 7 ∧ vP s p 1 ≤ 9 ∧ vP s p 2 ≤ 99 := (h p hp).2
theorem ws_c (h : wf_s s) : wf_c s := h.1
theorem ws_p (h : wf_s s) : wf_p s := h.2.1
theorem ws_m (h : wf_s s) : wf_m 90 s := h.2.2.1
theorem ws_a (h : wf_s s) : wf_a s := h.2.2.2.1
theorem ws_g (h : wf_s s) : wf_g s := h.2.2.2.2.1
theorem ws_ch (h : wf_s s) : wf_ch s := h.2.2.2.2.2.1
theorem ws_w (h : wf_s s) : wf_w s := h.2.2.2.2.2.2.1
theorem ws_h (h : wf_s s) : wf_h s := h.2.2.2.2.2.2.2.1
theorem ws_l (h : wf_s s) : wf_l s := h.2.2.2.2.2.2.2.2.1
theorem ws_t (h : wf_s s) : wf_texts s (ntx s) := h.2.2.2.2.2.2.2.2.2
end Ws
/-! what a scene holds of a row s -/
/-- the place of a letter among a key's names -/
def tx_ix (key : Int32) (c : Nat) : Nat := if key = 0 then (if c = 115 then 0 else if c = 116 then 1 else 2) else if key = 1 then (if c = 107 then 0 else if c = 115 then 1 else if c = 98 then 2 else 3) else (if c = 110 then 0 else 1)
/-- a step of a text as the class writes it -/
def tx_enc (s : Nat → Int32) (t i : Nat) : Int32 := if txw s t i = 0 then txv s t i else if txw s t i = 1 then nI (10000 + tx_ix (s (460 + 200 * t)) (txv s t i).toNatClampNeg) else nI (20000 + (txv s t i).toNatClampNeg)
/-- behind E lie texts: each with its code and its stack behind it -/
def jU (E : Nat) : Nat → Prop := fun a => E ≤ a ∧ (a - E) % 3 = 2
def tx_R (w : mu_O) (E : Nat) (g : mu_H) (a : Nat) (s : Nat → Int32) (t : Nat) : Prop := mu_T g a = 10 ∧ (w.1 < a ∧ ¬ jU E a ∧ E ≤ a ∧ E ≤ mu_R g a 2) ∧ mu_I g a 0 = s (460 + 200 * t) ∧ mu_I g a 1 = s (460 + 200 * t + 1) ∧ mu_T g (mu_R g a 2) = 20 ∧ ¬ jU E (mu_R g a 2) ∧ mu_N g (mu_R g a 2) = txn s t ∧ (∀ i, i < txn s t → mu_I g (mu_R g a 2) i = tx_enc s t i) ∧ mu_T g (mu_R g a 3) = 20 ∧ w.1 < mu_R g a 3 ∧ jU E (mu_R g a 3) ∧ mu_N g (mu_R g a 3) = txl s t
/-- -1 here, NONE there -/
def nn (v : Int32) : Int32 := if v = -1 then -1000000005 else v
def sc_V (w : mu_O) (E : Nat) (b : Nat) (s : Nat → Int32) (g : mu_H) : Prop := b + 41 ≤ E ∧ (mu_I g b 10 = s 0 ∧ mu_I g b 11 = s 1 ∧ mu_I g b 12 = s 2 ∧ mu_I g b 13 = s 3 ∧ mu_I g b 14 = s 4 ∧ mu_I g b 15 = s 5 ∧ mu_I g b 16 = s 9 ∧ mu_I g b 17 = s 6 ∧ mu_I g b 18 = s 8 ∧ mu_I g (b + 10) 2 = s 7) ∧
  (∀ p f, p < np s → f < 3 → mu_I g (b + 13 + p) f = s (20 + 4 * p + f)) ∧ (∀ m f, m < nm s → f < 8 → mu_I g (b + 21 + m) f = s (60 + 8 * m + f)) ∧ (∀ i, i < nsg s → mu_I g (b + 3) i = s (220 + 2 * i) ∧ mu_I g (b + 4) i = s (220 + 2 * i + 1)) ∧ (∀ t, t < ntx s → tx_R w E g (mu_R g (b + 5) t) s t) ∧
  (∀ k, k < 64 → mu_I g (b + 6) k = s (290 + k)) ∧ (∀ i, i < nch s → mu_I g (b + 7) i = s (260 + i)) ∧ (∀ i, i < nwp s → mu_I g (b + 8) i = s (270 + 2 * i) ∧ mu_I g (b + 9) i = nn (s (270 + 2 * i + 1))) ∧ (∀ i f, i < nlg s → f < 3 → mu_I g (b + 11) (3 * i + f) = s (360 + 3 * i + f))
section Sv
variable {w : mu_O} {E : Nat} {b : Nat} {g : mu_H} {s : Nat → Int32} {B : Nat}
theorem sv_E (h : sc_V w E b s g) : b + 41 ≤ E := h.1
theorem sv_J (h : sc_V w E b s g) : ∀ a, jU E a → b + 41 ≤ a := fun a q => Nat.le_trans h.1 q.1
theorem sv_0 (h : sc_V w E b s g) (hc : wf_c s) : mu_I g b 10 = nI (np s) := h.2.1.1.trans (wc_0 hc)
theorem sv_1 (h : sc_V w E b s g) (hc : wf_c s) : mu_I g b 11 = nI (nm s) := h.2.1.2.1.trans (wc_1 hc)
theorem sv_2 (h : sc_V w E b s g) (hc : wf_c s) : mu_I g b 12 = nI (nsg s) := h.2.1.2.2.1.trans (wc_2 hc)
theorem sv_3 (h : sc_V w E b s g) (hc : wf_c s) : mu_I g b 13 = nI (ntx s) := h.2.1.2.2.2.1.trans (wc_3 hc)
theorem sv_4 (h : sc_V w E b s g) (hc : wf_c s) : mu_I g b 14 = nI (nch s) := h.2.1.2.2.2.2.1.trans (wc_4 hc)
theorem sv_5 (h : sc_V w E b s g) (hc : wf_c s) : mu_I g b 15 = nI (nwp s) := h.2.1.2.2.2.2.2.1.trans (wc_5 hc)
theorem sv_9 (h : sc_V w E b s g) (hc : wf_c s) : mu_I g b 16 = nI (nwt s) := h.2.1.2.2.2.2.2.2.1.trans (wc_9 hc)
theorem sv_6 (h : sc_V w E b s g) (hc : wf_c s) : mu_I g b 17 = nI (nsh s) := h.2.1.2.2.2.2.2.2.2.1.trans (wc_6 hc)
theorem sv_8 (h : sc_V w E b s g) : mu_I g b 18 = s 8 := h.2.1.2.2.2.2.2.2.2.2.1
theorem sv_7 (h : sc_V w E b s g) (hc : wf_c s) : mu_I g (b + 10) 2 = nI (nlg s) := h.2.1.2.2.2.2.2.2.2.2.2.trans (wc_7 hc)
theorem sv_p (h : sc_V w E b s g) (hp : wf_p s) {p f : Nat} (h1 : p < np s) (h2 : f < 3) : mu_I g (b + 13 + p) f = nI (vP s p f) := (h.2.2.1 p f h1 h2).trans (wp_v hp h1 h2)
theorem sv_m (h : sc_V w E b s g) (hm : wf_m B s) {m f : Nat} (h1 : m < nm s) (h2 : f < 8) : mu_I g (b + 21 + m) f = nI (vM s m f) := (h.2.2.2.1 m f h1 h2).trans (wm_v hm h1 h2)
theorem sv_g0 (h : sc_V w E b s g) (hg : wf_g s) {i : Nat} (h1 : i < nsg s) : mu_I g (b + 3) i = nI (vG s i 0) := (h.2.2.2.2.1 i h1).1.trans ((hg i h1).1 0 (by decide))
theorem sv_g1 (h : sc_V w E b s g) (hg : wf_g s) {i : Nat} (h1 : i < nsg s) : mu_I g (b + 4) i = nI (vG s i 1) := (h.2.2.2.2.1 i h1).2.trans ((hg i h1).1 1 (by decide))
theorem sv_t (h : sc_V w E b s g) {t : Nat} (h1 : t < ntx s) : tx_R w E g (mu_R g (b + 5) t) s t := h.2.2.2.2.2.1 t h1
theorem sv_h (h : sc_V w E b s g) (hh : wf_h s) {k : Nat} (h1 : k < 64) : mu_I g (b + 6) k = nI (vH s k) := (h.2.2.2.2.2.2.1 k h1).trans (hh.1 k h1).1
theorem sv_c (h : sc_V w E b s g) (hc : wf_ch s) {i : Nat} (h1 : i < nch s) : mu_I g (b + 7) i = nI (vC s i) := (h.2.2.2.2.2.2.2.1 i h1).trans (hc i h1).1
theorem sv_w (h : sc_V w E b s g) (hc : wf_w s) {i : Nat} (h1 : i < nwp s) : mu_I g (b + 8) i = nI (vW s i) := (h.2.2.2.2.2.2.2.2.1 i h1).1.trans (hc.1 i h1).1
theorem sv_wh (h : sc_V w E b s g) {i : Nat} (h1 : i < nwp s) : mu_I g (b + 9) i = nn (s (270 + 2 * i + 1)) := (h.2.2.2.2.2.2.2.2.1 i h1).2
theorem sv_l (h : sc_V w E b s g) (hl : wf_l s) {i f : Nat} (h1 : i < nlg s) (h2 : f < 3) : mu_I g (b + 11) (3 * i + f) = nI (vL s i f) := (h.2.2.2.2.2.2.2.2.2 i f h1 h2).trans ((hl i h1).1 f h2)
/-- what lies elsewhere changes nothing -/
theorem sv_fr' {g' : mu_H} {A : Nat → Prop} (h : sc_V w E b s g) (hc : wf_c s) (hf : mu_fr A g g') (hA : ∀ a, A a → ((a < b ∨ b + 41 ≤ a) ∧ a < E) ∨ jU E a) : sc_V w E b s g' := by
  have hE := sv_E h
  have hb := wc_b hc
  have nj : ∀ a, jU E a → E ≤ a := fun a q => q.1
  have e : ∀ k, k < 41 → mu_I g' (b + k) = mu_I g (b + k) := fun k hk => hf.2.2.2.2.2 _ (fun q => by
    rcases hA _ q with q | q
    · omega
    · have := nj _ q; omega)
  have e0 : mu_I g' b = mu_I g b := e 0 (by omega)
  have eP : ∀ p, p < 8 → mu_I g' (b + 13 + p) = mu_I g (b + 13 + p) := fun p hp => by rw [Nat.add_assoc]; exact e _ (by omega)
  have eM : ∀ p, p < 20 → mu_I g' (b + 21 + p) = mu_I g (b + 21 + p) := fun p hp => by rw [Nat.add_assoc]; exact e _ (by omega)
  obtain ⟨h0, h1, h2, h3, h4, h5, h6, h7, h8, h9⟩ := h
  unfold sc_V
  rw [e0, e 10 (by omega), e 3 (by omega), e 4 (by omega), e 6 (by omega), e 7 (by omega), e 8 (by omega), e 9 (by omega), e 11 (by omega), hf.2.2.1]
  refine ⟨h0, h1, fun p f hp hf2 => ?_, fun m f hm hf2 => ?_, h4, fun t ht => ?_, h6, h7, h8, h9⟩
  · rw [eP p (by omega)]; exact h2 p f hp hf2
  · rw [eM m (by omega)]; exact h3 m f hm hf2
  · obtain ⟨a1, a2, a3, a4, a5, a6, a7, a8, a9, a10, a11, a12⟩ := h5 t ht
    unfold tx_R
    rw [hf.1, hf.2.1, hf.2.2.1, hf.2.2.2.2.2 _ (fun q => by rcases hA _ q with q | q; (have := a2.2.2.1; omega); exact a2.2.1 q), hf.2.2.2.2.2 _ (fun q => by rcases hA _ q with q | q; (have := a2.2.2.2; omega); exact a6 q)]
    exact ⟨a1, a2, a3, a4, a5, a6, a7, a8, a9, a10, a11, a12⟩
/-- stacks change nothing -/
theorem sv_fr {g' : mu_H} (h : sc_V w E b s g) (hc : wf_c s) (hf : mu_fr (jU E) g g') : sc_V w E b s g' := sv_fr' h hc hf (fun a q => Or.inr q)
end Sv
