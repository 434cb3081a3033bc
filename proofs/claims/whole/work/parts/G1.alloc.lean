/-! CLIENTS: heaps in the making: rows made one behind the other -/
def Zr (g : mu_H) : Prop := ∀ z, mu_X g ≤ z → mu_T g z = 0
def nO : Nat → Prop := fun _ => False
def oZ : Nat → Int32 := fun _ => 0
def aw_P (a : Nat) (g0 : mu_H) (F : Nat → Nat) (c : Nat → Nat × Nat) (D : Nat → Nat → Int32) (f i u : Nat) (g : mu_H) : Prop :=
  (mu_X g0 = a + 1 ∧ Zr g0) ∧ mu_X g = a + 1 + i ∧ mu_S g = mu_S g0 + u ∧ Zr g ∧ mu_ft nO (fun z => z = a) g0 g ∧ (∀ k, k < f → mu_R g a (F k) = a + 1 + k) ∧
  (∀ j, j < i → mu_T g (a + 1 + j) = (c j).1 ∧ mu_N g (a + 1 + j) = (c j).2 ∧ mu_I g (a + 1 + j) = D j ∧ mu_R g (a + 1 + j) = fun _ => 0)
section Al
variable {w : mu_O} {a i f u : Nat} {g0 g g1 g2 : mu_H} {F : Nat → Nat} {c : Nat → Nat × Nat} {D : Nat → Nat → Int32} {A B : Nat → Prop}
theorem gT_sN {t n v z : Nat} : mu_T (mu_sN g t n v) z = if z = mu_X g then t else mu_T g z := rfl
theorem gN_sN {t n v z : Nat} : mu_N (mu_sN g t n v) z = if z = mu_X g then n else mu_N g z := rfl
theorem gI_sN {t n v z k : Nat} : mu_I (mu_sN g t n v) z k = if z = mu_X g then 0 else mu_I g z k := rfl
theorem gR_sN {t n v z k : Nat} : mu_R (mu_sN g t n v) z k = if z = mu_X g then 0 else mu_R g z k := rfl
theorem gX_sN {t n v : Nat} : mu_X (mu_sN g t n v) = mu_X g + 1 := rfl
theorem gS_sN {t n v : Nat} : mu_S (mu_sN g t n v) = mu_S g + v := rfl
theorem gT_sR {z k v : Nat} : mu_T (mu_sR g z k v) = mu_T g := rfl
theorem gN_sR {z k v : Nat} : mu_N (mu_sR g z k v) = mu_N g := rfl
theorem gI_sR {z k v : Nat} : mu_I (mu_sR g z k v) = mu_I g := rfl
theorem gX_sR {z k v : Nat} : mu_X (mu_sR g z k v) = mu_X g := rfl
theorem gS_sR {z k v : Nat} : mu_S (mu_sR g z k v) = mu_S g := rfl
theorem gR_sR {z k v x y : Nat} : mu_R (mu_sR g z k v) x y = if x = z ∧ y = k then v else mu_R g x y := rfl
theorem gR_o {z k v x : Nat} (h : x ≠ z) : mu_R (mu_sR g z k v) x = mu_R g x := funext fun y => if_neg (fun q => h q.1)
theorem gI_o {z k x : Nat} {v : Int32} (h : x ≠ z) : mu_I (mu_sI g z k v) x = mu_I g x := funext fun y => if_neg (fun q => h q.1)
theorem gI_x {t n v : Nat} : mu_I (mu_sN g t n v) (mu_X g) = oZ := funext fun k => if_pos rfl
theorem gR_x {t n v : Nat} : mu_R (mu_sN g t n v) (mu_X g) = fun _ => 0 := funext fun k => if_pos rfl
theorem Zr_sN {t n v : Nat} (h : Zr g) : Zr (mu_sN g t n v) := fun z hz => by
  have hz : mu_X g + 1 ≤ z := hz
  rw [gT_sN, if_neg (by omega)]; exact h z (by omega)
theorem Zr_lt (h : Zr g) {z : Nat} (hz : mu_T g z ≠ 0) : z < mu_X g := by
  by_cases q : z < mu_X g
  · exact q
  · exact absurd (h z (by omega)) hz
theorem ft_rf : mu_ft A B g g := fun z _ => ⟨rfl, rfl, fun _ => rfl, fun _ => rfl⟩
theorem ft_sN {t n v : Nat} (h : Zr g) : mu_ft A B g (mu_sN g t n v) := fun z hz => by
  have q : z ≠ mu_X g := by have := Zr_lt h hz; omega
  exact ⟨N_T q, N_N q, fun _ => N_I q, fun _ => N_R q⟩
theorem ft_sR {z k v : Nat} (h : B z) : mu_ft A B g (mu_sR g z k v) := fun y hy => ⟨rfl, rfl, fun _ => rfl, fun q => gR_o (fun e => q (by rw [e]; exact h))⟩
theorem ft_sI {z k : Nat} {v : Int32} (h : A z) : mu_ft A B g (mu_sI g z k v) := fun y hy => ⟨rfl, rfl, fun q => gI_o (fun e => q (by rw [e]; exact h)), fun _ => rfl⟩
/-- an object that was made just now: all its own writes don't touch what was there before -/
theorem ft_new {t n v : Nat} (h : Zr g) (hf : mu_ft (fun z => z = mu_X g) (fun z => z = mu_X g) (mu_sN g t n v) g2) : mu_ft A B g g2 := fun z hz => by
  have q : z ≠ mu_X g := by have := Zr_lt h hz; omega
  have e : mu_T (mu_sN g t n v) z = mu_T g z := N_T q
  obtain ⟨h1, h2, h3, h4⟩ := hf z (by rw [e]; exact hz)
  exact ⟨h1.trans e, h2.trans (N_N q), fun _ => (h3 q).trans (N_I q), fun _ => (h4 q).trans (N_R q)⟩
theorem aw_0 (h0 : mu_X g = a + 1) (hZ : Zr g) : aw_P a g F c D 0 0 0 g := ⟨⟨h0, hZ⟩, h0, rfl, hZ, ft_rf, fun k q => absurd q (by omega), fun k q => absurd q (by omega)⟩
theorem aw_X (h : aw_P a g0 F c D f i u g) : mu_X g = a + 1 + i := h.2.1
theorem aw_S (h : aw_P a g0 F c D f i u g) : mu_S g = mu_S g0 + u := h.2.2.1
theorem aw_T (h : aw_P a g0 F c D f i u g) {k : Nat} (e : mu_T g0 a = k + 1) : mu_T g a = k + 1 := ft_T h.2.2.2.2.1 e
theorem aw_N (h : aw_P a g0 F c D f i u g) {t n n' : Nat} (en : n' = n) (e : g1 = mu_sN g t n' n') (hc : c i = (t, n)) (hD : D i = oZ) : aw_P a g0 F c D f (i + 1) (u + n) g1 := by
  subst en
  subst e
  obtain ⟨h0, h1, h2, h3, h4, h5, h6⟩ := h
  refine ⟨h0, ?_, ?_, Zr_sN h3, ft_tr h4 (ft_sN h3), fun k hk => ?_, fun j hj => ?_⟩
  · rw [gX_sN, h1]; omega
  · rw [gS_sN, h2]; omega
  · rw [gR_sN, if_neg (by omega)]; exact h5 k hk
  · by_cases q : j = i
    · subst q
      rw [← h1, N_Tx, N_Nx, gI_x, gR_x, hc, hD]; exact ⟨rfl, rfl, rfl, rfl⟩
    · rw [N_T (by omega), N_N (by omega), N_I (by omega), N_R (by omega)]; exact h6 j (by omega)
theorem aw_R (h : aw_P a g0 F c D f i u g) {k v : Nat} (hF : F f = k) (hv : v = a + 1 + f) (hj : ∀ j, j < f → F j ≠ k) : aw_P a g0 F c D (f + 1) i u (mu_sR g a k v) := by
  obtain ⟨h0, h1, h2, h3, h4, h5, h6⟩ := h
  refine ⟨h0, h1, h2, h3, ft_tr h4 (ft_sR rfl), fun j q => ?_, fun j q => ?_⟩
  · by_cases e : j = f
    · subst e
      rw [gR_sR, if_pos ⟨rfl, hF⟩, hv]
    · rw [gR_sR, if_neg (fun p => hj j (by omega) p.2)]; exact h5 j (by omega)
  · rw [gT_sR, gN_sR, gI_sR, gR_o (by omega)]; exact h6 j q
/-- six numbers, written into a row that was made just now -/
def six (v0 v1 v2 v3 v4 v5 : Int32) : Nat → Int32 := fun k => if k = 5 then v5 else if k = 4 then v4 else if k = 3 then v3 else if k = 2 then v2 else if k = 1 then v1 else if k = 0 then v0 else 0
theorem aw_N6 (h : aw_P a g0 F c D f i u g) {n' z : Nat} {v0 v1 v2 v3 v4 v5 : Int32} (en : n' = 6) (e : g1 = mu_sN g 20 n' n') (hz : z = a + 1 + i) (hc : c i = (20, 6)) (hD : D i = six v0 v1 v2 v3 v4 v5) : aw_P a g0 F c D f (i + 1) (u + 6) (mu_sI (mu_sI (mu_sI (mu_sI (mu_sI (mu_sI g1 z 0 v0) z 1 v1) z 2 v2) z 3 v3) z 4 v4) z 5 v5) := by
  have hz : z = mu_X g := hz.trans h.2.1.symm
  subst en
  subst e
  subst hz
  obtain ⟨h0, h1, h2, h3, h4, h5, h6⟩ := h
  refine ⟨h0, ?_, ?_, fun z hz => Zr_sN (t := 20) (n := 6) (v := 6) h3 z hz, ?_, fun k hk => ?_, fun j hj => ?_⟩
  · show mu_X g + 1 = _
    rw [h1]; omega
  · show mu_S g + 6 = _
    rw [h2]; omega
  · refine ft_tr h4 (fun z hz => ?_)
    have q : z ≠ mu_X g := by have := Zr_lt h3 hz; omega
    refine ⟨N_T (t := 20) (n := 6) (v := 6) q, N_N (t := 20) (n := 6) (v := 6) q, fun _ => ?_, fun _ => N_R (t := 20) (n := 6) (v := 6) q⟩
    rw [gI_o q, gI_o q, gI_o q, gI_o q, gI_o q, gI_o q]
    exact N_I q
  · show mu_R (mu_sN g 20 6 6) a (F k) = _
    rw [gR_sN, if_neg (by omega)]; exact h5 k hk
  · simp only [mu_T_sI, mu_N_sI, mu_R_sI]
    by_cases q : j = i
    · subst q
      rw [← h1, N_Tx, N_Nx, gR_x, hc, hD]
      refine ⟨rfl, rfl, funext fun k => ?_, rfl⟩
      simp only [mu_I_sI, gI_sN, true_and, if_true, six]
    · rw [N_T (by omega), N_N (by omega), gI_o (by omega), gI_o (by omega), gI_o (by omega), gI_o (by omega), gI_o (by omega), gI_o (by omega), N_I (by omega), N_R (by omega)]; exact h6 j (by omega)
theorem oi3 : (Int32.ofInt 3).toNatClampNeg = 3 := by decide
theorem oi4 : (Int32.ofInt 4).toNatClampNeg = 4 := by decide
theorem oi5 : (Int32.ofInt 5).toNatClampNeg = 5 := by decide
theorem oi6 : (Int32.ofInt 6).toNatClampNeg = 6 := by decide
theorem oi8 : (Int32.ofInt 8).toNatClampNeg = 8 := by decide
theorem oi14 : (Int32.ofInt 14).toNatClampNeg = 14 := by decide
theorem oi20 : (Int32.ofInt 20).toNatClampNeg = 20 := by decide
theorem oi24 : (Int32.ofInt 24).toNatClampNeg = 24 := by decide
theorem oi60 : (Int32.ofInt 60).toNatClampNeg = 60 := by decide
theorem oi64 : (Int32.ofInt 64).toNatClampNeg = 64 := by decide
theorem oi96 : (Int32.ofInt 96).toNatClampNeg = 96 := by decide
theorem oi100 : (Int32.ofInt 100).toNatClampNeg = 100 := by decide
theorem oi120 : (Int32.ofInt 120).toNatClampNeg = 120 := by decide
theorem oi128 : (Int32.ofInt 128).toNatClampNeg = 128 := by decide
theorem oi808 : (Int32.ofInt 808).toNatClampNeg = 808 := by decide
theorem oi968 : (Int32.ofInt 968).toNatClampNeg = 968 := by decide
theorem oi3470 : (Int32.ofInt 3470).toNatClampNeg = 3470 := by decide
theorem mi_b {p : Nat} (h : p < 100000) : mu_in (nI p) 100000 := mu_in_n h (by omega)
theorem mi3 : mu_in (3 : Int32) 100000 := mi_b (p := 3) (by decide)
theorem mi4 : mu_in (4 : Int32) 100000 := mi_b (p := 4) (by decide)
theorem mi5 : mu_in (5 : Int32) 100000 := mi_b (p := 5) (by decide)
theorem mi6 : mu_in (6 : Int32) 100000 := mi_b (p := 6) (by decide)
theorem mi8 : mu_in (8 : Int32) 100000 := mi_b (p := 8) (by decide)
theorem mi14 : mu_in (14 : Int32) 100000 := mi_b (p := 14) (by decide)
theorem mi20 : mu_in (20 : Int32) 100000 := mi_b (p := 20) (by decide)
theorem mi24 : mu_in (24 : Int32) 100000 := mi_b (p := 24) (by decide)
theorem mi60 : mu_in (60 : Int32) 100000 := mi_b (p := 60) (by decide)
theorem mi64 : mu_in (64 : Int32) 100000 := mi_b (p := 64) (by decide)
theorem mi96 : mu_in (96 : Int32) 100000 := mi_b (p := 96) (by decide)
theorem mi100 : mu_in (100 : Int32) 100000 := mi_b (p := 100) (by decide)
theorem mi120 : mu_in (120 : Int32) 100000 := mi_b (p := 120) (by decide)
theorem mi128 : mu_in (128 : Int32) 100000 := mi_b (p := 128) (by decide)
theorem mi808 : mu_in (808 : Int32) 100000 := mi_b (p := 808) (by decide)
theorem mi968 : mu_in (968 : Int32) 100000 := mi_b (p := 968) (by decide)
theorem mi3470 : mu_in (3470 : Int32) 100000 := mi_b (p := 3470) (by decide)
theorem aw_L (h : aw_P a g0 F c D f i u g) {L : Nat × Nat} {n n' : Nat} (en : n' = n) (h1 : a + 1 + i + 1 ≤ L.1) (h2 : mu_S g0 + (u + n) ≤ L.2) : mu_X g + 1 ≤ L.1 ∧ mu_S g + n' ≤ L.2 := by
  rw [aw_X h, aw_S h, en]; omega
end Al
