/-! CLIENTS: heaps that may grow: what is there stays -/
def mu_ft (A B : Nat → Prop) (g g' : mu_H) : Prop := ∀ z, mu_T g z ≠ 0 → mu_T g' z = mu_T g z ∧ mu_N g' z = mu_N g z ∧ (¬ A z → mu_I g' z = mu_I g z) ∧ (¬ B z → mu_R g' z = mu_R g z)
section Ft
variable {w : mu_O} {A B A' B' : Nat → Prop} {g g1 g2 : mu_H} {b x y E : Nat} {s : Nat → Int32}
theorem ft_fw (h : mu_fw A B g g1) : mu_ft A B g g1 := fun z _ => ⟨by rw [h.1], by rw [h.2.1], h.2.2.2.2.2 z, h.2.2.1 z⟩
theorem ft_mono (h : mu_ft A B g g1) (h1 : ∀ a, A a → A' a) (h2 : ∀ a, B a → B' a) : mu_ft A' B' g g1 := fun z hz => ⟨(h z hz).1, (h z hz).2.1, fun q => (h z hz).2.2.1 (fun r => q (h1 z r)), fun q => (h z hz).2.2.2 (fun r => q (h2 z r))⟩
theorem ft_tr (h1 : mu_ft A B g g1) (h2 : mu_ft A B g1 g2) : mu_ft A B g g2 := fun z hz => by
  obtain ⟨a1, a2, a3, a4⟩ := h1 z hz
  obtain ⟨b1, b2, b3, b4⟩ := h2 z (by rw [a1]; exact hz)
  exact ⟨b1.trans a1, b2.trans a2, fun q => (b3 q).trans (a3 q), fun q => (b4 q).trans (a4 q)⟩
theorem ft_T (h : mu_ft A B g g1) {z k : Nat} (e : mu_T g z = k + 1) : mu_T g1 z = k + 1 := by rw [(h z (by omega)).1]; exact e
theorem ft_N (h : mu_ft A B g g1) {z k n : Nat} (e : mu_T g z = k + 1) (e2 : mu_N g z = n) : mu_N g1 z = n := by rw [(h z (by omega)).2.1]; exact e2
theorem ft_I (h : mu_ft A B g g1) {z k : Nat} (e : mu_T g z = k + 1) (q : ¬ A z) : mu_I g1 z = mu_I g z := (h z (by omega)).2.2.1 q
theorem ft_R (h : mu_ft A B g g1) {z k : Nat} (e : mu_T g z = k + 1) (q : ¬ B z) : mu_R g1 z = mu_R g z := (h z (by omega)).2.2.2 q
theorem ft_nw {c lv r : Nat} {key : Int32} (hZ : ∀ z, mu_X g ≤ z → mu_T g z = 0) (h : nwT (mu_X g) c lv key r g g1) : mu_ft A B g g1 := fun z hz => by
  have : z < mu_X g := by
    by_cases q : z < mu_X g
    · exact q
    · exact absurd (hZ z (by omega)) hz
  obtain ⟨a1, a2, a3, a4⟩ := h.1 z (by omega) (by omega) (by omega)
  exact ⟨a1, a2, fun _ => a3, fun _ => a4⟩
theorem sc_ft (hS : sc_L w b g) (h : mu_ft A B g g1) (hB : ∀ a, B a → a < b ∨ b + 41 ≤ a ∨ a = b + 5) (h5 : ∀ i, i < 14 → mu_R g1 (b + 5) i = 0 ∨ mu_T g1 (mu_R g1 (b + 5) i) = 10) : sc_L w b g1 := by
  have nB : ∀ k, k < 41 → k ≠ 5 → ¬ B (b + k) := fun k h1 h2 q => by have := hB _ q; omega
  obtain ⟨h0, hT, hR, ⟨p1, p2, p3⟩, ⟨m1, m2, m3⟩, hk, ⟨t1, t2, t3⟩, ⟨l1, l2, l3⟩, hp, hm⟩ := hS
  refine ⟨h0, ft_T h hT, fun k q => ?_, ⟨ft_T h p1, ft_N h p1 p2, fun i q => ?_⟩, ⟨ft_T h m1, ft_N h m1 m2, fun i q => ?_⟩, fun k q => ⟨ft_T h (hk k q).1, ft_N h (hk k q).1 (hk k q).2⟩, ⟨ft_T h t1, ft_N h t1 t2, h5⟩, ⟨ft_T h l1, ?_, ?_⟩, fun i q => ft_T h (hp i q), fun i q => ft_T h (hm i q)⟩
  · rw [ft_R h hT (nB 0 (by omega) (by omega))]; exact hR k q
  · rw [ft_R h p1 (nB 1 (by omega) (by omega))]; exact p3 i q
  · rw [ft_R h m1 (nB 2 (by omega) (by omega))]; exact m3 i q
  · rw [ft_R h l1 (nB 10 (by omega) (by omega))]; exact l2
  · rw [ft_R h l1 (nB 10 (by omega) (by omega))]; exact l3
theorem sc_ft0 (hS : sc_L w b g) (h : mu_ft A B g g1) (hB : ∀ a, B a → a < b ∨ b + 41 ≤ a) : sc_L w b g1 := sc_ft hS h (fun a q => by have := hB a q; omega) (fun i hi => by
  rw [ft_R h (sc_T5 hS) (fun q => by have := hB _ q; omega)]
  exact (sc_RX hS hi).imp id (fun q => ft_T h q))
theorem tx_ft {a t : Nat} (hx : tx_R w E g a s t) (h : mu_ft A B g g1) (hA : ∀ a, A a → E ≤ a → jU E a) (hB : ∀ a, B a → a < E) : tx_R w E g1 a s t := by
  obtain ⟨b1, b2, b3, b4, b5, b6, b7, b8, b9, b10, b11, b12⟩ := hx
  have eI : mu_I g1 a = mu_I g a := ft_I h b1 (fun q => b2.2.1 (hA a q b2.2.2.1))
  have eR : mu_R g1 a = mu_R g a := ft_R h b1 (fun q => by have := hB a q; have := b2.2.2.1; omega)
  have eC : mu_I g1 (mu_R g a 2) = mu_I g (mu_R g a 2) := ft_I h b5 (fun q => b6 (hA _ q b2.2.2.2))
  unfold tx_R
  rw [eI, eR, eC]
  exact ⟨ft_T h b1, b2, b3, b4, ft_T h b5, b6, ft_N h b5 b7, b8, ft_T h b9, b10, b11, ft_N h b9 b12⟩
theorem sv_ft (hV : sc_V w E b s g) (hS : sc_L w b g) (hc : wf_c s) (h : mu_ft A B g g1) (hA : ∀ a, A a → a < b ∨ (b + 41 ≤ a ∧ a < E) ∨ jU E a) (hB : ∀ a, B a → a < b ∨ (b + 41 ≤ a ∧ a < E)) : sc_V w E b s g1 := by
  have hb := wc_b hc
  have hE := sv_E hV
  have nA : ∀ k, k < 41 → ¬ A (b + k) := fun k hk q => by have := hA _ q; unfold jU at this; omega
  have tA : ∀ a, A a → E ≤ a → jU E a := fun a q hq => by have := hA a q; unfold jU at *; omega
  have tB : ∀ a, B a → a < E := fun a q => by have := hB a q; omega
  obtain ⟨v0, ⟨a0, a1, a2, a3, a4, a5, a6, a7, a8, a9⟩, v2, v3, v4, v5, v6, v7, v8, v9⟩ := hV
  have e0 : mu_I g1 b = mu_I g b := ft_I h (sc_T hS) (nA 0 (by omega))
  have e10 : mu_I g1 (b + 10) = mu_I g (b + 10) := ft_I h (sc_T10 hS) (nA _ (by omega))
  have e3 : mu_I g1 (b + 3) = mu_I g (b + 3) := ft_I h (sc_T3 hS) (nA _ (by omega))
  have e4 : mu_I g1 (b + 4) = mu_I g (b + 4) := ft_I h (sc_T4 hS) (nA _ (by omega))
  have e6 : mu_I g1 (b + 6) = mu_I g (b + 6) := ft_I h (sc_T6 hS) (nA _ (by omega))
  have e7 : mu_I g1 (b + 7) = mu_I g (b + 7) := ft_I h (sc_T7 hS) (nA _ (by omega))
  have e8 : mu_I g1 (b + 8) = mu_I g (b + 8) := ft_I h (sc_T8 hS) (nA _ (by omega))
  have e9 : mu_I g1 (b + 9) = mu_I g (b + 9) := ft_I h (sc_T9 hS) (nA _ (by omega))
  have e11 : mu_I g1 (b + 11) = mu_I g (b + 11) := ft_I h (sc_T11 hS) (nA _ (by omega))
  have r5 : mu_R g1 (b + 5) = mu_R g (b + 5) := ft_R h (sc_T5 hS) (fun q => by have := hB _ q; omega)
  unfold sc_V
  rw [e0, e10, e3, e4, e6, e7, e8, e9, e11, r5]
  refine ⟨v0, ⟨a0, a1, a2, a3, a4, a5, a6, a7, a8, a9⟩, fun p f hp hf => ?_, fun m f hm hf => ?_, v4, fun t ht => tx_ft (v5 t ht) h tA tB, v6, v7, v8, v9⟩
  · rw [ft_I h (sc_TP hS (by omega)) (by rw [show b + 13 + p = b + (13 + p) by omega]; exact nA _ (by omega))]; exact v2 p f hp hf
  · rw [ft_I h (sc_TM hS (by omega)) (by rw [show b + 21 + m = b + (21 + m) by omega]; exact nA _ (by omega))]; exact v3 m f hm hf
theorem cl_ft (hC : cl_L w x g) (h : mu_ft A B g g1) (hB : ∀ a, B a → a = x + 6 ∨ a = x + 47 ∨ a = x + 88) (h1 : sc_L w (x + 1) g1) (h2 : sc_L w (x + 42) g1) (h3 : sc_L w (x + 83) g1) : cl_L w x g1 := by
  have nB : ∀ a, a ≠ x + 6 → a ≠ x + 47 → a ≠ x + 88 → ¬ B a := fun a q1 q2 q3 q => by have := hB a q; omega
  obtain ⟨k1, k2, k3, k4, k5, k6, k7, k8, k9, k10, k11, k12⟩ := hC
  refine ⟨⟨k1.1, ft_T h k1.2⟩, by rw [ft_R h k1.2 (nB x (by omega) (by omega) (by omega))]; exact k2, ⟨h1, h2, h3⟩, ?_, ?_, ⟨ft_T h k6.1, ft_N h k6.1 k6.2⟩, ?_, ⟨ft_T h k8.1, ft_N h k8.1 k8.2⟩, ?_, ?_, fun i hi => ?_, fun i hi => ?_⟩
  · obtain ⟨b, hb⟩ := k4
    obtain ⟨p1, p2, p3, p4, p5, p6, p7⟩ := hb
    exact ⟨b, p1, ft_T h p2, by rw [ft_R h p2 (nB _ (by omega) (by omega) (by omega))]; exact p3, ⟨ft_T h p4.1, ft_N h p4.1 p4.2⟩, ⟨ft_T h p5.1, ft_N h p5.1 p5.2⟩, ⟨ft_T h p6.1, ft_N h p6.1 p6.2⟩, ⟨ft_T h p7.1, ft_N h p7.1 p7.2⟩⟩
  · obtain ⟨p1, p2, p3, p4, p5, p6, p7, p8⟩ := k5
    have e : mu_R g1 (x + 129) = mu_R g (x + 129) := ft_R h p2 (nB _ (by omega) (by omega) (by omega))
    unfold sh_L
    rw [e]
    exact ⟨p1, ft_T h p2, p3, p4, p5, p6, ⟨ft_T h p7.1, ft_N h p7.1 p7.2⟩, ⟨ft_T h p8.1, ft_N h p8.1 p8.2⟩⟩
  · obtain ⟨p1, p2, p3, p4, p5⟩ := k7
    rw [ft_R h p1 (nB _ (by omega) (by omega) (by omega))]
    exact ⟨ft_T h p1, p2, p3, ft_T h p4, ft_N h p4 p5⟩
  · obtain ⟨p1, p2, p3⟩ := k9
    rw [ft_R h p1 (nB _ (by omega) (by omega) (by omega))]
    exact ⟨ft_T h p1, ft_N h p1 p2, p3⟩
  · obtain ⟨p1, p2, p3⟩ := k10
    rw [ft_R h p1 (nB _ (by omega) (by omega) (by omega))]
    exact ⟨ft_T h p1, ft_N h p1 p2, p3⟩
  · obtain ⟨p1, p2, p3, p4⟩ := k11 i hi
    rw [ft_R h p1 (nB _ (by omega) (by omega) (by omega))]
    exact ⟨ft_T h p1, p2, ft_T h p3, ft_N h p3 p4⟩
  · obtain ⟨p1, p2, p3, p4, p5, p6⟩ := k12 i hi
    rw [ft_R h p1 (nB _ (by omega) (by omega) (by omega)), ft_R h p3 (nB _ (by omega) (by omega) (by omega))]
    exact ⟨ft_T h p1, p2, ft_T h p3, p4, ft_T h p5, ft_N h p5 p6⟩
theorem md_ft (hM : md_L w y g) (h : mu_ft A B g g1) (hB : ¬ B y) : md_L w y g1 := by
  obtain ⟨p1, p2, p3, p4⟩ := hM
  refine ⟨p1, ft_T h p2, by rw [ft_R h p2 hB]; exact p3, fun j j1 j2 => ⟨ft_T h (p4 j j1 j2).1, ft_N h (p4 j j1 j2).1 (p4 j j1 j2).2⟩⟩
theorem st_ft (hs : st_L w g) (h : mu_ft A B g g1) (hA : ∀ a, A a → w.1 < a) : st_L w g1 := fun j hj => by
  obtain ⟨p1, p2, p3, p4⟩ := hs j hj
  rw [ft_I h p2 (fun q => by have := hA _ q; omega)]
  exact ⟨p1, ft_T h p2, ft_N h p2 p3, p4⟩
theorem str_ft (hs : str_L w g) (h : mu_ft A B g g1) (hA : ∀ a, A a → w.1 < a) (hB : ∀ a, B a → w.1 < a) : str_L w g1 := fun j hj => by
  obtain ⟨⟨p1, p2, p3⟩, p4, p5, p6, p7⟩ := hs j hj
  have eR : mu_R g1 (mu_sb w j) = mu_R g (mu_sb w j) := ft_R h p2 (fun q => by have := hB _ q; omega)
  rw [eR, ft_I h p2 (fun q => by have := hA _ q; omega), ft_I h p5 (fun q => by have := hA _ q; omega)]
  exact ⟨⟨p1, ft_T h p2, p3⟩, p4, ft_T h p5, ft_N h p5 p6, p7⟩
end Ft
