/-! CLIENTS: the reference's reading: words for it -/
def mmO : Nat → mu_M
  | 0 => mm_X11_either
  | 1 => mm_X11_both
  | 2 => mm_X11_test
  | 3 => mm_X11_sum
  | 4 => mm_X11_term
  | _ => mm_X11_part0
def tsB (w : mu_O) (d : Nat) (L : Nat × Nat) (Q : Option Value → mu_H → Prop) (y : Nat) (key : Int32) (g : mu_H) : Prop := (mu_T g y = 12 ∧ mu_callI w mm_X11_isSign d L [.ref y, .int (60 : Int32)] g (fun x4 g3 => (¬ x4 = 0 → (mu_T g3 y = 12 ∧ (mu_T g3 y = 12 ∧ mu_callV w mm_X11_next d L [.ref y] g3 (fun g5 => mu_T g5 y = 12 ∧ mu_callI w mm_X11_sum d L [.ref y, .int key] g5 (fun x7 g6 => (¬ x7 = 0 → (mu_T g6 y = 12 ∧ mu_callV w mm_X11_step d L [.ref y, .int (2 : Int32), .int (mu_I g3 y 26)] g6 (fun g8 => ((1 : Int32) = 0 ∨ (1 : Int32) = 1) ∧ Q (some (.int (1 : Int32))) g8))) ∧ (¬ (¬ x7 = 0) → (((0 : Int32) = 0 ∨ (0 : Int32) = 1) ∧ Q (some (.int (0 : Int32))) g6))))))) ∧ (¬ (¬ x4 = 0) → (mu_T g3 y = 12 ∧ mu_callI w mm_X11_isSign d L [.ref y, .int (61 : Int32)] g3 (fun x10 g9 => (¬ x10 = 0 → (mu_T g9 y = 12 ∧ (mu_T g9 y = 12 ∧ mu_callV w mm_X11_next d L [.ref y] g9 (fun g11 => mu_T g11 y = 12 ∧ mu_callI w mm_X11_sum d L [.ref y, .int key] g11 (fun x13 g12 => (¬ x13 = 0 → (mu_T g12 y = 12 ∧ mu_callV w mm_X11_step d L [.ref y, .int (2 : Int32), .int (mu_I g9 y 26)] g12 (fun g14 => ((1 : Int32) = 0 ∨ (1 : Int32) = 1) ∧ Q (some (.int (1 : Int32))) g14))) ∧ (¬ (¬ x13 = 0) → (((0 : Int32) = 0 ∨ (0 : Int32) = 1) ∧ Q (some (.int (0 : Int32))) g12))))))) ∧ (¬ (¬ x10 = 0) → (mu_T g9 y = 12 ∧ mu_callI w mm_X11_isSign d L [.ref y, .int (62 : Int32)] g9 (fun x16 g15 => (x16 = 0 → (((1 : Int32) = 0 ∨ (1 : Int32) = 1) ∧ Q (some (.int (1 : Int32))) g15)) ∧ (¬ (x16 = 0) → (mu_T g15 y = 12 ∧ (mu_T g15 y = 12 ∧ mu_callV w mm_X11_next d L [.ref y] g15 (fun g17 => mu_T g17 y = 12 ∧ mu_callI w mm_X11_sum d L [.ref y, .int key] g17 (fun x19 g18 => (¬ x19 = 0 → (mu_T g18 y = 12 ∧ mu_callV w mm_X11_step d L [.ref y, .int (2 : Int32), .int (mu_I g15 y 26)] g18 (fun g20 => ((1 : Int32) = 0 ∨ (1 : Int32) = 1) ∧ Q (some (.int (1 : Int32))) g20))) ∧ (¬ (¬ x19 = 0) → (((0 : Int32) = 0 ∨ (0 : Int32) = 1) ∧ Q (some (.int (0 : Int32))) g18)))))))))))))))
def paB (w : mu_O) (d : Nat) (L : Nat × Nat) (Q : Option Value → mu_H → Prop) (y : Nat) (key : Int32) (g : mu_H) : Prop := (mu_T g y = 12 ∧ mu_callI w mm_X11_isSign d L [.ref y, .int (40 : Int32)] g (fun x4 g3 => (x4 = 0 → (((0 : Int32) = 0 ∨ (0 : Int32) = 1) ∧ Q (some (.int (0 : Int32))) g3)) ∧ (¬ (x4 = 0) → (mu_T g3 y = 12 ∧ ((¬ (mu_I g3 y 27) = (8 : Int32) → (mu_T g3 y = 12 ∧ (mu_T g3 y = 12 ∧ (mu_T g3 y = 12 ∧ mu_callV w mm_X11_next d L [.ref y] (mu_sI g3 y 27 ((mu_I g3 y 27) + (1 : Int32))) (fun g5 => mu_T g5 y = 12 ∧ mu_callI w mm_X11_either d L [.ref y, .int key] g5 (fun x7 g6 => (x7 = 0 → (((0 : Int32) = 0 ∨ (0 : Int32) = 1) ∧ Q (some (.int (0 : Int32))) g6)) ∧ (¬ (x7 = 0) → (mu_T g6 y = 12 ∧ mu_callI w mm_X11_isSign d L [.ref y, .int (41 : Int32)] g6 (fun x9 g8 => (¬ x9 = 0 → (mu_T g8 y = 12 ∧ (mu_T g8 y = 12 ∧ (mu_T g8 y = 12 ∧ mu_callV w mm_X11_next d L [.ref y] (mu_sI g8 y 27 ((mu_I g8 y 27) - (1 : Int32))) (fun g10 => ((1 : Int32) = 0 ∨ (1 : Int32) = 1) ∧ Q (some (.int (1 : Int32))) g10))))) ∧ (¬ (¬ x9 = 0) → (((0 : Int32) = 0 ∨ (0 : Int32) = 1) ∧ Q (some (.int (0 : Int32))) g8))))))))))) ∧ (¬ (¬ (mu_I g3 y 27) = (8 : Int32)) → (((0 : Int32) = 0 ∨ (0 : Int32) = 1) ∧ Q (some (.int (0 : Int32))) g3)))))))
def npB (w : mu_O) (d : Nat) (L : Nat × Nat) (Q : Option Value → mu_H → Prop) (y : Nat) (key : Int32) (g : mu_H) : Prop := (mu_T g y = 12 ∧ mu_callI w mm_X11_isSign d L [.ref y, .int (33 : Int32)] g (fun x2 g1 => (x2 = 0 → (mu_T g1 y = 12 ∧ mu_callI w mm_X11_isSign d L [.ref y, .int (40 : Int32)] g1 (fun x4 g3 => (x4 = 0 → (((0 : Int32) = 0 ∨ (0 : Int32) = 1) ∧ Q (some (.int (0 : Int32))) g3)) ∧ (¬ (x4 = 0) → (mu_T g3 y = 12 ∧ ((¬ (mu_I g3 y 27) = (8 : Int32) → (mu_T g3 y = 12 ∧ (mu_T g3 y = 12 ∧ (mu_T g3 y = 12 ∧ mu_callV w mm_X11_next d L [.ref y] (mu_sI g3 y 27 ((mu_I g3 y 27) + (1 : Int32))) (fun g5 => mu_T g5 y = 12 ∧ mu_callI w mm_X11_either d L [.ref y, .int key] g5 (fun x7 g6 => (x7 = 0 → (((0 : Int32) = 0 ∨ (0 : Int32) = 1) ∧ Q (some (.int (0 : Int32))) g6)) ∧ (¬ (x7 = 0) → (mu_T g6 y = 12 ∧ mu_callI w mm_X11_isSign d L [.ref y, .int (41 : Int32)] g6 (fun x9 g8 => (¬ x9 = 0 → (mu_T g8 y = 12 ∧ (mu_T g8 y = 12 ∧ (mu_T g8 y = 12 ∧ mu_callV w mm_X11_next d L [.ref y] (mu_sI g8 y 27 ((mu_I g8 y 27) - (1 : Int32))) (fun g10 => ((1 : Int32) = 0 ∨ (1 : Int32) = 1) ∧ Q (some (.int (1 : Int32))) g10))))) ∧ (¬ (¬ x9 = 0) → (((0 : Int32) = 0 ∨ (0 : Int32) = 1) ∧ Q (some (.int (0 : Int32))) g8))))))))))) ∧ (¬ (¬ (mu_I g3 y 27) = (8 : Int32)) → (((0 : Int32) = 0 ∨ (0 : Int32) = 1) ∧ Q (some (.int (0 : Int32))) g3)))))))) ∧ (¬ (x2 = 0) → (mu_T g1 y = 12 ∧ (((8 : Int32) ≤ (mu_I g1 y 28) → (mu_T g1 y = 12 ∧ mu_callI w mm_X11_isSign d L [.ref y, .int (40 : Int32)] g1 (fun x12 g11 => (x12 = 0 → (((0 : Int32) = 0 ∨ (0 : Int32) = 1) ∧ Q (some (.int (0 : Int32))) g11)) ∧ (¬ (x12 = 0) → (mu_T g11 y = 12 ∧ ((¬ (mu_I g11 y 27) = (8 : Int32) → (mu_T g11 y = 12 ∧ (mu_T g11 y = 12 ∧ (mu_T g11 y = 12 ∧ mu_callV w mm_X11_next d L [.ref y] (mu_sI g11 y 27 ((mu_I g11 y 27) + (1 : Int32))) (fun g13 => mu_T g13 y = 12 ∧ mu_callI w mm_X11_either d L [.ref y, .int key] g13 (fun x15 g14 => (x15 = 0 → (((0 : Int32) = 0 ∨ (0 : Int32) = 1) ∧ Q (some (.int (0 : Int32))) g14)) ∧ (¬ (x15 = 0) → (mu_T g14 y = 12 ∧ mu_callI w mm_X11_isSign d L [.ref y, .int (41 : Int32)] g14 (fun x17 g16 => (¬ x17 = 0 → (mu_T g16 y = 12 ∧ (mu_T g16 y = 12 ∧ (mu_T g16 y = 12 ∧ mu_callV w mm_X11_next d L [.ref y] (mu_sI g16 y 27 ((mu_I g16 y 27) - (1 : Int32))) (fun g18 => ((1 : Int32) = 0 ∨ (1 : Int32) = 1) ∧ Q (some (.int (1 : Int32))) g18))))) ∧ (¬ (¬ x17 = 0) → (((0 : Int32) = 0 ∨ (0 : Int32) = 1) ∧ Q (some (.int (0 : Int32))) g16))))))))))) ∧ (¬ (¬ (mu_I g11 y 27) = (8 : Int32)) → (((0 : Int32) = 0 ∨ (0 : Int32) = 1) ∧ Q (some (.int (0 : Int32))) g11)))))))) ∧ (¬ ((8 : Int32) ≤ (mu_I g1 y 28)) → (mu_T g1 y = 12 ∧ (mu_T g1 y = 12 ∧ (mu_T g1 y = 12 ∧ mu_callV w mm_X11_next d L [.ref y] (mu_sI g1 y 28 ((mu_I g1 y 28) + (1 : Int32))) (fun g19 => mu_T g19 y = 12 ∧ mu_callI w mm_X11_part0 d L [.ref y, .int key] g19 (fun x21 g20 => (¬ x21 = 0 → (mu_T g20 y = 12 ∧ (mu_T g20 y = 12 ∧ (mu_T g20 y = 12 ∧ mu_callV w mm_X11_step d L [.ref y, .int (2 : Int32), .int (33 : Int32)] (mu_sI g20 y 28 ((mu_I g20 y 28) - (1 : Int32))) (fun g22 => ((1 : Int32) = 0 ∨ (1 : Int32) = 1) ∧ Q (some (.int (1 : Int32))) g22))))) ∧ (¬ (¬ x21 = 0) → (((0 : Int32) = 0 ∨ (0 : Int32) = 1) ∧ Q (some (.int (0 : Int32))) g20)))))))))))))
def jnF (w : mu_O) (d : Nat) (L : Nat × Nat) (Q : Option Value → mu_H → Prop) (y : Nat) (key : Int32) (mi : mu_M) (z : Int32) (K : mu_H → Prop) (g : mu_H) : Prop := mu_callV w mm_X11_next d L [.ref y] g (fun g3 => mu_T g3 y = 12 ∧ mu_callI w mi d L [.ref y, .int key] g3 (fun x5 g4 => (¬ x5 = 0 → (mu_T g4 y = 12 ∧ mu_callV w mm_X11_step d L [.ref y, .int (2 : Int32), .int z] g4 (fun g6 => K g6))) ∧ (¬ (¬ x5 = 0) → (((0 : Int32) = 0 ∨ (0 : Int32) = 1) ∧ Q (some (.int (0 : Int32))) g4))))
def lpS (w : mu_O) (d : Nat) (L : Nat × Nat) (Q : Option Value → mu_H → Prop) (y : Nat) (key : Int32) : Nat → mu_H → Prop
  | 0, g => mu_go w mm_X11_either (d + 1) L Q 10 [some (.ref y), some (.int key)] [] g
  | 1, g => mu_go w mm_X11_both (d + 1) L Q 10 [some (.ref y), some (.int key)] [] g
  | 2, g => tsB w d L Q y key g
  | 3, g => mu_go w mm_X11_sum (d + 1) L Q 10 [some (.ref y), some (.int key), none] [] g
  | _, g => mu_go w mm_X11_term (d + 1) L Q 10 [some (.ref y), some (.int key), none] [] g
/-- the row with the steps so far -/
def rwP (s0 : Nat → Int32) (b : Nat) (s : PS) : Nat → Int32 := fun i => if b ≤ i ∧ i < b + 2 * s.2.2.2.1 then (if (i - b) % 2 = 0 then s.2.1 ((i - b) / 2) else s.2.2.1 ((i - b) / 2)) else s0 i
def rp_M (y : Nat) (B : Nat → Nat) (n b : Nat) (s0 : Nat → Int32) (o u : Nat) (s : PS) (g : mu_H) : Prop := tb_M y B n g ∧ tk_M y B s.1 g ∧ (mu_I g y 27 = nI o ∧ mu_I g y 28 = nI u) ∧ (mu_I g y 29 = nI s.2.2.2.1 ∧ mu_I g y 30 = nI b ∧ mu_I g y 31 = nI s.2.2.2.2) ∧ mu_I g (y + 1) = rwP s0 b s
def prW (y : Nat) : Nat → Nat → Prop := fun a k => a = y + 1 ∨ (a = y ∧ 22 ≤ k ∧ k ≤ 31)
section Rm
variable {w : mu_O} {d y n b o u : Nat} {g g1 : mu_H} {B : Nat → Nat} {t : TK} {s : PS} {s0 : Nat → Int32} {L : Nat × Nat}
theorem rw_em {a v : Int32} : upd (upd (rwP s0 b s) (b + 2 * s.2.2.2.1) a) (b + 2 * s.2.2.2.1 + 1) v = rwP s0 b (emt s a v) := funext fun i => by
  show _ = if b ≤ i ∧ i < b + 2 * (s.2.2.2.1 + 1) then (if (i - b) % 2 = 0 then upd s.2.1 s.2.2.2.1 a ((i - b) / 2) else upd s.2.2.1 s.2.2.2.1 v ((i - b) / 2)) else s0 i
  by_cases e1 : i = b + 2 * s.2.2.2.1 + 1
  · rw [e1, pk_us, if_pos (by omega), if_neg (by omega), show (b + 2 * s.2.2.2.1 + 1 - b) / 2 = s.2.2.2.1 by omega, pk_us]
  · rw [pk_un e1]
    by_cases e2 : i = b + 2 * s.2.2.2.1
    · rw [e2, pk_us, if_pos (by omega), if_pos (by omega), show (b + 2 * s.2.2.2.1 - b) / 2 = s.2.2.2.1 by omega, pk_us]
    · rw [pk_un e2]
      unfold rwP
      by_cases h : b ≤ i ∧ i < b + 2 * s.2.2.2.1
      · rw [if_pos h, if_pos (show b ≤ i ∧ i < b + 2 * (s.2.2.2.1 + 1) by omega), pk_un (by omega), pk_un (by omega)]
      · rw [if_neg h, if_neg (by omega)]
theorem rp_nx {K : mu_H → Prop} (hM : md_L w y g) (hR : rp_M y B n b s0 o u s g) (hT : tkW B n s.1) (h5 : s.1.1 = 2 → s.1.2.2 - s.1.2.1 ≤ 4) (hL : mu_fit2 L g) (hK : ∀ g', mu_f2 (prW y) g g' → rp_M y B n b s0 o u (nx B n s) g' → K g') : mu_callV w mm_X11_next (d + 2) L [.ref y] g K := by
  obtain ⟨r1, r2, ⟨r3, r4⟩, ⟨r5, r6, r7⟩, r8⟩ := hR
  refine mu_cVp (sp_X11_next hM r1 r2 hT h5) hL (fun g' h _ _ => ?_)
  obtain ⟨f, t⟩ := h
  have o' : ∀ k, 27 ≤ k → mu_I g' y k = mu_I g y k := fun k hk => f.2.2.2.2.2 _ _ (by unfold nxW; omega)
  exact hK g' (f2_mono f (fun a k q => Or.inr ⟨q.1, q.2.1, by have := q.2.2; omega⟩)) ⟨tm_f2 r1 f (by unfold nxW; omega) (fun k => by unfold nxW; omega), t, ⟨by rw [o' 27 (by omega)]; exact r3, by rw [o' 28 (by omega)]; exact r4⟩, ⟨by rw [o' 29 (by omega)]; exact r5, by rw [o' 30 (by omega)]; exact r6, by rw [o' 31 (by omega)]; exact r7⟩, by rw [f2_I f (fun k => by unfold nxW; omega)]; exact r8⟩
theorem rp_st {K : mu_H → Prop} {a v : Int32} (hM : md_L w y g) (hR : rp_M y B n b s0 o u s g) (hc : s.2.2.2.1 < 96) (hb : b ≤ 3270) (hL : mu_fit2 L g) (hK : ∀ g', mu_f2 (prW y) g g' → rp_M y B n b s0 o u (emt s a v) g' → K g') : mu_callV w mm_X11_step d L [.ref y, .int a, .int v] g K := by
  obtain ⟨r1, r2, ⟨r3, r4⟩, ⟨r5, r6, r7⟩, r8⟩ := hR
  have hw1 := md_wj hM 1
  have hM' : mu_met w mm_X11_step d [.ref y, .int a, .int v] g none (mu_sI (mu_sI (mu_sI g (y + 1) (b + 2 * s.2.2.2.1) a) (y + 1) (b + 2 * s.2.2.2.1 + 1) v) y 29 (nI (s.2.2.2.1 + 1))) := by
    refine mu_mk mk_X11_step rfl rfl rfl (fun L hL Q hQ => fm_X11_step_0 ?_)
    have e1 : (nI b : Int32) + 2 * nI s.2.2.2.1 = nI (b + 2 * s.2.2.2.1) := by rw [li_n 2, pk_mul, nI_add]
    have e2 : (nI (b + 2 * s.2.2.2.1) : Int32) + 1 = nI (b + 2 * s.2.2.2.1 + 1) := nI_add _ 1
    rw [md_T0 hM, md_R0 hM, md_T1 hM, md_N1 hM, I_sI_a _ _ _ _ (by omega), I_sI_a _ _ _ _ (by omega), r5, r6, e1, e2, nI_clamp (by omega), nI_clamp (by omega), I_sI_a _ _ _ _ (by omega), I_sI_a _ _ _ _ (by omega), r5, show (nI s.2.2.2.1 : Int32) + 1 = nI (s.2.2.2.1 + 1) from nI_add _ 1]
    exact ⟨rfl, rfl, rfl, hw1, rfl, mu_in_n (by omega) (by omega), rfl, rfl, rfl, hw1, rfl, mu_in_n (by omega) (by omega), rfl, rfl, hQ⟩
  have f : mu_f2 (prW y) g (mu_sI (mu_sI (mu_sI g (y + 1) (b + 2 * s.2.2.2.1) a) (y + 1) (b + 2 * s.2.2.2.1 + 1) v) y 29 (nI (s.2.2.2.1 + 1))) := f2_tr (f2_tr (f2_sI (Or.inl rfl)) (f2_sI (Or.inl rfl))) (f2_sI (Or.inr ⟨rfl, by omega, by omega⟩))
  refine mu_cV hM' hL (hK _ f ?_)
  have o' : ∀ k, k ≠ 29 → mu_I (mu_sI (mu_sI (mu_sI g (y + 1) (b + 2 * s.2.2.2.1) a) (y + 1) (b + 2 * s.2.2.2.1 + 1) v) y 29 (nI (s.2.2.2.1 + 1))) y k = mu_I g y k := fun k hk => by rw [I_sI_k _ _ _ hk, I_sI_a _ _ _ _ (by omega), I_sI_a _ _ _ _ (by omega)]
  refine ⟨tm_f2 r1 f (by unfold prW; omega) (fun k => by unfold prW; omega), ?_, ⟨by rw [o' 27 (by omega)]; exact r3, by rw [o' 28 (by omega)]; exact r4⟩, ⟨I_sI_same _ _ _ _, by rw [o' 30 (by omega)]; exact r6, by rw [o' 31 (by omega)]; exact r7⟩, ?_⟩
  · unfold tk_M
    rw [o' 22 (by omega), o' 23 (by omega), o' 24 (by omega), o' 25 (by omega), o' 26 (by omega)]
    exact r2
  · rw [mu_I_off _ _ _ (by omega), mu_I_upd, mu_I_upd, r8]
    exact rw_em
theorem rp_set {o' u' : Nat} {k : Nat} {v : Int32} (hR : rp_M y B n b s0 o u s g) (hk : k = 27 ∨ k = 28 ∨ k = 31) (h27 : (if k = 27 then v else nI o) = nI o') (h28 : (if k = 28 then v else nI u) = nI u') (lv : Nat) (h31 : (if k = 31 then v else nI s.2.2.2.2) = nI lv) : rp_M y B n b s0 o' u' (s.1, s.2.1, s.2.2.1, s.2.2.2.1, lv) (mu_sI g y k v) := by
  obtain ⟨r1, r2, ⟨r3, r4⟩, ⟨r5, r6, r7⟩, r8⟩ := hR
  have f : mu_f2 (prW y) g (mu_sI g y k v) := f2_sI (Or.inr ⟨rfl, by omega, by omega⟩)
  have c : ∀ j, mu_I (mu_sI g y k v) y j = if k = j then v else mu_I g y j := fun j => by
    by_cases e : k = j
    · rw [if_pos e, ← e, I_sI_same]
    · rw [if_neg e, I_sI_k _ _ _ (Ne.symm e)]
  refine ⟨tm_f2 r1 f (by unfold prW; omega) (fun k => by unfold prW; omega), ?_, ⟨by rw [c, r3]; exact h27, by rw [c, r4]; exact h28⟩, ⟨by rw [c, if_neg (by omega)]; exact r5, by rw [c, if_neg (by omega)]; exact r6, by rw [c, r7]; exact h31⟩, by rw [mu_I_off _ _ _ (by omega)]; exact r8⟩
  unfold tk_M
  rw [c, c, c, c, c, if_neg (by omega), if_neg (by omega), if_neg (by omega), if_neg (by omega), if_neg (by omega)]
  exact r2
theorem sp_X11_isNameP {k c : Nat} (hk : k < 3) (hc : c < 128) : mu_met w mm_X11_isName d [.int (nI k), .int (nI c)] g (some (.int (cI (c ∈ tx_let (nI k))))) g := by
  refine mu_mk mk_X11_isName rfl rfl rfl (fun L hL Q hQ => fm_X11_isName_0 ?_)
  have h0 := cq hQ
  clear hQ
  have e : ∀ z : Nat, z < 128 → (nI c = nI z ↔ c = z) := fun z hz => nI_eq (by omega) (by omega)
  have e115 : nI c = (115 : Int32) ↔ c = 115 := e 115 (by decide)
  have e116 : nI c = (116 : Int32) ↔ c = 116 := e 116 (by decide)
  have e119 : nI c = (119 : Int32) ↔ c = 119 := e 119 (by decide)
  have e107 : nI c = (107 : Int32) ↔ c = 107 := e 107 (by decide)
  have e98 : nI c = (98 : Int32) ↔ c = 98 := e 98 (by decide)
  have e97 : nI c = (97 : Int32) ↔ c = 97 := e 97 (by decide)
  have e110 : nI c = (110 : Int32) ↔ c = 110 := e 110 (by decide)
  rw [nI_toInt (by omega), e115, e116, e119, e107, e98, e97, e110]
  rcases (show k = 0 ∨ k = 1 ∨ k = 2 by omega) with rfl | rfl | rfl
  · have hm : c ∈ tx_let (nI 0) ↔ c = 115 ∨ c = 116 ∨ c = 119 := by rw [show tx_let (nI 0) = [115, 116, 119] from rfl]; simp
    rw [hm] at h0
    grind
  · have hm : c ∈ tx_let (nI 1) ↔ c = 107 ∨ c = 115 ∨ c = 98 ∨ c = 97 := by rw [show tx_let (nI 1) = [107, 115, 98, 97] from rfl]; simp
    rw [hm] at h0
    grind
  · have hm : c ∈ tx_let (nI 2) ↔ c = 110 ∨ c = 115 := by rw [show tx_let (nI 2) = [110, 115] from rfl]; simp
    rw [hm] at h0
    grind
end Rm
