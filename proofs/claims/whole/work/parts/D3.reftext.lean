/-! CLIENTS: the reference's text: the public call -/
def psT (w : mu_O) (d : Nat) (L : Nat × Nat) (Q : Option Value → mu_H → Prop) (y : Nat) (g : mu_H) : Prop := mu_T g y = 12 ∧ mu_callI w mm_X11_key d L [.ref y] g (fun x3 g2 => (x3 < 0 → (((0 : Int32) = 0 → (mu_T g2 y = 12 ∧ (((0 : Int32) = 0 → Q (some (.int (-1 : Int32))) (mu_sI g2 y 21 (0 : Int32))) ∧ (¬ ((0 : Int32) = 0) → Q (some (.int x3)) (mu_sI g2 y 21 (0 : Int32)))))) ∧ (¬ ((0 : Int32) = 0) → (mu_T g2 y = 12 ∧ mu_callV w mm_X11_next d L [.ref y] g2 (fun g4 => mu_T g4 y = 12 ∧ mu_callI w mm_X11_either d L [.ref y, .int x3] g4 (fun x6 g5 => (x6 = 0 → (mu_T g5 y = 12 ∧ (((0 : Int32) = 0 → Q (some (.int (-1 : Int32))) (mu_sI g5 y 21 (0 : Int32))) ∧ (¬ ((0 : Int32) = 0) → Q (some (.int x3)) (mu_sI g5 y 21 (0 : Int32)))))) ∧ (¬ (x6 = 0) → (mu_T g5 y = 12 ∧ ((¬ (mu_I g5 y 24) = 0 → (mu_T g5 y = 12 ∧ (((0 : Int32) = 0 → Q (some (.int (-1 : Int32))) (mu_sI g5 y 21 (0 : Int32))) ∧ (¬ ((0 : Int32) = 0) → Q (some (.int x3)) (mu_sI g5 y 21 (0 : Int32)))))) ∧ (¬ (¬ (mu_I g5 y 24) = 0) → (mu_T g5 y = 12 ∧ (((1 : Int32) = 0 → Q (some (.int (-1 : Int32))) (mu_sI g5 y 21 (0 : Int32))) ∧ (¬ ((1 : Int32) = 0) → Q (some (.int x3)) (mu_sI g5 y 21 (0 : Int32))))))))))))))) ∧ (¬ (x3 < 0) → (((1 : Int32) = 0 → (mu_T g2 y = 12 ∧ (((1 : Int32) = 0 → Q (some (.int (-1 : Int32))) (mu_sI g2 y 21 (0 : Int32))) ∧ (¬ ((1 : Int32) = 0) → Q (some (.int x3)) (mu_sI g2 y 21 (0 : Int32)))))) ∧ (¬ ((1 : Int32) = 0) → (mu_T g2 y = 12 ∧ mu_callV w mm_X11_next d L [.ref y] g2 (fun g7 => mu_T g7 y = 12 ∧ mu_callI w mm_X11_either d L [.ref y, .int x3] g7 (fun x9 g8 => (x9 = 0 → (mu_T g8 y = 12 ∧ (((0 : Int32) = 0 → Q (some (.int (-1 : Int32))) (mu_sI g8 y 21 (0 : Int32))) ∧ (¬ ((0 : Int32) = 0) → Q (some (.int x3)) (mu_sI g8 y 21 (0 : Int32)))))) ∧ (¬ (x9 = 0) → (mu_T g8 y = 12 ∧ ((¬ (mu_I g8 y 24) = 0 → (mu_T g8 y = 12 ∧ (((0 : Int32) = 0 → Q (some (.int (-1 : Int32))) (mu_sI g8 y 21 (0 : Int32))) ∧ (¬ ((0 : Int32) = 0) → Q (some (.int x3)) (mu_sI g8 y 21 (0 : Int32)))))) ∧ (¬ (¬ (mu_I g8 y 24) = 0) → (mu_T g8 y = 12 ∧ (((1 : Int32) = 0 → Q (some (.int (-1 : Int32))) (mu_sI g8 y 21 (0 : Int32))) ∧ (¬ ((1 : Int32) = 0) → Q (some (.int x3)) (mu_sI g8 y 21 (0 : Int32))))))))))))))))
def bsO (s : Nat → Int32) : Nat := if ntx s < 14 then 464 + 200 * ntx s else 3270
def pzW (y : Nat) : Nat → Nat → Prop := fun a k => a = y + 1 ∨ (a = y ∧ 21 ≤ k ∧ k ≤ 31)
noncomputable def pzP (y : Nat) (B : Nat → Nat) (n b : Nat) (s : Nat → Int32) (g : mu_H) (z : Int32) (g' : mu_H) : Prop := z = cif (gdA B n) (keyO B (tkA B n)) (-1) ∧ mu_f2 (pzW y) g g' ∧ mu_I g' y 21 = 0 ∧ mu_I g' y 22 = nI (stA B n).1.2.1 ∧ mu_I g' (y + 1) = rwP s b (stA B n) ∧ (gdA B n → mu_I g' y 29 = nI (stA B n).2.2.2.1 ∧ mu_I g' y 31 = nI (stA B n).2.2.2.2)
section Tx
variable {w : mu_O} {d y n b : Nat} {g g1 : mu_H} {B : Nat → Nat} {s : Nat → Int32}
theorem rw_0 {t : TK} {a v : Nat → Int32} {lv : Nat} : rwP s b (t, a, v, 0, lv) = s := funext fun i => if_neg (by dsimp only; omega)
theorem ps_tail {L : Nat × Nat} {Q : Option Value → mu_H → Prop} (hM : md_L w y g) (hb3 : b ≤ 3270) (hR : rp_M y B n b s 0 0 (tkA B n, fun _ => 0, fun _ => 0, 0, 0) g) (hL : mu_fit2 L g) (hQ : ∀ z g', pzP y B n b s g z g' → Q (some (.int z)) g') : psT w (d + 1410) L Q y g := by
  have hT := tkA_ok (B := B) (n := n)
  obtain ⟨r1, r2, ⟨r3, r4⟩, ⟨r5, r6, r7⟩, r8⟩ := id hR
  have hn := r1.1
  unfold psT
  refine ⟨md_T0 hM, mu_cI (sp_X11_key hM r1 r2 hT) hL ?_⟩
  have f21 : ∀ G : mu_H, mu_f2 (pzW y) G (mu_sI G y 21 0) := fun G => f2_sI (Or.inr ⟨rfl, by omega, by omega⟩)
  rcases key_ok (B := B) (t := tkA B n) with ek | ⟨k, k1, ek, kk⟩
  · have ng : ¬ gdA B n := fun z => z.1 ek
    have es : stA B n = (tkA B n, fun _ => 0, fun _ => 0, 0, 0) := by unfold stA; rw [cif_t ek]
    rw [ek]
    refine ⟨fun _ => ⟨fun _ => ⟨md_T0 hM, fun _ => hQ _ _ ⟨by rw [cif_f ng], f21 g, I_sI_same _ _ _ _, ?_, ?_, fun z => absurd z ng⟩, fun q => absurd rfl q⟩, fun q => absurd rfl q⟩, fun q => absurd (by decide) q⟩
    · rw [I_sI_k _ _ _ (by omega), es]; exact r2.1
    · rw [mu_I_off _ _ _ (by omega), es]; exact r8
  · have hne : ¬ keyO B (tkA B n) = -1 := by rw [ek]; exact m1_n (by omega)
    have es : stA B n = (rdA B n).2 := by unfold stA; rw [cif_f hne]
    have er : rdA B n = prs B n (nI k) 700 0 0 0 (psA B n) := by unfold rdA; rw [ek]
    have hp := psA_ok (B := B) (n := n)
    have hpos := hT.2.2.2.1 (by omega)
    rw [ek]
    refine ⟨fun q => absurd q (lt0_n (by omega)), fun _ => ⟨fun q => absurd q (by decide), fun _ => ⟨md_T0 hM, ?_⟩⟩⟩
    rw [show d + 1410 = (d + 1408) + 2 by omega]
    refine rp_nx hM hR hT (fun q => by have q2 : (tkA B n).1 = 2 := q; show (tkA B n).2.2 - (tkA B n).2.1 ≤ 4; omega) hL (fun g2 f2 R2 => ?_)
    have M2 := md_L_fr hM (f2_T f2)
    refine ⟨md_T0 M2, ?_⟩
    rw [show (d + 1408) + 2 = d + (2 * 700 + 10) by omega]
    refine mu_cIp ((rp_ok (w := w) (y := y) (n := n) (b := b) (B := B) (s0 := s) (k := k) k1 hb3 700).1 0 d 0 0 (psA B n) g2 (by omega) (by omega) (by omega) hp.1 (by omega) (by show 0 + n < _; omega) M2 R2) (f2_fit f2 hL) (fun z g3 hz _ _ => ?_)
    obtain ⟨rfl, f3, R3, o', u', R3'⟩ := hz
    rw [← er] at *
    have F3 := f2_tr f2 f3
    have M3 := md_L_fr hM (f2_T F3)
    have FF : mu_f2 (pzW y) g (mu_sI g3 y 21 0) := f2_tr (f2_mono F3 (fun a j q => by unfold prW at q; unfold pzW; omega)) (f21 g3)
    have e22 : mu_I (mu_sI g3 y 21 0) y 22 = nI (stA B n).1.2.1 := by rw [I_sI_k _ _ _ (by omega), es]; exact R3'.2.1.1
    have eR : mu_I (mu_sI g3 y 21 0) (y + 1) = rwP s b (stA B n) := by rw [mu_I_off _ _ _ (by omega), es]; exact R3'.2.2.2.2
    have e29 : mu_I (mu_sI g3 y 21 0) y 29 = nI (stA B n).2.2.2.1 := by rw [I_sI_k _ _ _ (by omega), es]; exact R3'.2.2.2.1.1
    have e31 : mu_I (mu_sI g3 y 21 0) y 31 = nI (stA B n).2.2.2.2 := by rw [I_sI_k _ _ _ (by omega), es]; exact R3'.2.2.2.1.2.2
    have no : ¬ gdA B n → Q (some (.int (-1))) (mu_sI g3 y 21 0) := fun ng => hQ _ _ ⟨by rw [cif_f ng], FF, I_sI_same _ _ _ _, e22, eR, fun z => absurd z ng⟩
    have yes : gdA B n → Q (some (.int (nI k))) (mu_sI g3 y 21 0) := fun yg => hQ _ _ ⟨by rw [cif_t yg, ek], FF, I_sI_same _ _ _ _, e22, eR, fun _ => ⟨e29, e31⟩⟩
    obtain ⟨t1, -, -⟩ := rdA_ok (B := B) hn
    have ht4 := t1.2.2.1
    have e24 : mu_I g3 y 24 = (0 : Int32) ↔ (rdA B n).2.1.1 = 0 := by
      rw [R3'.2.1.2.2.1]
      have : tkm (rdA B n).2.1 ≤ 4 ∧ (tkm (rdA B n).2.1 = 0 ↔ (rdA B n).2.1.1 = 0) := by unfold tkm; split <;> omega
      exact (nI_eq (b := 0) (by omega) (by decide)).trans this.2
    rw [cI_0, e24]
    refine ⟨fun q => ⟨md_T0 M3, fun _ => no (fun z => q z.2.1), fun q2 => absurd rfl q2⟩, fun q => ⟨md_T0 M3, fun q0 => ⟨md_T0 M3, fun _ => no (fun z => q0 z.2.2), fun q2 => absurd rfl q2⟩, fun q0 => ⟨md_T0 M3, fun q2 => absurd q2 (by decide), fun _ => yes ⟨hne, Classical.not_not.mp q, Classical.not_not.mp q0⟩⟩⟩⟩
theorem sp_X11_parse (hM : md_L w y g) (hB : tb_M y B n g) (hs : mu_I g (y + 1) = s) (hc : wf_c s) : mu_mp w mm_X11_parse (d + 1411) [.ref y] g (fun r g' => ∃ z, r = some (.int z) ∧ pzP y B n (bsO s) s g z g') := by
  refine mu_mkp mk_X11_parse rfl (fun L hL Q hQ => fm_X11_parse_0 ?_)
  have hb := wc_b hc
  have hn := hB.1
  have f6 : mu_f2 (pzW y) g (mu_sI (mu_sI (mu_sI (mu_sI (mu_sI (mu_sI g y 23 (0 : Int32)) y 24 (3 : Int32)) y 27 (0 : Int32)) y 28 (0 : Int32)) y 29 (0 : Int32)) y 31 (0 : Int32)) := f2_tr (f2_tr (f2_tr (f2_tr (f2_tr (f2_sI (Or.inr ⟨rfl, by omega, by omega⟩)) (f2_sI (Or.inr ⟨rfl, by omega, by omega⟩))) (f2_sI (Or.inr ⟨rfl, by omega, by omega⟩))) (f2_sI (Or.inr ⟨rfl, by omega, by omega⟩))) (f2_sI (Or.inr ⟨rfl, by omega, by omega⟩))) (f2_sI (Or.inr ⟨rfl, by omega, by omega⟩))
  have c23 : mu_I (mu_sI (mu_sI (mu_sI (mu_sI (mu_sI (mu_sI g y 23 (0 : Int32)) y 24 (3 : Int32)) y 27 (0 : Int32)) y 28 (0 : Int32)) y 29 (0 : Int32)) y 31 (0 : Int32)) y 23 = 0 := by simp (disch := omega) only [I_sI_k, I_sI_same]
  have c24 : mu_I (mu_sI (mu_sI (mu_sI (mu_sI (mu_sI (mu_sI g y 23 (0 : Int32)) y 24 (3 : Int32)) y 27 (0 : Int32)) y 28 (0 : Int32)) y 29 (0 : Int32)) y 31 (0 : Int32)) y 24 = 3 := by simp (disch := omega) only [I_sI_k, I_sI_same]
  have c27 : mu_I (mu_sI (mu_sI (mu_sI (mu_sI (mu_sI (mu_sI g y 23 (0 : Int32)) y 24 (3 : Int32)) y 27 (0 : Int32)) y 28 (0 : Int32)) y 29 (0 : Int32)) y 31 (0 : Int32)) y 27 = 0 := by simp (disch := omega) only [I_sI_k, I_sI_same]
  have c28 : mu_I (mu_sI (mu_sI (mu_sI (mu_sI (mu_sI (mu_sI g y 23 (0 : Int32)) y 24 (3 : Int32)) y 27 (0 : Int32)) y 28 (0 : Int32)) y 29 (0 : Int32)) y 31 (0 : Int32)) y 28 = 0 := by simp (disch := omega) only [I_sI_k, I_sI_same]
  have c29 : mu_I (mu_sI (mu_sI (mu_sI (mu_sI (mu_sI (mu_sI g y 23 (0 : Int32)) y 24 (3 : Int32)) y 27 (0 : Int32)) y 28 (0 : Int32)) y 29 (0 : Int32)) y 31 (0 : Int32)) y 29 = 0 := by simp (disch := omega) only [I_sI_k, I_sI_same]
  have c31 : mu_I (mu_sI (mu_sI (mu_sI (mu_sI (mu_sI (mu_sI g y 23 (0 : Int32)) y 24 (3 : Int32)) y 27 (0 : Int32)) y 28 (0 : Int32)) y 29 (0 : Int32)) y 31 (0 : Int32)) y 31 = 0 := I_sI_same _ _ _ _
  have c1 : mu_I (mu_sI (mu_sI (mu_sI (mu_sI (mu_sI (mu_sI g y 23 (0 : Int32)) y 24 (3 : Int32)) y 27 (0 : Int32)) y 28 (0 : Int32)) y 29 (0 : Int32)) y 31 (0 : Int32)) (y + 1) = s := by simp (disch := omega) only [mu_I_off]; exact hs
  have c21 : tb_M y B n (mu_sI (mu_sI (mu_sI (mu_sI (mu_sI (mu_sI g y 23 (0 : Int32)) y 24 (3 : Int32)) y 27 (0 : Int32)) y 28 (0 : Int32)) y 29 (0 : Int32)) y 31 (0 : Int32)) := ⟨hn, by simp (disch := omega) only [I_sI_k]; exact hB.2.1, fun i hi => ⟨(hB.2.2 i hi).1, by simp (disch := omega) only [I_sI_a]; exact (hB.2.2 i hi).2⟩⟩
  have hL6 : mu_fit2 L (mu_sI (mu_sI (mu_sI (mu_sI (mu_sI (mu_sI g y 23 (0 : Int32)) y 24 (3 : Int32)) y 27 (0 : Int32)) y 28 (0 : Int32)) y 29 (0 : Int32)) y 31 (0 : Int32)) := hL
  have M6 := md_L_fr hM (f2_T f6)
  have g1 : mu_R g y 0 = y + 1 := md_R0 hM
  refine ⟨md_T0 hM, md_T0 hM, md_T0 hM, md_T0 hM, md_T0 hM, md_T0 hM, md_T0 hM, by rw [g1]; exact md_T1 hM, by rw [g1, md_N1 hM]; exact mu_in_n (p := 3) (by decide) (by decide), ?_⟩
  rw [g1, c1, wc_3 hc]
  generalize mu_sI (mu_sI (mu_sI (mu_sI (mu_sI (mu_sI g y 23 (0 : Int32)) y 24 (3 : Int32)) y 27 (0 : Int32)) y 28 (0 : Int32)) y 29 (0 : Int32)) y 31 (0 : Int32) = G at *
  have e14 : (14 : Int32) ≤ nI (ntx s) ↔ 14 ≤ ntx s := nI_leI (a := 14) (by decide) (by omega)
  have tail : ∀ v : Int32, v = nI (bsO s) → mu_callV w mm_X11_next (d + 1410) L [.ref y] (mu_sI G y 30 v) (psT w (d + 1410) L Q y) := fun v hv => by
    have f7 : mu_f2 (pzW y) G (mu_sI G y 30 v) := f2_sI (Or.inr ⟨rfl, by omega, by omega⟩)
    have F7 := f2_tr f6 f7
    have M7 := md_L_fr hM (f2_T F7)
    have o7 : ∀ k, k ≠ 30 → mu_I (mu_sI G y 30 v) y k = mu_I G y k := fun k hk => I_sI_k _ _ _ hk
    have B7 : tb_M y B n (mu_sI G y 30 v) := ⟨hn, by rw [o7 21 (by omega)]; exact c21.2.1, fun i hi => ⟨(c21.2.2 i hi).1, by rw [I_sI_a _ _ _ _ (by omega)]; exact (c21.2.2 i hi).2⟩⟩
    rw [show d + 1410 = (d + 1408) + 2 by omega]
    refine mu_cVp (sp_X11_nextG (t := (3, 0, 0)) M7 B7 (by rw [o7 23 (by omega)]; exact c23) (by rw [o7 24 (by omega)]; exact c24) (Nat.zero_le _) (by omega) (by omega)) (f2_fit F7 hL) (fun g2 h2 _ _ => ?_)
    obtain ⟨f8, tk⟩ := h2
    rw [nxt_30] at tk
    have F8 : mu_f2 (pzW y) g g2 := f2_tr F7 (f2_mono f8 (fun a j q => by unfold nxW at q; unfold pzW; omega))
    have M8 := md_L_fr hM (f2_T F8)
    have o8 : ∀ k, 27 ≤ k → mu_I g2 y k = mu_I (mu_sI G y 30 v) y k := fun k hk => f8.2.2.2.2.2 _ _ (by unfold nxW; omega)
    have R8 : rp_M y B n (bsO s) s 0 0 (tkA B n, fun _ => 0, fun _ => 0, 0, 0) g2 := ⟨tm_f2 B7 f8 (by unfold nxW; omega) (fun k => by unfold nxW; omega), tk, ⟨by rw [o8 27 (by omega), o7 27 (by omega)]; exact c27, by rw [o8 28 (by omega), o7 28 (by omega)]; exact c28⟩, ⟨by rw [o8 29 (by omega), o7 29 (by omega)]; exact c29, by rw [o8 30 (by omega), I_sI_same]; exact hv, by rw [o8 31 (by omega), o7 31 (by omega)]; exact c31⟩, by rw [f2_I f8 (fun k => by unfold nxW; omega), mu_I_off _ _ _ (by omega), c1, rw_0]⟩
    have hbs : bsO s ≤ 3270 := by unfold bsO; split <;> omega
    exact ps_tail (d := d) M8 hbs R8 (f2_fit F8 hL) (fun z g' hz => hQ _ _ ⟨_, rfl, hz.1, f2_tr F8 hz.2.1, hz.2.2⟩ (by rw [hz.2.1.2.2.2.1, F8.2.2.2.1]) (by rw [hz.2.1.2.2.2.2.1, F8.2.2.2.2.1]))
  rw [e14]
  refine ⟨fun q => ⟨md_T0 hM, md_T0 hM, tail _ (by unfold bsO; rw [if_neg (by omega)]; rfl)⟩, fun q => ⟨md_T0 hM, md_T1 hM, by rw [md_N1 hM]; exact mu_in_n (p := 3) (by decide) (by decide), md_T0 hM, mu_cI sp_X11_textAt hL6 ⟨md_T0 M6, md_T0 M6, tail _ ?_⟩⟩⟩
  unfold bsO
  rw [if_pos (by omega), li_n 460, li_n 200, pk_mul, nI_add, show (4 : Int32) = nI 4 from rfl, nI_add]
  congr 1
  omega
end Tx
