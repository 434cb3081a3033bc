/-! OWN SMALL MACHINE, PART 8: arrays, new cells, statics -/
section Mu10
variable {w : mu_O} {mi : mu_M} {d : Nat} {L : Nat × Nat} {Q : Option Value → mu_H → Prop} {pc : Nat} {ls : List (Option Value)} {st : List Value} {g : mu_H}
theorem mu_in_lt {j : Int32} {n : Nat} (h : mu_in j n) : ¬ j < 0 ∧ j.toNatClampNeg < n := by
  have h2 : vp_in j n := vp_in_iff.mpr h
  exact ⟨fun q => h2 (Or.inl q), Nat.not_le.mp fun q => h2 (Or.inr q)⟩
theorem mu_go_alen {a : Nat} (hd : decode (mu_mB mi) pc = .ok (.arraylength, 1)) (ht : 20 ≤ mu_T g a ∧ mu_T g a < 27) (k : mu_go w mi d L Q (pc + 1) ls (.int (Int32.ofNat (mu_N g a)) :: st) g) : mu_go w mi d L Q pc ls (.ref a :: st) g :=
  mu_lift (fun p l e R s m args below meth cd H locs cells slots S0 Qw lsA hc hy _ k => by
    obtain ⟨a, rfl⟩ := mu_succ (a := a) (t := mu_T g a - 1) hy.1 (by omega)
    obtain ⟨cell, h1, h2, -, -, h5, -⟩ := mu_arr hc.2.2.2.2.2.1.1 (hy.1.2.2.2 a) (q := mu_T g (a + 1) - 20) (by omega) (by omega)
    exact W.alen hc.1 hc.2.1 h1 h2 h5 rfl rfl hd k) k
theorem mu_go_iald {a : Nat} {j : Int32} (hd : decode (mu_mB mi) pc = .ok (.iaload, 1)) (ht : mu_T g a = 20) (hj : mu_in j (mu_N g a)) (k : mu_go w mi d L Q (pc + 1) ls (.int (mu_I g a j.toNatClampNeg) :: st) g) : mu_go w mi d L Q pc ls (.int j :: .ref a :: st) g :=
  mu_lift (fun p l e R s m args below meth cd H locs cells slots S0 Qw lsA hc hy _ k => by
    obtain ⟨a, rfl⟩ := mu_succ (t := 19) hy.1 ht
    obtain ⟨cell, h1, h2, h3, h4, h5, h6⟩ := mu_arr hc.2.2.2.2.2.1.1 (hy.1.2.2.2 a) (q := 0) (by omega) (by omega)
    have hj := mu_in_lt hj
    exact W.iald hc.1 hc.2.1 h1 h2 h3 (fun h => h.elim hj.1 (fun h => by omega)) (h6 _ hj.2) rfl rfl hd k) k
theorem mu_go_bald {a : Nat} {j : Int32} (hd : decode (mu_mB mi) pc = .ok (.baload, 1)) (ht : mu_T g a = 21) (hj : mu_in j (mu_N g a)) (k : mu_go w mi d L Q (pc + 1) ls (.int (mu_I g a j.toNatClampNeg) :: st) g) : mu_go w mi d L Q pc ls (.int j :: .ref a :: st) g :=
  mu_lift (fun p l e R s m args below meth cd H locs cells slots S0 Qw lsA hc hy _ k => by
    obtain ⟨a, rfl⟩ := mu_succ (t := 20) hy.1 ht
    obtain ⟨cell, h1, h2, h3, h4, h5, h6⟩ := mu_arr hc.2.2.2.2.2.1.1 (hy.1.2.2.2 a) (q := 1) (by omega) (by omega)
    have hj := mu_in_lt hj
    exact W.bald hc.1 hc.2.1 h1 h2 h3 (fun h => h.elim hj.1 (fun h => by omega)) (h6 _ hj.2) rfl rfl hd k) k
theorem mu_av_ref {q a j : Nat} (h : 1 < q) : mu_Av g q a j = .ref (mu_R g a j) := by
  match q, h with
  | q + 2, _ => rfl
theorem mu_ae_ref {q : Nat} (h : 1 < q) (h7 : q < 7) : (mu_AE q).isReference = true := by
  rcases (show q = 2 ∨ q = 3 ∨ q = 4 ∨ q = 5 ∨ q = 6 by omega) with rfl | rfl | rfl | rfl | rfl <;> rfl
theorem mu_go_aald {a : Nat} {j : Int32} (hd : decode (mu_mB mi) pc = .ok (.aaload, 1)) (ht : 22 ≤ mu_T g a ∧ mu_T g a < 27) (hj : mu_in j (mu_N g a)) (k : mu_go w mi d L Q (pc + 1) ls (.ref (mu_R g a j.toNatClampNeg) :: st) g) : mu_go w mi d L Q pc ls (.int j :: .ref a :: st) g :=
  mu_lift (fun p l e R s m args below meth cd H locs cells slots S0 Qw lsA hc hy _ k => by
    obtain ⟨a, rfl⟩ := mu_succ (a := a) (t := mu_T g a - 1) hy.1 (by omega)
    obtain ⟨cell, h1, h2, h3, h4, h5, h6⟩ := mu_arr hc.2.2.2.2.2.1.1 (hy.1.2.2.2 a) (q := mu_T g (a + 1) - 20) (by omega) (by omega)
    have hj := mu_in_lt hj
    have h7 := h6 _ hj.2
    rw [mu_av_ref (by omega)] at h7
    exact W.aald hc.1 hc.2.1 h1 h2 (mu_ae_ref (by omega) (by omega)) h3 (fun h => h.elim hj.1 (fun h => by omega)) h7 rfl rfl hd k) k
/-- an own array is written: the heap that comes of it -/
theorem mu_rep_ast {s : State} {H H' : Heap} {q a j : Nat} {g' : mu_H} {v : Value} (hq : q < 7) (hwa : w.1 ≤ a) (hP : mu_rep w g s H) (ht : mu_T g (a + 1) = 20 + q)
    (eT : mu_T g' = mu_T g) (eN : mu_N g' = mu_N g) (eX : mu_X g' = mu_X g) (eo : ∀ x k, x ≠ a + 1 → mu_I g' x k = mu_I g x k ∧ mu_R g' x k = mu_R g x k) (ev : ∀ k, mu_V (mu_Av g' q (a + 1) k) = updV (fun k => mu_V (mu_Av g q (a + 1) k)) j v k) (hb : q = 1 → fits .byte v = true)
    (e1 : H'[a]? = some ((arrV (w.2.2.2.1 q) (mu_N g (a + 1)) (fun j => mu_V (mu_Av g q (a + 1) j))).setSlot j v)) (e2 : H'.size = H.size) (e3 : ∀ q, q ≠ a → H'[q]? = H[q]?) : mu_rep w g' s H' := by
  obtain ⟨h1, h2, h3, h4⟩ := hP
  refine ⟨by rw [e2, eX]; exact h1, by rw [e2]; exact h2, by rw [eT]; exact h3, fun b => ?_⟩
  by_cases hb' : b = a
  · subst hb'
    refine ⟨fun c' hc' ht' => ?_, fun q' hq' ht' => ?_, fun ht' => ?_⟩
    · rw [eT, ht] at ht'; omega
    · rw [eT] at ht'
      have : q' = q := by omega
      subst this
      refine ⟨fun _ => ⟨?_, fun hq1 k hk => ?_⟩, fun h => absurd hwa h⟩
      · rw [e1, arrV_store, eN]
        congr 2
        exact funext fun k => (ev k).symm
      · subst hq1
        rw [eN] at hk
        have h5 := ev k
        have h6 : mu_V (mu_Av g' 1 (b + 1) k) = .int (mu_I g' (b + 1) k) := rfl
        rw [h6] at h5
        rw [h5]
        unfold updV
        split
        · exact hb rfl
        · exact (((h4 b).2.1 1 (by omega) ht').1 hwa).2 rfl k hk
    · rw [eT, ht] at ht'; omega
  · exact mu_cell_kept (h4 b) (e3 b hb') (by rw [eT]) (by rw [eN]) (fun k => (eo _ k (by omega)).1) (fun k => (eo _ k (by omega)).2)
theorem mu_dyn_ast {R : Room} {s : State} {S0 : Nat} {H H' : Heap} {locs : List Loc} {cells slots : Nat} {a i : Nat} {g' : mu_H} (hwa : w.1 ≤ a) (hy : mu_dyn w g R s S0 H locs cells slots) (hP : mu_rep w g' s H') (eS : mu_S g' = mu_S g) (e2 : H'.size = H.size) (e3 : ∀ q, q ≠ a → H'[q]? = H[q]?) : mu_dyn w g' R s S0 H' (locs ++ [⟨a, i⟩]) cells slots := by
  refine ⟨hP, mu_stat_kept hy.2.1 (fun q _ hq => e3 q (fun h => hq (by rw [h]; exact hwa))), by rw [e2]; exact hy.2.2.1, by rw [eS]; exact hy.2.2.2.1, fun q hq => ?_, hy.2.2.2.2.2⟩
  rcases List.mem_append.mp hq with h | h
  · exact hy.2.2.2.2.1 q h
  · rw [List.mem_singleton.mp h]; exact hwa
theorem mu_sI_eo {a k : Nat} {v : Int32} : ∀ x y, x ≠ a → mu_I (mu_sI g a k v) x y = mu_I g x y ∧ mu_R (mu_sI g a k v) x y = mu_R g x y := by
  intro x y h
  refine ⟨?_, rfl⟩
  show (if x = a ∧ y = k then v else mu_I g x y) = _
  rw [if_neg (fun q => h q.1)]
theorem mu_sR_eo {a k v : Nat} : ∀ x y, x ≠ a → mu_I (mu_sR g a k v) x y = mu_I g x y ∧ mu_R (mu_sR g a k v) x y = mu_R g x y := by
  intro x y h
  refine ⟨rfl, ?_⟩
  show (if x = a ∧ y = k then v else mu_R g x y) = _
  rw [if_neg (fun q => h q.1)]
theorem mu_go_iast {a : Nat} {j x : Int32} (hd : decode (mu_mB mi) pc = .ok (.iastore, 1)) (hwa : w.1 < a) (ht : mu_T g a = 20) (hj : mu_in j (mu_N g a)) (k : mu_go w mi d L Q (pc + 1) ls st (mu_sI g a j.toNatClampNeg x)) : mu_go w mi d L Q pc ls (.int x :: .int j :: .ref a :: st) g := by
  intro p l e R s m args below meth cd H locs cells slots S0 Qw lsA hc hy hl hret
  obtain ⟨a, rfl⟩ := mu_succ (t := 19) hy.1 ht
  have hwa : w.1 ≤ a := by omega
  have hj := mu_in_lt hj
  have hcell := (((hy.1.2.2.2 a).2.1 0 (by omega) ht).1 hwa).1
  refine W.iast hc.1 hc.2.1 hcell ((hc.2.2.2.2.2.1.1.2 0 _ (mu_tys_at w (by omega))).1 _ _) (fun h => (nomatch h)) (fun h => h.elim hj.1 (fun h => by rw [arrV_size] at h; omega)) rfl rfl hd fun H' e1 e2 e3 => ?_
  refine k p l e R s m args below meth cd H' _ cells slots S0 Qw lsA hc (mu_dyn_ast hwa hy (mu_rep_ast (q := 0) (by omega) hwa hy.1 ht rfl rfl rfl mu_sI_eo (fun k => ?_) (fun h => by cases h) e1 e2 e3) rfl e2 e3) hl hret
  show Value.int (if a + 1 = a + 1 ∧ k = j.toNatClampNeg then x else mu_I g (a + 1) k) = if k = j.toNatClampNeg then _ else _
  by_cases hk : k = j.toNatClampNeg
  · rw [if_pos ⟨rfl, hk⟩, if_pos hk]
  · rw [if_neg (fun q => hk q.2), if_neg hk]; rfl
theorem mu_go_bast {a : Nat} {j x : Int32} (hd : decode (mu_mB mi) pc = .ok (.bastore, 1)) (hwa : w.1 < a) (ht : mu_T g a = 21) (hj : mu_in j (mu_N g a)) (k : mu_go w mi d L Q (pc + 1) ls st (mu_sI g a j.toNatClampNeg x.toInt8.toInt32)) : mu_go w mi d L Q pc ls (.int x :: .int j :: .ref a :: st) g := by
  intro p l e R s m args below meth cd H locs cells slots S0 Qw lsA hc hy hl hret
  obtain ⟨a, rfl⟩ := mu_succ (t := 20) hy.1 ht
  have hwa : w.1 ≤ a := by omega
  have hj := mu_in_lt hj
  have hcell := (((hy.1.2.2.2 a).2.1 1 (by omega) ht).1 hwa).1
  refine W.bast hc.1 hc.2.1 hcell ((hc.2.2.2.2.2.1.1.2 1 _ (mu_tys_at w (by omega))).1 _ _) (fun h => (nomatch h)) (fun h => h.elim hj.1 (fun h => by rw [arrV_size] at h; omega)) rfl rfl hd fun H' e1 e2 e3 => ?_
  refine k p l e R s m args below meth cd H' _ cells slots S0 Qw lsA hc (mu_dyn_ast hwa hy (mu_rep_ast (q := 1) (v := .int x.toInt8.toInt32) (by omega) hwa hy.1 ht rfl rfl rfl mu_sI_eo (fun k => ?_) (fun _ => pk_fb x) e1 e2 e3) rfl e2 e3) hl hret
  show Value.int (if a + 1 = a + 1 ∧ k = j.toNatClampNeg then x.toInt8.toInt32 else mu_I g (a + 1) k) = if k = j.toNatClampNeg then _ else _
  by_cases hk : k = j.toNatClampNeg
  · rw [if_pos ⟨rfl, hk⟩, if_pos hk]
  · rw [if_neg (fun q => hk q.2), if_neg hk]; rfl
theorem mu_go_aast {a v : Nat} {j : Int32} (hd : decode (mu_mB mi) pc = .ok (.aastore, 1)) (hwa : w.1 < a) (ht : 22 ≤ mu_T g a ∧ mu_T g a < 27) (hv : v = 0 ∨ mu_T g v = mu_Ac (mu_T g a - 20) + 1) (hj : mu_in j (mu_N g a)) (k : mu_go w mi d L Q (pc + 1) ls st (mu_sR g a j.toNatClampNeg v)) : mu_go w mi d L Q pc ls (.ref v :: .int j :: .ref a :: st) g := by
  intro p l e R s m args below meth cd H locs cells slots S0 Qw lsA hc hy hl hret
  obtain ⟨a, rfl⟩ := mu_succ (a := a) (t := mu_T g a - 1) hy.1 (by omega)
  have hwa : w.1 ≤ a := by omega
  have hj := mu_in_lt hj
  obtain ⟨q, hq⟩ : ∃ q, q = mu_T g (a + 1) - 20 := ⟨_, rfl⟩
  rw [← hq] at hv
  have hq1 : 1 < q := by omega
  have hq7 : q < 7 := by omega
  have htq : mu_T g (a + 1) = 20 + q := by omega
  have hcell := (((hy.1.2.2.2 a).2.1 q hq7 htq).1 hwa).1
  have hgo : ∀ H' : Heap, H'[a]? = some ((arrV (w.2.2.2.1 q) (mu_N g (a + 1)) (fun j => mu_V (mu_Av g q (a + 1) j))).setSlot j.toNatClampNeg (mu_V (.ref v))) → H'.size = H.size → (∀ q, q ≠ a → H'[q]? = H[q]?) → W p l e R s m args below meth cd H' (locs ++ [⟨a, j.toNatClampNeg⟩]) cells slots Qw (F0 m (pc + 1) lsA (st.map mu_V)) := by
    intro H' e1 e2 e3
    refine k p l e R s m args below meth cd H' _ cells slots S0 Qw lsA hc (mu_dyn_ast hwa hy (mu_rep_ast hq7 hwa hy.1 htq rfl rfl rfl mu_sR_eo (fun k => ?_) (fun h => by omega) e1 e2 e3) rfl e2 e3) hl hret
    rw [mu_av_ref hq1]
    unfold updV
    show mu_V (.ref (if a + 1 = a + 1 ∧ k = j.toNatClampNeg then v else mu_R g (a + 1) k)) = _
    by_cases hk : k = j.toNatClampNeg
    · rw [if_pos ⟨rfl, hk⟩, if_pos hk]
    · rw [if_neg (fun q => hk q.2), if_neg hk]
      show _ = mu_V (mu_Av g q (a + 1) k)
      rw [mu_av_ref hq1]
  have htys := hc.2.2.2.2.2.1.1.2 q _ (mu_tys_at w hq7)
  obtain ⟨C, hC⟩ : ∃ C, mu_AE q = .object C := by
    rcases (show q = 2 ∨ q = 3 ∨ q = 4 ∨ q = 5 ∨ q = 6 by omega) with rfl | rfl | rfl | rfl | rfl <;> exact ⟨_, rfl⟩
  rw [hC] at htys
  cases v with
  | zero => exact va_WaastN hc.1 hc.2.1 hcell (htys.1 _ _) (fun h => (nomatch h)) (fun h => h.elim hj.1 (fun h => by rw [arrV_size] at h; omega)) rfl rfl hd hgo
  | succ v =>
    have hv : mu_T g (v + 1) = mu_Ac q + 1 := hv.elim (fun h => by omega) (fun h => h)
    have hcn : mu_Ac q < 12 := by
      rcases (show q = 2 ∨ q = 3 ∨ q = 4 ∨ q = 5 ∨ q = 6 by omega) with rfl | rfl | rfl | rfl | rfl <;> decide
    obtain ⟨-, r, hr, cellV, g1, g2, g3, -⟩ := (hy.1.2.2.2 v).1 _ hcn hv
    have hrC : r.1 = C := by
      rcases (show q = 2 ∨ q = 3 ∨ q = 4 ∨ q = 5 ∨ q = 6 by omega) with rfl | rfl | rfl | rfl | rfl <;> (cases hr; cases hC; rfl)
    have hcls := (hc.2.2.2.2.2.1.1.1 _ r hr).2
    rw [hrC] at hcls
    obtain ⟨kA, comp, k1, k2, k3, -⟩ := htys.2
    have hcomp : comp = w.2.1 (mu_Ac q) := Option.some.inj (k3.symm.trans hcls.1)
    subst hcomp
    obtain ⟨kC, hkC, -⟩ := hcls.2
    exact W.aast hc.1 hc.2.1 hcell (fun q h => by cases h) (fun h => by cases h) k1 k2 rfl hkC ⟨hj.1, by rw [arrV_size]; exact hj.2⟩ g1 (fun q h => by rw [g3] at h; cases h) (by rw [g2]; exact hkC) (by rw [g2]; exact va_assign hcls) rfl rfl hd hgo
end Mu10
