/-! OWN SMALL MACHINE, PART 9: new cells, statics, the library's own methods -/
section Mu11
variable {w : mu_O} {mi : mu_M} {d : Nat} {L : Nat × Nat} {Q : Option Value → mu_H → Prop} {pc : Nat} {ls : List (Option Value)} {st : List Value} {g : mu_H}
/-- a new cell: all others stay -/
theorem mu_rep_new {s : State} {H H' : Heap} {t n v : Nat} (hP : mu_rep w g s H) (e2 : H'.size = H.size + 1) (e3 : ∀ q, q < H.size → H'[q]? = H[q]?) (hcell : mu_cell w (mu_sN g t n v) s H' H.size) : mu_rep w (mu_sN g t n v) s H' := by
  obtain ⟨h1, h2, h3, h4⟩ := hP
  have hX : mu_X (mu_sN g t n v) = mu_X g + 1 := rfl
  refine ⟨by rw [hX, e2, h1], by omega, ?_, fun b => ?_⟩
  · show (if 0 = mu_X g then t else mu_T g 0) = 0
    rw [if_neg (by omega)]; exact h3
  · by_cases hb : b = H.size
    · subst hb; exact hcell
    · have hne : ¬ b + 1 = mu_X g := by omega
      have eT : mu_T (mu_sN g t n v) (b + 1) = mu_T g (b + 1) := if_neg hne
      have eN : mu_N (mu_sN g t n v) (b + 1) = mu_N g (b + 1) := if_neg hne
      have eI : ∀ k, mu_I (mu_sN g t n v) (b + 1) k = mu_I g (b + 1) k := fun k => if_neg hne
      have eR : ∀ k, mu_R (mu_sN g t n v) (b + 1) k = mu_R g (b + 1) k := fun k => if_neg hne
      by_cases hlt : b < H.size
      · exact mu_cell_kept (h4 b) (e3 b hlt) eT eN eI eR
      · have hno : H[b]? = none := by simp; omega
        refine ⟨fun c hc ht => ?_, fun q hq ht => ?_, fun ht => ?_⟩
        · rw [eT] at ht
          obtain ⟨-, r, -, cell, hh, -⟩ := (h4 b).1 c hc ht
          rw [hno] at hh; cases hh
        · rw [eT] at ht
          obtain ⟨i1, i2⟩ := (h4 b).2.1 q hq ht
          refine ⟨fun ha => ?_, fun ha => ?_⟩
          · have := (i1 ha).1; rw [hno] at this; cases this
          · obtain ⟨cell, hh, -⟩ := i2 ha; rw [hno] at hh; cases hh
        · rw [eT] at ht
          obtain ⟨⟨cell, hh, -⟩, -⟩ := (h4 b).2.2 ht
          rw [hno] at hh; cases hh
theorem mu_dyn_new {R : Room} {s : State} {S0 : Nat} {H H' : Heap} {locs : List Loc} {cells slots : Nat} {t n v : Nat} (hy : mu_dyn w g R s S0 H locs cells slots) (hc1 : cells + 1 ≤ R.cells) (hs1 : slots + v ≤ R.slots) (hP : mu_rep w (mu_sN g t n v) s H') (e2 : H'.size = H.size + 1) (e3 : ∀ q, q < H.size → H'[q]? = H[q]?) : mu_dyn w (mu_sN g t n v) R s S0 H' locs (cells + 1) (slots + v) := by
  refine ⟨hP, mu_stat_kept hy.2.1 (fun q h _ => e3 q h), by rw [e2, hy.2.2.1]; omega, ?_, hy.2.2.2.2.1, hc1, hs1⟩
  show mu_S g + v = _
  rw [hy.2.2.2.1]; omega
theorem mu_room {R : Room} {s : State} {m : MethodId} {args : Array Value} {meth : Method} {c : Code} {S0 : Nat} {H : Heap} {locs : List Loc} {cells slots n : Nat} {p : Program} (hc : mu_ctx w mi d L p R s m args meth c S0) (hy : mu_dyn w g R s S0 H locs cells slots) (h1 : mu_X g + 1 ≤ L.1) (h2 : mu_S g + n ≤ L.2) : cells + 1 ≤ R.cells ∧ slots + n ≤ R.slots := by
  obtain ⟨-, -, -, -, -, -, -, -, -, e1, e2⟩ := hc
  obtain ⟨⟨e3, -⟩, -, e4, e5, -⟩ := hy
  omega
theorem mu_go_new {x c : Nat} {r : vw_C} (hcn : c < 12) (hd : decode (mu_mB mi) pc = .ok (.new x, 3)) (hr : vwCl[c]? = some r) (hw : Jvm.Cond.classLink (mu_mY mi).cls x r.1 ∈ lw_tbl ∧ goodWord (Jvm.Cond.classLink (mu_mY mi).cls x r.1) = true) (h1 : mu_X g + 1 ≤ L.1) (h2 : mu_S g + mu_nf c ≤ L.2) (k : mu_go w mi d L Q (pc + 3) ls (.ref (mu_X g) :: st) (mu_sN g (c + 1) 0 (mu_nf c))) : mu_go w mi d L Q pc ls st g := by
  intro p l e R s m args below meth cd H locs cells slots S0 Qw lsA hc hy hl hret
  obtain ⟨r', hr', hnf, -, hi1, hi2, hin, hty, -, hkd⟩ := mu_cls hcn
  cases hr.symm.trans hr'
  obtain ⟨hr1, hr2⟩ := mu_room hc hy h1 h2
  rw [← hnf] at hr2 k h2
  have hKn := hc.2.2.2.2.2.1.1.1 c _ hr
  refine W.newcK hc.1 hc.2.1 hc.2.2.2.1 (hc.2.2.2.2.1 _ hw.1 hw.2) (hc.2.2.2.2.1 _ hi1.1 hi1.2) (hc.2.2.2.2.1 _ hi2.1 hi2.2) rfl hd hr1 hr2 hKn.2.1 rfl fun H1 kC hkC e1 z1 o1 => ?_
  have eX : mu_X g = H.size + 1 := hy.1.1.symm
  have hT : mu_T (mu_sN g (c + 1) 0 r.2.2) (H.size + 1) = c + 1 := if_pos eX.symm
  have hrep : mu_rep w (mu_sN g (c + 1) 0 r.2.2) s H1 := by
    refine mu_rep_new hy.1 z1 o1 ⟨fun c' hc' ht' => ?_, fun q hq ht' => ?_, fun ht' => ?_⟩
    · rw [hT] at ht'
      have : c' = c := by omega
      subst this
      refine ⟨hy.1.2.1, r, hr, (u_born (mu_Ty c') (mu_hts hc) hin hKn hkC e1 hty).to (fun k hk => ?_)⟩
      have eI : mu_I (mu_sN g (c' + 1) 0 r.2.2) (H.size + 1) k = 0 := if_pos eX.symm
      have eR : mu_R (mu_sN g (c' + 1) 0 r.2.2) (H.size + 1) k = 0 := if_pos eX.symm
      unfold mu_Fv
      rw [eI, eR]
      rcases hkd k hk with h | h | ⟨_, h⟩ | ⟨_, h⟩ <;> rw [h] <;> rfl
    · rw [hT] at ht'; omega
    · rw [hT] at ht'; omega
  have k' := k p l e R s m args below meth cd H1 locs (cells + 1) (slots + r.2.2) S0 Qw lsA hc (mu_dyn_new hy hr1 hr2 hrep z1 o1) hl hret
  rw [eX] at k'
  exact k'
theorem mu_go_newarr {t : ArrayType} {q : Nat} {x : Int32} (hq : q < 2) (htq : newarray.typeOf t = mu_AE q) (hd : decode (mu_mB mi) pc = .ok (.newarray t, 2)) (hx : mu_in x 100000) (h1 : mu_X g + 1 ≤ L.1) (h2 : mu_S g + x.toNatClampNeg ≤ L.2) (k : mu_go w mi d L Q (pc + 2) ls (.ref (mu_X g) :: st) (mu_sN g (20 + q) x.toNatClampNeg x.toNatClampNeg)) : mu_go w mi d L Q pc ls (.int x :: st) g := by
  intro p l e R s m args below meth cd H locs cells slots S0 Qw lsA hc hy hl hret
  obtain ⟨hr1, hr2⟩ := mu_room hc hy h1 h2
  have hx := mu_in_lt hx
  have hword : Jvm.Cond.arrayClass (newarray.typeOf t) ∈ lw_tbl ∧ goodWord (Jvm.Cond.arrayClass (newarray.typeOf t)) = true := by
    have h := mu_kW
    unfold mu_ckW at h
    simp only [Bool.and_eq_true] at h
    rw [htq]
    rcases (show q = 0 ∨ q = 1 by omega) with rfl | rfl
    · exact mu_w_e h.1.2
    · exact mu_w_e h.2
  have hbytes : x.toNatClampNeg * componentBytes (newarray.typeOf t) ≤ 536870912 := by
    rw [htq]
    rcases (show q = 0 ∨ q = 1 by omega) with rfl | rfl
    · show x.toNatClampNeg * 4 ≤ _; omega
    · show x.toNatClampNeg * 1 ≤ _; omega
  refine W.newa hc.1 hc.2.1 (hc.2.2.2.2.1 _ hword.1 hword.2) rfl hd rfl hx.1 hbytes hr1 hr2 fun cA kA comp f1 f2 f3 => ?_
  generalize hH1 : H.push ({ cls := cA, slots := Array.replicate x.toNatClampNeg (defaultValue (newarray.typeOf t)), vm := .none } : Cell) = H1
  have z1 : H1.size = H.size + 1 := by rw [← hH1, Array.size_push]
  have e1 : H1[H.size]? = some (arrV cA x.toNatClampNeg (fun _ => defaultValue (newarray.typeOf t))) := by rw [← hH1, Array.getElem?_push_size, ← arrV_new]
  have o1 : ∀ q : Nat, q < H.size → H1[q]? = H[q]? := fun q hq => by rw [← hH1, Array.getElem?_push, if_neg (Nat.ne_of_lt hq)]
  have hcA : cA = w.2.2.2.1 q := by
    have h := (hc.2.2.2.2.2.1.1.2 q _ (mu_tys_at w (by omega))).2
    rw [htq] at f1
    rcases (show q = 0 ∨ q = 1 by omega) with rfl | rfl
    · exact Option.some.inj (f1.symm.trans h)
    · exact Option.some.inj (f1.symm.trans h)
  have eX : mu_X g = H.size + 1 := hy.1.1.symm
  have hT : mu_T (mu_sN g (20 + q) x.toNatClampNeg x.toNatClampNeg) (H.size + 1) = 20 + q := if_pos eX.symm
  have hrep : mu_rep w (mu_sN g (20 + q) x.toNatClampNeg x.toNatClampNeg) s H1 := by
    refine mu_rep_new hy.1 z1 o1 ⟨fun c' hc' ht' => ?_, fun q' hq' ht' => ?_, fun ht' => ?_⟩
    · rw [hT] at ht'; omega
    · rw [hT] at ht'
      have : q' = q := by omega
      subst this
      have eN : mu_N (mu_sN g (20 + q') x.toNatClampNeg x.toNatClampNeg) (H.size + 1) = x.toNatClampNeg := if_pos eX.symm
      have eI : ∀ k, mu_I (mu_sN g (20 + q') x.toNatClampNeg x.toNatClampNeg) (H.size + 1) k = 0 := fun k => if_pos eX.symm
      refine ⟨fun _ => ⟨?_, fun _ j _ => ?_⟩, fun h => absurd hy.1.2.1 h⟩
      · rw [e1, eN, hcA]
        congr 2
        funext j
        rw [htq]
        rcases (show q' = 0 ∨ q' = 1 by omega) with rfl | rfl
        · show defaultValue .int = .int (mu_I _ _ _); rw [eI]; rfl
        · show defaultValue .byte = .int (mu_I _ _ _); rw [eI]; rfl
      · rw [eI]; rfl
    · rw [hT] at ht'; omega
  have k' := k p l e R s m args below meth cd H1 locs (cells + 1) (slots + x.toNatClampNeg) S0 Qw lsA hc (mu_dyn_new hy hr1 hr2 hrep z1 o1) hl hret
  rw [eX] at k'
  exact k'
theorem mu_go_anew {y q : Nat} {C : String} {x : Int32} (hq1 : 1 < q) (hq : q < 7) (hC : mu_AE q = .object C) (hd : decode (mu_mB mi) pc = .ok (.anewarray y, 3)) (hw : Jvm.Cond.classLink (mu_mY mi).cls y C ∈ lw_tbl ∧ goodWord (Jvm.Cond.classLink (mu_mY mi).cls y C) = true) (hx : mu_in x 100000) (h1 : mu_X g + 1 ≤ L.1) (h2 : mu_S g + x.toNatClampNeg ≤ L.2) (k : mu_go w mi d L Q (pc + 3) ls (.ref (mu_X g) :: st) (mu_sN g (20 + q) x.toNatClampNeg x.toNatClampNeg)) : mu_go w mi d L Q pc ls (.int x :: st) g := by
  intro p l e R s m args below meth cd H locs cells slots S0 Qw lsA hc hy hl hret
  obtain ⟨hr1, hr2⟩ := mu_room hc hy h1 h2
  have hx := mu_in_lt hx
  obtain ⟨C', hC', hAO⟩ := hc.2.2.2.2.2.1.2.2.2.1 q hq1 hq
  rw [hC] at hC'
  cases hC'
  refine W.anew hc.1 hc.2.1 hc.2.2.2.1 (hc.2.2.2.2.1 _ hw.1 hw.2) (va_AO.use hAO) rfl hd rfl hx.1 (by omega) hr1 hr2 fun cA kA comp f1 f2 f3 f4 => ?_
  generalize hH1 : H.push ({ cls := cA, slots := Array.replicate x.toNatClampNeg .null, vm := .none } : Cell) = H1
  have z1 : H1.size = H.size + 1 := by rw [← hH1, Array.size_push]
  have e1 : H1[H.size]? = some (arrV cA x.toNatClampNeg (fun _ => .null)) := by rw [← hH1, Array.getElem?_push_size, ← arrV_new]
  have o1 : ∀ q : Nat, q < H.size → H1[q]? = H[q]? := fun q hq => by rw [← hH1, Array.getElem?_push, if_neg (Nat.ne_of_lt hq)]
  have hcA : cA = w.2.2.2.1 q := by
    have h := (hc.2.2.2.2.2.1.1.2 q _ (mu_tys_at w hq)).2
    rw [hC] at h
    obtain ⟨kA', comp', -, -, -, h⟩ := h
    exact Option.some.inj (f1.symm.trans h)
  have eX : mu_X g = H.size + 1 := hy.1.1.symm
  have hT : mu_T (mu_sN g (20 + q) x.toNatClampNeg x.toNatClampNeg) (H.size + 1) = 20 + q := if_pos eX.symm
  have hrep : mu_rep w (mu_sN g (20 + q) x.toNatClampNeg x.toNatClampNeg) s H1 := by
    refine mu_rep_new hy.1 z1 o1 ⟨fun c' hc' ht' => ?_, fun q' hq' ht' => ?_, fun ht' => ?_⟩
    · rw [hT] at ht'; omega
    · rw [hT] at ht'
      have : q' = q := by omega
      subst this
      have eN : mu_N (mu_sN g (20 + q') x.toNatClampNeg x.toNatClampNeg) (H.size + 1) = x.toNatClampNeg := if_pos eX.symm
      have eR : ∀ k, mu_R (mu_sN g (20 + q') x.toNatClampNeg x.toNatClampNeg) (H.size + 1) k = 0 := fun k => if_pos eX.symm
      refine ⟨fun _ => ⟨?_, fun h _ _ => by omega⟩, fun h => absurd hy.1.2.1 h⟩
      rw [e1, eN, hcA]
      congr 2
      funext j
      rw [mu_av_ref hq1, eR]
      rfl
    · rw [hT] at ht'; omega
  have k' := k p l e R s m args below meth cd H1 locs (cells + 1) (slots + x.toNatClampNeg) S0 Qw lsA hc (mu_dyn_new hy hr1 hr2 hrep z1 o1) hl hret
  rw [eX] at k'
  exact k'
theorem mu_go_gets {x j : Nat} {q : String × String × String} (hd : decode (mu_mB mi) pc = .ok (.getstatic x, 3)) (hq : mu_sts[j]? = some q) (hw : (Jvm.Cond.fieldLink (mu_mY mi).cls x q.1 q.2.1 q.2.2 ∈ lw_tbl ∧ goodWord (Jvm.Cond.fieldLink (mu_mY mi).cls x q.1 q.2.1 q.2.2) = true) ∨ ((mu_mY mi).cls, x, q.1, q.2.1, q.2.2, "StageFights") ∈ mu_nF) (k : mu_go w mi d L Q (pc + 3) ls (mu_sv w j :: st) g) : mu_go w mi d L Q pc ls st g :=
  mu_lift (fun p l e R s m args below meth cd H locs cells slots S0 Qw lsA hc hy _ k => by
    obtain ⟨cf, kf, fi, f, a, cell, h1, h2, h3, h4, h5, h6, h7, -⟩ := hy.2.1 j q hq
    have hkn : cell.vm ≠ .unknown := fun h => by rw [h] at h6; cases h6
    rcases hw with hw | hw
    · exact W.gets hc.1 hc.2.1 hc.2.2.2.1 (hc.2.2.2.2.1 _ hw.1 hw.2) h1 h2 h3 h4 h5 hkn h7 rfl hd k
    · exact va_WgetsN hc.1 hc.2.1 hc.2.2.2.1 ((hc.2.2.2.2.2.1.2.1 _ hw).use rfl) h1 h2 h3 h4 h5 hkn h7 rfl hd k) k
theorem mu_words_cat : ∀ (r : List Value), mu_words r = (r.map fun v => v.category).sum
  | [] => rfl
  | v :: t => by
    have ih := mu_words_cat t
    cases v <;> simp [mu_words, Value.category, ih] <;> omega
theorem mu_small_e {r : List Value} {P : Prop} (h : mu_small r P) : (r.map fun v => v.category).sum ≤ 8 ∧ P := by
  unfold mu_small at h
  split at h
  · rename_i hb
    rw [← mu_words_cat]
    exact ⟨Nat.le_of_ble_eq_true hb, h⟩
  · exact h.elim
theorem mu_pos_e {P : Prop} (h : mu_pos d P) : 0 < d ∧ P := by
  cases d with
  | zero => exact h.elim
  | succ d => exact ⟨Nat.succ_pos d, h⟩
theorem mu_cat_map (r : List Value) : ((r.map mu_V).map fun v => v.category).sum = (r.map fun v => v.category).sum := by
  rw [List.map_map]
  congr 1
  exact List.map_congr_left fun v _ => mu_V_cat v
theorem mu_go_max {x : Nat} {a b : Int32} (hd : decode (mu_mB mi) pc = .ok (.invokestatic x, 3)) (hw : Jvm.Cond.methodLink (mu_mY mi).cls x Lib.Math.max.name ∈ lw_tbl ∧ goodWord (Jvm.Cond.methodLink (mu_mY mi).cls x Lib.Math.max.name) = true) (hs : (st.map fun v => v.category).sum ≤ 8) (h0 : 0 < d) (k : mu_go w mi d L Q (pc + 3) ls (.int (mu_max a b) :: st) g) : mu_go w mi d L Q pc ls (.int b :: .int a :: st) g :=
  mu_lift (fun p l e R s m args below meth cd H locs cells slots S0 Qw lsA hc hy hl k => by
    have h := mu_kW
    unfold mu_ckW at h
    simp only [Bool.and_eq_true] at h
    obtain ⟨⟨⟨⟨⟨⟨⟨⟨⟨⟨⟨⟨⟨w1, w2⟩, w3⟩, w4⟩, w5⟩, w6⟩, w7⟩, -⟩, -⟩, -⟩, -⟩, -⟩, -⟩, -⟩ := h
    have t := fun {i : Nat} {x : Jvm.Cond} (h : mu_w i x = true) => hc.2.2.2.2.1 x (mu_w_e h).1 (mu_w_e h).2
    have hR := hc.2.2.2.2.2.2.2
    exact va_mmax hc.1 hc.2.1 (hc.2.2.1.trans hl.1.symm) hc.2.2.2.1 (hc.2.2.2.2.1 _ hw.1 hw.2) (t w1) (t w7) (t w2) (by omega) (by rw [mu_cat_map]; omega) hy.2.2.2.2.2.1 hy.2.2.2.2.2.2 hd k) k
theorem mu_go_min {x : Nat} {a b : Int32} (hd : decode (mu_mB mi) pc = .ok (.invokestatic x, 3)) (hw : Jvm.Cond.methodLink (mu_mY mi).cls x Lib.Math.min.name ∈ lw_tbl ∧ goodWord (Jvm.Cond.methodLink (mu_mY mi).cls x Lib.Math.min.name) = true) (hs : (st.map fun v => v.category).sum ≤ 8) (h0 : 0 < d) (k : mu_go w mi d L Q (pc + 3) ls (.int (mu_min a b) :: st) g) : mu_go w mi d L Q pc ls (.int b :: .int a :: st) g :=
  mu_lift (fun p l e R s m args below meth cd H locs cells slots S0 Qw lsA hc hy hl k => by
    have h := mu_kW
    unfold mu_ckW at h
    simp only [Bool.and_eq_true] at h
    obtain ⟨⟨⟨⟨⟨⟨⟨⟨⟨⟨⟨⟨⟨w1, w2⟩, w3⟩, w4⟩, w5⟩, w6⟩, w7⟩, -⟩, -⟩, -⟩, -⟩, -⟩, -⟩, -⟩ := h
    have t := fun {i : Nat} {x : Jvm.Cond} (h : mu_w i x = true) => hc.2.2.2.2.1 x (mu_w_e h).1 (mu_w_e h).2
    have hR := hc.2.2.2.2.2.2.2
    exact va_mmin hc.1 hc.2.1 (hc.2.2.1.trans hl.1.symm) hc.2.2.2.1 (hc.2.2.2.2.1 _ hw.1 hw.2) (t w3) (t w7) (t w4) (by omega) (by rw [mu_cat_map]; omega) hy.2.2.2.2.2.1 hy.2.2.2.2.2.2 hd k) k
theorem mu_go_abs {x : Nat} {a : Int32} (hd : decode (mu_mB mi) pc = .ok (.invokestatic x, 3)) (hw : Jvm.Cond.methodLink (mu_mY mi).cls x Lib.Math.abs.name ∈ lw_tbl ∧ goodWord (Jvm.Cond.methodLink (mu_mY mi).cls x Lib.Math.abs.name) = true) (hs : (st.map fun v => v.category).sum ≤ 8) (h0 : 0 < d) (k : mu_go w mi d L Q (pc + 3) ls (.int (mu_abs a) :: st) g) : mu_go w mi d L Q pc ls (.int a :: st) g :=
  mu_lift (fun p l e R s m args below meth cd H locs cells slots S0 Qw lsA hc hy hl k => by
    have h := mu_kW
    unfold mu_ckW at h
    simp only [Bool.and_eq_true] at h
    obtain ⟨⟨⟨⟨⟨⟨⟨⟨⟨⟨⟨⟨⟨w1, w2⟩, w3⟩, w4⟩, w5⟩, w6⟩, w7⟩, -⟩, -⟩, -⟩, -⟩, -⟩, -⟩, -⟩ := h
    have t := fun {i : Nat} {x : Jvm.Cond} (h : mu_w i x = true) => hc.2.2.2.2.1 x (mu_w_e h).1 (mu_w_e h).2
    have hR := hc.2.2.2.2.2.2.2
    exact va_mabs hc.1 hc.2.1 (hc.2.2.1.trans hl.1.symm) hc.2.2.2.1 (hc.2.2.2.2.1 _ hw.1 hw.2) (t w5) (t w7) (t w6) (by omega) (by rw [mu_cat_map]; omega) hy.2.2.2.2.2.1 hy.2.2.2.2.2.2 hd k) k
theorem mu_go_objI {x : Nat} {a : Nat} (hd : decode (mu_mB mi) pc = .ok (.invokespecial x, 3)) (hw : Jvm.Cond.methodLink (mu_mY mi).cls x objectInit ∈ lw_tbl ∧ goodWord (Jvm.Cond.methodLink (mu_mY mi).cls x objectInit) = true) (ha : ¬ a = 0) (hs : (st.map fun v => v.category).sum ≤ 8) (h0 : 0 < d) (k : mu_go w mi d L Q (pc + 3) ls st g) : mu_go w mi d L Q pc ls (.ref a :: st) g :=
  mu_lift (fun p l e R s m args below meth cd H locs cells slots S0 Qw lsA hc hy hl k => by
    obtain ⟨a, rfl⟩ := Nat.exists_eq_succ_of_ne_zero ha
    have h := mu_kW
    unfold mu_ckW at h
    simp only [Bool.and_eq_true] at h
    obtain ⟨⟨⟨⟨-, w11⟩, w12⟩, -⟩, -⟩ := h
    have t := fun {i : Nat} {x : Jvm.Cond} (h : mu_w i x = true) => hc.2.2.2.2.1 x (mu_w_e h).1 (mu_w_e h).2
    have hR := hc.2.2.2.2.2.2.2
    have hcat := mu_cat_map st
    exact W.objInit hc.1 hc.2.1 hc.2.2.2.1 (hc.2.2.2.2.1 _ hw.1 hw.2) (t w11) (t w12) rfl (hl.1.trans hc.2.2.1.symm) rfl hd (by omega) (by show 2 * 0 + _ + 12 ≤ _; omega) k) k
end Mu11
