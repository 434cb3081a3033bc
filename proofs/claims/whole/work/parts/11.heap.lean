/-! OWN SMALL MACHINE, PART 7: the instructions that read and write the heap -/
section Mu9
theorem mu_hts {R : Room} {w : mu_O} {mi : mu_M} {d : Nat} {L : Nat × Nat} {p : Program} {s : State} {m : MethodId} {args : Array Value} {meth : Method} {c : Code} {S0 : Nat} (hc : mu_ctx w mi d L p R s m args meth c S0) : ∀ x ∈ lw_tbl.filter goodWord, x.before args s = true :=
  fun x hx => hc.2.2.2.2.1 x (List.mem_filter.mp hx).1 (List.mem_filter.mp hx).2
/-- all that is checked of a class -/
theorem mu_cls {c : Nat} (hc : c < 12) : ∃ r, vwCl[c]? = some r ∧ r.2.2 = mu_nf c ∧ r.1 = mu_own c ∧ (Jvm.Cond.instantiable r.1 r.2.2 ∈ lw_tbl ∧ goodWord (Jvm.Cond.instantiable r.1 r.2.2) = true) ∧ (Jvm.Cond.initialized r.1 ∈ lw_tbl ∧ goodWord (Jvm.Cond.initialized r.1) = true) ∧ (∀ x ∈ u_ws r.1 r.2.1 r.2.2, x ∈ lw_tbl.filter goodWord) ∧ (∀ k, k < r.2.2 → parseFieldDescriptor (r.2.1 k).2.2.1 = some (mu_Ty c k)) ∧ (∀ a, a < r.2.2 → ∀ b, b < r.2.2 → a ≠ b → (r.2.1 a).2.1 ≠ (r.2.1 b).2.1) ∧ (∀ k, k < r.2.2 → mu_Ty c k = .int ∨ mu_Ty c k = .boolean ∨ (∃ n, mu_Ty c k = .object n) ∨ ∃ t, mu_Ty c k = .array t) := by
  have h := List.all_eq_true.mp mu_kI c (List.mem_range.mpr hc)
  unfold mu_ckI at h
  split at h
  · rename_i r q u hr hq hu
    simp only [Bool.and_eq_true] at h
    obtain ⟨⟨⟨⟨⟨⟨⟨h1, h2⟩, h3⟩, h4⟩, h5⟩, h6⟩, h7⟩, h8⟩ := h
    refine ⟨r, hr, Nat.eq_of_beq_eq_true h3, of_decide_eq_true h4, mu_w_e h1, mu_w_e h2, fun x hx => ?_, fun k hk => ?_, fun a ha b hb hne => ?_, fun k hk => ?_⟩
    · obtain ⟨k, hk, rfl⟩ := List.mem_map.mp hx
      have := mu_w_e (List.all_eq_true.mp h5 k hk)
      exact List.mem_filter.mpr this
    · exact of_decide_eq_true (List.all_eq_true.mp h6 k (List.mem_range.mpr hk))
    · have h9 := List.all_eq_true.mp (List.all_eq_true.mp h7 a (List.mem_range.mpr ha)) b (List.mem_range.mpr hb)
      rw [Bool.or_eq_true] at h9
      rcases h9 with h9 | h9
      · exact absurd (Nat.eq_of_beq_eq_true h9) hne
      · exact of_decide_eq_true h9
    · have h9 := List.all_eq_true.mp h8 k (List.mem_range.mpr hk)
      split at h9
      · left; assumption
      · right; left; assumption
      · right; right; left; exact ⟨_, by assumption⟩
      · right; right; right; exact ⟨_, by assumption⟩
      · cases h9
  · cases h
variable {w : mu_O} {mi : mu_M} {d : Nat} {L : Nat × Nat} {Q : Option Value → mu_H → Prop} {pc : Nat} {ls : List (Option Value)} {st : List Value} {g : mu_H}
theorem mu_succ {U : State} {H : Heap} (h : mu_rep w g U H) {a t : Nat} (ht : mu_T g a = t + 1) : ∃ b, a = b + 1 := by
  cases a with
  | zero => rw [h.2.2.1] at ht; omega
  | succ b => exact ⟨b, rfl⟩
theorem mu_fv_int {c a k : Nat} (h : mu_isR (mu_Ty c k) = false) : mu_Fv g c a k = .int (mu_I g a k) := by unfold mu_Fv; rw [h]
theorem mu_fv_ref {c a k : Nat} (h : mu_isR (mu_Ty c k) = true) : mu_Fv g c a k = .ref (mu_R g a k) := by unfold mu_Fv; rw [h]
/-- a field of an object of the class table is read -/
theorem mu_go_get {x c f : Nat} {r : vw_C} {a : Nat} (hcn : c < 12) (hd : decode (mu_mB mi) pc = .ok (.getfield x, 3)) (hr : vwCl[c]? = some r) (hf : f < r.2.2) (hw : Jvm.Cond.fieldLink (mu_mY mi).cls x (r.2.1 f).1 (r.2.1 f).2.1 (r.2.1 f).2.2.1 ∈ lw_tbl ∧ goodWord (Jvm.Cond.fieldLink (mu_mY mi).cls x (r.2.1 f).1 (r.2.1 f).2.1 (r.2.1 f).2.2.1) = true) (ht : mu_T g a = c + 1) (k : mu_go w mi d L Q (pc + 3) ls (mu_Fv g c a f :: st) g) : mu_go w mi d L Q pc ls (.ref a :: st) g :=
  mu_lift (fun p l e R s m args below meth cd H locs cells slots S0 Qw lsA hc hy _ k => by
    obtain ⟨a, rfl⟩ := mu_succ hy.1 ht
    obtain ⟨r', hr', -, -, -, -, hin, -⟩ := mu_cls hcn
    cases hr.symm.trans hr'
    obtain ⟨-, r', hr', cell, q1, q2, q3, q4⟩ := (hy.1.2.2.2 a).1 c hcn ht
    cases hr.symm.trans hr'
    obtain ⟨hS, hfc, kC, hkC, hkind⟩ := hc.2.2.2.2.2.1.1.1 c _ hr
    obtain ⟨cf, kf, fi, fd, hi, hsl⟩ := hS f hf
    exact W.getf (v := mu_V (mu_Fv g c (a + 1) f)) hc.1 hc.2.1 hc.2.2.2.1 (hc.2.2.2.2.1 _ hw.1 hw.2) hi (u_facts hfc hkC (u_lays (mu_hts hc) hin hf) hi).1 q1 (by rw [q3]; exact fun h => by cases h) (by rw [hsl]; exact q4 f hf) rfl rfl hd k) k
/-- a String's field -/
theorem mu_go_getS {x f : Nat} {a : Nat} {n0 d0 : String} (hd : decode (mu_mB mi) pc = .ok (.getfield x, 3)) (hf : (f = 0 ∧ n0 = "value" ∧ d0 = "[B") ∨ (f = 1 ∧ n0 = "coder" ∧ d0 = "B")) (hw : Jvm.Cond.fieldLink (mu_mY mi).cls x "java/lang/String" n0 d0 ∈ lw_tbl ∧ goodWord (Jvm.Cond.fieldLink (mu_mY mi).cls x "java/lang/String" n0 d0) = true) (ht : mu_T g a = 13) (k : mu_go w mi d L Q (pc + 3) ls ((if f = 0 then .ref (mu_R g a f) else .int (mu_I g a f)) :: st) g) : mu_go w mi d L Q pc ls (.ref a :: st) g :=
  mu_lift (fun p l e R s m args below meth cd H locs cells slots S0 Qw lsA hc hy _ k => by
    obtain ⟨a, rfl⟩ := mu_succ (t := 12) hy.1 ht
    obtain ⟨-, h2, h3⟩ := (hy.1.2.2.2 a).2.2 ht
    rcases hf with ⟨rfl, rfl, rfl⟩ | ⟨rfl, rfl, rfl⟩
    · obtain ⟨cf, kf, fi, fd, cell, hi, hst, hcell, hkn, hsl, -⟩ := h2
      exact W.getf hc.1 hc.2.1 hc.2.2.2.1 (hc.2.2.2.2.1 _ hw.1 hw.2) hi hst hcell hkn hsl rfl rfl hd k
    · obtain ⟨cf, kf, fi, fd, cell, hi, hst, hcell, hkn, hsl, -⟩ := h3
      exact W.getf hc.1 hc.2.1 hc.2.2.2.1 (hc.2.2.2.2.1 _ hw.1 hw.2) hi hst hcell hkn hsl rfl rfl hd k) k
/-- a cell of the class table is written: the heap that comes of it -/
theorem mu_rep_put {s : State} {H H' : Heap} {c a f : Nat} {r : vw_C} {g' : mu_H} {cell : Cell} {v : Value} (hcn : c < 12) (hr : vwCl[c]? = some r) (hf : f < r.2.2) (hP : mu_rep w g s H) (ht : mu_T g (a + 1) = c + 1)
    (eT : mu_T g' = mu_T g) (eN : mu_N g' = mu_N g) (eX : mu_X g' = mu_X g) (eo : ∀ x k, x ≠ a + 1 → mu_I g' x k = mu_I g x k ∧ mu_R g' x k = mu_R g x k) (ev : ∀ k, k < r.2.2 → mu_V (mu_Fv g' c (a + 1) k) = updV (fun k => mu_V (mu_Fv g c (a + 1) k)) f v k)
    (q2 : cell.cls = w.2.1 c) (q3 : cell.vm = .none) (q4 : ∀ k, k < r.2.2 → cell.slots[w.2.2.1 c k]? = some (mu_V (mu_Fv g c (a + 1) k))) (hap : ∀ x y, x < r.2.2 → y < r.2.2 → x ≠ y → w.2.2.1 c x ≠ w.2.2.1 c y)
    (e1 : H'[a]? = some (cell.setSlot (w.2.2.1 c f) v)) (e2 : H'.size = H.size) (e3 : ∀ q, q ≠ a → H'[q]? = H[q]?) : mu_rep w g' s H' := by
  obtain ⟨h1, h2, h3, h4⟩ := hP
  refine ⟨by rw [e2, eX]; exact h1, by rw [e2]; exact h2, by rw [eT]; exact h3, fun b => ?_⟩
  by_cases hb : b = a
  · subst hb
    refine ⟨fun c' hc' ht' => ?_, fun q hq ht' => ?_, fun ht' => ?_⟩
    · rw [eT] at ht'
      have : c' = c := by omega
      subst this
      exact ⟨((h4 b).1 c' hc' ht').1, r, hr, _, e1, q2, q3, fun k hk => (t_set q4 hap hf v k hk).trans (congrArg some (ev k hk).symm)⟩
    · rw [eT, ht] at ht'; omega
    · rw [eT, ht] at ht'; omega
  · exact mu_cell_kept (h4 b) (e3 b hb) (by rw [eT]) (by rw [eN]) (fun k => (eo _ k (by omega)).1) (fun k => (eo _ k (by omega)).2)
theorem mu_go_put {x c f : Nat} {r : vw_C} {a : Nat} {v : Value} {g' : mu_H} (hcn : c < 12) (hd : decode (mu_mB mi) pc = .ok (.putfield x, 3)) (hr : vwCl[c]? = some r) (hf : f < r.2.2) (hw : Jvm.Cond.fieldLink (mu_mY mi).cls x (r.2.1 f).1 (r.2.1 f).2.1 (r.2.1 f).2.2.1 ∈ lw_tbl ∧ goodWord (Jvm.Cond.fieldLink (mu_mY mi).cls x (r.2.1 f).1 (r.2.1 f).2.1 (r.2.1 f).2.2.1) = true)
    (hfin : (r.2.1 f).2.2.2 = false ∨ ((mu_mY mi).name = "<init>" ∧ (r.2.1 f).1 = (mu_mY mi).cls)) (ht : mu_T g a = c + 1) (hn : narrow (mu_Ty c f) (mu_V v) = mu_V v) (hfit : fits (mu_Ty c f) (mu_V v) = true)
    (eT : mu_T g' = mu_T g) (eN : mu_N g' = mu_N g) (eX : mu_X g' = mu_X g) (eS : mu_S g' = mu_S g) (eo : ∀ x k, x ≠ a → mu_I g' x k = mu_I g x k ∧ mu_R g' x k = mu_R g x k) (ev : ∀ k, k < r.2.2 → mu_Fv g' c a k = if k = f then v else mu_Fv g c a k)
    (k : mu_go w mi d L Q (pc + 3) ls st g') : mu_go w mi d L Q pc ls (v :: .ref a :: st) g := by
  intro p l e R s m args below meth cd H locs cells slots S0 Qw lsA hc hy hl hret
  obtain ⟨a, rfl⟩ := mu_succ hy.1 ht
  obtain ⟨r', hr', -, -, -, -, hin, hty, hnm, -⟩ := mu_cls hcn
  cases hr.symm.trans hr'
  obtain ⟨hwa, r', hr', cell, q1, q2, q3, q4⟩ := (hy.1.2.2.2 a).1 c hcn ht
  cases hr.symm.trans hr'
  have hap := va_apart (own := "") (mu_hts hc) hin (mu_Ty c) hty hnm hc.2.2.2.2.2.1.1 hr
  obtain ⟨hS, hfc, kC, hkC, hkind⟩ := hc.2.2.2.2.2.1.1.1 c _ hr
  obtain ⟨cf, kf, fi, fd, hi, hsl⟩ := hS f hf
  have hst := (u_facts hfc hkC (u_lays (mu_hts hc) hin hf) hi).1
  have hlay := mu_hts hc _ (hin _ (u_in_lay hf))
  have hlk := hc.2.2.2.2.1 _ hw.1 hw.2
  have hgo : ∀ H' : Heap, H'[a]? = some (cell.setSlot (w.2.2.1 c f) (mu_V v)) → H'.size = H.size → (∀ q, q ≠ a → H'[q]? = H[q]?) → W p l e R s m args below meth cd H' (locs ++ [⟨a, w.2.2.1 c f⟩]) cells slots Qw (F0 m (pc + 3) lsA (st.map mu_V)) := by
    intro H' e1 e2 e3
    refine k p l e R s m args below meth cd H' _ cells slots S0 Qw lsA hc ⟨mu_rep_put hcn hr hf hy.1 ht eT eN eX eo (fun j hj => ?_) q2 q3 q4 hap e1 e2 e3, mu_stat_kept hy.2.1 (fun q _ hq => e3 q (fun h => hq (by rw [h]; exact hwa))), by rw [e2]; exact hy.2.2.1, by rw [eS]; exact hy.2.2.2.1, fun q hq => ?_, hy.2.2.2.2.2⟩ hl hret
    · rw [ev j hj]
      unfold updV
      split <;> rfl
    · rcases List.mem_append.mp hq with h | h
      · exact hy.2.2.2.2.1 q h
      · rw [List.mem_singleton.mp h]; exact hwa
  by_cases hfi : (r.2.1 f).2.2.2 = true
  · rcases hfin with h | ⟨hin2, hdecl⟩
    · rw [h] at hfi; cases hfi
    · unfold u_lay at hlay
      rw [if_pos hfi] at hlay
      have hcf : m.cls = cf := by
        obtain ⟨_, _, c', _, _, _, -, -, hf', -, -, -, hown2, -⟩ := Cond.laysFinal_spec hlay
        have e1 : c' = cf := by have := hi.symm.trans hf'; simp at this; exact this.1.symm
        rw [hdecl] at hown2
        rw [← e1]; exact Option.some.inj (hc.2.2.2.1.symm.trans hown2)
      have h6 := u_fits hfc hkC hkind (Or.inr hlay) hi (hty f hf) hn hfit
      refine W.putFinK hc.1 hc.2.1 hc.2.2.2.1 hlk hi hst hcf (hc.2.2.2.2.2.2.1.trans hin2) (by rw [q2]; exact h6) q1 q3 (by rw [hsl]; exact k2_hasslot (q4 f hf)) rfl rfl hd fun H' e1 e2 e3 => ?_
      rw [hsl] at e1 ⊢
      exact hgo H' e1 e2 e3
  · unfold u_lay at hlay
    rw [if_neg hfi] at hlay
    have h6 := u_store hfc hkC hkind hlay hi (hty f hf) hn hfit
    refine W.putK hc.1 hc.2.1 (f := fd) ⟨hc.2.2.2.1, hlk, ⟨_, _, _, hi⟩, hst⟩ (by rw [q2]; exact h6) q1 q3 (by rw [hsl]; exact k2_hasslot (q4 f hf)) rfl rfl hd fun H' e1 e2 e3 => ?_
    rw [hsl] at e1 ⊢
    exact hgo H' e1 e2 e3
end Mu9
