/-! OWN SMALL MACHINE, PART 10: calls, and a contract out of a walk -/
section Mu12
variable {w : mu_O} {mi : mu_M} {d : Nat} {L : Nat × Nat} {Q : Option Value → mu_H → Prop} {pc : Nat} {ls : List (Option Value)} {st : List Value} {g : mu_H}
theorem mu_K_same {u U : State} (hv : u.vm = U.vm) (h : mu_K w u) : mu_K w U := by
  obtain ⟨h1, h2, h3, h4, h5⟩ := h
  have hal : u.vm.Alike U.vm := by rw [hv]; exact Vm.Alike.refl _
  refine ⟨va_K.moved hal h1, fun q hq => (h2 q hq).same rfl hv, fun q hq => (h3 q hq).same rfl hv, fun q h0 hq => ?_, fun j q hj => ?_⟩
  · obtain ⟨C, e, hC⟩ := h4 q h0 hq
    exact ⟨C, e, hC.moved hal⟩
  · obtain ⟨a, e, ha⟩ := h5 j q hj
    exact ⟨a, e, ha.same hv.symm⟩
theorem mu_cal {s : State} {U : State} {g : JFrame} {mk : MethodId} {a : Array Value} : (U.calling g mk a).vm = U.vm ∧ (U.calling g mk a).heap = U.heap := ⟨rfl, rfl⟩
theorem mu_blind {As : List Value} {g0 : mu_H} : FrameBlind (va_Pc As (fun U => mu_K w U ∧ mu_rep w g0 U U.heap ∧ mu_stat w U U.heap)) := by
  intro a U g mk h
  obtain ⟨h0, h1, h2, h3⟩ := h
  exact ⟨h0, mu_K_same (u := U) rfl h1, mu_rep_moved (u := U) (U := U.calling g mk a) (Vm.Alike.refl U.vm) h2, mu_stat_moved (u := U) (U := U.calling g mk a) (Vm.Alike.refl U.vm) h3⟩
theorem mu_pre {s : State} {H : Heap} {As : List Value} (hK : mu_K w s) (hP : mu_rep w g s H) (hZ : mu_stat w s H) : ∀ U : State, U.heap = H → s.WarmedH U.vm → va_Pc As (fun U => mu_K w U ∧ mu_rep w g U U.heap ∧ mu_stat w U U.heap) As.toArray U := by
  intro U hU hW
  subst hU
  exact ⟨rfl, mu_K_warm hW hK, mu_rep_moved hW.alike hP, mu_stat_moved hW.alike hZ⟩
theorem mu_W_run {p : Program} {l : Launch} {e : Env} {R : Room} {s : State} {m : MethodId} {args : Array Value} {below : List Frame} {meth : Method} {c : Code} {H : Heap} {locs : List Loc} {cells slots S0 X S : Nat} {Qw : State → Prop} {lsA : Array Slot} {st0 restV : List Value} {P : Option Value → mu_H → Prop}
    {Qa : State → Outcome → State → Prop} (hr : va_Run p l e R s m args below meth c H locs cells slots (X - mu_X g) (S - mu_S g) (F0 m pc lsA st0) restV Qa (fun q => w.1 ≤ q)) (hq : ∀ o st₀ t, Qa st₀ o t → ∃ r g', P r g' ∧ mu_X g' = X ∧ mu_S g' = S ∧ o = .returned (r.map mu_V) ∧ mu_rep w g' t t.heap ∧ mu_stat w t t.heap)
    (hX : mu_X g ≤ X) (hS : mu_S g ≤ S) (hL1 : X ≤ s.heap.size + 1 + R.cells) (hL2 : S ≤ S0 + R.slots) (hy : mu_dyn w g R s S0 H locs cells slots)
    (k : ∀ (r : Option Value) (g' : mu_H) (H' : Heap) (locs' : List Loc), P r g' → mu_X g' = X → mu_S g' = S → mu_dyn w g' R s S0 H' locs' (cells + (X - mu_X g)) (slots + (S - mu_S g)) → W p l e R s m args below meth c H' locs' (cells + (X - mu_X g)) (slots + (S - mu_S g)) Qw (F0 m (pc + 3) lsA ((r.map mu_V).toList ++ restV))) :
    W p l e R s m args below meth c H locs cells slots Qw (F0 m pc lsA st0) := by
  intro T hT X0
  obtain ⟨v, st₀, t, T', L', h0, X', hL', e1, e2, hqa, st⟩ := hr T hT X0
  obtain ⟨r, g', hP, hgX, hgS, hv, hrep, hstat⟩ := hq _ _ _ hqa
  cases hv
  have hal : t.vm.Alike s.vm := by rw [← e2]; exact X'.warmed.alike.symm
  have hrep' : mu_rep w g' s T'.heap := by rw [e1]; exact mu_rep_moved hal hrep
  have hstat' : mu_stat w s T'.heap := by rw [e1]; exact mu_stat_moved hal hstat
  obtain ⟨⟨z1, -⟩, -, z2, z3, z4, z5, z6⟩ := hy
  have z7 := hrep'.1
  obtain ⟨t2, a1, b1⟩ := k r g' T'.heap (locs ++ L') hP hgX hgS ⟨hrep', hstat', by omega, by omega, fun q hq => (List.mem_append.mp hq).elim (z4 q) (fun h => hL' q h), by omega, by omega⟩ T' rfl X'
  exact ⟨t2, st t2 a1, b1⟩
theorem mu_good (mj : mu_M) (hcode : Jvm.Cond.code (mu_mY mj) (mu_mB mj) (mu_mL mj) (mu_mR mj) ∈ lw_tbl ∧ goodWord (Jvm.Cond.code (mu_mY mj) (mu_mB mj) (mu_mL mj) (mu_mR mj)) = true) : GoodIn (lw_tbl.filter goodWord) (mu_ws mj) := by
  intro x hx
  rcases List.mem_cons.mp hx with rfl | hx
  · exact ⟨List.mem_filter.mpr hcode, good_of_word hcode.2⟩
  · exact ⟨hx, good_of_word (List.mem_filter.mp hx).2⟩
/-- what is checked of a callee -/
def mu_cee (mj : mu_M) : Prop := (Jvm.Cond.code (mu_mY mj) (mu_mB mj) (mu_mL mj) (mu_mR mj) ∈ lw_tbl ∧ goodWord (Jvm.Cond.code (mu_mY mj) (mu_mB mj) (mu_mL mj) (mu_mR mj)) = true) ∧ (Jvm.Cond.initialized (mu_mY mj).cls ∈ lw_tbl ∧ goodWord (Jvm.Cond.initialized (mu_mY mj).cls) = true) ∧ ((mu_mY mj).cls ≠ "java/lang/invoke/MethodHandle" ∧ (mu_mY mj).cls ≠ "java/lang/invoke/VarHandle" ∧ (parseMethodDescriptor (mu_mY mj).desc).map (fun d => d.parameters.length) = some (mu_mA mj)) ∧ mu_mL mj ≤ 21
def mu_lnk (own : String) (x : Nat) (mj : mu_M) : Prop := (Jvm.Cond.methodLink own x (mu_mY mj) ∈ lw_tbl ∧ goodWord (Jvm.Cond.methodLink own x (mu_mY mj)) = true) ∨ (own, x, mu_mY mj, "StageFights") ∈ mu_nM
theorem mu_go_callS {x : Nat} {mj : mu_M} {As rest : List Value} {P : Option Value → mu_H → Prop} {X S : Nat} (hd : decode (mu_mB mi) pc = .ok (.invokestatic x, 3)) (he : mu_cee mj) (hlk : mu_lnk (mu_mY mi).cls x mj) (hs : Jvm.Cond.static (mu_mY mj) ∈ lw_tbl ∧ goodWord (Jvm.Cond.static (mu_mY mj)) = true) (hn : As.length = mu_mA mj) (hsm : (rest.map fun v => v.category).sum ≤ 8)
    (hM : mu_mt w mj d As g P X S) (hX : X ≤ L.1) (hS : S ≤ L.2) (k : ∀ r g', P r g' → mu_X g' = X → mu_S g' = S → mu_go w mi (d + 1) L Q (pc + 3) ls (r.toList ++ rest) g') : mu_go w mi (d + 1) L Q pc ls (As.reverse ++ rest) g := by
  intro p l e R s m args below meth c H locs cells slots S0 Qw lsA hc hy hl hret
  obtain ⟨hM1, hM2, hM3⟩ := hM
  obtain ⟨c1, c2, c3, c4⟩ := he
  have hR := hc.2.2.2.2.2.2.2
  have hro : d + 1 ≤ R.frames ∧ 8 + (mu_mL mj + 11) + 40 * d ≤ R.locals := by omega
  have t := fun {x : Jvm.Cond} (h : x ∈ lw_tbl ∧ goodWord x = true) => hc.2.2.2.2.1 x h.1 h.2
  have hf : cells + (X - mu_X g) ≤ R.cells ∧ slots + (S - mu_S g) ≤ R.slots := by
    obtain ⟨⟨z1, -⟩, -, z2, z3, -⟩ := hy
    omega
  have hp := mu_pre (As := As.map mu_V) hc.2.2.2.2.2.1 hy.1 hy.2.1
  have hst : ((As.reverse ++ rest).map mu_V) = (As.map mu_V).reverse ++ rest.map mu_V := by rw [List.map_append, List.map_reverse]
  have hsz : lsA.size = mu_mL mi := hl.1
  have hsm' : 2 * (F0 m pc lsA ((As.reverse ++ rest).map mu_V)).monitorRoom + ((rest.map mu_V).map fun v => v.category).sum ≤ 8 := lv_room (by rw [mu_cat_map]; exact hsm)
  have hrun : va_Run p l e R s m args below meth c H locs cells slots (X - mu_X g) (S - mu_S g) (F0 m pc lsA ((As.reverse ++ rest).map mu_V)) (rest.map mu_V) (fun _ oc t => ∃ r g', P r g' ∧ mu_X g' = X ∧ mu_S g' = S ∧ oc = .returned (r.map mu_V) ∧ mu_rep w g' t t.heap ∧ mu_stat w t t.heap) (fun q => w.1 ≤ q) := by
    rcases hlk with hlk | hlk
    · exact va_runS ⟨hc.1, hc.2.1, hc.2.2.1, hc.2.2.2.1, mu_hts hc⟩ (hM3 l) ⟨callB_of (mu_mA mj) (mu_hts hc) (mu_good mj c1) rfl rfl rfl (t c2) (t hlk) c3 hro, t hs⟩ ⟨mu_blind, hp⟩ rfl (by rw [List.length_map]; exact hn) hsz hst hsm' hd hf
    · exact va_runSN ⟨hc.1, hc.2.1, hc.2.2.1, hc.2.2.2.1, mu_hts hc⟩ (hM3 l) ⟨va_cnB (mu_mA mj) (mu_hts hc) (mu_good mj c1) rfl rfl rfl (hc.2.2.2.2.2.1.2.2.1 _ hlk) (t c2) c3 hro, t hs, trivial⟩ ⟨mu_blind, hp⟩ rfl (by rw [List.length_map]; exact hn) hsz hst hsm' hd hf
  refine mu_W_run hrun (fun _ _ _ h => h) hM1 hM2 (by omega) (by omega) hy fun r g' H' locs' hP' hX' hS' hy' => ?_
  have k' := k r g' hP' hX' hS' p l e R s m args below meth c H' locs' _ _ S0 Qw lsA hc hy' hl hret
  rw [List.map_append] at k'
  have er : r.toList.map mu_V = (r.map mu_V).toList := by cases r <;> rfl
  rw [er] at k'
  exact k'
theorem mu_recv {s : State} {H : Heap} {a k0 : Nat} {C : String} (hk : k0 < 13) (hC : mu_own k0 = C) (hK : mu_K w s) (hP : mu_rep w g s H) (ht : mu_T g (a + 1) = k0 + 1) : ∃ cellB : Cell, H[a]? = some cellB ∧ cellB.vm.isStatics = false ∧ s.vm.findClass C = some cellB.cls := by
  by_cases h12 : k0 < 12
  · obtain ⟨-, r, hr, cell, g1, g2, g3, -⟩ := (hP.2.2.2 a).1 k0 h12 ht
    obtain ⟨r', hr', -, hr1, -⟩ := mu_cls h12
    cases hr.symm.trans hr'
    exact ⟨cell, g1, by rw [g3]; rfl, by rw [g2, ← hC, ← hr1]; exact (hK.1.1 k0 r hr).2.1⟩
  · have e : k0 = 12 := by omega
    subst e
    obtain ⟨⟨cell, g1, g2, g3, -⟩, -⟩ := (hP.2.2.2 a).2.2 ht
    exact ⟨cell, g1, g2, by rw [← hC]; exact g3⟩
theorem mu_go_callV {x : Nat} {mj : mu_M} {As rest : List Value} {P : Option Value → mu_H → Prop} {X S : Nat} {a : Nat} (hd : decode (mu_mB mi) pc = .ok (.invokevirtual x, 3)) (he : mu_cee mj) (hlk : Jvm.Cond.methodLink (mu_mY mi).cls x (mu_mY mj) ∈ lw_tbl ∧ goodWord (Jvm.Cond.methodLink (mu_mY mi).cls x (mu_mY mj)) = true) (hs : Jvm.Cond.instanceMethod (mu_mY mj) ∈ lw_tbl ∧ goodWord (Jvm.Cond.instanceMethod (mu_mY mj)) = true) (hse : Jvm.Cond.selects (mu_mY mj).cls (mu_mY mj) (mu_mY mj) ∈ lw_tbl ∧ goodWord (Jvm.Cond.selects (mu_mY mj).cls (mu_mY mj) (mu_mY mj)) = true) (hk13 : mu_mK mj < 13) (hown : mu_own (mu_mK mj) = (mu_mY mj).cls)
    (ht : mu_T g a = mu_mK mj + 1) (hn : As.length = mu_mA mj) (hsm : (rest.map fun v => v.category).sum ≤ 8)
    (hM : mu_mt w mj d (.ref a :: As) g P X S) (hX : X ≤ L.1) (hS : S ≤ L.2) (k : ∀ r g', P r g' → mu_X g' = X → mu_S g' = S → mu_go w mi (d + 1) L Q (pc + 3) ls (r.toList ++ rest) g') : mu_go w mi (d + 1) L Q pc ls (As.reverse ++ .ref a :: rest) g := by
  intro p l e R s m args below meth c H locs cells slots S0 Qw lsA hc hy hl hret
  obtain ⟨a, rfl⟩ := mu_succ hy.1 ht
  obtain ⟨hM1, hM2, hM3⟩ := hM
  obtain ⟨c1, c2, c3, c4⟩ := he
  have hR := hc.2.2.2.2.2.2.2
  have hro : d + 1 ≤ R.frames ∧ 8 + (mu_mL mj + 11) + 40 * d ≤ R.locals := by omega
  have t := fun {x : Jvm.Cond} (h : x ∈ lw_tbl ∧ goodWord x = true) => hc.2.2.2.2.1 x h.1 h.2
  have hf : cells + (X - mu_X g) ≤ R.cells ∧ slots + (S - mu_S g) ≤ R.slots := by
    obtain ⟨⟨z1, -⟩, -, z2, z3, -⟩ := hy
    omega
  have hp := mu_pre (As := (Value.ref (a + 1) :: As).map mu_V) hc.2.2.2.2.2.1 hy.1 hy.2.1
  have hst : ((As.reverse ++ .ref (a + 1) :: rest).map mu_V) = (As.map mu_V).reverse ++ .ref a :: rest.map mu_V := by rw [List.map_append, List.map_reverse]; rfl
  have hsz : lsA.size = mu_mL mi := hl.1
  have hsm' : 2 * (F0 m pc lsA ((As.reverse ++ .ref (a + 1) :: rest).map mu_V)).monitorRoom + ((rest.map mu_V).map fun v => v.category).sum ≤ 8 := lv_room (by rw [mu_cat_map]; exact hsm)
  have hrun : va_Run p l e R s m args below meth c H locs cells slots (X - mu_X g) (S - mu_S g) (F0 m pc lsA ((As.reverse ++ .ref (a + 1) :: rest).map mu_V)) (rest.map mu_V) (fun _ oc t => ∃ r g', P r g' ∧ mu_X g' = X ∧ mu_S g' = S ∧ oc = .returned (r.map mu_V) ∧ mu_rep w g' t t.heap ∧ mu_stat w t t.heap) (fun q => w.1 ≤ q) :=
    va_runV (C := (mu_mY mj).cls) ⟨hc.1, hc.2.1, hc.2.2.1, hc.2.2.2.1, mu_hts hc⟩ (hM3 l) ⟨callB_of (mu_mA mj) (mu_hts hc) (mu_good mj c1) rfl rfl rfl (t c2) (t hlk) c3 hro, t hs, t hse⟩ ⟨mu_blind, mu_recv hk13 hown hc.2.2.2.2.2.1 hy.1 ht, hp⟩ rfl (by rw [List.length_map]; exact hn) hsz hst hsm' hd hf
  refine mu_W_run hrun (fun _ _ _ h => h) hM1 hM2 (by omega) (by omega) hy fun r g' H' locs' hP' hX' hS' hy' => ?_
  have k' := k r g' hP' hX' hS' p l e R s m args below meth c H' locs' _ _ S0 Qw lsA hc hy' hl hret
  rw [List.map_append] at k'
  have er : r.toList.map mu_V = (r.map mu_V).toList := by cases r <;> rfl
  rw [er] at k'
  exact k'
theorem mu_go_callI {x : Nat} {mj : mu_M} {As rest : List Value} {P : Option Value → mu_H → Prop} {X S : Nat} {a : Nat} (hd : decode (mu_mB mi) pc = .ok (.invokespecial x, 3)) (he : mu_cee mj) (hlk : mu_lnk (mu_mY mi).cls x mj) (hs : Jvm.Cond.instanceMethod (mu_mY mj) ∈ lw_tbl ∧ goodWord (Jvm.Cond.instanceMethod (mu_mY mj)) = true) (hin : (mu_mY mj).name = "<init>") (hvoid : mu_mR mj = none) (ha : ¬ a = 0) (hn : As.length = mu_mA mj) (hsm : (rest.map fun v => v.category).sum ≤ 8)
    (hM : mu_mt w mj d (.ref a :: As) g P X S) (hX : X ≤ L.1) (hS : S ≤ L.2) (k : ∀ r g', P r g' → mu_X g' = X → mu_S g' = S → mu_go w mi (d + 1) L Q (pc + 3) ls (r.toList ++ rest) g') : mu_go w mi (d + 1) L Q pc ls (As.reverse ++ .ref a :: rest) g := by
  intro p l e R s m args below meth c H locs cells slots S0 Qw lsA hc hy hl hret
  obtain ⟨a, rfl⟩ := Nat.exists_eq_succ_of_ne_zero ha
  obtain ⟨hM1, hM2, hM3⟩ := hM
  obtain ⟨c1, c2, c3, c4⟩ := he
  have hR := hc.2.2.2.2.2.2.2
  have hro : d + 1 ≤ R.frames ∧ 8 + (mu_mL mj + 11) + 40 * d ≤ R.locals := by omega
  have t := fun {x : Jvm.Cond} (h : x ∈ lw_tbl ∧ goodWord x = true) => hc.2.2.2.2.1 x h.1 h.2
  have hf : cells + (X - mu_X g) ≤ R.cells ∧ slots + (S - mu_S g) ≤ R.slots := by
    obtain ⟨⟨z1, -⟩, -, z2, z3, -⟩ := hy
    omega
  have hp := mu_pre (As := (Value.ref (a + 1) :: As).map mu_V) hc.2.2.2.2.2.1 hy.1 hy.2.1
  have hst : ((As.reverse ++ .ref (a + 1) :: rest).map mu_V) = (As.map mu_V).reverse ++ .ref a :: rest.map mu_V := by rw [List.map_append, List.map_reverse]; rfl
  have hsz : lsA.size = mu_mL mi := hl.1
  have hsm' : 2 * (F0 m pc lsA ((As.reverse ++ .ref (a + 1) :: rest).map mu_V)).monitorRoom + ((rest.map mu_V).map fun v => v.category).sum ≤ 8 := lv_room (by rw [mu_cat_map]; exact hsm)
  have hws : mu_ws mj = .code (mu_mY mj) (mu_mB mj) (mu_mL mj) none :: lw_tbl.filter goodWord := by unfold mu_ws; rw [hvoid]
  have hrun : va_Run p l e R s m args below meth c H locs cells slots (X - mu_X g) (S - mu_S g) (F0 m pc lsA ((As.reverse ++ .ref (a + 1) :: rest).map mu_V)) (rest.map mu_V) (fun _ oc t => ∃ r g', P r g' ∧ mu_X g' = X ∧ mu_S g' = S ∧ oc = .returned (r.map mu_V) ∧ mu_rep w g' t t.heap ∧ mu_stat w t t.heap) (fun q => w.1 ≤ q) := by
    rcases hlk with hlk | hlk
    · exact va_runI ⟨hc.1, hc.2.1, hc.2.2.1, hc.2.2.2.1, mu_hts hc⟩ (hM3 l) ⟨callB_of (mu_mA mj) (mu_hts hc) (mu_good mj c1) hws rfl rfl (t c2) (t hlk) c3 hro, hin, t hs⟩ ⟨mu_blind, hp⟩ rfl (by rw [List.length_map]; exact hn) hsz hst hsm' hd hf
    · exact va_runIN ⟨hc.1, hc.2.1, hc.2.2.1, hc.2.2.2.1, mu_hts hc⟩ (hM3 l) ⟨va_cnB (mu_mA mj) (mu_hts hc) (mu_good mj c1) hws rfl rfl (hc.2.2.2.2.2.1.2.2.1 _ hlk) (t c2) c3 hro, hin, t hs⟩ ⟨mu_blind, hp⟩ rfl (by rw [List.length_map]; exact hn) hsz hst hsm' hd hf
  refine mu_W_run hrun (fun _ _ _ h => h) hM1 hM2 (by omega) (by omega) hy fun r g' H' locs' hP' hX' hS' hy' => ?_
  have k' := k r g' hP' hX' hS' p l e R s m args below meth c H' locs' _ _ S0 Qw lsA hc hy' hl hret
  rw [List.map_append] at k'
  have er : r.toList.map mu_V = (r.map mu_V).toList := by cases r <;> rfl
  rw [er] at k'
  exact k'
/-- a contract out of a walk from the entry -/
theorem mu_mt_of {As : List Value} {P : Option Value → mu_H → Prop} {X S : Nat} (hok : plainName (mu_mY mi).cls = true) (hlen : (lg_sl (As.map mu_V)).length ≤ mu_mL mi) (hent : ∀ lsA : Array Slot, lv_has lsA (mu_mL mi) (lv_args 0 (As.map mu_V)) → lv_has lsA (mu_mL mi) (mu_lv 0 ls)) (hX : mu_X g ≤ X) (hS : mu_S g ≤ S)
    (k : mu_go w mi d (X, S) (fun r' g'' => P r' g'' ∧ mu_X g'' = X ∧ mu_S g'' = S) 0 ls [] g) : mu_mt w mi d As g P X S := by
  refine ⟨hX, hS, fun l => ?_⟩
  refine Met.ofW (cc := mu_mB mi) (maxL := mu_mL mi) (ret := mu_mR mi) hok rfl ?_
  intro p e s m args below meth c s₁ B hml hv
  obtain ⟨rfl, hK, hP, hZ⟩ := hv
  have hts := atoms_spec (ws := mu_ws mi) B.pre
  have hlocks := B.notSynchronized
  have hl := hent _ (lv_entry (As.map mu_V) hlen)
  rw [lg_entry_eq]
  have hsz := hP.1
  refine k p l e _ s m _ below meth c s.heap [] 0 0 (mu_S g) _ _ ⟨B.exec, B.bytes, hml, findClass_of_methodNamed B.named, fun x hx hg => hts x (List.mem_cons_of_mem _ (List.mem_filter.mpr ⟨hx, hg⟩)), hK, (name_of_methodNamed B.named B.method).1, Nat.le_refl _, Nat.le_refl _, ?_, ?_⟩ ⟨hP, hZ, rfl, rfl, (fun _ h => by cases h), Nat.zero_le _, Nat.zero_le _⟩ hl ?_
  · show X = s.heap.size + 1 + (X - mu_X g); omega
  · show S = mu_S g + (S - mu_S g); omega
  · intro r' g'' H' locs' cells' slots' pc' ls' hq hy hret
    obtain ⟨hp, hgX, hgS⟩ := hq
    obtain ⟨hP', hZ', z1, z2, z3, -, -⟩ := hy
    have z4 := hP'.1
    have e1 : cells' = X - mu_X g := by omega
    have e2 : slots' = S - mu_S g := by omega
    subst e1; subst e2
    have hpost : ∀ t : State, t.heap = H' → s.WarmedH t.vm → mu_rep w g'' t t.heap ∧ mu_stat w t t.heap := by
      intro t ht hW
      subst ht
      exact ⟨mu_rep_moved hW.alike hP', mu_stat_moved hW.alike hZ'⟩
    cases r' with
    | none =>
      exact W.vret B.exec B.bytes (B.returns.trans hret.1) (fun t ht hW => ⟨_, _, hp, hgX, hgS, rfl, hpost t ht hW⟩) z3 hret.2
    | some v =>
      cases v with
      | int v =>
        obtain ⟨ty, h1, h2, h3⟩ := hret
        exact W.zret B.exec B.bytes (B.returns.trans h1) h2 (fun t ht hW => ⟨_, _, hp, hgX, hgS, rfl, hpost t ht hW⟩) z3 h3
      | ref a =>
        obtain ⟨rt, h1, h2, h3⟩ := hret
        exact W.aret B.exec B.bytes (B.returns.trans h1) h2 (by cases a with | zero => exact Or.inl rfl | succ a => exact Or.inr ⟨a, rfl⟩) (fun t ht hW => ⟨_, _, hp, hgX, hgS, rfl, hpost t ht hW⟩) z3 h3
      | _ => exact hret.elim
end Mu12
