/-! OWN SMALL MACHINE, PART 12: a step is walked as it should; so is a walk of many -/
section Mu14
variable {w : mu_O} {mi : mu_M} {d : Nat} {L : Nat × Nat} {Q : Option Value → mu_H → Prop} {pc : Nat} {ls : List (Option Value)} {st : List Value} {g : mu_H}
theorem mu_ok_e (hm : mu_ok mi = true) : mu_mK mi < 18 ∧ mu_own (mu_mK mi) = (mu_mY mi).cls ∧ mu_mL mi ≤ 21 ∧ plainName (mu_mY mi).cls = true ∧ ∀ q ∈ mu_mC mi, mu_okI mi q = true := by
  unfold mu_ok at hm
  simp only [Bool.and_eq_true] at hm
  obtain ⟨⟨⟨⟨h1, h2⟩, h3⟩, h4⟩, h5⟩ := hm
  exact ⟨Nat.le_of_ble_eq_true h1, of_decide_eq_true h2, Nat.le_of_ble_eq_true h3, h4, fun q hq => List.all_eq_true.mp h5 q hq⟩
theorem mu_okI_e {i : Instr} {n : Nat} (hm : mu_ok mi = true) (hat : mu_at (mu_mC mi) pc = some (i, n)) : decode (mu_mB mi) pc = .ok (i, n) ∧ n = mu_len n i ∧ mu_okA mi pc i = true := by
  have h := (mu_ok_e hm).2.2.2.2 _ (mu_at_mem hat)
  unfold mu_okI at h
  simp only [Bool.and_eq_true] at h
  exact ⟨of_decide_eq_true h.1.1, Nat.eq_of_beq_eq_true h.1.2, h.2⟩
theorem mu_ckM_e {c x : Nat} {mj : mu_M} {kd : Nat} {ne : Bool} {is : List Nat} (hc : c < 18) (h : mu_look (mu_pM c) x = some (mj, kd, ne, is)) : mu_cee mj ∧ mu_lnk (mu_own c) x mj ∧ (ne = false → Jvm.Cond.methodLink (mu_own c) x (mu_mY mj) ∈ lw_tbl ∧ goodWord (Jvm.Cond.methodLink (mu_own c) x (mu_mY mj)) = true) ∧
    (kd = 0 → Jvm.Cond.static (mu_mY mj) ∈ lw_tbl ∧ goodWord (Jvm.Cond.static (mu_mY mj)) = true) ∧
    (kd = 1 → (Jvm.Cond.methodLink (mu_own c) x (mu_mY mj) ∈ lw_tbl ∧ goodWord (Jvm.Cond.methodLink (mu_own c) x (mu_mY mj)) = true) ∧ (Jvm.Cond.instanceMethod (mu_mY mj) ∈ lw_tbl ∧ goodWord (Jvm.Cond.instanceMethod (mu_mY mj)) = true) ∧ (Jvm.Cond.selects (mu_mY mj).cls (mu_mY mj) (mu_mY mj) ∈ lw_tbl ∧ goodWord (Jvm.Cond.selects (mu_mY mj).cls (mu_mY mj) (mu_mY mj)) = true) ∧ mu_mK mj < 13 ∧ mu_own (mu_mK mj) = (mu_mY mj).cls) ∧
    (kd = 2 → (Jvm.Cond.instanceMethod (mu_mY mj) ∈ lw_tbl ∧ goodWord (Jvm.Cond.instanceMethod (mu_mY mj)) = true) ∧ (mu_mY mj).name = "<init>" ∧ mu_mR mj = none) := by
  have h1 := mu_k_of mu_kM hc (mu_look_mem h)
  unfold mu_ckM at h1
  simp only [Bool.and_eq_true] at h1
  obtain ⟨⟨⟨⟨⟨⟨⟨i1, i2⟩, i3⟩, i4⟩, i5⟩, i6⟩, i7⟩, i8⟩ := h1
  refine ⟨⟨mu_w_e i2, mu_w_e i3, ⟨of_decide_eq_true i5, of_decide_eq_true i6, of_decide_eq_true i7⟩, Nat.le_of_ble_eq_true i8⟩, ?_, ?_, ?_, ?_, ?_⟩
  · cases ne with
    | false => exact Or.inl (mu_w_e i1)
    | true => exact Or.inr (List.mem_of_getElem? (of_decide_eq_true i1))
  · intro e; subst e; exact mu_w_e i1
  · intro e; subst e; exact mu_w_e i4
  · intro e; subst e
    simp only [Bool.and_eq_true] at i4
    have hne : ne = false := by
      cases ne with
      | false => rfl
      | true => cases i4.1.1.1.1
    subst hne
    exact ⟨mu_w_e i1, mu_w_e i4.1.1.1.2, mu_w_e i4.1.1.2, Nat.le_of_ble_eq_true i4.1.2, of_decide_eq_true i4.2⟩
  · intro e; subst e
    simp only [Bool.and_eq_true] at i4
    refine ⟨mu_w_e i4.1.1, of_decide_eq_true i4.1.2, ?_⟩
    cases hR : mu_mR mj with
    | none => rfl
    | some t => rw [hR] at i4; cases i4.2
theorem mu_call_e {mj : mu_M} {As rest : List Value} {K : List Value → mu_H → Prop} (h : mu_call w mj d L As rest g K) : ∃ (d' : Nat) (P : Option Value → mu_H → Prop) (X S : Nat), d = d' + 1 ∧ mu_mt w mj d' As g P X S ∧ X ≤ L.1 ∧ S ≤ L.2 ∧ ∀ r g', P r g' → mu_X g' = X → mu_S g' = S → K (r.toList ++ rest) g' := by
  cases d with
  | zero => exact h.elim
  | succ d =>
    unfold mu_call at h
    dsimp only at h
    split at h
    · obtain ⟨P, X, S, h1, h2, h3, h4⟩ := h
      refine ⟨d, P, X, S, rfl, h1, h2, h3, fun r g' hp hx hs => ?_⟩
      obtain ⟨rfl, h5⟩ := h4 r g' hp hx hs
      exact h5
    · obtain ⟨P, X, S, h1, h2, h3, h4⟩ := h
      refine ⟨d, P, X, S, rfl, h1, h2, h3, fun r g' hp hx hs => ?_⟩
      obtain ⟨x, rfl, h5⟩ := h4 r g' hp hx hs
      exact h5
    · obtain ⟨P, X, S, h1, h2, h3, h4⟩ := h
      refine ⟨d, P, X, S, rfl, h1, h2, h3, fun r g' hp hx hs => ?_⟩
      obtain ⟨x, rfl, h5⟩ := h4 r g' hp hx hs
      exact h5
    · obtain ⟨P, X, S, h1, h2, h3, h4⟩ := h
      refine ⟨d, P, X, S, rfl, h1, h2, h3, fun r g' hp hx hs => ?_⟩
      obtain ⟨x, rfl, h5⟩ := h4 r g' hp hx hs
      exact h5
theorem mu_go_bin {st' : List Value} {x y : Int32} (k : mu_go w mi d L Q (pc + 1) ls st' g) (h : ∀ (p : Program) (l : Launch) (e : Env) (R : Room) (s : State) (m : MethodId) (args : Array Value) (below : List Frame) (meth : Method) (c : Code) (H : Heap) (locs : List Loc) (cells slots : Nat) (Qw : State → Prop) (lsA : Array Slot),
    p.tables.exec = Jvm.exec → c.code = mu_mB mi → W p l e R s m args below meth c H locs cells slots Qw (F0 m (pc + 1) lsA (st'.map mu_V)) → W p l e R s m args below meth c H locs cells slots Qw (F0 m pc lsA (.int y :: .int x :: st.map mu_V))) : mu_go w mi d L Q pc ls (.int y :: .int x :: st) g :=
  mu_lift (fun p l e R s m args below meth c H locs cells slots S0 Qw lsA hc _ _ k => h p l e R s m args below meth c H locs cells slots Qw lsA hc.1 hc.2.1 k) k
theorem mu_rI_e {t : Option FieldType} {x : Int32} {P : Prop} (h : mu_rI t x P) : (∃ ty, t = some ty ∧ narrow ty (.int x) = .int x) ∧ P := by
  unfold mu_rI at h
  split at h
  · exact ⟨⟨_, rfl, rfl⟩, h⟩
  · refine ⟨⟨_, rfl, ?_⟩, h.2⟩
    rcases h.1 with rfl | rfl <;> rfl
  · exact ⟨⟨_, rfl, h.1⟩, h.2⟩
  · exact h.elim
theorem mu_go_ireturn {x : Int32} (hd : decode (mu_mB mi) pc = .ok (.ireturn, 1)) (h : (∃ ty, mu_mR mi = some ty ∧ narrow ty (.int x) = .int x) ∧ Q (some (.int x)) g) : mu_go w mi d L Q pc ls [.int x] g := by
  intro p l e R s m args below meth c H locs cells slots S0 Qw lsA hc hy hl hret
  obtain ⟨⟨ty, h1, h2⟩, h3⟩ := h
  exact hret (some (.int x)) g H locs cells slots pc lsA h3 hy ⟨ty, h1, h2, hd⟩
theorem mu_go_areturn {a : Nat} (hd : decode (mu_mB mi) pc = .ok (.areturn, 1)) (ho : mu_okA mi pc .areturn = true) (h : Q (some (.ref a)) g) : mu_go w mi d L Q pc ls [.ref a] g := by
  intro p l e R s m args below meth c H locs cells slots S0 Qw lsA hc hy hl hret
  refine hret (some (.ref a)) g H locs cells slots pc lsA h hy ?_
  unfold mu_okA at ho
  dsimp only at ho
  split at ho
  · rename_i h1; exact ⟨_, h1, Or.inl ⟨_, rfl⟩, hd⟩
  · rename_i h1; exact ⟨_, h1, Or.inr ⟨_, rfl⟩, hd⟩
  · cases ho
theorem mu_go_return (hd : decode (mu_mB mi) pc = .ok (.return_, 1)) (ho : mu_okA mi pc .return_ = true) (h : Q none g) : mu_go w mi d L Q pc ls [] g := by
  intro p l e R s m args below meth c H locs cells slots S0 Qw lsA hc hy hl hret
  refine hret none g H locs cells slots pc lsA h hy ⟨?_, hd⟩
  cases hR : mu_mR mi with
  | none => rfl
  | some t =>
    have ho : (mu_mR mi).isNone = true := ho
    rw [hR] at ho; cases ho
theorem mu_ckF_e {c x cc f wi : Nat} (hc : c < 18) (h : mu_look (mu_pF c) x = some (cc, f, wi)) : (cc < 12 ∧ ∃ r, vwCl[cc]? = some r ∧ f < r.2.2 ∧ (Jvm.Cond.fieldLink (mu_own c) x (r.2.1 f).1 (r.2.1 f).2.1 (r.2.1 f).2.2.1 ∈ lw_tbl ∧ goodWord (Jvm.Cond.fieldLink (mu_own c) x (r.2.1 f).1 (r.2.1 f).2.1 (r.2.1 f).2.2.1) = true)) ∨
    (cc = 12 ∧ ∃ n0 d0, ((f = 0 ∧ n0 = "value" ∧ d0 = "[B") ∨ (f = 1 ∧ n0 = "coder" ∧ d0 = "B")) ∧ (Jvm.Cond.fieldLink (mu_own c) x "java/lang/String" n0 d0 ∈ lw_tbl ∧ goodWord (Jvm.Cond.fieldLink (mu_own c) x "java/lang/String" n0 d0) = true)) := by
  have h1 := mu_k_of mu_kF hc (mu_look_mem h)
  unfold mu_ckF at h1
  dsimp only at h1
  split at h1
  · rename_i r hr
    simp only [Bool.and_eq_true] at h1
    exact Or.inl ⟨Nat.le_of_ble_eq_true h1.1.1, r, hr, Nat.le_of_ble_eq_true h1.1.2, mu_w_e h1.2⟩
  · simp only [Bool.and_eq_true, Bool.or_eq_true] at h1
    refine Or.inr ⟨Nat.eq_of_beq_eq_true h1.1, ?_⟩
    rcases h1.2 with h2 | h2
    · exact ⟨_, _, Or.inl ⟨Nat.eq_of_beq_eq_true h2.1, rfl, rfl⟩, mu_w_e h2.2⟩
    · exact ⟨_, _, Or.inr ⟨Nat.eq_of_beq_eq_true h2.1, rfl, rfl⟩, mu_w_e h2.2⟩
theorem mu_kd_e {c x k kd : Nat} {mj : mu_M} {r : Bool × List Nat} (h : mu_kd c x k = true) (hl : mu_look (mu_pM c) x = some (mj, kd, r)) : kd = k := by
  unfold mu_kd at h
  rw [hl] at h
  exact Nat.eq_of_beq_eq_true h
end Mu14
