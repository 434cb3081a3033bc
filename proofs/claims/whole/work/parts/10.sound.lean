/-! OWN SMALL MACHINE, PART 6: the instructions that leave the heap alone are walked as they should -/
section Mu8
variable {w : mu_O} {mi : mu_M} {d : Nat} {L : Nat × Nat} {Q : Option Value → mu_H → Prop} {pc : Nat} {ls : List (Option Value)} {st : List Value} {g : mu_H}
theorem mu_lift {pc' : Nat} {st' : List Value}
    (h : ∀ (p : Program) (l : Launch) (e : Env) (R : Room) (s : State) (m : MethodId) (args : Array Value) (below : List Frame) (meth : Method) (c : Code) (H : Heap) (locs : List Loc) (cells slots S0 : Nat) (Qw : State → Prop) (lsA : Array Slot),
      mu_ctx w mi d L p R s m args meth c S0 → mu_dyn w g R s S0 H locs cells slots → lv_has lsA (mu_mL mi) (mu_lv 0 ls) → W p l e R s m args below meth c H locs cells slots Qw (F0 m pc' lsA (st'.map mu_V)) → W p l e R s m args below meth c H locs cells slots Qw (F0 m pc lsA (st.map mu_V)))
    (k : mu_go w mi d L Q pc' ls st' g) : mu_go w mi d L Q pc ls st g := by
  intro p l e R s m args below meth c H locs cells slots S0 Qw lsA hc hy hl hr
  exact h p l e R s m args below meth c H locs cells slots S0 Qw lsA hc hy hl (k p l e R s m args below meth c H locs cells slots S0 Qw lsA hc hy hl hr)
theorem mu_ldI_e {K : mu_C} {n : Nat} {v : Option Value} (h : mu_ldI K n pc ls st g v) : ∃ x, v = some (.int x) ∧ K (pc + n) ls (.int x :: st) g := by
  unfold mu_ldI at h; split at h
  · exact ⟨_, rfl, h⟩
  · exact h.elim
theorem mu_ldL_e {K : mu_C} {n : Nat} {v : Option Value} (h : mu_ldL K n pc ls st g v) : ∃ x, v = some (.long x) ∧ K (pc + n) ls (.long x :: st) g := by
  unfold mu_ldL at h; split at h
  · exact ⟨_, rfl, h⟩
  · exact h.elim
theorem mu_ldA_e {K : mu_C} {n : Nat} {v : Option Value} (h : mu_ldA K n pc ls st g v) : ∃ x, v = some (.ref x) ∧ K (pc + n) ls (.ref x :: st) g := by
  unfold mu_ldA at h; split at h
  · exact ⟨_, rfl, h⟩
  · exact h.elim
theorem mu_sto_e {K : mu_C} {n x : Nat} {v : Value} (h : mu_sto K n pc ls st g x v) : mu_noL ls x = true ∧ K (pc + n) (mu_set ls x v) st g := by
  unfold mu_sto at h; split at h
  · rename_i hb; exact ⟨hb, h⟩
  · exact h.elim
theorem mu_go_iconst {v : Int} (hd : decode (mu_mB mi) pc = .ok (.iconst v, 1)) (k : mu_go w mi d L Q (pc + 1) ls (.int (Int32.ofInt v) :: st) g) : mu_go w mi d L Q pc ls st g :=
  mu_lift (fun _ _ _ _ _ _ _ _ _ _ _ _ _ _ _ _ _ hc _ _ k => lv_iconst hc.1 hc.2.1 hd rfl k) k
theorem mu_go_bipush {v : Int} (hd : decode (mu_mB mi) pc = .ok (.bipush v, 2)) (hv : (Int8.ofInt v).toInt32 = Int32.ofInt v) (k : mu_go w mi d L Q (pc + 2) ls (.int (Int32.ofInt v) :: st) g) : mu_go w mi d L Q pc ls st g :=
  mu_lift (fun _ _ _ _ _ _ _ _ _ _ _ _ _ _ _ _ _ hc _ _ k => lv_bipush hc.1 hc.2.1 hd hv k) k
theorem mu_go_sipush {v : Int} (hd : decode (mu_mB mi) pc = .ok (.sipush v, 3)) (hv : (Int16.ofInt v).toInt32 = Int32.ofInt v) (k : mu_go w mi d L Q (pc + 3) ls (.int (Int32.ofInt v) :: st) g) : mu_go w mi d L Q pc ls st g :=
  mu_lift (fun _ _ _ _ _ _ _ _ _ _ _ _ _ _ _ _ _ hc _ _ k => lv_sipush hc.1 hc.2.1 hd hv k) k
theorem mu_go_lconst {v : Fin 2} (hd : decode (mu_mB mi) pc = .ok (.lconst v, 1)) (k : mu_go w mi d L Q (pc + 1) ls (.long (Int64.ofNat (v : Nat)) :: st) g) : mu_go w mi d L Q pc ls st g :=
  mu_lift (fun _ _ _ _ _ _ _ _ _ _ _ _ _ _ _ _ _ hc _ _ k => lv_lconst hc.1 hc.2.1 hd rfl k) k
theorem mu_go_null (hd : decode (mu_mB mi) pc = .ok (.aconst_null, 1)) (k : mu_go w mi d L Q (pc + 1) ls (.ref 0 :: st) g) : mu_go w mi d L Q pc ls st g :=
  mu_lift (fun _ _ _ _ _ _ _ _ _ _ _ _ _ _ _ _ _ hc _ _ k => lv_null hc.1 hc.2.1 hd k) k
theorem mu_go_ldc {x : Nat} {v : Int32} (hd : decode (mu_mB mi) pc = .ok (.ldc x, 2)) (hw : Jvm.Cond.constant (mu_mY mi).cls x v ∈ lw_tbl ∧ goodWord (Jvm.Cond.constant (mu_mY mi).cls x v) = true) (k : mu_go w mi d L Q (pc + 2) ls (.int v :: st) g) : mu_go w mi d L Q pc ls st g :=
  mu_lift (fun _ _ _ _ _ _ _ _ _ _ _ _ _ _ _ _ _ hc _ _ k => lv_ldc hc.1 hc.2.1 hc.2.2.2.1 (hc.2.2.2.2.1 _ hw.1 hw.2) hd k) k
theorem mu_go_ldcw {x : Nat} {v : Int32} (hd : decode (mu_mB mi) pc = .ok (.ldc_w x, 3)) (hw : Jvm.Cond.constant (mu_mY mi).cls x v ∈ lw_tbl ∧ goodWord (Jvm.Cond.constant (mu_mY mi).cls x v) = true) (k : mu_go w mi d L Q (pc + 3) ls (.int v :: st) g) : mu_go w mi d L Q pc ls st g :=
  mu_lift (fun _ _ _ _ _ _ _ _ _ _ _ _ _ _ _ _ _ hc _ _ k => lv_ldcw hc.1 hc.2.1 hc.2.2.2.1 (hc.2.2.2.2.1 _ hw.1 hw.2) hd k) k
theorem mu_go_ldc2 {x : Nat} {v : Int64} (hd : decode (mu_mB mi) pc = .ok (.ldc2_w x, 3)) (hw : Jvm.Cond.constantLong (mu_mY mi).cls x v ∈ lw_tbl ∧ goodWord (Jvm.Cond.constantLong (mu_mY mi).cls x v) = true) (k : mu_go w mi d L Q (pc + 3) ls (.long v :: st) g) : mu_go w mi d L Q pc ls st g :=
  mu_lift (fun _ _ _ _ _ _ _ _ _ _ _ _ _ _ _ _ _ hc _ _ k => lv_ldc2 hc.1 hc.2.1 hc.2.2.2.1 (hc.2.2.2.2.1 _ hw.1 hw.2) hd k) k
theorem mu_go_ldcS {x j : Nat} {q : String × Nat × String} (hd : decode (mu_mB mi) pc = .ok (.ldc x, 2)) (hq : mu_ss[j]? = some q) (h1 : q.1 = (mu_mY mi).cls) (h2 : q.2.1 = x) (k : mu_go w mi d L Q (pc + 2) ls (.ref (w.2.2.2.2.2 j) :: st) g) : mu_go w mi d L Q pc ls st g :=
  mu_lift (fun p l e R s m args below meth c H locs cells slots S0 Qw lsA hc _ _ k => by
    obtain ⟨a, ha, hR⟩ := hc.2.2.2.2.2.1.2.2.2.2 j q hq
    rw [ha] at k
    rw [h1, h2] at hR
    exact va_ldcS hc.1 hc.2.1 hc.2.2.2.1 hR hd k) k
theorem mu_go_iload {x : Nat} {v : Int32} (hd : decode (mu_mB mi) pc = .ok (.iload x, 2)) (hv : mu_get ls x = some (.int v)) (k : mu_go w mi d L Q (pc + 2) ls (.int v :: st) g) : mu_go w mi d L Q pc ls st g :=
  mu_lift (fun _ _ _ _ _ _ _ _ _ _ _ _ _ _ _ _ _ hc _ hl k => lv_iload hc.1 hc.2.1 hd (mu_has_get hl hv) k) k
theorem mu_go_iload_n {x : Fin 4} {v : Int32} (hd : decode (mu_mB mi) pc = .ok (.iload_n x, 1)) (hv : mu_get ls x.val = some (.int v)) (k : mu_go w mi d L Q (pc + 1) ls (.int v :: st) g) : mu_go w mi d L Q pc ls st g :=
  mu_lift (fun _ _ _ _ _ _ _ _ _ _ _ _ _ _ _ _ _ hc _ hl k => lv_iload_n hc.1 hc.2.1 hd rfl (mu_has_get hl hv) k) k
theorem mu_go_lload {x : Nat} {v : Int64} (hd : decode (mu_mB mi) pc = .ok (.lload x, 2)) (hv : mu_get ls x = some (.long v)) (k : mu_go w mi d L Q (pc + 2) ls (.long v :: st) g) : mu_go w mi d L Q pc ls st g :=
  mu_lift (fun _ _ _ _ _ _ _ _ _ _ _ _ _ _ _ _ _ hc _ hl k => lv_lload hc.1 hc.2.1 hd (mu_has_get hl hv) k) k
theorem mu_go_lload_n {x : Fin 4} {v : Int64} (hd : decode (mu_mB mi) pc = .ok (.lload_n x, 1)) (hv : mu_get ls x.val = some (.long v)) (k : mu_go w mi d L Q (pc + 1) ls (.long v :: st) g) : mu_go w mi d L Q pc ls st g :=
  mu_lift (fun _ _ _ _ _ _ _ _ _ _ _ _ _ _ _ _ _ hc _ hl k => lv_lload_n hc.1 hc.2.1 hd rfl (mu_has_get hl hv) k) k
theorem mu_go_aload {x : Nat} {v : Nat} (hd : decode (mu_mB mi) pc = .ok (.aload x, 2)) (hv : mu_get ls x = some (.ref v)) (k : mu_go w mi d L Q (pc + 2) ls (.ref v :: st) g) : mu_go w mi d L Q pc ls st g :=
  mu_lift (fun p l e R s m args below meth c H locs cells slots S0 Qw lsA hc _ hl k => by
    cases v with
    | zero => exact lv_aloadN hc.1 hc.2.1 hd (mu_has_get hl hv) k
    | succ a => exact lv_aload hc.1 hc.2.1 hd (mu_has_get hl hv) k) k
theorem mu_go_aload_n {x : Fin 4} {v : Nat} (hd : decode (mu_mB mi) pc = .ok (.aload_n x, 1)) (hv : mu_get ls x.val = some (.ref v)) (k : mu_go w mi d L Q (pc + 1) ls (.ref v :: st) g) : mu_go w mi d L Q pc ls st g :=
  mu_lift (fun p l e R s m args below meth c H locs cells slots S0 Qw lsA hc _ hl k => by
    cases v with
    | zero => exact lv_aload_nN hc.1 hc.2.1 hd rfl (mu_has_get hl hv) k
    | succ a => exact lv_aload_n hc.1 hc.2.1 hd rfl (mu_has_get hl hv) k) k
theorem mu_go_istore {x : Nat} {v : Int32} (hd : decode (mu_mB mi) pc = .ok (.istore x, 2)) (hx : x < mu_mL mi) (hn : mu_noL ls x = true) (k : mu_go w mi d L Q (pc + 2) (mu_set ls x (.int v)) st g) : mu_go w mi d L Q pc ls (.int v :: st) g := by
  intro p l e R s m args below meth c H locs cells slots S0 Qw lsA hc hy hl hr
  exact lv_istore hc.1 hc.2.1 hd hl hx rfl fun ls' hl' => k p l e R s m args below meth c H locs cells slots S0 Qw ls' hc hy (mu_has_set (v := .int v) hl' hn) hr
theorem mu_go_istore_n {x : Fin 4} {v : Int32} (hd : decode (mu_mB mi) pc = .ok (.istore_n x, 1)) (hx : x.val < mu_mL mi) (hn : mu_noL ls x.val = true) (k : mu_go w mi d L Q (pc + 1) (mu_set ls x.val (.int v)) st g) : mu_go w mi d L Q pc ls (.int v :: st) g := by
  intro p l e R s m args below meth c H locs cells slots S0 Qw lsA hc hy hl hr
  exact lv_istore_n hc.1 hc.2.1 hd rfl hl hx rfl fun ls' hl' => k p l e R s m args below meth c H locs cells slots S0 Qw ls' hc hy (mu_has_set (v := .int v) hl' hn) hr
theorem mu_go_astore {x : Nat} {v : Nat} (hd : decode (mu_mB mi) pc = .ok (.astore x, 2)) (hx : x < mu_mL mi) (hn : mu_noL ls x = true) (k : mu_go w mi d L Q (pc + 2) (mu_set ls x (.ref v)) st g) : mu_go w mi d L Q pc ls (.ref v :: st) g := by
  intro p l e R s m args below meth c H locs cells slots S0 Qw lsA hc hy hl hr
  cases v with
  | zero => exact lv_astoreN hc.1 hc.2.1 hd hl hx rfl fun ls' hl' => k p l e R s m args below meth c H locs cells slots S0 Qw ls' hc hy (mu_has_set (v := .ref 0) hl' hn) hr
  | succ a => exact lv_astore hc.1 hc.2.1 hd hl hx rfl fun ls' hl' => k p l e R s m args below meth c H locs cells slots S0 Qw ls' hc hy (mu_has_set (v := .ref (a + 1)) hl' hn) hr
theorem mu_go_astore_n {x : Fin 4} {v : Nat} (hd : decode (mu_mB mi) pc = .ok (.astore_n x, 1)) (hx : x.val < mu_mL mi) (hn : mu_noL ls x.val = true) (k : mu_go w mi d L Q (pc + 1) (mu_set ls x.val (.ref v)) st g) : mu_go w mi d L Q pc ls (.ref v :: st) g := by
  intro p l e R s m args below meth c H locs cells slots S0 Qw lsA hc hy hl hr
  cases v with
  | zero => exact lv_astore_nN hc.1 hc.2.1 hd rfl hl hx rfl fun ls' hl' => k p l e R s m args below meth c H locs cells slots S0 Qw ls' hc hy (mu_has_set (v := .ref 0) hl' hn) hr
  | succ a => exact lv_astore_n hc.1 hc.2.1 hd rfl hl hx rfl fun ls' hl' => k p l e R s m args below meth c H locs cells slots S0 Qw ls' hc hy (mu_has_set (v := .ref (a + 1)) hl' hn) hr
theorem mu_go_iinc {x : Nat} {c0 : Int} {v : Int32} (hd : decode (mu_mB mi) pc = .ok (.iinc x c0, 3)) (hx : x < mu_mL mi) (hv : mu_get ls x = some (.int v)) (hn : mu_noL ls x = true) (k : mu_go w mi d L Q (pc + 3) (mu_set ls x (.int (v + Int32.ofInt c0))) st g) : mu_go w mi d L Q pc ls st g := by
  intro p l e R s m args below meth c H locs cells slots S0 Qw lsA hc hy hl hr
  have h1 := mu_lv_get (k := 0) hv
  rw [Nat.zero_add] at h1
  obtain ⟨i, hi⟩ := List.getElem?_of_mem h1
  exact lv_iinc hc.1 hc.2.1 hd hl hi rfl hx rfl fun ls' hl' => k p l e R s m args below meth c H locs cells slots S0 Qw ls' hc hy (mu_has_set (v := .int (v + Int32.ofInt c0)) hl' hn) hr
theorem mu_go_goto {off : Int} (hd : decode (mu_mB mi) pc = .ok (.goto off, 3)) (h0 : 0 ≤ (pc : Int) + off) (k : mu_go w mi d L Q (mu_j pc off) ls st g) : mu_go w mi d L Q pc ls st g :=
  mu_lift (fun _ _ _ _ _ _ _ _ _ _ _ _ _ _ _ _ _ hc _ _ k => lv_goto hc.1 hc.2.1 hd (Int.toNat_of_nonneg h0).symm k) k
theorem mu_go_ifc {cd : ClassFile.Cond} {off : Int} {x : Int32} (hd : decode (mu_mB mi) pc = .ok (.ifCond cd off, 3)) (h0 : 0 ≤ (pc : Int) + off) (k1 : mu_ifc cd x → mu_go w mi d L Q (mu_j pc off) ls st g) (k2 : ¬ mu_ifc cd x → mu_go w mi d L Q (pc + 3) ls st g) : mu_go w mi d L Q pc ls (.int x :: st) g := by
  intro p l e R s m args below meth c H locs cells slots S0 Qw lsA hc hy hl hr
  have e0 := (Int.toNat_of_nonneg h0).symm
  have a1 := fun h => k1 h p l e R s m args below meth c H locs cells slots S0 Qw lsA hc hy hl hr
  have a2 := fun h => k2 h p l e R s m args below meth c H locs cells slots S0 Qw lsA hc hy hl hr
  cases cd with
  | eq => exact lv_if_eq hc.1 hc.2.1 hd e0 a1 a2
  | ne => exact lv_if_ne hc.1 hc.2.1 hd e0 a1 (fun h => a2 (fun hn => hn h))
  | lt => exact lv_if_lt hc.1 hc.2.1 hd e0 a1 a2
  | ge => exact lv_if_ge hc.1 hc.2.1 hd e0 a1 a2
  | gt => exact lv_if_gt hc.1 hc.2.1 hd e0 a1 a2
  | le => exact lv_if_le hc.1 hc.2.1 hd e0 a1 a2
theorem mu_go_icmp {cd : ClassFile.Cond} {off : Int} {x y : Int32} (hd : decode (mu_mB mi) pc = .ok (.if_icmp cd off, 3)) (h0 : 0 ≤ (pc : Int) + off) (k1 : mu_icmp cd x y → mu_go w mi d L Q (mu_j pc off) ls st g) (k2 : ¬ mu_icmp cd x y → mu_go w mi d L Q (pc + 3) ls st g) : mu_go w mi d L Q pc ls (.int y :: .int x :: st) g := by
  intro p l e R s m args below meth c H locs cells slots S0 Qw lsA hc hy hl hr
  have e0 := (Int.toNat_of_nonneg h0).symm
  have a1 := fun h => k1 h p l e R s m args below meth c H locs cells slots S0 Qw lsA hc hy hl hr
  have a2 := fun h => k2 h p l e R s m args below meth c H locs cells slots S0 Qw lsA hc hy hl hr
  cases cd with
  | eq => exact lv_icmp_eq hc.1 hc.2.1 hd e0 a1 a2
  | ne => exact lv_icmp_ne hc.1 hc.2.1 hd e0 a1 (fun h => a2 (fun hn => hn h))
  | lt => exact lv_icmp_lt hc.1 hc.2.1 hd e0 a1 a2
  | ge => exact lv_icmp_ge hc.1 hc.2.1 hd e0 a1 a2
  | gt => exact lv_icmp_gt hc.1 hc.2.1 hd e0 a1 a2
  | le => exact lv_icmp_le hc.1 hc.2.1 hd e0 a1 a2
theorem mu_go_ifnull {off : Int} {a : Nat} (hd : decode (mu_mB mi) pc = .ok (.ifnull off, 3)) (h0 : 0 ≤ (pc : Int) + off) (k1 : a = 0 → mu_go w mi d L Q (mu_j pc off) ls st g) (k2 : ¬ a = 0 → mu_go w mi d L Q (pc + 3) ls st g) : mu_go w mi d L Q pc ls (.ref a :: st) g := by
  intro p l e R s m args below meth c H locs cells slots S0 Qw lsA hc hy hl hr
  have e0 := (Int.toNat_of_nonneg h0).symm
  cases a with
  | zero => exact lv_ifnullN hc.1 hc.2.1 hd e0 (k1 rfl p l e R s m args below meth c H locs cells slots S0 Qw lsA hc hy hl hr)
  | succ a => exact lv_ifnull hc.1 hc.2.1 hd (k2 (by omega) p l e R s m args below meth c H locs cells slots S0 Qw lsA hc hy hl hr)
theorem mu_go_ifnonnull {off : Int} {a : Nat} (hd : decode (mu_mB mi) pc = .ok (.ifnonnull off, 3)) (h0 : 0 ≤ (pc : Int) + off) (k1 : ¬ a = 0 → mu_go w mi d L Q (mu_j pc off) ls st g) (k2 : a = 0 → mu_go w mi d L Q (pc + 3) ls st g) : mu_go w mi d L Q pc ls (.ref a :: st) g := by
  intro p l e R s m args below meth c H locs cells slots S0 Qw lsA hc hy hl hr
  have e0 := (Int.toNat_of_nonneg h0).symm
  cases a with
  | zero => exact lv_ifnonnullN hc.1 hc.2.1 hd (k2 rfl p l e R s m args below meth c H locs cells slots S0 Qw lsA hc hy hl hr)
  | succ a => exact lv_ifnonnull hc.1 hc.2.1 hd e0 (k1 (by omega) p l e R s m args below meth c H locs cells slots S0 Qw lsA hc hy hl hr)
theorem mu_sw_e {x : Int32} {K : Nat → Prop} : ∀ {offs : List Int} {lo : Int} {j : Nat} {off : Int}, mu_sw x K pc lo offs → offs[j]? = some off → x.toInt = lo + j → K (mu_j pc off)
  | [], _, _, _, _, h, _ => by cases h
  | o :: t, lo, 0, off, h, hj, hx => by
    cases hj
    exact h.1 (by omega)
  | o :: t, lo, j + 1, off, h, hj, hx => mu_sw_e (lo := lo + 1) (j := j) h.2 hj (by omega)
theorem mu_go_table {dflt lo hi : Int} {offs : Array Int} {n : Nat} {x : Int32} (hd : decode (mu_mB mi) pc = .ok (.tableswitch dflt lo hi offs, n)) (h0 : 0 ≤ (pc : Int) + dflt) (h1 : ∀ o ∈ offs.toList, 0 ≤ (pc : Int) + o) (h2 : (offs.size : Int) = hi - lo + 1)
    (k1 : (x.toInt < lo ∨ hi < x.toInt) → mu_go w mi d L Q (mu_j pc dflt) ls st g) (k2 : ∀ (j : Nat) (off : Int), offs.toList[j]? = some off → x.toInt = lo + j → mu_go w mi d L Q (mu_j pc off) ls st g) : mu_go w mi d L Q pc ls (.int x :: st) g := by
  intro p l e R s m args below meth c H locs cells slots S0 Qw lsA hc hy hl hr
  by_cases hx : x.toInt < lo ∨ hi < x.toInt
  · exact lv_tableOut hc.1 hc.2.1 hd hx (Int.toNat_of_nonneg h0).symm (k1 hx p l e R s m args below meth c H locs cells slots S0 Qw lsA hc hy hl hr)
  · have hx1 : ¬ x.toInt < lo := fun h => hx (Or.inl h)
    have hx2 : ¬ hi < x.toInt := fun h => hx (Or.inr h)
    have hlt : (x.toInt - lo).toNat < offs.size := by omega
    have e1 : offs[(x.toInt - lo).toNat]? = some offs[(x.toInt - lo).toNat] := Array.getElem?_eq_getElem hlt
    have e2 : offs.toList[(x.toInt - lo).toNat]? = some offs[(x.toInt - lo).toNat] := by rw [Array.getElem?_toList]; exact e1
    have e3 : 0 ≤ (pc : Int) + offs[(x.toInt - lo).toNat] := h1 _ (List.mem_of_getElem? e2)
    exact lv_tableIn hc.1 hc.2.1 hd hx1 hx2 e1 (Int.toNat_of_nonneg e3).symm (k2 _ _ e2 (by omega) p l e R s m args below meth c H locs cells slots S0 Qw lsA hc hy hl hr)
theorem mu_lw_e {x : Int32} {K : Nat → Prop} {dflt : Int} : ∀ {ps : List (Int × Int)}, mu_lw x K pc dflt ps → K (mu_j pc (Op.lookupswitch.offset ps dflt x.toInt))
  | [], h => h
  | (k, o) :: t, h => by
    by_cases hk : x.toInt = k
    · have := h.1 hk
      simpa [Op.lookupswitch.offset, hk] using this
    · have := mu_lw_e (h.2 hk)
      have hk2 : ¬ k = x.toInt := fun e => hk e.symm
      simpa [Op.lookupswitch.offset, hk, hk2] using this
end Mu8
