/-! OWN SMALL MACHINE, PART 5: what is checked of the tables, once -/
theorem mu_look_mem {α : Type} : ∀ {l : List (Nat × α)} {i : Nat} {v : α}, mu_look l i = some v → (i, v) ∈ l
  | [], _, _, h => by cases h
  | (k, x) :: t, i, v, h => by
    unfold mu_look at h
    cases hb : Nat.beq k i with
    | true =>
      rw [hb] at h
      have e : k = i := Nat.eq_of_beq_eq_true hb
      cases h
      rw [e]
      exact List.mem_cons_self
    | false =>
      rw [hb] at h
      exact List.mem_cons_of_mem _ (mu_look_mem h)
theorem mu_at_mem : ∀ {l : List (Nat × Instr × Nat)} {pc : Nat} {v : Instr × Nat}, mu_at l pc = some v → (pc, v) ∈ l
  | [], _, _, h => by cases h
  | (k, i, n) :: t, pc, v, h => by
    unfold mu_at at h
    cases hb : Nat.beq k pc with
    | true =>
      rw [hb] at h
      have e : k = pc := Nat.eq_of_beq_eq_true hb
      cases h
      rw [e]
      exact List.mem_cons_self
    | false =>
      rw [hb] at h
      exact List.mem_cons_of_mem _ (mu_at_mem h)
/-- a word stands at this place of the tables, and is one that stays -/
def mu_w (i : Nat) (x : Jvm.Cond) : Bool := decide (lw_tbl[i]? = some x) && goodWord x
theorem mu_w_e {i : Nat} {x : Jvm.Cond} (h : mu_w i x = true) : x ∈ lw_tbl ∧ goodWord x = true := by
  unfold mu_w at h
  rw [Bool.and_eq_true, decide_eq_true_eq] at h
  exact ⟨List.mem_of_getElem? h.1, h.2⟩
def mu_len (n : Nat) : Instr → Nat
  | .bipush _ => 2
  | .sipush _ => 3
  | .ldc _ => 2
  | .ldc_w _ => 3
  | .ldc2_w _ => 3
  | .iload _ => 2
  | .lload _ => 2
  | .aload _ => 2
  | .istore _ => 2
  | .astore _ => 2
  | .iinc _ _ => 3
  | .goto _ => 3
  | .ifCond _ _ => 3
  | .if_icmp _ _ => 3
  | .ifnull _ => 3
  | .ifnonnull _ => 3
  | .tableswitch _ _ _ _ => n
  | .lookupswitch _ _ => n
  | .getfield _ => 3
  | .putfield _ => 3
  | .getstatic _ => 3
  | .new _ => 3
  | .newarray _ => 2
  | .anewarray _ => 3
  | .invokestatic _ => 3
  | .invokevirtual _ => 3
  | .invokespecial _ => 3
  | .checkcast _ => 3
  | _ => 1
def mu_nn (pc : Nat) (off : Int) : Bool := decide (0 ≤ (pc : Int) + off)
def mu_kd (c x k : Nat) : Bool := match mu_look (mu_pM c) x with
  | some (_, kd, _) => Nat.beq kd k
  | none => true
def mu_okA (mi : mu_M) (pc : Nat) : Instr → Bool
  | .bipush v => decide ((Int8.ofInt v).toInt32 = Int32.ofInt v)
  | .sipush v => decide ((Int16.ofInt v).toInt32 = Int32.ofInt v)
  | .istore x => Nat.blt x (mu_mL mi)
  | .istore_n x => Nat.blt x.val (mu_mL mi)
  | .astore x => Nat.blt x (mu_mL mi)
  | .astore_n x => Nat.blt x.val (mu_mL mi)
  | .iinc x _ => Nat.blt x (mu_mL mi)
  | .goto off => mu_nn pc off
  | .ifCond _ off => mu_nn pc off
  | .if_icmp _ off => mu_nn pc off
  | .ifnull off => mu_nn pc off
  | .ifnonnull off => mu_nn pc off
  | .tableswitch dflt lo hi offs => mu_nn pc dflt && offs.toList.all (mu_nn pc) && decide ((offs.size : Int) = hi - lo + 1)
  | .lookupswitch dflt ps => mu_nn pc dflt && ps.toList.all (fun q => mu_nn pc q.2) && (ps.toList.zip (ps.toList.drop 1)).all (fun (a, next) => a.1 < next.1)
  | .putfield x => match mu_look (mu_pF (mu_mK mi)) x with
    | some (c, f, _) => match vwCl[c]? with
      | some r => !(r.2.1 f).2.2.2 || (decide ((mu_mY mi).name = "<init>") && decide ((r.2.1 f).1 = (mu_mY mi).cls))
      | none => false
    | none => true
  | .invokestatic x => mu_kd (mu_mK mi) x 0
  | .invokevirtual x => mu_kd (mu_mK mi) x 1
  | .invokespecial x => mu_kd (mu_mK mi) x 2
  | .areturn => match mu_mR mi with
    | some (.object _) => true
    | some (.array _) => true
    | _ => false
  | .return_ => (mu_mR mi).isNone
  | _ => true
def mu_okI (mi : mu_M) (q : Nat × Instr × Nat) : Bool := decide (decode (mu_mB mi) q.1 = .ok (q.2.1, q.2.2)) && Nat.beq q.2.2 (mu_len q.2.2 q.2.1) && mu_okA mi q.1 q.2.1
/-- a method's data are right -/
def mu_ok (mi : mu_M) : Bool := Nat.blt (mu_mK mi) 18 && decide (mu_own (mu_mK mi) = (mu_mY mi).cls) && Nat.ble (mu_mL mi) 21 && plainName (mu_mY mi).cls && (mu_mC mi).all (mu_okI mi)
def mu_ckF (c : Nat) (e : Nat × Nat × Nat × Nat) : Bool := match vwCl[e.2.1]? with
  | some r => Nat.blt e.2.1 12 && Nat.blt e.2.2.1 r.2.2 && mu_w e.2.2.2 (.fieldLink (mu_own c) e.1 (r.2.1 e.2.2.1).1 (r.2.1 e.2.2.1).2.1 (r.2.1 e.2.2.1).2.2.1)
  | none => Nat.beq e.2.1 12 && ((Nat.beq e.2.2.1 0 && mu_w e.2.2.2 (.fieldLink (mu_own c) e.1 "java/lang/String" "value" "[B")) || (Nat.beq e.2.2.1 1 && mu_w e.2.2.2 (.fieldLink (mu_own c) e.1 "java/lang/String" "coder" "B")))
def mu_ckS (c : Nat) (e : Nat × Nat × Nat × Nat) : Bool := match mu_sts[e.2.1]? with
  | some q => match e.2.2.1 with
    | 0 => mu_w e.2.2.2 (.fieldLink (mu_own c) e.1 q.1 q.2.1 q.2.2)
    | _ => decide (mu_nF[e.2.2.2]? = some (mu_own c, e.1, q.1, q.2.1, q.2.2, "StageFights"))
  | none => false
def mu_ckM (c : Nat) (e : Nat × mu_M × Nat × Bool × List Nat) : Bool :=
  (match e.2.2.2.1 with
    | false => mu_w (e.2.2.2.2.getD 0 0) (.methodLink (mu_own c) e.1 (mu_mY e.2.1))
    | true => decide (mu_nM[e.2.2.2.2.getD 0 0]? = some (mu_own c, e.1, mu_mY e.2.1, "StageFights"))) &&
  mu_w (e.2.2.2.2.getD 1 0) (.code (mu_mY e.2.1) (mu_mB e.2.1) (mu_mL e.2.1) (mu_mR e.2.1)) && mu_w (e.2.2.2.2.getD 2 0) (.initialized (mu_mY e.2.1).cls) &&
  (match e.2.2.1 with
    | 0 => mu_w (e.2.2.2.2.getD 3 0) (.static (mu_mY e.2.1))
    | 1 => !e.2.2.2.1 && mu_w (e.2.2.2.2.getD 3 0) (.instanceMethod (mu_mY e.2.1)) && mu_w (e.2.2.2.2.getD 4 0) (.selects (mu_mY e.2.1).cls (mu_mY e.2.1) (mu_mY e.2.1)) && Nat.blt (mu_mK e.2.1) 13 && decide (mu_own (mu_mK e.2.1) = (mu_mY e.2.1).cls)
    | _ => mu_w (e.2.2.2.2.getD 3 0) (.instanceMethod (mu_mY e.2.1)) && decide ((mu_mY e.2.1).name = "<init>") && (mu_mR e.2.1).isNone) &&
  decide ((mu_mY e.2.1).cls ≠ "java/lang/invoke/MethodHandle") && decide ((mu_mY e.2.1).cls ≠ "java/lang/invoke/VarHandle") && decide ((parseMethodDescriptor (mu_mY e.2.1).desc).map (fun d => d.parameters.length) = some (mu_mA e.2.1)) && Nat.ble (mu_mL e.2.1) 21
def mu_ckQ (c : Nat) (e : Nat × Nat × Nat) : Bool := match e.2.1 with
  | 0 => mu_w e.2.2 (.methodLink (mu_own c) e.1 objectInit)
  | 1 => mu_w e.2.2 (.methodLink (mu_own c) e.1 Lib.Math.max.name)
  | 2 => mu_w e.2.2 (.methodLink (mu_own c) e.1 Lib.Math.min.name)
  | 3 => mu_w e.2.2 (.methodLink (mu_own c) e.1 Lib.Math.abs.name)
  | _ => mu_w e.2.2 (.methodLink (mu_own c) e.1 arraycopyName)
def mu_ckC (c : Nat) (e : Nat × ((Int32 × Nat) ⊕ Nat)) : Bool := match e.2 with
  | .inl q => mu_w q.2 (.constant (mu_own c) e.1 q.1)
  | .inr j => match mu_ss[j]? with
    | some q => decide (q.1 = mu_own c) && Nat.beq q.2.1 e.1
    | none => false
def mu_ckL (c : Nat) (e : Nat × Int64 × Nat) : Bool := mu_w e.2.2 (.constantLong (mu_own c) e.1 e.2.1)
def mu_ckN (c : Nat) (e : Nat × Nat × Nat) : Bool := Nat.blt e.2.1 12 && (match vwCl[e.2.1]? with
    | some r => mu_w e.2.2 (.classLink (mu_own c) e.1 r.1)
    | none => false)
def mu_ckA (c : Nat) (e : Nat × Nat × Nat) : Bool := Nat.blt 1 e.2.1 && Nat.blt e.2.1 7 && (match mu_AE e.2.1 with
    | .object C => mu_w e.2.2 (.classLink (mu_own c) e.1 C)
    | _ => false)
theorem mu_kF : (List.range 18).all (fun c => (mu_pF c).all (mu_ckF c)) = true := by decide +kernel
theorem mu_kS : (List.range 18).all (fun c => (mu_pS c).all (mu_ckS c)) = true := by decide +kernel
theorem mu_kQ : (List.range 18).all (fun c => (mu_pQ c).all (mu_ckQ c)) = true := by decide +kernel
theorem mu_kC : (List.range 18).all (fun c => (mu_pC c).all (mu_ckC c)) = true := by decide +kernel
theorem mu_kL : (List.range 18).all (fun c => (mu_pL c).all (mu_ckL c)) = true := by decide +kernel
theorem mu_kN : (List.range 18).all (fun c => (mu_pN c).all (mu_ckN c)) = true := by decide +kernel
theorem mu_kA : (List.range 18).all (fun c => (mu_pA c).all (mu_ckA c)) = true := by decide +kernel
theorem mu_k_of {α : Type} {P : Nat → List α} {f : Nat → α → Bool} (h : (List.range 18).all (fun c => (P c).all (f c)) = true) {c : Nat} (hc : c < 18) {x : α} (hx : x ∈ P c) : f c x = true :=
  List.all_eq_true.mp (List.all_eq_true.mp h c (List.mem_range.mpr hc)) x hx
def mu_ckW : Bool := mu_w 512 (.static Lib.Math.max.name) && mu_w 513 (.code Lib.Math.max.name Lib.Math.max.code 2 (some .int)) && mu_w 506 (.static Lib.Math.min.name) && mu_w 507 (.code Lib.Math.min.name Lib.Math.min.code 2 (some .int)) && mu_w 658 (.static Lib.Math.abs.name) && mu_w 659 (.code Lib.Math.abs.name Lib.Math.abs.code 1 (some .int)) && mu_w 89 (.initialized "java/lang/Math") && mu_w 914 (.native arraycopyName) && mu_w 913 (.static arraycopyName) && mu_w 97 (.initialized "java/lang/System") && mu_w 104 (.instanceMethod objectInit) && mu_w 105 (.code objectInit ⟨#[0xb1]⟩ 1 none) && mu_w 136 (.arrayClass .int) && mu_w 376 (.arrayClass .byte)
theorem mu_kW : mu_ckW = true := by decide +kernel
def mu_ckI (c : Nat) : Bool := match vwCl[c]?, mu_cw[c]?, mu_uw[c]? with
  | some r, some q, some u => mu_w q.1 (.instantiable r.1 r.2.2) && mu_w q.2 (.initialized r.1) && Nat.beq r.2.2 (mu_nf c) && decide (r.1 = mu_own c) && (List.range r.2.2).all (fun k => mu_w (u.getD k 0) (u_lay r.1 r.2.1 k)) && (List.range r.2.2).all (fun k => decide (parseFieldDescriptor (r.2.1 k).2.2.1 = some (mu_Ty c k))) && (List.range r.2.2).all (fun k => (List.range r.2.2).all (fun j => Nat.beq k j || decide ((r.2.1 k).2.1 ≠ (r.2.1 j).2.1))) && (List.range r.2.2).all (fun k => match mu_Ty c k with
    | .int => true
    | .boolean => true
    | .object _ => true
    | .array _ => true
    | _ => false)
  | _, _, _ => false
theorem mu_kI : (List.range 12).all mu_ckI = true := by decide +kernel
