/-! OWN SMALL MACHINE, PART 4: one instruction -/
def mu_j (pc : Nat) (off : Int) : Nat := ((pc : Int) + off).toNat
def mu_p1 (st : List Value) (f : Int32 → List Value → Prop) : Prop := match st with
  | .int x :: r => f x r
  | _ => False
def mu_p2 (st : List Value) (f : Int32 → Int32 → List Value → Prop) : Prop := match st with
  | .int y :: .int x :: r => f x y r
  | _ => False
def mu_q1 (st : List Value) (f : Int64 → List Value → Prop) : Prop := match st with
  | .long x :: r => f x r
  | _ => False
def mu_q2 (st : List Value) (f : Int64 → Int64 → List Value → Prop) : Prop := match st with
  | .long y :: .long x :: r => f x y r
  | _ => False
def mu_pr (st : List Value) (f : Nat → List Value → Prop) : Prop := match st with
  | .ref a :: r => f a r
  | _ => False
def mu_pir (st : List Value) (f : Nat → Int32 → List Value → Prop) : Prop := match st with
  | .int j :: .ref a :: r => f a j r
  | _ => False
def mu_prr (st : List Value) (f : Nat → Nat → List Value → Prop) : Prop := match st with
  | .ref b :: .ref a :: r => f a b r
  | _ => False
def mu_piir (st : List Value) (f : Nat → Int32 → Int32 → List Value → Prop) : Prop := match st with
  | .int x :: .int j :: .ref a :: r => f a j x r
  | _ => False
def mu_prir (st : List Value) (f : Nat → Int32 → Nat → List Value → Prop) : Prop := match st with
  | .ref v :: .int j :: .ref a :: r => f a j v r
  | _ => False
def mu_pcp (st : List Value) (f : Nat → Int32 → Nat → Int32 → Int32 → List Value → Prop) : Prop := match st with
  | .int n :: .int dp :: .ref b :: .int sp :: .ref a :: r => f a sp b dp n r
  | _ => False
theorem mu_p1_e {st : List Value} {f : Int32 → List Value → Prop} (h : mu_p1 st f) : ∃ x r, st = .int x :: r ∧ f x r := by
  unfold mu_p1 at h; split at h
  · exact ⟨_, _, rfl, h⟩
  · exact h.elim
theorem mu_p2_e {st : List Value} {f : Int32 → Int32 → List Value → Prop} (h : mu_p2 st f) : ∃ x y r, st = .int y :: .int x :: r ∧ f x y r := by
  unfold mu_p2 at h; split at h
  · exact ⟨_, _, _, rfl, h⟩
  · exact h.elim
theorem mu_q1_e {st : List Value} {f : Int64 → List Value → Prop} (h : mu_q1 st f) : ∃ x r, st = .long x :: r ∧ f x r := by
  unfold mu_q1 at h; split at h
  · exact ⟨_, _, rfl, h⟩
  · exact h.elim
theorem mu_q2_e {st : List Value} {f : Int64 → Int64 → List Value → Prop} (h : mu_q2 st f) : ∃ x y r, st = .long y :: .long x :: r ∧ f x y r := by
  unfold mu_q2 at h; split at h
  · exact ⟨_, _, _, rfl, h⟩
  · exact h.elim
theorem mu_pr_e {st : List Value} {f : Nat → List Value → Prop} (h : mu_pr st f) : ∃ a r, st = .ref a :: r ∧ f a r := by
  unfold mu_pr at h; split at h
  · exact ⟨_, _, rfl, h⟩
  · exact h.elim
theorem mu_pir_e {st : List Value} {f : Nat → Int32 → List Value → Prop} (h : mu_pir st f) : ∃ a j r, st = .int j :: .ref a :: r ∧ f a j r := by
  unfold mu_pir at h; split at h
  · exact ⟨_, _, _, rfl, h⟩
  · exact h.elim
theorem mu_prr_e {st : List Value} {f : Nat → Nat → List Value → Prop} (h : mu_prr st f) : ∃ a b r, st = .ref b :: .ref a :: r ∧ f a b r := by
  unfold mu_prr at h; split at h
  · exact ⟨_, _, _, rfl, h⟩
  · exact h.elim
theorem mu_piir_e {st : List Value} {f : Nat → Int32 → Int32 → List Value → Prop} (h : mu_piir st f) : ∃ a j x r, st = .int x :: .int j :: .ref a :: r ∧ f a j x r := by
  unfold mu_piir at h; split at h
  · exact ⟨_, _, _, _, rfl, h⟩
  · exact h.elim
theorem mu_prir_e {st : List Value} {f : Nat → Int32 → Nat → List Value → Prop} (h : mu_prir st f) : ∃ a j v r, st = .ref v :: .int j :: .ref a :: r ∧ f a j v r := by
  unfold mu_prir at h; split at h
  · exact ⟨_, _, _, _, rfl, h⟩
  · exact h.elim
theorem mu_pcp_e {st : List Value} {f : Nat → Int32 → Nat → Int32 → Int32 → List Value → Prop} (h : mu_pcp st f) : ∃ a sp b dp n r, st = .int n :: .int dp :: .ref b :: .int sp :: .ref a :: r ∧ f a sp b dp n r := by
  unfold mu_pcp at h; split at h
  · exact ⟨_, _, _, _, _, _, rfl, h⟩
  · exact h.elim
/-- an index lies within n places -/
def mu_in (j : Int32) (n : Nat) : Prop := 0 ≤ j.toInt ∧ j.toInt < (n : Int)
def mu_max (x y : Int32) : Int32 := if x < y then y else x
def mu_min (x y : Int32) : Int32 := if y < x then y else x
def mu_abs (x : Int32) : Int32 := if 0 ≤ x then x else 0 - x
def mu_ushr (x y : Int32) : Int32 := (x.toUInt32 >>> (y.toUInt32 &&& Int32.toUInt32 31)).toInt32
def mu_ifc (c : ClassFile.Cond) (x : Int32) : Prop := match c with
  | .eq => x = 0
  | .ne => ¬ x = 0
  | .lt => x < 0
  | .ge => 0 ≤ x
  | .gt => 0 < x
  | .le => x ≤ 0
def mu_icmp (c : ClassFile.Cond) (x y : Int32) : Prop := match c with
  | .eq => x = y
  | .ne => ¬ x = y
  | .lt => x < y
  | .ge => y ≤ x
  | .gt => y < x
  | .le => x ≤ y
/-- is field f of class c a reference -/
def mu_fR (c f : Nat) : Bool := match Nat.beq c 12 with
  | true => Nat.beq f 0
  | false => mu_isR (mu_Ty c f)
/-- what an int field takes -/
def mu_fit (t : FieldType) (x : Int32) (P : Prop) : Prop := match t with
  | .int => P
  | .boolean => (x = 0 ∨ x = 1) ∧ P
  | _ => False
def mu_split : Nat → List Value → List Value → Option (List Value × List Value)
  | 0, acc, st => some (acc, st)
  | n + 1, acc, v :: st => mu_split n (v :: acc) st
  | _ + 1, _, [] => none
theorem mu_split_e : ∀ {n : Nat} {acc st As rest : List Value}, mu_split n acc st = some (As, rest) → ∃ Bs : List Value, Bs.length = n ∧ As = Bs ++ acc ∧ st = Bs.reverse ++ rest
  | 0, acc, st, As, rest, h => by
    cases h
    exact ⟨[], rfl, rfl, rfl⟩
  | n + 1, acc, [], As, rest, h => by cases h
  | n + 1, acc, v :: st, As, rest, h => by
    obtain ⟨Bs, h1, h2, h3⟩ := mu_split_e (n := n) (acc := v :: acc) (st := st) h
    exact ⟨Bs ++ [v], by simp [h1], by simp [h2], by simp [h3]⟩
def mu_words : List Value → Nat
  | [] => 0
  | .long _ :: t => mu_words t + 2
  | .double _ :: t => mu_words t + 2
  | _ :: t => mu_words t + 1
/-- what lies below on the stack is small -/
def mu_small (r : List Value) (P : Prop) : Prop := match Nat.ble (mu_words r) 8 with
  | true => P
  | false => False
def mu_callV (w : mu_O) (mi : mu_M) (d : Nat) (L : Nat × Nat) (As : List Value) (g : mu_H) (K : mu_H → Prop) : Prop := ∃ P X S, mu_mt w mi d As g P X S ∧ X ≤ L.1 ∧ S ≤ L.2 ∧ ∀ r g', P r g' → mu_X g' = X → mu_S g' = S → r = none ∧ K g'
def mu_callI (w : mu_O) (mi : mu_M) (d : Nat) (L : Nat × Nat) (As : List Value) (g : mu_H) (K : Int32 → mu_H → Prop) : Prop := ∃ P X S, mu_mt w mi d As g P X S ∧ X ≤ L.1 ∧ S ≤ L.2 ∧ ∀ r g', P r g' → mu_X g' = X → mu_S g' = S → ∃ x, r = some (.int x) ∧ K x g'
def mu_callR (w : mu_O) (mi : mu_M) (d : Nat) (L : Nat × Nat) (As : List Value) (g : mu_H) (K : Nat → mu_H → Prop) : Prop := ∃ P X S, mu_mt w mi d As g P X S ∧ X ≤ L.1 ∧ S ≤ L.2 ∧ ∀ r g', P r g' → mu_X g' = X → mu_S g' = S → ∃ x, r = some (.ref x) ∧ K x g'
/-- a call, by what the method returns -/
def mu_call (w : mu_O) (mi : mu_M) (d : Nat) (L : Nat × Nat) (As : List Value) (rest : List Value) (g : mu_H) (K : List Value → mu_H → Prop) : Prop := match d with
  | 0 => False
  | d + 1 => match mu_mR mi with
    | none => mu_callV w mi d L As g (fun g' => K rest g')
    | some (.object _) => mu_callR w mi d L As g (fun x g' => K (.ref x :: rest) g')
    | some (.array _) => mu_callR w mi d L As g (fun x g' => K (.ref x :: rest) g')
    | some _ => mu_callI w mi d L As g (fun x g' => K (.int x :: rest) g')
def mu_sw (x : Int32) (K : Nat → Prop) (pc : Nat) : Int → List Int → Prop
  | _, [] => True
  | lo, off :: t => (x.toInt = lo → K (mu_j pc off)) ∧ mu_sw x K pc (lo + 1) t
def mu_lw (x : Int32) (K : Nat → Prop) (pc : Nat) (dflt : Int) : List (Int × Int) → Prop
  | [] => K (mu_j pc dflt)
  | (k, off) :: t => (x.toInt = k → K (mu_j pc off)) ∧ (¬ x.toInt = k → mu_lw x K pc dflt t)
abbrev mu_C : Type := Nat → List (Option Value) → List Value → mu_H → Prop
def mu_ldI (K : mu_C) (n pc : Nat) (ls : List (Option Value)) (st : List Value) (g : mu_H) (v : Option Value) : Prop := match v with
  | some (.int v) => K (pc + n) ls (.int v :: st) g
  | _ => False
def mu_ldL (K : mu_C) (n pc : Nat) (ls : List (Option Value)) (st : List Value) (g : mu_H) (v : Option Value) : Prop := match v with
  | some (.long v) => K (pc + n) ls (.long v :: st) g
  | _ => False
def mu_ldA (K : mu_C) (n pc : Nat) (ls : List (Option Value)) (st : List Value) (g : mu_H) (v : Option Value) : Prop := match v with
  | some (.ref v) => K (pc + n) ls (.ref v :: st) g
  | _ => False
def mu_sto (K : mu_C) (n pc : Nat) (ls : List (Option Value)) (st : List Value) (g : mu_H) (x : Nat) (v : Value) : Prop := match mu_noL ls x with
  | true => K (pc + n) (mu_set ls x v) st g
  | false => False
def mu_pos (d : Nat) (P : Prop) : Prop := match d with
  | 0 => False
  | _ + 1 => P
def mu_rI (t : Option FieldType) (x : Int32) (P : Prop) : Prop := match t with
  | some .int => P
  | some .boolean => (x = 0 ∨ x = 1) ∧ P
  | some t => narrow t (.int x) = .int x ∧ P
  | none => False
/-- addresses of statics and of texts -/
def mu_sa (w : mu_O) (j : Nat) : Nat := w.2.2.2.2.1 j
def mu_sb (w : mu_O) (j : Nat) : Nat := w.2.2.2.2.2 j
/-- what must hold before an instruction so that K holds behind it -/
def mu_step (w : mu_O) (mi : mu_M) (d : Nat) (L : Nat × Nat) (Q : Option Value → mu_H → Prop) (i : Instr) (n : Nat) (K : mu_C) (pc : Nat) (ls : List (Option Value)) (st : List Value) (g : mu_H) : Prop := match i with
  | .iconst v => K (pc + n) ls (.int (Int32.ofInt v) :: st) g
  | .bipush v => K (pc + n) ls (.int (Int32.ofInt v) :: st) g
  | .sipush v => K (pc + n) ls (.int (Int32.ofInt v) :: st) g
  | .lconst v => K (pc + n) ls (.long (Int64.ofNat (v : Nat)) :: st) g
  | .aconst_null => K (pc + n) ls (.ref 0 :: st) g
  | .ldc x => match mu_look (mu_pC (mu_mK mi)) x with
    | some (.inl (v, _)) => K (pc + n) ls (.int v :: st) g
    | some (.inr j) => K (pc + n) ls (.ref (w.2.2.2.2.2 j) :: st) g
    | none => False
  | .ldc_w x => match mu_look (mu_pC (mu_mK mi)) x with
    | some (.inl (v, _)) => K (pc + n) ls (.int v :: st) g
    | _ => False
  | .ldc2_w x => match mu_look (mu_pL (mu_mK mi)) x with
    | some (v, _) => K (pc + n) ls (.long v :: st) g
    | none => False
  | .iload x => mu_ldI K n pc ls st g (mu_get ls x)
  | .iload_n x => mu_ldI K n pc ls st g (mu_get ls x.val)
  | .lload x => mu_ldL K n pc ls st g (mu_get ls x)
  | .lload_n x => mu_ldL K n pc ls st g (mu_get ls x.val)
  | .aload x => mu_ldA K n pc ls st g (mu_get ls x)
  | .aload_n x => mu_ldA K n pc ls st g (mu_get ls x.val)
  | .istore x => mu_p1 st fun v r => mu_sto K n pc ls r g x (.int v)
  | .istore_n x => mu_p1 st fun v r => mu_sto K n pc ls r g x.val (.int v)
  | .astore x => mu_pr st fun v r => mu_sto K n pc ls r g x (.ref v)
  | .astore_n x => mu_pr st fun v r => mu_sto K n pc ls r g x.val (.ref v)
  | .iinc x c => match mu_get ls x with
    | some (.int v) => mu_sto K n pc ls st g x (.int (v + Int32.ofInt c))
    | _ => False
  | .iadd => mu_p2 st fun x y r => K (pc + n) ls (.int (x + y) :: r) g
  | .isub => mu_p2 st fun x y r => K (pc + n) ls (.int (x - y) :: r) g
  | .imul => mu_p2 st fun x y r => K (pc + n) ls (.int (x * y) :: r) g
  | .idiv => mu_p2 st fun x y r => (¬ y = 0) ∧ K (pc + n) ls (.int (x / y) :: r) g
  | .irem => mu_p2 st fun x y r => (¬ y = 0) ∧ K (pc + n) ls (.int (x % y) :: r) g
  | .iand => mu_p2 st fun x y r => K (pc + n) ls (.int (x &&& y) :: r) g
  | .ior => mu_p2 st fun x y r => K (pc + n) ls (.int (x ||| y) :: r) g
  | .ishl => mu_p2 st fun x y r => K (pc + n) ls (.int (x <<< (y &&& 31)) :: r) g
  | .ishr => mu_p2 st fun x y r => K (pc + n) ls (.int (x >>> (y &&& 31)) :: r) g
  | .iushr => mu_p2 st fun x y r => K (pc + n) ls (.int (mu_ushr x y) :: r) g
  | .ineg => mu_p1 st fun x r => K (pc + n) ls (.int (-x) :: r) g
  | .i2l => mu_p1 st fun x r => K (pc + n) ls (.long x.toInt64 :: r) g
  | .i2b => mu_p1 st fun x r => K (pc + n) ls (.int x.toInt8.toInt32 :: r) g
  | .i2c => mu_p1 st fun x r => K (pc + n) ls (.int (x.toUInt32 % 65536).toInt32 :: r) g
  | .ladd => mu_q2 st fun x y r => K (pc + n) ls (.long (x + y) :: r) g
  | .lcmp => mu_q2 st fun x y r => K (pc + n) ls (.int (lg_cmp x y) :: r) g
  | .dup => match st with
    | .int x :: r => K (pc + n) ls (.int x :: .int x :: r) g
    | .ref x :: r => K (pc + n) ls (.ref x :: .ref x :: r) g
    | _ => False
  | .dup2 => mu_pir st fun a j r => K (pc + n) ls (.int j :: .ref a :: .int j :: .ref a :: r) g
  | .pop => match st with
    | .int _ :: r => K (pc + n) ls r g
    | .ref _ :: r => K (pc + n) ls r g
    | _ => False
  | .goto off => K (mu_j pc off) ls st g
  | .ifCond c off => mu_p1 st fun x r => (mu_ifc c x → K (mu_j pc off) ls r g) ∧ (¬ mu_ifc c x → K (pc + n) ls r g)
  | .if_icmp c off => mu_p2 st fun x y r => (mu_icmp c x y → K (mu_j pc off) ls r g) ∧ (¬ mu_icmp c x y → K (pc + n) ls r g)
  | .ifnull off => mu_pr st fun a r => (a = 0 → K (mu_j pc off) ls r g) ∧ (¬ a = 0 → K (pc + n) ls r g)
  | .ifnonnull off => mu_pr st fun a r => (¬ a = 0 → K (mu_j pc off) ls r g) ∧ (a = 0 → K (pc + n) ls r g)
  | .tableswitch dflt lo hi offs => mu_p1 st fun x r => ((x.toInt < lo ∨ hi < x.toInt) → K (mu_j pc dflt) ls r g) ∧ mu_sw x (fun t => K t ls r g) pc lo offs.toList
  | .lookupswitch dflt ps => mu_p1 st fun x r => mu_lw x (fun t => K t ls r g) pc dflt ps.toList
  | .getfield x => match mu_look (mu_pF (mu_mK mi)) x with
    | some (c, f, _) => mu_pr st fun a r => mu_T g a = c + 1 ∧ (match mu_fR c f with
      | true => K (pc + n) ls (.ref (mu_R g a f) :: r) g
      | false => K (pc + n) ls (.int (mu_I g a f) :: r) g)
    | none => False
  | .putfield x => match mu_look (mu_pF (mu_mK mi)) x with
    | some (c, f, _) => match mu_fR c f with
      | true => mu_prr st fun a b r => mu_T g a = c + 1 ∧ K (pc + n) ls r (mu_sR g a f b)
      | false => mu_pir st fun a v r => mu_T g a = c + 1 ∧ mu_fit (mu_Ty c f) v (K (pc + n) ls r (mu_sI g a f v))
    | none => False
  | .getstatic x => match mu_look (mu_pS (mu_mK mi)) x with
    | some (j, _) => K (pc + n) ls (mu_sv w j :: st) g
    | none => False
  | .new x => match mu_look (mu_pN (mu_mK mi)) x with
    | some (c, _) => mu_X g + 1 ≤ L.1 ∧ mu_S g + mu_nf c ≤ L.2 ∧ ∀ g', g' = mu_sN g (c + 1) 0 (mu_nf c) → K (pc + n) ls (.ref (mu_X g) :: st) g'
    | none => False
  | .newarray t => mu_p1 st fun x r => mu_in x 100000 ∧ mu_X g + 1 ≤ L.1 ∧ mu_S g + x.toNatClampNeg ≤ L.2 ∧ (match t with
    | .int => ∀ g', g' = mu_sN g 20 x.toNatClampNeg x.toNatClampNeg → K (pc + n) ls (.ref (mu_X g) :: r) g'
    | .byte => ∀ g', g' = mu_sN g 21 x.toNatClampNeg x.toNatClampNeg → K (pc + n) ls (.ref (mu_X g) :: r) g'
    | _ => False)
  | .anewarray y => match mu_look (mu_pA (mu_mK mi)) y with
    | some (q, _) => mu_p1 st fun x r => mu_in x 100000 ∧ mu_X g + 1 ≤ L.1 ∧ mu_S g + x.toNatClampNeg ≤ L.2 ∧ ∀ g', g' = mu_sN g (20 + q) x.toNatClampNeg x.toNatClampNeg → K (pc + n) ls (.ref (mu_X g) :: r) g'
    | none => False
  | .arraylength => mu_pr st fun a r => (20 ≤ mu_T g a ∧ mu_T g a < 27) ∧ K (pc + n) ls (.int (Int32.ofNat (mu_N g a)) :: r) g
  | .iaload => mu_pir st fun a j r => mu_T g a = 20 ∧ mu_in j (mu_N g a) ∧ K (pc + n) ls (.int (mu_I g a j.toNatClampNeg) :: r) g
  | .baload => mu_pir st fun a j r => mu_T g a = 21 ∧ mu_in j (mu_N g a) ∧ K (pc + n) ls (.int (mu_I g a j.toNatClampNeg) :: r) g
  | .aaload => mu_pir st fun a j r => (22 ≤ mu_T g a ∧ mu_T g a < 27) ∧ mu_in j (mu_N g a) ∧ K (pc + n) ls (.ref (mu_R g a j.toNatClampNeg) :: r) g
  | .iastore => mu_piir st fun a j x r => w.1 < a ∧ mu_T g a = 20 ∧ mu_in j (mu_N g a) ∧ K (pc + n) ls r (mu_sI g a j.toNatClampNeg x)
  | .bastore => mu_piir st fun a j x r => w.1 < a ∧ mu_T g a = 21 ∧ mu_in j (mu_N g a) ∧ K (pc + n) ls r (mu_sI g a j.toNatClampNeg x.toInt8.toInt32)
  | .aastore => mu_prir st fun a j v r => w.1 < a ∧ (22 ≤ mu_T g a ∧ mu_T g a < 27) ∧ (v = 0 ∨ mu_T g v = mu_Ac (mu_T g a - 20) + 1) ∧ mu_in j (mu_N g a) ∧ K (pc + n) ls r (mu_sR g a j.toNatClampNeg v)
  | .ireturn => match st with
    | [.int x] => mu_rI (mu_mR mi) x (Q (some (.int x)) g)
    | _ => False
  | .areturn => match st with
    | [.ref a] => Q (some (.ref a)) g
    | _ => False
  | .return_ => match st with
    | [] => Q none g
    | _ => False
  | .invokestatic x => match mu_look (mu_pM (mu_mK mi)) x with
    | some (mj, _) => match mu_split (mu_mA mj) [] st with
      | some (As, rest) => mu_small rest (mu_call w mj d L As rest g (fun st' g' => K (pc + n) ls st' g'))
      | none => False
    | none => match mu_look (mu_pQ (mu_mK mi)) x with
      | some (1, _) => mu_p2 st fun x y r => mu_small r (mu_pos d (K (pc + n) ls (.int (mu_max x y) :: r) g))
      | some (2, _) => mu_p2 st fun x y r => mu_small r (mu_pos d (K (pc + n) ls (.int (mu_min x y) :: r) g))
      | some (3, _) => mu_p1 st fun x r => mu_small r (mu_pos d (K (pc + n) ls (.int (mu_abs x) :: r) g))
      | some (4, _) => mu_pcp st fun a sp b dp m r => mu_small r (mu_pos d (w.1 < a ∧ w.1 < b ∧ ((mu_T g a = 20 ∧ mu_T g b = 20) ∨ (mu_T g a = 21 ∧ mu_T g b = 21)) ∧ 0 ≤ sp.toInt ∧ 0 ≤ dp.toInt ∧ 0 ≤ m.toInt ∧ sp.toInt + m.toInt ≤ (mu_N g a : Int) ∧ dp.toInt + m.toInt ≤ (mu_N g b : Int) ∧ K (pc + n) ls r (mu_sC g a sp.toNatClampNeg b dp.toNatClampNeg m.toNatClampNeg)))
      | _ => False
  | .invokevirtual x => match mu_look (mu_pM (mu_mK mi)) x with
    | some (mj, _) => match mu_split (mu_mA mj) [] st with
      | some (As, .ref a :: rest) => mu_T g a = mu_mK mj + 1 ∧ mu_small rest (mu_call w mj d L (.ref a :: As) rest g (fun st' g' => K (pc + n) ls st' g'))
      | _ => False
    | none => False
  | .invokespecial x => match mu_look (mu_pM (mu_mK mi)) x with
    | some (mj, _) => match mu_split (mu_mA mj) [] st with
      | some (As, .ref a :: rest) => (¬ a = 0) ∧ mu_small rest (mu_call w mj d L (.ref a :: As) rest g (fun st' g' => K (pc + n) ls st' g'))
      | _ => False
    | none => match mu_look (mu_pQ (mu_mK mi)) x with
      | some (0, _) => mu_pr st fun a r => (¬ a = 0) ∧ mu_small r (mu_pos d (K (pc + n) ls r g))
      | _ => False
  | _ => False
/-- the walk of k instructions, up to the heads hs (pc, which locals live) -/
def mu_wp (w : mu_O) (mi : mu_M) (d : Nat) (L : Nat × Nat) (Q : Option Value → mu_H → Prop) (hs : List (Nat × List Bool)) : Nat → mu_C
  | 0, pc, ls, st, g => mu_go w mi d L Q pc ls st g
  | k + 1, pc, ls, st, g => match mu_at (mu_mC mi) pc with
    | none => False
    | some (i, n) => mu_step w mi d L Q i n (fun pc' ls' st' g' => match mu_look hs pc' with
      | some bs => mu_go w mi d L Q pc' (mu_mask bs ls') st' g'
      | none => mu_wp w mi d L Q hs k pc' ls' st' g') pc ls st g
