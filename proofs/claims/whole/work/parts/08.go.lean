/-! OWN SMALL MACHINE: what a walk is, what a contract is -/
/-- what is known of the class tables -/
def mu_K (w : mu_O) (U : State) : Prop := va_K (w.2.1, w.2.2.1) vwCl (mu_tys w) U ∧ (∀ q ∈ mu_nF, va_Nw (.fieldLinkNest q.1 q.2.1 q.2.2.1 q.2.2.2.1 q.2.2.2.2.1 q.2.2.2.2.2) U) ∧ (∀ q ∈ mu_nM, va_Nw (.methodLinkNest q.1 q.2.1 q.2.2.1 q.2.2.2) U) ∧ (∀ q : Nat, 1 < q → q < 7 → ∃ C, mu_AE q = .object C ∧ va_AO C U) ∧ (∀ (j : Nat) (q : String × Nat × String), mu_ss[j]? = some q → ∃ a : Nat, w.2.2.2.2.2 j = a + 1 ∧ vk_R q.1 q.2.1 q.2.2 a U)
theorem mu_K_warm {w : mu_O} {s U : State} (hW : s.WarmedH U.vm) (h : mu_K w s) : mu_K w U := by
  obtain ⟨h1, h2, h3, h4, h5⟩ := h
  refine ⟨va_K.moved hW.alike h1, fun q hq => (h2 q hq).warmF hW, fun q hq => (h3 q hq).warmM hW, fun q h0 hq => ?_, fun j q hj => ?_⟩
  · obtain ⟨C, e, hC⟩ := h4 q h0 hq
    exact ⟨C, e, hC.moved hW.alike⟩
  · obtain ⟨a, e, ha⟩ := h5 j q hj
    exact ⟨a, e, ha.warm hW⟩
def mu_ws (m : mu_M) : List Jvm.Cond := .code (mu_mY m) (mu_mB m) (mu_mL m) (mu_mR m) :: lw_tbl.filter goodWord
def mu_lv : Nat → List (Option Value) → List (Nat × Value)
  | _, [] => []
  | i, none :: t => mu_lv (i + 1) t
  | i, some v :: t => (i, mu_V v) :: mu_lv (i + 1) t
def mu_get : List (Option Value) → Nat → Option Value
  | [], _ => none
  | v :: _, 0 => v
  | _ :: t, i + 1 => mu_get t i
def mu_set : List (Option Value) → Nat → Value → List (Option Value)
  | [], _, _ => []
  | _ :: t, 0, v => some v :: t
  | x :: t, i + 1, v => x :: mu_set t i v
theorem mu_lv_get {ls : List (Option Value)} : ∀ {i k : Nat} {v : Value}, mu_get ls i = some v → (k + i, mu_V v) ∈ mu_lv k ls := by
  induction ls with
  | nil => intro i k v h; cases h
  | cons x t ih =>
    intro i k v h
    cases i with
    | zero =>
      have hx : x = some v := h
      subst hx
      exact List.mem_cons_self
    | succ i =>
      have h2 : mu_get t i = some v := h
      have := ih (k := k + 1) h2
      have e : k + 1 + i = k + (i + 1) := by omega
      rw [e] at this
      cases x with
      | none => exact this
      | some y => exact List.mem_cons_of_mem _ this
theorem mu_lv_mem {ls : List (Option Value)} : ∀ {k : Nat} {q : Nat × Value}, q ∈ mu_lv k ls → ∃ (i : Nat) (v : Value), q = (k + i, mu_V v) ∧ mu_get ls i = some v := by
  induction ls with
  | nil => intro k q h; cases h
  | cons x t ih =>
    intro k q h
    cases x with
    | none =>
      obtain ⟨i, v, e, hv⟩ := ih (k := k + 1) h
      exact ⟨i + 1, v, by rw [e, show k + 1 + i = k + (i + 1) by omega], hv⟩
    | some y =>
      rcases List.mem_cons.mp h with e | h
      · exact ⟨0, y, e, rfl⟩
      · obtain ⟨i, v, e, hv⟩ := ih (k := k + 1) h
        exact ⟨i + 1, v, by rw [e, show k + 1 + i = k + (i + 1) by omega], hv⟩
theorem mu_get_set {ls : List (Option Value)} : ∀ {i j : Nat} {v x : Value}, mu_get (mu_set ls i v) j = some x → (j = i ∧ x = v) ∨ (j ≠ i ∧ mu_get ls j = some x) := by
  induction ls with
  | nil => intro i j v x h; cases h
  | cons y t ih =>
    intro i j v x h
    cases i with
    | zero =>
      cases j with
      | zero => left; exact ⟨rfl, (Option.some.inj h).symm⟩
      | succ j => right; exact ⟨by omega, h⟩
    | succ i =>
      cases j with
      | zero => right; exact ⟨by omega, h⟩
      | succ j =>
        have h2 : mu_get (mu_set t i v) j = some x := h
        rcases ih h2 with ⟨e, f⟩ | ⟨e, f⟩
        · left; exact ⟨by omega, f⟩
        · right; exact ⟨by omega, f⟩
theorem mu_has_get {lsA : Array Slot} {n i : Nat} {ls : List (Option Value)} {v : Value} (h : lv_has lsA n (mu_lv 0 ls)) (hv : mu_get ls i = some v) : lsA[i]? = some (.val (mu_V v)) := by
  have := h.2.2 _ (mu_lv_get (k := 0) hv)
  rw [Nat.zero_add] at this
  exact this
/-- no long lies just below i -/
def mu_noL (ls : List (Option Value)) (i : Nat) : Bool := match i with
  | 0 => true
  | i + 1 => match mu_get ls i with
    | some (.long _) => false
    | some (.double _) => false
    | _ => true
theorem mu_noL_cat {ls : List (Option Value)} {i : Nat} {v : Value} (h : mu_noL ls (i + 1) = true) (hv : mu_get ls i = some v) : v.category = 1 := by
  unfold mu_noL at h
  simp only [hv] at h
  cases v <;> first | rfl | cases h
theorem mu_has_set {lsA : Array Slot} {n i : Nat} {ls : List (Option Value)} {v : Value} (h : lv_has lsA n ((i, mu_V v) :: (mu_lv 0 ls).filter (fun q => !(q.1 == i) && !(q.1 + 1 == i && q.2.category == 2)))) (hn : mu_noL ls i = true) : lv_has lsA n (mu_lv 0 (mu_set ls i v)) := by
  refine ⟨h.1, h.2.1, fun q hq => h.2.2 q ?_⟩
  obtain ⟨j, x, e, hx⟩ := mu_lv_mem hq
  rw [Nat.zero_add] at e
  subst e
  rcases mu_get_set hx with ⟨rfl, rfl⟩ | ⟨hne, hx2⟩
  · exact List.mem_cons_self
  · refine List.mem_cons_of_mem _ (List.mem_filter.mpr ⟨?_, ?_⟩)
    · have := mu_lv_get (k := 0) hx2
      rw [Nat.zero_add] at this
      exact this
    · have h1 : (j == i) = false := by simp [hne]
      by_cases h2 : j + 1 = i
      · subst h2
        have := mu_noL_cat hn hx2
        simp [hne, mu_V_cat, this]
      · simp [hne, h2]
/-- fewer locals are known -/
def mu_mask : List Bool → List (Option Value) → List (Option Value)
  | true :: bs, x :: t => x :: mu_mask bs t
  | false :: bs, _ :: t => none :: mu_mask bs t
  | _, [] => []
  | [], _ :: t => none :: mu_mask [] t
theorem mu_mask_get : ∀ {bs : List Bool} {ls : List (Option Value)} {i : Nat} {v : Value}, mu_get (mu_mask bs ls) i = some v → mu_get ls i = some v := by
  intro bs ls
  induction ls generalizing bs with
  | nil => intro i v h; cases bs with
    | nil => exact h
    | cons b bs => cases b <;> exact h
  | cons x t ih =>
    intro i v h
    cases bs with
    | nil => cases i with
      | zero => cases h
      | succ i => exact ih (bs := []) h
    | cons b bs => cases b with
      | false => cases i with
        | zero => cases h
        | succ i => exact ih (bs := bs) h
      | true => cases i with
        | zero => exact h
        | succ i => exact ih (bs := bs) h
theorem mu_has_mask {lsA : Array Slot} {n : Nat} {bs : List Bool} {ls : List (Option Value)} (h : lv_has lsA n (mu_lv 0 ls)) : lv_has lsA n (mu_lv 0 (mu_mask bs ls)) := by
  refine ⟨h.1, h.2.1, fun q hq => h.2.2 q ?_⟩
  obtain ⟨j, x, e, hx⟩ := mu_lv_mem hq
  have := mu_lv_get (k := 0) (mu_mask_get hx)
  rw [e]
  exact this
/-- what holds all through a method's walk -/
def mu_ctx (w : mu_O) (mi : mu_M) (d : Nat) (L : Nat × Nat) (p : Program) (R : Room) (s : State) (m : MethodId) (args : Array Value) (meth : Method) (c : Code) (S0 : Nat) : Prop :=
  p.tables.exec = Jvm.exec ∧ c.code = mu_mB mi ∧ c.maxLocals = mu_mL mi ∧ s.vm.findClass (mu_mY mi).cls = some m.cls ∧ (∀ x ∈ lw_tbl, goodWord x = true → x.before args s = true) ∧ mu_K w s ∧ meth.name = (mu_mY mi).name ∧ d ≤ R.frames ∧ 40 * d ≤ R.locals ∧ L.1 = s.heap.size + 1 + R.cells ∧ L.2 = S0 + R.slots
/-- what holds of the heap now -/
def mu_dyn (w : mu_O) (g : mu_H) (R : Room) (s : State) (S0 : Nat) (H : Heap) (locs : List Loc) (cells slots : Nat) : Prop :=
  mu_rep w g s H ∧ mu_stat w s H ∧ H.size = s.heap.size + cells ∧ mu_S g = S0 + slots ∧ (∀ q ∈ locs, w.1 ≤ q.base) ∧ cells ≤ R.cells ∧ slots ≤ R.slots
def mu_ret (mi : mu_M) (pc : Nat) : Option Value → Prop
  | none => mu_mR mi = none ∧ decode (mu_mB mi) pc = .ok (.return_, 1)
  | some (.int v) => ∃ ty, mu_mR mi = some ty ∧ narrow ty (.int v) = .int v ∧ decode (mu_mB mi) pc = .ok (.ireturn, 1)
  | some (.ref _) => ∃ rt, mu_mR mi = some rt ∧ ((∃ n, rt = .object n) ∨ ∃ t, rt = .array t) ∧ decode (mu_mB mi) pc = .ok (.areturn, 1)
  | _ => False
/-- the walk from pc on comes to a return that Q allows, as far as room L goes -/
def mu_go (w : mu_O) (mi : mu_M) (d : Nat) (L : Nat × Nat) (Q : Option Value → mu_H → Prop) (pc : Nat) (ls : List (Option Value)) (st : List Value) (g : mu_H) : Prop :=
  ∀ (p : Program) (l : Launch) (e : Env) (R : Room) (s : State) (m : MethodId) (args : Array Value) (below : List Frame) (meth : Method) (c : Code) (H : Heap) (locs : List Loc) (cells slots S0 : Nat) (Qw : State → Prop) (lsA : Array Slot),
    mu_ctx w mi d L p R s m args meth c S0 → mu_dyn w g R s S0 H locs cells slots → lv_has lsA (mu_mL mi) (mu_lv 0 ls) →
    (∀ (r : Option Value) (g' : mu_H) (H' : Heap) (locs' : List Loc) (cells' slots' pc' : Nat) (ls' : Array Slot), Q r g' → mu_dyn w g' R s S0 H' locs' cells' slots' → mu_ret mi pc' r → W p l e R s m args below meth c H' locs' cells' slots' Qw (F0 m pc' ls' (r.toList.map mu_V))) →
    W p l e R s m args below meth c H locs cells slots Qw (F0 m pc lsA (st.map mu_V))
/-- a method's contract: from these arguments and this heap it answers and leaves a heap as P says, the room used then being X, S -/
def mu_mt (w : mu_O) (mi : mu_M) (d : Nat) (As : List Value) (g : mu_H) (P : Option Value → mu_H → Prop) (X S : Nat) : Prop :=
  mu_X g ≤ X ∧ mu_S g ≤ S ∧ ∀ l : Launch, Met l (mu_mY mi) (mu_ws mi) { frames := d, cells := X - mu_X g, slots := S - mu_S g, locals := 40 * d }
    (va_Pc (As.map mu_V) (fun U => mu_K w U ∧ mu_rep w g U U.heap ∧ mu_stat w U U.heap)) (fun _ _ oc t => ∃ r g', P r g' ∧ mu_X g' = X ∧ mu_S g' = S ∧ oc = .returned (r.map mu_V) ∧ mu_rep w g' t t.heap ∧ mu_stat w t t.heap) (X - mu_X g) (S - mu_S g) (fun q => w.1 ≤ q)
def mu_args : Nat → List Value → List (Option Value)
  | n, [] => List.replicate n none
  | n, v :: vs => if v.category = 2 then some v :: none :: mu_args (n - 2) vs else some v :: mu_args (n - 1) vs
