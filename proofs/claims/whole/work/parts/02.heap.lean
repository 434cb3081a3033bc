/-! OWN SMALL MACHINE, PART 1: heaps as functions. A reference is a number, one above the cell's address; 0 is null. -/
abbrev mu_H : Type := (Nat → Nat) × (Nat → Nat) × (Nat → Nat → Int32) × (Nat → Nat → Nat) × Nat × Nat
def mu_T (g : mu_H) : Nat → Nat := g.1
def mu_N (g : mu_H) : Nat → Nat := g.2.1
def mu_I (g : mu_H) : Nat → Nat → Int32 := g.2.2.1
def mu_R (g : mu_H) : Nat → Nat → Nat := g.2.2.2.1
def mu_X (g : mu_H) : Nat := g.2.2.2.2.1
def mu_S (g : mu_H) : Nat := g.2.2.2.2.2
/-- an int is written at place k of the cell a -/
def mu_sI (g : mu_H) (a k : Nat) (v : Int32) : mu_H := (mu_T g, mu_N g, fun x y => if x = a ∧ y = k then v else mu_I g x y, mu_R g, mu_X g, mu_S g)
/-- a reference is written -/
def mu_sR (g : mu_H) (a k : Nat) (v : Nat) : mu_H := (mu_T g, mu_N g, mu_I g, fun x y => if x = a ∧ y = k then v else mu_R g x y, mu_X g, mu_S g)
/-- a new cell of tag t with n places, w slots -/
def mu_sN (g : mu_H) (t n w : Nat) : mu_H := (fun x => if x = mu_X g then t else mu_T g x, fun x => if x = mu_X g then n else mu_N g x, fun x y => if x = mu_X g then 0 else mu_I g x y, fun x y => if x = mu_X g then 0 else mu_R g x y, mu_X g + 1, mu_S g + w)
/-- n ints are copied from a (from sp on) to b (from dp on) -/
def mu_sC (g : mu_H) (a sp b dp n : Nat) : mu_H := (mu_T g, mu_N g, fun x y => if x = b ∧ (dp ≤ y ∧ y < dp + n) then mu_I g a (sp + (y - dp)) else mu_I g x y, mu_R g, mu_X g, mu_S g)
def mu_V : Value → Value
  | .ref 0 => .null
  | .ref (a + 1) => .ref a
  | v => v
theorem mu_V_cat (v : Value) : (mu_V v).category = v.category := by
  cases v with
  | ref a => cases a <;> rfl
  | _ => rfl
/-- the world's constants: the heap's size at the start, class numbers, slots, array classes, statics, strings -/
abbrev mu_O : Type := Nat × (Nat → ClassId) × (Nat → Nat → Nat) × (Nat → ClassId) × (Nat → Nat) × (Nat → Nat)
def mu_A (w : mu_O) : Nat → Prop := fun q => w.1 ≤ q
def mu_Ty (c : Nat) : Nat → FieldType := match c with
  | 0 => tyX0
  | 1 => tyX1
  | 2 => tyX2
  | 3 => tyX3
  | 4 => tyX4
  | 5 => tyX5
  | 6 => tyX6
  | 7 => tyX7
  | 8 => tyX8
  | 9 => tyX9
  | 10 => tyX10
  | _ => tyX11
def mu_isR : FieldType → Bool
  | .object _ => true
  | .array _ => true
  | _ => false
def mu_Fv (g : mu_H) (c a k : Nat) : Value := match mu_isR (mu_Ty c k) with
  | true => .ref (mu_R g a k)
  | false => .int (mu_I g a k)
def mu_AE : Nat → FieldType
  | 0 => .int
  | 1 => .byte
  | 2 => .object RX2
  | 3 => .object RX1
  | 4 => .object RX9
  | 5 => .object RX5
  | _ => .object RX7
/-- the class of an array's elements, by the array's kind -/
def mu_Ac : Nat → Nat
  | 2 => 2
  | 3 => 1
  | 4 => 9
  | 5 => 5
  | _ => 7
def mu_Av (g : mu_H) (q a j : Nat) : Value := match q with
  | 0 => .int (mu_I g a j)
  | 1 => .int (mu_I g a j)
  | _ => .ref (mu_R g a j)
def mu_tys (w : mu_O) : List (ClassId × FieldType) := [(w.2.2.2.1 0, mu_AE 0), (w.2.2.2.1 1, mu_AE 1), (w.2.2.2.1 2, mu_AE 2), (w.2.2.2.1 3, mu_AE 3), (w.2.2.2.1 4, mu_AE 4), (w.2.2.2.1 5, mu_AE 5), (w.2.2.2.1 6, mu_AE 6)]
theorem mu_tys_at (w : mu_O) {q : Nat} (h : q < 7) : (mu_tys w)[q]? = some (w.2.2.2.1 q, mu_AE q) := by
  rcases (show q = 0 ∨ q = 1 ∨ q = 2 ∨ q = 3 ∨ q = 4 ∨ q = 5 ∨ q = 6 by omega) with rfl | rfl | rfl | rfl | rfl | rfl | rfl <;> rfl
def mu_str (g : mu_H) (w : mu_O) (U : State) (H : Heap) (a : Nat) : Prop :=
  va_O "java/lang/String" a (mu_A w) U H ∧ va_OF "java/lang/String" "value" "[B" (mu_V (.ref (mu_R g (a + 1) 0))) a (mu_A w) U H ∧ va_OF "java/lang/String" "coder" "B" (.int (mu_I g (a + 1) 1)) a (mu_A w) U H
/-- what the cell at address a holds, by its tag: 1 .. 12 objects of the class table, 13 a String of before, 20 .. 26 arrays -/
def mu_cell (w : mu_O) (g : mu_H) (U : State) (H : Heap) (a : Nat) : Prop :=
  (∀ c : Nat, c < 12 → mu_T g (a + 1) = c + 1 → w.1 ≤ a ∧ ∃ r, vwCl[c]? = some r ∧ t_OB a (w.2.1 c) r.2.2 (w.2.2.1 c) H (fun k => mu_V (mu_Fv g c (a + 1) k))) ∧
  (∀ q : Nat, q < 7 → mu_T g (a + 1) = 20 + q → (w.1 ≤ a → H[a]? = some (arrV (w.2.2.2.1 q) (mu_N g (a + 1)) (fun j => mu_V (mu_Av g q (a + 1) j))) ∧ (q = 1 → ∀ j : Nat, j < mu_N g (a + 1) → fits .byte (.int (mu_I g (a + 1) j)) = true)) ∧ (¬ w.1 ≤ a → va_T (mu_AE q) a (mu_N g (a + 1)) (fun j => mu_V (mu_Av g q (a + 1) j)) (mu_A w) U H)) ∧
  (mu_T g (a + 1) = 13 → mu_str g w U H a)
def mu_rep (w : mu_O) (g : mu_H) (U : State) (H : Heap) : Prop := H.size + 1 = mu_X g ∧ w.1 ≤ H.size ∧ mu_T g 0 = 0 ∧ ∀ a : Nat, mu_cell w g U H a
/-- the statics that are read -/
def mu_sts : List (String × String × String) := [("StageFights", "ABOVE", "[I"), ("StageFights", "REACH", "[I"), ("StageFights", "WORTH", "[I"), ("StageFights", "TIRES", "[I"), ("StageFights", "WEARS", "[I"), ("StageFights", "GOES", "[I"), ("java/lang/String", "COMPACT_STRINGS", "Z"), ("jdk/internal/util/Preconditions", "SIOOBE_FORMATTER", "Ljava/util/function/BiFunction;")]
/-- what they hold: arrays, a boolean, a reference or null -/
def mu_sv (w : mu_O) (j : Nat) : Value := match j with
  | 6 => .int 1
  | j => .ref (w.2.2.2.2.1 j)
def mu_stat (w : mu_O) (U : State) (H : Heap) : Prop := ∀ (j : Nat) (q : String × String × String), mu_sts[j]? = some q → va_Z q.1 q.2.1 q.2.2 (mu_V (mu_sv w j)) (mu_A w) U H
theorem mu_cell_moved {w : mu_O} {g : mu_H} {u U : State} {H : Heap} {a : Nat} (hvm : u.vm.Alike U.vm) (h : mu_cell w g u H a) : mu_cell w g U H a := by
  obtain ⟨h1, h2, h3⟩ := h
  exact ⟨h1, fun q hq ht => ⟨(h2 q hq ht).1, fun ha => ((h2 q hq ht).2 ha).moved hvm⟩, fun ht => ⟨(h3 ht).1.moved hvm, (h3 ht).2.1.moved hvm, (h3 ht).2.2.moved hvm⟩⟩
theorem mu_rep_moved {w : mu_O} {g : mu_H} {u U : State} {H : Heap} (hvm : u.vm.Alike U.vm) (h : mu_rep w g u H) : mu_rep w g U H := ⟨h.1, h.2.1, h.2.2.1, fun a => mu_cell_moved hvm (h.2.2.2 a)⟩
theorem mu_stat_moved {w : mu_O} {u U : State} {H : Heap} (hvm : u.vm.Alike U.vm) (h : mu_stat w u H) : mu_stat w U H := fun j q hj => (h j q hj).moved hvm
theorem mu_stat_kept {w : mu_O} {U : State} {H H1 : Heap} (h : mu_stat w U H) (hq : ∀ a : Nat, a < H.size → ¬ mu_A w a → H1[a]? = H[a]?) : mu_stat w U H1 := fun j q hj => (h j q hj).kept hq
/-- a cell whose tag, length and contents are as before, in a heap that holds the same there -/
theorem mu_cell_kept {w : mu_O} {g g1 : mu_H} {U : State} {H H1 : Heap} {a : Nat} (h : mu_cell w g U H a) (hq : H1[a]? = H[a]?) (eT : mu_T g1 (a + 1) = mu_T g (a + 1)) (eN : mu_N g1 (a + 1) = mu_N g (a + 1)) (eI : ∀ k, mu_I g1 (a + 1) k = mu_I g (a + 1) k) (eR : ∀ k, mu_R g1 (a + 1) k = mu_R g (a + 1) k) : mu_cell w g1 U H1 a := by
  have eF : ∀ c k, mu_Fv g1 c (a + 1) k = mu_Fv g c (a + 1) k := fun c k => by unfold mu_Fv; rw [eI, eR]
  have eA : ∀ q j, mu_Av g1 q (a + 1) j = mu_Av g q (a + 1) j := fun q j => by unfold mu_Av; rw [eI, eR]
  obtain ⟨h1, h2, h3⟩ := h
  refine ⟨fun c hc ht => ?_, fun q hq2 ht => ?_, fun ht => ?_⟩
  · rw [eT] at ht
    obtain ⟨i1, r, i2, cell, i3, i4, i5, i6⟩ := h1 c hc ht
    exact ⟨i1, r, i2, cell, hq.trans i3, i4, i5, fun k hk => by dsimp only; rw [eF]; exact i6 k hk⟩
  · rw [eT] at ht
    have e : (fun j => mu_V (mu_Av g1 q (a + 1) j)) = (fun j => mu_V (mu_Av g q (a + 1) j)) := funext fun j => by rw [eA]
    rw [e, eN]
    obtain ⟨i1, i2⟩ := h2 q hq2 ht
    refine ⟨fun ha => ⟨hq.trans (i1 ha).1, fun e1 j hj => by rw [eI]; exact (i1 ha).2 e1 j hj⟩, fun ha => ?_⟩
    obtain ⟨cell, j1, j2⟩ := i2 ha
    exact ⟨cell, hq.trans j1, j2⟩
  · rw [eT] at ht
    obtain ⟨⟨cell, j1, j2⟩, ⟨cf, k, i, f, cell2, k1, k2, k3, k4⟩, ⟨cf', k', i', f', cell3, l1, l2, l3, l4⟩⟩ := h3 ht
    refine ⟨⟨cell, hq.trans j1, j2⟩, ⟨cf, k, i, f, cell2, k1, k2, hq.trans k3, ?_⟩, ⟨cf', k', i', f', cell3, l1, l2, hq.trans l3, ?_⟩⟩
    · rw [eR]; exact k4
    · rw [eI]; exact l4
/-- an array's cell, own or of before: what a read needs -/
theorem mu_arr {w : mu_O} {g : mu_H} {U : State} {H : Heap} {D : va_G} {a q : Nat} (hK : va_K D vwCl (mu_tys w) U) (h : mu_cell w g U H a) (hq : q < 7) (ht : mu_T g (a + 1) = 20 + q) :
    ∃ cell : Cell, H[a]? = some cell ∧ U.isArrayOf cell (mu_AE q) ∧ cell.vm ≠ .unknown ∧ mu_N g (a + 1) ≤ cell.slots.size ∧ cell.slots.size.toInt32 = Int32.ofNat (mu_N g (a + 1)) ∧ ∀ j : Nat, j < mu_N g (a + 1) → cell.slots[j]? = some (mu_V (mu_Av g q (a + 1) j)) := by
  obtain ⟨h1, h2⟩ := h.2.1 q hq ht
  by_cases ha : w.1 ≤ a
  · exact ⟨_, (h1 ha).1, (hK.2 q _ (mu_tys_at w hq)).1 _ _, fun h => (nomatch h), Nat.le_of_eq (arrV_size _ _ _).symm, by rw [arrV_size], fun j hj => arrV_read _ _ hj⟩
  · obtain ⟨cell, i1, i2, i3, i4, i5, i6, -⟩ := h2 ha
    exact ⟨cell, i1, i2, i3, i4, i5, i6⟩
