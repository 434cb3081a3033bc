/-! THE START: the heap of mine that stands for it -/
def vInt : Option Value → Int32
  | some (.int v) => v
  | _ => 0
def hN (s : State) (z : Nat) : Nat := match s.heap[z - 1]? with
  | some c => c.slots.size.toInt32.toNatClampNeg
  | none => 0
def hI (s : State) (z k : Nat) : Int32 := match s.heap[z - 1]? with
  | some c => vInt c.slots[k]?
  | none => 0
def aC (t : FieldType) (a : Nat) (s : State) : Prop := ∃ (cell : Cell) (N : Nat), s.heap[a]? = some cell ∧ s.isArrayOf cell t ∧ cell.vm ≠ .unknown ∧ N < 2 ^ 31 ∧ N ≤ cell.slots.size ∧ cell.slots.size.toInt32 = Int32.ofNat N ∧ ∀ j : Nat, j < N → ∃ v : Int32, cell.slots[j]? = some (.int v)
noncomputable def g00 (s : State) (pI pB pS : Nat → Prop) (rS : Nat → Nat) : mu_H := (fun z => cif (z = 0) 0 (cif (pI (z - 1)) 20 (cif (pB (z - 1)) 21 (cif (pS (z - 1)) 13 0))), hN s, fun z k => cif (pS (z - 1)) 0 (hI s z k), fun z _ => cif (pS (z - 1)) (rS (z - 1)) 0, s.heap.size + 1, 0)
section Wg
variable {s : State} {a b L : Nat} {t : FieldType} {A : Nat → Prop}
theorem hN_at {cell : Cell} {N : Nat} (hc : s.heap[a]? = some cell) (hN2 : N < 2 ^ 31) (hz : cell.slots.size.toInt32 = Int32.ofNat N) : hN s (a + 1) = N := by
  unfold hN
  rw [show a + 1 - 1 = a from rfl, hc]
  show cell.slots.size.toInt32.toNatClampNeg = N
  rw [hz]
  exact nI_clamp hN2
theorem hI_at {cell : Cell} {k : Nat} (hc : s.heap[a]? = some cell) : hI s (a + 1) k = vInt cell.slots[k]? := by
  unfold hI
  rw [show a + 1 - 1 = a from rfl, hc]
theorem aC_T (h : aC t a s) (hA : ¬ A a) : va_T t a (hN s (a + 1)) (fun j => .int (hI s (a + 1) j)) A s s.heap := by
  obtain ⟨cell, N, h1, h2, h3, h4, h5, h6, h7⟩ := h
  rw [hN_at h1 h4 h6]
  refine ⟨cell, h1, h2, h3, h5, h6, fun j hj => ?_, hA⟩
  obtain ⟨v, hv⟩ := h7 j hj
  dsimp only
  rw [hI_at h1, hv]
  rfl
theorem aC_of {N : Nat} {f : Nat → Int32} (hN2 : N < 2 ^ 31) (h : va_T t a N (fun j => .int (f j)) A s s.heap) : aC t a s ∧ hN s (a + 1) = N ∧ ∀ j, j < N → hI s (a + 1) j = f j := by
  obtain ⟨cell, h1, h2, h3, h5, h6, h7, -⟩ := h
  refine ⟨⟨cell, N, h1, h2, h3, hN2, h5, h6, fun j hj => ⟨_, h7 j hj⟩⟩, hN_at h1 hN2 h6, fun j hj => ?_⟩
  rw [hI_at h1, h7 j hj]
  rfl
theorem aC_lt (h : aC t a s) : a < s.heap.size := by
  obtain ⟨cell, N, h1, -⟩ := h
  exact (Array.getElem?_eq_some_iff.mp h1).1
theorem aC_ne (h1 : aC .int a s) (h2 : aC .byte a s) : False := by
  obtain ⟨cell, N, a1, a2, -⟩ := h1
  obtain ⟨cell2, N2, b1, b2, -⟩ := h2
  rw [a1] at b1
  cases b1
  obtain ⟨-, k, hk, comp, hkind⟩ := a2
  obtain ⟨-, k2, hk2, comp2, hkind2⟩ := b2
  rw [hk] at hk2
  cases hk2
  rw [hkind] at hkind2
  cases hkind2
theorem aC_str {o n d : String} {r : Nat} (hh : heapFits s = true) (ht : fits t (.ref r) = false) (h1 : aC t a s) (h2 : va_OF o n d (.ref r) a A s s.heap) : False := by
  obtain ⟨cell, N, a1, a2, -⟩ := h1
  obtain ⟨cf, k, i, f, cell2, -, -, b1, -, b2, -⟩ := h2
  rw [a1] at b1
  cases b1
  have := hp_arr hh a1 a2 b2
  rw [ht] at this
  cases this
section Gg
variable {pI pB pS : Nat → Prop} {rS : Nat → Nat}
theorem g00_I (h : pI a) : mu_T (g00 s pI pB pS rS) (a + 1) = 20 := (cif_f (by omega)).trans (cif_t h)
theorem g00_B (h1 : ¬ pI a) (h : pB a) : mu_T (g00 s pI pB pS rS) (a + 1) = 21 := (cif_f (by omega)).trans ((cif_f h1).trans (cif_t h))
theorem g00_S (h1 : ¬ pI a) (h2 : ¬ pB a) (h : pS a) : mu_T (g00 s pI pB pS rS) (a + 1) = 13 := (cif_f (by omega)).trans ((cif_f h1).trans ((cif_f h2).trans (cif_t h)))
theorem g00_0 (h1 : ¬ pI a) (h2 : ¬ pB a) (h : ¬ pS a) : mu_T (g00 s pI pB pS rS) (a + 1) = 0 := (cif_f (by omega)).trans ((cif_f h1).trans ((cif_f h2).trans (cif_f h)))
theorem g00_i (h : ¬ pS a) {k : Nat} : mu_I (g00 s pI pB pS rS) (a + 1) k = hI s (a + 1) k := cif_f h
theorem g00_s (h : pS a) {k : Nat} : mu_I (g00 s pI pB pS rS) (a + 1) k = 0 := cif_t h
theorem g00_r (h : pS a) {k : Nat} : mu_R (g00 s pI pB pS rS) (a + 1) k = rS a := cif_t h
end Gg
end Wg
