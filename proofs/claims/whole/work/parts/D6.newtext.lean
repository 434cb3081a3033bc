/-! CLIENTS: a text comes into being -/
theorem mu_mkN {w : mu_O} {mi : mu_M} {d : Nat} {As : List Value} {g g' : mu_H} {r : Option Value} (hm : mu_ok mi = true) (hlen : Nat.ble (mu_words As) (mu_mL mi) = true) (hX : mu_X g ≤ mu_X g') (hS : mu_S g ≤ mu_S g')
    (k : ∀ L : Nat × Nat, mu_fit2 L g' → ∀ Q : Option Value → mu_H → Prop, Q r g' → mu_go w mi d L Q 0 (mu_ent (mu_mL mi) As) [] g) : mu_met w mi d As g r g' :=
  mu_mtG hm (k _ ⟨Nat.le_refl _, Nat.le_refl _⟩ _ ⟨⟨rfl, rfl⟩, rfl, rfl⟩) hlen hX hS
theorem mu_mkX {w : mu_O} {mi : mu_M} {d : Nat} {As : List Value} {g : mu_H} {P : Option Value → mu_H → Prop} {X S : Nat} (hm : mu_ok mi = true) (hlen : Nat.ble (mu_words As) (mu_mL mi) = true) (hX : mu_X g ≤ X) (hS : mu_S g ≤ S)
    (k : ∀ L : Nat × Nat, X ≤ L.1 → S ≤ L.2 → ∀ Q : Option Value → mu_H → Prop, (∀ r g', P r g' → mu_X g' = X → mu_S g' = S → Q r g') → mu_go w mi d L Q 0 (mu_ent (mu_mL mi) As) [] g) : mu_mt w mi d As g P X S :=
  mu_mtG hm (k _ (Nat.le_refl _) (Nat.le_refl _) _ (fun r g' h hx hs => ⟨h, hx, hs⟩)) hlen hX hS
section Nt
variable {w : mu_O} {d a r c lv : Nat} {g g1 : mu_H} {key : Int32}
theorem N_T {t n v z : Nat} (h : z ≠ mu_X g) : mu_T (mu_sN g t n v) z = mu_T g z := if_neg h
theorem N_N {t n v z : Nat} (h : z ≠ mu_X g) : mu_N (mu_sN g t n v) z = mu_N g z := if_neg h
theorem N_I {t n v z : Nat} (h : z ≠ mu_X g) : mu_I (mu_sN g t n v) z = mu_I g z := funext fun k => if_neg h
theorem N_R {t n v z : Nat} (h : z ≠ mu_X g) : mu_R (mu_sN g t n v) z = mu_R g z := funext fun k => if_neg h
theorem N_Tx {t n v : Nat} : mu_T (mu_sN g t n v) (mu_X g) = t := if_pos rfl
theorem N_Nx {t n v : Nat} : mu_N (mu_sN g t n v) (mu_X g) = n := if_pos rfl
theorem I_sR {z k v : Nat} : mu_I (mu_sR g z k v) = mu_I g := rfl
def cpG (g : mu_H) (r c : Nat) : mu_H := mu_sC (mu_sN g 20 c c) r 0 (mu_X g) 0 c
theorem sp_copyOf (hr : mu_T g r = 20) (hw : w.1 < r) (hx : w.1 < mu_X g) (hN : mu_N g r = 96) (hne : r ≠ mu_X g) (hc : c < 96) : mu_met w mm_J7_copyOf_59c91 (d + 1) [.ref r, .int (nI c)] g (some (.ref (mu_X g))) (cpG g r c) := by
  refine mu_mkN mk_J7_copyOf_59c91 rfl (Nat.le_succ _) (Nat.le_add_right _ c) (fun L hL Q hQ => fm_J7_copyOf_59c91_0 ?_)
  have e96 : Int32.ofNat 96 = nI 96 := rfl
  have hn : ¬ nI c = nI 96 := fun e => by
    have := congrArg Int32.toNatClampNeg e
    rw [nI_clamp (by omega), nI_clamp (by omega)] at this
    omega
  rw [hr, hN, e96, nI_clamp (by omega)]
  refine ⟨by decide, fun _ => ⟨mu_in_n (by omega) (by omega), hL.1, hL.2, fun g2 e2 => ?_⟩, fun q => absurd hn q⟩
  subst e2
  rw [N_T hne, hr, N_N hne, hN, N_Tx, N_Nx, e96, mn_n (by omega) (by omega), show min 96 c = c by omega, nI_clamp (by omega), nI_toInt (by omega)]
  refine ⟨by decide, hw, hx, Or.inl ⟨rfl, rfl⟩, by decide, by decide, by omega, ?_, ?_, hQ⟩
  · show (0 : Int) + _ ≤ _
    omega
  · show (0 : Int) + _ ≤ _
    omega
def iniG (g : mu_H) (a : Nat) (key : Int32) (lv r : Nat) : mu_H := mu_sR (mu_sN (mu_sR (mu_sI (mu_sI g a 0 key) a 1 (nI lv)) a 2 r) 20 lv lv) a 3 (mu_X g)
theorem sp_X9_init (ha : a ≠ 0) (hT : mu_T g a = 10) (hne : a ≠ mu_X g) (h1 : 1 ≤ lv) (h2 : lv ≤ 96) : mu_met w mm_X9_init (d + 1) [.ref a, .int key, .int (nI lv), .ref r] g none (iniG g a key lv r) := by
  refine mu_mkN mk_X9_init rfl (Nat.le_succ _) (Nat.le_add_right _ lv) (fun L hL Q hQ => fm_X9_init_0 ?_)
  have e1 : mu_max 1 (nI lv) = nI lv := by
    rw [show (1 : Int32) = nI 1 from rfl, mx_n (by omega) (by omega), show max 1 lv = lv by omega]
  rw [e1, nI_clamp (by omega)]
  refine ⟨ha, hT, hT, hT, mu_in_n (by omega) (by omega), hL.1, hL.2, fun g2 e2 => ?_⟩
  subst e2
  refine ⟨?_, hQ⟩
  rw [N_T (by exact hne)]
  exact hT
/-- a new text at a, its code behind it, its stack behind that -/
def nwT (a c lv : Nat) (key : Int32) (r : Nat) (g g' : mu_H) : Prop :=
  (∀ z, z ≠ a → z ≠ a + 1 → z ≠ a + 2 → mu_T g' z = mu_T g z ∧ mu_N g' z = mu_N g z ∧ mu_I g' z = mu_I g z ∧ mu_R g' z = mu_R g z) ∧ (mu_T g' a = 10 ∧ mu_T g' (a + 1) = 20 ∧ mu_T g' (a + 2) = 20) ∧ (mu_N g' (a + 1) = c ∧ mu_N g' (a + 2) = lv) ∧ (mu_I g' a 0 = key ∧ mu_I g' a 1 = nI lv) ∧ (mu_R g' a 2 = a + 1 ∧ mu_R g' a 3 = a + 2) ∧ (∀ i, i < c → mu_I g' (a + 1) i = mu_I g r i) ∧ mu_X g' = a + 3 ∧ mu_S g' = mu_S g + 4 + c + lv
theorem nw_ok (hr : r < mu_X g) : nwT (mu_X g) c lv key r g (iniG (cpG (mu_sN g 10 0 4) r c) (mu_X g) key lv (mu_X g + 1)) := by
  have X1 : mu_X (mu_sN g 10 0 4) = mu_X g + 1 := rfl
  have X2 : mu_X (cpG (mu_sN g 10 0 4) r c) = mu_X g + 2 := rfl
  have T3 : ∀ z, mu_T (iniG (cpG (mu_sN g 10 0 4) r c) (mu_X g) key lv (mu_X g + 1)) z = if z = mu_X g + 2 then 20 else if z = mu_X g + 1 then 20 else if z = mu_X g then 10 else mu_T g z := fun z => rfl
  have N3 : ∀ z, mu_N (iniG (cpG (mu_sN g 10 0 4) r c) (mu_X g) key lv (mu_X g + 1)) z = if z = mu_X g + 2 then lv else if z = mu_X g + 1 then c else if z = mu_X g then 0 else mu_N g z := fun z => rfl
  have R3 : ∀ z k, mu_R (iniG (cpG (mu_sN g 10 0 4) r c) (mu_X g) key lv (mu_X g + 1)) z k = if z = mu_X g ∧ k = 3 then mu_X g + 2 else if z = mu_X g + 2 then 0 else if z = mu_X g ∧ k = 2 then mu_X g + 1 else if z = mu_X g + 1 then 0 else if z = mu_X g then 0 else mu_R g z k := fun z k => rfl
  have I0 : mu_I (iniG (cpG (mu_sN g 10 0 4) r c) (mu_X g) key lv (mu_X g + 1)) (mu_X g) = mu_I (mu_sI (mu_sI (cpG (mu_sN g 10 0 4) r c) (mu_X g) 0 key) (mu_X g) 1 (nI lv)) (mu_X g) := by
    unfold iniG
    rw [I_sR, N_I (by show mu_X g ≠ mu_X g + 2; omega), I_sR]
  have I2 : ∀ z, z ≠ mu_X g → z ≠ mu_X g + 2 → mu_I (iniG (cpG (mu_sN g 10 0 4) r c) (mu_X g) key lv (mu_X g + 1)) z = mu_I (cpG (mu_sN g 10 0 4) r c) z := fun z h0 h2 => by
    unfold iniG
    rw [I_sR, N_I (by exact h2), I_sR, mu_I_off _ _ _ h0, mu_I_off _ _ _ h0]
  have I1 : ∀ z, z ≠ mu_X g → z ≠ mu_X g + 1 → mu_I (cpG (mu_sN g 10 0 4) r c) z = mu_I g z := fun z h0 h1 => by
    unfold cpG
    rw [sC_I _ _ _ _ _ _ _ (by exact h1), N_I (by exact h1), N_I h0]
  refine ⟨fun z h0 h1 h2 => ⟨?_, ?_, ?_, ?_⟩, ⟨?_, ?_, ?_⟩, ⟨?_, ?_⟩, ⟨?_, ?_⟩, ⟨?_, ?_⟩, fun i hi => ?_, rfl, rfl⟩
  · rw [T3, if_neg h2, if_neg h1, if_neg h0]
  · rw [N3, if_neg h2, if_neg h1, if_neg h0]
  · rw [I2 z h0 h2, I1 z h0 h1]
  · funext k
    rw [R3, if_neg (fun q => h0 q.1), if_neg h2, if_neg (fun q => h0 q.1), if_neg h1, if_neg h0]
  · rw [T3, if_neg (by omega), if_neg (by omega), if_pos rfl]
  · rw [T3, if_neg (by omega), if_pos rfl]
  · rw [T3, if_pos rfl]
  · rw [N3, if_neg (by omega), if_pos rfl]
  · rw [N3, if_pos rfl]
  · rw [I0, I_sI_k _ _ _ (by omega), I_sI_same]
  · rw [I0, I_sI_same]
  · rw [R3, if_neg (fun q => absurd q.2 (by decide)), if_neg (by omega), if_pos ⟨rfl, rfl⟩]
  · rw [R3, if_pos ⟨rfl, rfl⟩]
  · rw [I2 _ (by omega) (by omega)]
    unfold cpG
    rw [show mu_X g + 1 = mu_X (mu_sN g 10 0 4) from rfl, sC_i _ _ _ _ _ _ _ ⟨Nat.zero_le _, by omega⟩, N_I (by rw [X1]; omega), N_I (by omega)]
    congr 1
    omega
end Nt
