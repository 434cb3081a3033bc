/-! MATH: moves that are shifted -/
def nK (s : Nat → Int32) : Nat := min 3 (nch s)
/-- the place of the k-th chosen one's beat -/
def bI' (s : Nat → Int32) (k : Nat) : Nat := 60 + 8 * vC s k + 2
/-- the first n chosen ones are shifted by r -/
def shR (s : Nat → Int32) (r : Nat → Nat) : Nat → Nat → Int32
  | 0 => s
  | k + 1 => upd (shR s r k) (bI' s k) (nI (vM s (vC s k) 2 + r k))
/-- rows that differ in beats alone -/
def agB (s c : Nat → Int32) : Prop := ∀ i, ¬ (60 ≤ i ∧ i < 220 ∧ i % 8 = 6) → c i = s i
section Sh
variable {s c : Nat → Int32} {r r' : Nat → Nat}
theorem shR_o {i : Nat} : ∀ {n : Nat}, (∀ k, k < n → i ≠ bI' s k) → shR s r n i = s i
  | 0, _ => rfl
  | n + 1, h => by
    unfold shR
    rw [pk_un (h n (by omega))]
    exact shR_o (fun k hk => h k (by omega))
theorem shR_at {n k : Nat} (hd : ∀ i j, i < n → j < n → vC s i = vC s j → i = j) (hk : k < n) : shR s r n (bI' s k) = nI (vM s (vC s k) 2 + r k) := by
  induction n with
  | zero => exact absurd hk (Nat.not_lt_zero _)
  | succ n ih =>
    unfold shR
    by_cases e : k = n
    · rw [e, pk_us]
    · rw [pk_un (fun q => e (hd k n (by omega) (by omega) (by unfold bI' at q; omega)))]
      exact ih (fun i j hi hj => hd i j (by omega) (by omega)) (by omega)
theorem shR_c {n : Nat} (h : ∀ k, k < n → r k = r' k) : shR s r n = shR s r' n := by
  induction n with
  | zero => rfl
  | succ n ih => unfold shR; rw [ih (fun k hk => h k (by omega)), h n (by omega)]
theorem shR_upd {n k x : Nat} (hd : ∀ i j, i < n → j < n → vC s i = vC s j → i = j) (hk : k < n) : upd (shR s r n) (bI' s k) (nI (vM s (vC s k) 2 + x)) = shR s (fun j => if j = k then x else r j) n := by
  funext i
  by_cases h : ∃ j, j < n ∧ i = bI' s j
  · obtain ⟨j, h1, rfl⟩ := h
    rw [shR_at hd h1]
    by_cases e : j = k
    · subst e; rw [pk_us]; simp
    · rw [pk_un (fun q => e (hd j k h1 hk (by unfold bI' at q; omega))), shR_at hd h1, if_neg e]
  · rw [shR_o (fun k hk e => h ⟨k, hk, e⟩)]
    rw [pk_un (fun q => h ⟨k, hk, q⟩), shR_o (fun k hk e => h ⟨k, hk, e⟩)]
theorem shR_0 {n : Nat} (hm : ∀ k, k < n → s (bI' s k) = nI (vM s (vC s k) 2)) (h : ∀ k, k < n → r k = 0) : shR s r n = s := by
  induction n with
  | zero => rfl
  | succ n ih =>
    unfold shR
    rw [ih (fun k hk => hm k (by omega)) (fun k hk => h k (by omega)), h n (by omega), Nat.add_zero]
    exact upd_same (hm n (by omega))
theorem bI_in (hw : wf_s s) {k : Nat} (hk : k < nch s) : 60 ≤ bI' s k ∧ bI' s k < 220 ∧ bI' s k % 8 = 6 ∧ s (bI' s k) = nI (vM s (vC s k) 2) := by
  have hb := wc_b (ws_c hw)
  have h := ws_ch hw k hk
  have := wm_v (ws_m hw) h.2.1 (show 2 < 8 by omega)
  refine ⟨?_, ?_, ?_, this⟩ <;> unfold bI' <;> omega
theorem shR_ag (hw : wf_s s) {n : Nat} (hn : n ≤ nch s) : agB s (shR s r n) := fun i hi => shR_o (fun k hk e => by
  have := bI_in hw (show k < nch s by omega)
  rw [e] at hi
  exact hi ⟨this.1, this.2.1, this.2.2.1⟩)
theorem ab_np (h : agB s c) : np c = np s := by unfold np; rw [h 0 (by omega)]
theorem ab_nm (h : agB s c) : nm c = nm s := by unfold nm; rw [h 1 (by omega)]
theorem ab_nch (h : agB s c) : nch c = nch s := by unfold nch; rw [h 4 (by omega)]
theorem ab_ntx (h : agB s c) : ntx c = ntx s := by unfold ntx; rw [h 3 (by omega)]
theorem ab_vM (h : agB s c) {m f : Nat} (hm : m < 20) (hf : f < 8) (h2 : f ≠ 2) : vM c m f = vM s m f := by unfold vM; rw [h _ (by omega)]
theorem ab_vP (h : agB s c) {p f : Nat} (hp : p < 8) (hf : f < 4) : vP c p f = vP s p f := by unfold vP; rw [h _ (by omega)]
theorem ab_vC (h : agB s c) {k : Nat} (hk : k < 6) : vC c k = vC s k := by unfold vC; rw [h _ (by omega)]
theorem ab_mDo (h : agB s c) {m : Nat} (hm : m < 20) : mDo c m ↔ mDo s m := by unfold mDo; rw [ab_vM h hm (by omega) (by omega), ab_vM h hm (by omega) (by omega)]
theorem ab_mGo (h : agB s c) {m : Nat} (hm : m < 20) : mGo c m ↔ mGo s m := by unfold mGo; rw [ab_vM h hm (by omega) (by omega), ab_vM h hm (by omega) (by omega)]
theorem ab_c (h : agB s c) (hw : wf_c s) : wf_c c := by
  obtain ⟨a0, a1, a2, a3, a4, a5, a6, a7, a9⟩ := hw
  refine ⟨?_, ?_, ?_, ?_, ?_, ?_, ?_, ?_, ?_⟩
  · unfold np; rw [h 0 (by omega)]; exact a0
  · unfold nm; rw [h 1 (by omega)]; exact a1
  · unfold nsg; rw [h 2 (by omega)]; exact a2
  · unfold ntx; rw [h 3 (by omega)]; exact a3
  · unfold nch; rw [h 4 (by omega)]; exact a4
  · unfold nwp; rw [h 5 (by omega)]; exact a5
  · unfold nsh; rw [h 6 (by omega)]; exact a6
  · unfold nlg; rw [h 7 (by omega)]; exact a7
  · unfold nwt; rw [h 9 (by omega)]; exact a9
theorem ab_p (h : agB s c) (hw : wf_s s) : wf_p c := fun p hp => by
  have hb := wc_b (ws_c hw)
  rw [ab_np h] at hp
  obtain ⟨h1, h2⟩ := ws_p hw p hp
  rw [ab_vP h (by omega) (by omega), ab_vP h (by omega) (by omega), ab_vP h (by omega) (by omega)]
  refine ⟨fun f hf => ?_, h2⟩
  rw [ab_vP h (by omega) (by omega), h _ (by omega)]
  exact h1 f hf
theorem ab_t (h : agB s c) (hw : wf_s s) : wf_texts c (ntx c) := fun t ht => by
  rw [ab_ntx h] at ht
  exact wf_text_ag (fun i hi => h i (by omega)) (ws_t hw t ht)
theorem ab_ch (h : agB s c) (hw : wf_s s) : wf_ch c := fun i hi => by
  have hb := wc_b (ws_c hw)
  rw [ab_nch h] at hi ⊢
  obtain ⟨g1, g2, g3⟩ := ws_ch hw i hi
  rw [ab_vC h (by omega), ab_nm h, h _ (by omega)]
  refine ⟨g1, g2, fun j hj hE => ?_⟩
  rw [ab_vC h (by omega)] at hE
  exact g3 j hj hE
theorem ab_m {B : Nat} (h : agB s c) (hw : wf_s s) (h2 : ∀ m, m < nm s → c (60 + 8 * m + 2) = nI (vM c m 2) ∧ vM c m 2 ≤ B) : wf_m B c := fun m hm => by
  have hb := wc_b (ws_c hw)
  rw [ab_nm h] at hm
  obtain ⟨h1, g⟩ := ws_m hw m hm
  rw [ab_np h, ab_vM (f := 0) h (by omega) (by omega) (by omega), ab_vM (f := 1) h (by omega) (by omega) (by omega), ab_vM (f := 3) h (by omega) (by omega) (by omega), ab_vM (f := 4) h (by omega) (by omega) (by omega), ab_vM (f := 5) h (by omega) (by omega) (by omega), ab_vM (f := 6) h (by omega) (by omega) (by omega), ab_vM (f := 7) h (by omega) (by omega) (by omega)]
  refine ⟨fun f hf => ?_, g.1, g.2.1, (h2 m hm).2, g.2.2.2⟩
  by_cases e : f = 2
  · rw [e]; exact (h2 m hm).1
  · rw [ab_vM h (by omega) hf e, h _ (by omega)]; exact h1 f hf
theorem rf_last_c {key : Int32} (h : ∀ i, 460 ≤ i → c i = s i) : ∀ n, rf_last c key n = rf_last s key n
  | 0 => rfl
  | n + 1 => by unfold rf_last; rw [h _ (by omega), rf_last_c h n]
theorem tx_val_c {t : Nat} {nm : Nat → Int32} (h : ∀ i, 460 ≤ i → c i = s i) : tx_val c t nm = tx_val s t nm := by
  have e1 : txw c t = txw s t := funext fun k => h _ (by omega)
  have e2 : txv c t = txv s t := funext fun k => h _ (by omega)
  have e3 : txn c t = txn s t := by unfold txn; rw [h _ (by omega)]
  unfold tx_val
  rw [e1, e2, e3]
theorem ab_late (h : agB s c) {p : Nat} (hp : p < 8) : sLate c p = sLate s p := by
  have hx : ∀ i, 460 ≤ i → c i = s i := fun i hi => h i (by omega)
  unfold sLate rf_late rf_law
  rw [ab_ntx h, rf_last_c hx, tx_val_c hx, h _ (by omega), h _ (by omega), h 9 (by omega)]
theorem ab_lateN (h : agB s c) {p : Nat} (hp : p < 8) : lateN c p = lateN s p := by unfold lateN; rw [ab_late h hp]
/-- beats of a shifted row -/
theorem shR_beat (hw : wf_s s) {n m : Nat} (hn : n ≤ nch s) (hr : ∀ k, k < n → r k ≤ 5) (hm : m < nm s) : shR s r n (60 + 8 * m + 2) = nI (vM (shR s r n) m 2) ∧ vM (shR s r n) m 2 ≤ 95 ∧ (∀ k, k < n → vC s k = m → vM (shR s r n) m 2 = vM s m 2 + r k) ∧ ((∀ k, k < n → vC s k ≠ m) → vM (shR s r n) m 2 = vM s m 2) := by
  have hb := wc_b (ws_c hw)
  have hmb := wm_b (ws_m hw) hm
  have hd : ∀ i j, i < n → j < n → vC s i = vC s j → i = j := fun i j hi hj e => (ws_ch hw i (by omega)).2.2 j (by omega) e
  by_cases h : ∃ k, k < n ∧ vC s k = m
  · obtain ⟨k, h1, h2⟩ := h
    have e := shR_at (r := r) hd h1
    have hrk := hr k h1
    unfold bI' at e
    rw [h2] at e
    have ev : vM (shR s r n) m 2 = vM s m 2 + r k := by show (shR s r n (60 + 8 * m + 2)).toNatClampNeg = _; rw [e, nI_clamp (by omega)]
    refine ⟨by rw [ev]; exact e, by rw [ev]; omega, fun j hj hE => ?_, fun q => absurd h2 (q k h1)⟩
    rw [hd j k hj h1 (hE.trans h2.symm)]
    exact ev
  · have e : shR s r n (60 + 8 * m + 2) = s (60 + 8 * m + 2) := shR_o (fun k hk q => h ⟨k, hk, by unfold bI' at q; omega⟩)
    have ev : vM (shR s r n) m 2 = vM s m 2 := by unfold vM; rw [e]
    refine ⟨by rw [e, ev]; exact wm_v (ws_m hw) hm (by omega), by omega, fun k hk hE => absurd ⟨k, hk, hE⟩ h, fun _ => ev⟩
theorem shR_m95 (hw : wf_s s) {n : Nat} (hn : n ≤ nch s) (hr : ∀ k, k < n → r k ≤ 5) : wf_m 95 (shR s r n) := ab_m (shR_ag hw hn) hw (fun m hm => by
  obtain ⟨h1, h2, -, -⟩ := shR_beat hw hn hr hm
  exact ⟨h1, h2⟩)
theorem shR_m90 (hw : wf_s s) {n : Nat} (hn : n ≤ nch s) (hr : ∀ k, k < n → r k ≤ 5) (h90 : ∀ k, k < n → vM s (vC s k) 2 + r k ≤ 90) : wf_m 90 (shR s r n) := ab_m (shR_ag hw hn) hw (fun m hm => by
  obtain ⟨h1, h2, h3, h4⟩ := shR_beat hw hn hr hm
  refine ⟨h1, ?_⟩
  by_cases h : ∃ k, k < n ∧ vC s k = m
  · obtain ⟨k, q1, q2⟩ := h
    rw [h3 k q1 q2, ← q2]; exact h90 k q1
  · rw [h4 (fun k hk q => h ⟨k, hk, q⟩)]; have := wm_b (ws_m hw) hm; omega)
/-- all is well with these shifts -/
def shOK (s : Nat → Int32) (r : Nat → Nat) : Prop := (∀ k, k < nK s → vM s (vC s k) 2 + r k ≤ 90) ∧ wf_a (shR s r (nK s)) ∧ ¬ fBr (shR s r (nK s)) (lateN s) < nm s
def tri (f u t : Nat) : Nat → Nat := fun k => if k = 0 then f else if k = 1 then u else t
def vd (n f u t : Nat) : Prop := f ≤ 5 ∧ u ≤ 5 ∧ t ≤ 5 ∧ (n < 3 → t = 0) ∧ (n < 2 → u = 0) ∧ (n < 1 → f = 0)
def good (s : Nat → Int32) (f u t : Nat) : Prop := vd (nK s) f u t ∧ shOK s (tri f u t)
/-- the least shift -/
def mini (s : Nat → Int32) (f u t : Nat) : Prop := good s f u t ∧ ∀ f' u' t', good s f' u' t' → f + u + t < f' + u' + t' ∨ (f + u + t = f' + u' + t' ∧ (f < f' ∨ (f = f' ∧ u ≤ u')))
theorem mini_one {f u t f' u' t' : Nat} (h : mini s f u t) (h' : mini s f' u' t') : f = f' ∧ u = u' ∧ t = t' := by
  have h1 := h.2 _ _ _ h'.1
  have h2 := h'.2 _ _ _ h.1
  omega
theorem tri_le {f u t k : Nat} (h : vd (nK s) f u t) : tri f u t k ≤ 5 := by
  unfold tri
  have h1 := h.1
  have h2 := h.2.1
  have h3 := h.2.2.1
  split
  · exact h1
  · split <;> omega
end Sh
