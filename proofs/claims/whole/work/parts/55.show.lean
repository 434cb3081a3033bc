/-! MATH: shows -/
theorem upd_upd (s : Nat → Int32) (k : Nat) (a b : Int32) : upd (upd s k a) k b = upd s k b := by
  funext j
  unfold upd
  split <;> rfl
theorem upd_same {s : Nat → Int32} {k : Nat} {a : Int32} (h : s k = a) : upd s k a = s := by
  funext j
  unfold upd
  split
  · rename_i e; rw [e]; exact h.symm
  · rfl
/-- a near miss is kept, if there is room -/
def lgA (s : Nat → Int32) (a m q : Int32) : Nat → Int32 := if nlg s < 30 then upd (upd (upd (upd s (360 + 3 * nlg s) a) (360 + 3 * nlg s + 1) m) (360 + 3 * nlg s + 2) q) 7 (nI (nlg s + 1)) else s
/-- the drawn number behind p draws -/
def zs (s : Nat → Int32) : Nat → Int32
  | 0 => s 8
  | p + 1 => zs s p * 1103515245 + 12345
def drI (s : Nat → Int32) (p : Nat) : Int32 := mu_ushr (zs s (p + 1)) 8 % (sLate s p + 1)
def drN (s : Nat → Int32) (p : Nat) : Nat := (drI s p).toNatClampNeg
theorem nI_bv (x : Int32) : nI x.toBitVec.toNat = x := by
  apply Int32.toBitVec_inj.mp
  show BitVec.ofNat 32 x.toBitVec.toNat = x.toBitVec
  exact BitVec.eq_of_toNat_eq (by rw [BitVec.toNat_ofNat]; exact Nat.mod_eq_of_lt x.toBitVec.isLt)
theorem drN_ok (s : Nat → Int32) (p : Nat) : drI s p = nI (drN s p) ∧ drN s p ≤ 3 := by
  have h : ∃ n : Nat, n ≤ 3 ∧ drI s p = nI n := by
    unfold drI
    obtain ⟨e, h3⟩ := lateN_ok s p
    have hx : ∀ x : Int32, mu_ushr x 8 = nI (x.toBitVec.toNat / 2 ^ 8) := fun x => by
      unfold mu_ushr
      have h0 := pk_ushrN (n := x.toBitVec.toNat) x.toBitVec.isLt 8 8 (by decide)
      rw [nI_bv] at h0
      exact h0
    rw [hx, e, nI_1, rm_n (by have := (zs s (p + 1)).toBitVec.isLt; omega) (by omega)]
    refine ⟨_, ?_, rfl⟩
    have := Nat.mod_lt ((zs s (p + 1)).toBitVec.toNat / 2 ^ 8) (show lateN s p + 1 > 0 by omega)
    omega
  obtain ⟨n, h1, h2⟩ := h
  have : drN s p = n := by unfold drN; rw [h2, nI_clamp (by omega)]
  rw [this]
  exact ⟨h2, h1⟩
/-- q is missed by a hair, all being late by just l -/
def mss (s : Nat → Int32) (l : Nat → Nat) (m q : Nat) : Prop := q ≠ vM s m 0 ∧ gpV s m q ((vM s m 2 : Int) + ((l (vM s m 0) : Int) - l q)) (vM s m 3) < want s m q + kReach (vM s m 1)
noncomputable def msQ (s : Nat → Int32) (l : Nat → Nat) (c : Nat → Int32) (m : Nat) : Nat → (Nat → Int32) × Nat
  | 0 => (c, 0)
  | q + 1 => @ite _ (mss s l m q) (Classical.propDecidable _) (lgA (msQ s l c m q).1 (nI (nsh s)) (nI m) (nI q), (msQ s l c m q).2 + 1) (msQ s l c m q)
noncomputable def msM (s : Nat → Int32) (l : Nat → Nat) : Nat → (Nat → Int32) × Nat
  | 0 => (s, 0)
  | m + 1 => @ite _ (mDo s m) (Classical.propDecidable _) ((msQ s l (msM s l m).1 m (np s)).1, (msM s l m).2 + (msQ s l (msM s l m).1 m (np s)).2) (msM s l m)
def sTi (s : Nat → Int32) (p n : Nat) : Nat := sumN (fun m => if vM s m 0 = p ∧ vM s m 7 = 0 then kTires (vM s m 1) else 0) n
def sWe (s : Nat → Int32) (p n : Nat) : Nat := sumN (fun m => if vM s m 0 = p ∧ vM s m 7 = 0 then kWears (vM s m 1) else 0) n
/-- who holds a weapon; 8: nobody -/
def hl (s : Nat → Int32) (k : Nat) : Nat := if s (270 + 2 * k + 1) = -1 then 8 else (s (270 + 2 * k + 1)).toNatClampNeg
/-- the first p of them are tired, and their weapons worn, by n moves -/
def tC (s : Nat → Int32) (p n : Nat) : Nat → Int32 := fun i => if 20 ≤ i ∧ i < 20 + 4 * p ∧ i % 4 = 2 then nI (min 99 (vP s ((i - 20) / 4) 2 + sTi s ((i - 20) / 4) n)) else if 270 ≤ i ∧ i < 270 + 2 * nwp s ∧ i % 2 = 0 ∧ hl s ((i - 270) / 2) < p then nI (min 99 (vW s ((i - 270) / 2) + sWe s (hl s ((i - 270) / 2)) n)) else s i
/-- what a show makes of the row s, and its near misses -/
noncomputable def s1S (s : Nat → Int32) : Nat → Int32 := upd s 8 (zs s (np s))
noncomputable def shS (s : Nat → Int32) : Nat → Int32 := upd (tC (msM (s1S s) (drN s) (nm s)).1 (np s) (nm s)) 6 (nI (nsh s + 1))
noncomputable def shC (s : Nat → Int32) : Nat := (msM (s1S s) (drN s) (nm s)).2
/-- rows that differ only in what shows change: log and draws -/
def agL (s c : Nat → Int32) : Prop := ∀ i, i ≠ 7 → i ≠ 8 → ¬ (360 ≤ i ∧ i < 460) → c i = s i
/-- and also shows, tired ones, worn weapons -/
def agX (s c : Nat → Int32) : Prop := ∀ i, i ≠ 6 → i ≠ 7 → i ≠ 8 → ¬ (20 ≤ i ∧ i < 52 ∧ i % 4 = 2) → ¬ (270 ≤ i ∧ i < 282 ∧ i % 2 = 0) → ¬ (360 ≤ i ∧ i < 460) → c i = s i
section Ag
variable {s c c' : Nat → Int32}
theorem agL_X (h : agL s c) : agX s c := fun i _ h7 h8 _ _ h36 => h i h7 h8 h36
theorem agL_rf : agL s s := fun _ _ _ _ => rfl
theorem agL_tr (h : agL s c) (h2 : agL c c') : agL s c' := fun i h7 h8 h3 => (h2 i h7 h8 h3).trans (h i h7 h8 h3)
theorem agX_tr (h : agX s c) (h2 : agX c c') : agX s c' := fun i a b d e f k => (h2 i a b d e f k).trans (h i a b d e f k)
theorem agX_rf : agX s s := fun _ _ _ _ _ _ _ => rfl
theorem ax_np (h : agX s c) : np c = np s := by unfold np; rw [h 0 (by omega) (by omega) (by omega) (by omega) (by omega) (by omega)]
theorem ax_nm (h : agX s c) : nm c = nm s := by unfold nm; rw [h 1 (by omega) (by omega) (by omega) (by omega) (by omega) (by omega)]
theorem ax_nsg (h : agX s c) : nsg c = nsg s := by unfold nsg; rw [h 2 (by omega) (by omega) (by omega) (by omega) (by omega) (by omega)]
theorem ax_ntx (h : agX s c) : ntx c = ntx s := by unfold ntx; rw [h 3 (by omega) (by omega) (by omega) (by omega) (by omega) (by omega)]
theorem ax_nch (h : agX s c) : nch c = nch s := by unfold nch; rw [h 4 (by omega) (by omega) (by omega) (by omega) (by omega) (by omega)]
theorem ax_nwp (h : agX s c) : nwp c = nwp s := by unfold nwp; rw [h 5 (by omega) (by omega) (by omega) (by omega) (by omega) (by omega)]
theorem ax_nwt (h : agX s c) : nwt c = nwt s := by unfold nwt; rw [h 9 (by omega) (by omega) (by omega) (by omega) (by omega) (by omega)]
theorem ax_vM (h : agX s c) {m f : Nat} (hm : m < 20) (hf : f < 8) : vM c m f = vM s m f := by unfold vM; rw [h _ (by omega) (by omega) (by omega) (by omega) (by omega) (by omega)]
theorem ax_vP (h : agX s c) {p f : Nat} (hp : p < 8) (hf : f < 4) (h2 : f ≠ 2) : vP c p f = vP s p f := by unfold vP; rw [h _ (by omega) (by omega) (by omega) (by omega) (by omega) (by omega)]
theorem ax_mDo (h : agX s c) {m : Nat} (hm : m < 20) : mDo c m ↔ mDo s m := by unfold mDo; rw [ax_vM h hm (by omega), ax_vM h hm (by omega)]
theorem ax_mGo (h : agX s c) {m : Nat} (hm : m < 20) : mGo c m ↔ mGo s m := by unfold mGo; rw [ax_vM h hm (by omega), ax_vM h hm (by omega)]
theorem ax_PL (h : agX s c) (hn : nm s ≤ 20) {p : Nat} (hp : p < 8) (t : Nat) : PL c p t = PL s p t := by
  refine PL_c (ax_vP h hp (by omega) (by omega)) (ax_nm h) (fun m hm => ?_) t
  rw [ax_nm h] at hm
  refine ⟨?_, fun _ _ => ⟨ax_vM h (by omega) (by omega), ax_vM h (by omega) (by omega), ax_vM h (by omega) (by omega)⟩⟩
  rw [ax_mGo h (by omega), ax_vM h (by omega) (by omega)]
theorem ax_want (h : agX s c) {m q : Nat} (hm : m < 20) : want c m q = want s m q := by unfold want; rw [ax_vM h hm (by omega), ax_vM h hm (by omega)]
theorem ax_gpV (h : agX s c) (hn : nm s ≤ 20) {m q : Nat} {lo : Int} {n : Nat} (hm : m < 20) (hw : vM s m 0 < 8) (hq : q < 8) : gpV c m q lo n = gpV s m q lo n := by
  unfold gpV
  rw [ax_vM h hm (by omega), ax_vM h hm (by omega)]
  exact mnF_c (fun i _ => by rw [ax_PL h hn hw, ax_PL h hn hq])
theorem wf_text_ag {t : Nat} (h : ∀ i, 460 ≤ i → c i = s i) (hw : wf_text s t) : wf_text c t := by
  have e1 : txw c t = txw s t := funext fun k => h _ (by omega)
  have e2 : txv c t = txv s t := funext fun k => h _ (by omega)
  have e3 : txn c t = txn s t := by unfold txn; rw [h _ (by omega)]
  have e4 : txl c t = txl s t := by unfold txl; rw [h _ (by omega)]
  unfold wf_text
  rw [e1, e2, e3, e4, h _ (by omega), h _ (by omega), h _ (by omega)]
  exact hw
theorem al_c (h : agL s c) (hw : wf_s s) (h7 : c 7 = nI (nlg c)) (h30 : nlg c ≤ 30) : wf_c c := by
  have hx := agL_X h
  obtain ⟨a0, a1, a2, a3, a4, a5, a6, a7, a9⟩ := ws_c hw
  refine ⟨?_, ?_, ?_, ?_, ?_, ?_, ?_, ⟨h7, h30⟩, ?_⟩
  · rw [ax_np hx, h 0 (by omega) (by omega) (by omega)]; exact a0
  · rw [ax_nm hx, h 1 (by omega) (by omega) (by omega)]; exact a1
  · rw [ax_nsg hx, h 2 (by omega) (by omega) (by omega)]; exact a2
  · rw [ax_ntx hx, h 3 (by omega) (by omega) (by omega)]; exact a3
  · rw [ax_nch hx, h 4 (by omega) (by omega) (by omega)]; exact a4
  · rw [ax_nwp hx, h 5 (by omega) (by omega) (by omega)]; exact a5
  · unfold nsh; rw [h 6 (by omega) (by omega) (by omega)]; exact a6
  · rw [ax_nwt hx, h 9 (by omega) (by omega) (by omega)]; exact a9
theorem al_vP (h : agL s c) {p f : Nat} (hp : p < 8) (hf : f < 4) : vP c p f = vP s p f := by unfold vP; rw [h _ (by omega) (by omega) (by omega)]
theorem al_p (h : agL s c) (hw : wf_s s) : wf_p c := fun p hp => by
  have hb := wc_b (ws_c hw)
  rw [ax_np (agL_X h)] at hp
  obtain ⟨h1, h2⟩ := ws_p hw p hp
  rw [al_vP h (by omega) (by omega), al_vP h (by omega) (by omega), al_vP h (by omega) (by omega)]
  refine ⟨fun f hf => ?_, h2⟩
  rw [al_vP h (by omega) (by omega), h _ (by omega) (by omega) (by omega)]
  exact h1 f hf
theorem ax_m (h : agX s c) (hw : wf_s s) : wf_m 90 c := fun m hm => by
  have hb := wc_b (ws_c hw)
  rw [ax_nm h] at hm
  obtain ⟨h1, h2⟩ := ws_m hw m hm
  rw [ax_np h, ax_vM h (by omega) (by omega), ax_vM h (by omega) (by omega), ax_vM h (by omega) (by omega), ax_vM h (by omega) (by omega), ax_vM h (by omega) (by omega), ax_vM h (by omega) (by omega), ax_vM h (by omega) (by omega), ax_vM h (by omega) (by omega)]
  refine ⟨fun f hf => ?_, h2⟩
  rw [ax_vM h (by omega) hf, h _ (by omega) (by omega) (by omega) (by omega) (by omega) (by omega)]
  exact h1 f hf
theorem ax_a (h : agX s c) (hw : wf_s s) : wf_a c := fun a b ha hb hne he => by
  have hbb := wc_b (ws_c hw)
  rw [ax_nm h] at ha hb
  rw [ax_vM h (by omega) (by omega), ax_vM h (by omega) (by omega)] at he
  rw [ax_vM h (by omega) (by omega), ax_vM h (by omega) (by omega), ax_vM h (by omega) (by omega), ax_vM h (by omega) (by omega)]
  exact ws_a hw a b ha hb hne he
theorem ax_t (h : agX s c) (hw : wf_s s) : wf_texts c (ntx c) := fun t ht => by
  rw [ax_ntx h] at ht
  exact wf_text_ag (fun i hi => h i (by omega) (by omega) (by omega) (by omega) (by omega) (by omega)) (ws_t hw t ht)
/-- a log that is one -/
def okL (s c : Nat → Int32) : Prop := agL s c ∧ c 7 = nI (nlg c) ∧ nlg c ≤ 30 ∧ ∀ i, i < nlg c → (∀ f, f < 3 → c (360 + 3 * i + f) = nI (vL c i f)) ∧ vL c i 1 < nm s
theorem okL_rf (hw : wf_s s) : okL s s := ⟨agL_rf, wc_7 (ws_c hw), (wc_b (ws_c hw)).2.2.2.2.2.2.2.1, ws_l hw⟩
theorem okL_add {a m q : Nat} (h : okL s c) (ha : a < 2 ^ 31) (hm : m < 2 ^ 31) (hm2 : m < nm s) (hq : q < 2 ^ 31) : okL s (lgA c (nI a) (nI m) (nI q)) := by
  unfold lgA
  by_cases h30 : nlg c < 30
  · rw [if_pos h30]
    obtain ⟨h1, h2, h3, h4⟩ := h
    have e : nlg (upd (upd (upd (upd c (360 + 3 * nlg c) (nI a)) (360 + 3 * nlg c + 1) (nI m)) (360 + 3 * nlg c + 2) (nI q)) 7 (nI (nlg c + 1))) = nlg c + 1 := by
      show (upd _ 7 _ 7).toNatClampNeg = _
      rw [pk_us, nI_clamp (by omega)]
    refine ⟨fun i i7 i8 i36 => ?_, by rw [e, pk_us], by rw [e]; omega, fun i hi => ?_⟩
    · rw [pk_un (by omega), pk_un (by omega), pk_un (by omega), pk_un (by omega)]; exact h1 i i7 i8 i36
    · rw [e] at hi
      by_cases q1 : i = nlg c
      · subst q1
        have v0 : ∀ f, f < 3 → (upd (upd (upd (upd c (360 + 3 * nlg c) (nI a)) (360 + 3 * nlg c + 1) (nI m)) (360 + 3 * nlg c + 2) (nI q)) 7 (nI (nlg c + 1))) (360 + 3 * nlg c + f) = nI (if f = 0 then a else if f = 1 then m else q) := fun f hf => by
          rcases (show f = 0 ∨ f = 1 ∨ f = 2 by omega) with rfl | rfl | rfl
          · rw [pk_un (by omega), pk_un (by omega), pk_un (by omega)]; exact pk_us
          · rw [pk_un (by omega), pk_un (by omega), pk_us]; rfl
          · rw [pk_un (by omega), pk_us]; rfl
        refine ⟨fun f hf => ?_, ?_⟩
        · unfold vL
          rw [v0 f hf, nI_clamp]
          split
          · exact ha
          · split
            · exact hm
            · exact hq
        · unfold vL
          rw [v0 1 (by omega), nI_clamp (by simp; exact hm)]
          simpa using hm2
      · have v1 : ∀ f, f < 3 → (upd (upd (upd (upd c (360 + 3 * nlg c) (nI a)) (360 + 3 * nlg c + 1) (nI m)) (360 + 3 * nlg c + 2) (nI q)) 7 (nI (nlg c + 1))) (360 + 3 * i + f) = c (360 + 3 * i + f) := fun f hf => by
          rw [pk_un (by omega), pk_un (by omega), pk_un (by omega), pk_un (by omega)]
        obtain ⟨k1, k2⟩ := h4 i (by omega)
        refine ⟨fun f hf => ?_, ?_⟩
        · unfold vL
          rw [v1 f hf]
          exact k1 f hf
        · unfold vL
          rw [v1 1 (by omega)]
          exact k2
  · rw [if_neg h30]; exact h
theorem okL_Q {l : Nat → Nat} {m : Nat} (hw : wf_s s) (hm : m < nm s) (h : okL s c) : ∀ q, q ≤ np s → okL s (msQ s l c m q).1 := by
  have hb := wc_b (ws_c hw)
  intro q
  induction q with
  | zero => intro _; exact h
  | succ q ih =>
    intro hq
    unfold msQ
    split
    · exact okL_add (ih (by omega)) (by omega) (by omega) hm (by omega)
    · exact ih (by omega)
theorem okL_M {l : Nat → Nat} (hw : wf_s s) : ∀ m, m ≤ nm s → okL s (msM s l m).1 := by
  intro m
  induction m with
  | zero => intro _; exact okL_rf hw
  | succ m ih =>
    intro hm
    unfold msM
    split
    · exact okL_Q hw (by omega) (ih (by omega)) _ (Nat.le_refl _)
    · exact ih (by omega)
end Ag
