/-! what a scene holds, and writes -/
section Up
variable {w : mu_O} {b E : Nat} {g : mu_H} {s : Nat → Int32} {v : Int32} {K : Nat}
theorem np_u (h : 0 ≠ K) : np (upd s K v) = np s := by unfold np; rw [pk_un h]
theorem nm_u (h : 1 ≠ K) : nm (upd s K v) = nm s := by unfold nm; rw [pk_un h]
theorem nsg_u (h : 2 ≠ K) : nsg (upd s K v) = nsg s := by unfold nsg; rw [pk_un h]
theorem ntx_u (h : 3 ≠ K) : ntx (upd s K v) = ntx s := by unfold ntx; rw [pk_un h]
theorem nch_u (h : 4 ≠ K) : nch (upd s K v) = nch s := by unfold nch; rw [pk_un h]
theorem nwp_u (h : 5 ≠ K) : nwp (upd s K v) = nwp s := by unfold nwp; rw [pk_un h]
theorem nsh_u (h : 6 ≠ K) : nsh (upd s K v) = nsh s := by unfold nsh; rw [pk_un h]
theorem nlg_u (h : 7 ≠ K) : nlg (upd s K v) = nlg s := by unfold nlg; rw [pk_un h]
theorem nwt_u (h : 9 ≠ K) : nwt (upd s K v) = nwt s := by unfold nwt; rw [pk_un h]
theorem vP_u {p f : Nat} (h : 20 + 4 * p + f ≠ K) : vP (upd s K v) p f = vP s p f := by unfold vP; rw [pk_un h]
theorem vM_u {p f : Nat} (h : 60 + 8 * p + f ≠ K) : vM (upd s K v) p f = vM s p f := by unfold vM; rw [pk_un h]
theorem vG_u {p f : Nat} (h : 220 + 2 * p + f ≠ K) : vG (upd s K v) p f = vG s p f := by unfold vG; rw [pk_un h]
theorem vC_u {p : Nat} (h : 260 + p ≠ K) : vC (upd s K v) p = vC s p := by unfold vC; rw [pk_un h]
theorem vW_u {p : Nat} (h : 270 + 2 * p ≠ K) : vW (upd s K v) p = vW s p := by unfold vW; rw [pk_un h]
theorem vH_u {p : Nat} (h : 290 + p ≠ K) : vH (upd s K v) p = vH s p := by unfold vH; rw [pk_un h]
theorem vL_u {p f : Nat} (h : 360 + 3 * p + f ≠ K) : vL (upd s K v) p f = vL s p f := by unfold vL; rw [pk_un h]
theorem txn_u {t : Nat} (h : K < 460) : txn (upd s K v) t = txn s t := by unfold txn; rw [pk_un (by omega)]
theorem txl_u {t : Nat} (h : K < 460) : txl (upd s K v) t = txl s t := by unfold txl; rw [pk_un (by omega)]
theorem tx_enc_u {t i : Nat} (h : K < 460) : tx_enc (upd s K v) t i = tx_enc s t i := by unfold tx_enc txw txv; rw [pk_un (by omega), pk_un (by omega), pk_un (by omega)]
/-- a text below other writes -/
theorem tx_R_u {a t : Nat} (h : K < 460) (hx : tx_R w E g a s t) : tx_R w E g a (upd s K v) t := by
  obtain ⟨a1, a2, a3, a4, a5, a6, a7, a8, a9, a10, a11, a12⟩ := hx
  refine ⟨a1, a2, by rw [pk_un (by omega)]; exact a3, by rw [pk_un (by omega)]; exact a4, a5, a6, by rw [txn_u h]; exact a7, fun i hi => ?_, a9, a10, a11, by rw [txl_u h]; exact a12⟩
  rw [txn_u h] at hi
  rw [tx_enc_u h]
  exact a8 i hi
theorem tx_R_g {a t A k : Nat} (hA : A < E) (hx : tx_R w E g a s t) : tx_R w E (mu_sI g A k v) a s t := by
  obtain ⟨a1, a2, a3, a4, a5, a6, a7, a8, a9, a10, a11, a12⟩ := hx
  refine ⟨a1, a2, ?_, ?_, a5, a6, a7, fun i hi => ?_, a9, a10, a11, a12⟩
  · rw [I_sI_a _ _ _ _ (by have := a2.2.2.1; omega)]; exact a3
  · rw [I_sI_a _ _ _ _ (by have := a2.2.2.1; omega)]; exact a4
  · rw [I_sI_a _ _ _ _ (by have := a2.2.2.2; show mu_R g a 2 ≠ A; omega)]; exact a8 i hi
/-- the texts' part, above writes elsewhere -/
theorem sv_txt (hV : sc_V w E b s g) {A k : Nat} (hK : K < 460) (hA : A < E) (h3 : 3 ≠ K) : ∀ t, t < ntx (upd s K v) → tx_R w E (mu_sI g A k v) (mu_R (mu_sI g A k v) (b + 5) t) (upd s K v) t := fun t ht => by
  rw [ntx_u h3] at ht
  exact tx_R_u hK (tx_R_g hA (sv_t hV ht))
theorem sv_txu (hV : sc_V w E b s g) (hK : K < 460) (h3 : 3 ≠ K) : ∀ t, t < ntx (upd s K v) → tx_R w E g (mu_R g (b + 5) t) (upd s K v) t := fun t ht => by
  rw [ntx_u h3] at ht
  exact tx_R_u hK (sv_t hV ht)
theorem sv_txg (hV : sc_V w E b s g) {A k : Nat} (hA : A < E) : ∀ t, t < ntx s → tx_R w E (mu_sI g A k v) (mu_R (mu_sI g A k v) (b + 5) t) s t := fun t ht => tx_R_g hA (sv_t hV ht)
theorem su_P (hV : sc_V w E b s g) (hc : wf_c s) {p f : Nat} (hp : p < np s) (hf : f < 3) : sc_V w E b (upd s (20 + 4 * p + f) v) (mu_sI g (b + 13 + p) (f) v) := by
  have hE := sv_E hV
  have hb := wc_b hc
  obtain ⟨h0, ⟨c0, c1, c2, c3, c4, c5, c9, c6, c8, c7⟩, h2, h3, h4, h5, h6, h7, h8, h9⟩ := id hV
  have G : ∀ x z, (x ≠ b + 13 + p ∨ z ≠ f) → mu_I (mu_sI g (b + 13 + p) (f) v) x z = mu_I g x z := fun x z h => if_neg (fun q => by obtain ⟨q1, q2⟩ := q; rcases h with h | h; exact h q1; exact h q2)
  have U : ∀ j, j ≠ 20 + 4 * p + f → (upd s (20 + 4 * p + f) v) j = s j := fun j h => pk_un h
  refine ⟨h0, ⟨?_, ?_, ?_, ?_, ?_, ?_, ?_, ?_, ?_, ?_⟩, ?_, ?_, ?_, ?_, ?_, ?_, ?_, ?_⟩
  · exact by rw [G _ _ (by omega), U _ (by omega)]; exact c0
  · exact by rw [G _ _ (by omega), U _ (by omega)]; exact c1
  · exact by rw [G _ _ (by omega), U _ (by omega)]; exact c2
  · exact by rw [G _ _ (by omega), U _ (by omega)]; exact c3
  · exact by rw [G _ _ (by omega), U _ (by omega)]; exact c4
  · exact by rw [G _ _ (by omega), U _ (by omega)]; exact c5
  · exact by rw [G _ _ (by omega), U _ (by omega)]; exact c9
  · exact by rw [G _ _ (by omega), U _ (by omega)]; exact c6
  · exact by rw [G _ _ (by omega), U _ (by omega)]; exact c8
  · exact by rw [G _ _ (by omega), U _ (by omega)]; exact c7
  · intro p' f' hp' hf'
    rw [np_u (by omega)] at hp'
    by_cases e : p' = p ∧ f' = f
    · obtain ⟨rfl, rfl⟩ := e; rw [I_sI_same, pk_us]
    · rw [G _ _ (by omega), U _ (by omega)]; exact h2 p' f' hp' hf'
  · intro m' f' hm' hf'
    rw [nm_u (by omega)] at hm'
    exact by rw [G _ _ (by omega), U _ (by omega)]; exact h3 m' f' hm' hf'
  · intro i' hi'
    rw [nsg_u (by omega)] at hi'
    exact ⟨by rw [G _ _ (by omega), U _ (by omega)]; exact (h4 i' hi').1, by rw [G _ _ (by omega), U _ (by omega)]; exact (h4 i' hi').2⟩
  · intro t ht
    rw [ntx_u (by omega)] at ht
    exact tx_R_u (by omega) (tx_R_g (by omega) (sv_t hV ht))
  · intro i' hi'
    exact by rw [G _ _ (by omega), U _ (by omega)]; exact h6 i' hi'
  · intro i' hi'
    rw [nch_u (by omega)] at hi'
    exact by rw [G _ _ (by omega), U _ (by omega)]; exact h7 i' hi'
  · intro i' hi'
    rw [nwp_u (by omega)] at hi'
    exact ⟨by rw [G _ _ (by omega), U _ (by omega)]; exact (h8 i' hi').1, by rw [G _ _ (by omega), U _ (by omega)]; exact (h8 i' hi').2⟩
  · intro i' f' hi' hf'
    rw [nlg_u (by omega)] at hi'
    exact by rw [G _ _ (by omega), U _ (by omega)]; exact h9 i' f' hi' hf'
theorem su_P3 (hV : sc_V w E b s g) (hc : wf_c s) {p : Nat} (hp : p < 8) : sc_V w E b (upd s (20 + 4 * p + 3) v) g := by
  have hE := sv_E hV
  have hb := wc_b hc
  obtain ⟨h0, ⟨c0, c1, c2, c3, c4, c5, c9, c6, c8, c7⟩, h2, h3, h4, h5, h6, h7, h8, h9⟩ := id hV
  have U : ∀ j, j ≠ 20 + 4 * p + 3 → (upd s (20 + 4 * p + 3) v) j = s j := fun j h => pk_un h
  refine ⟨h0, ⟨?_, ?_, ?_, ?_, ?_, ?_, ?_, ?_, ?_, ?_⟩, ?_, ?_, ?_, ?_, ?_, ?_, ?_, ?_⟩
  · exact by rw [U _ (by omega)]; exact c0
  · exact by rw [U _ (by omega)]; exact c1
  · exact by rw [U _ (by omega)]; exact c2
  · exact by rw [U _ (by omega)]; exact c3
  · exact by rw [U _ (by omega)]; exact c4
  · exact by rw [U _ (by omega)]; exact c5
  · exact by rw [U _ (by omega)]; exact c9
  · exact by rw [U _ (by omega)]; exact c6
  · exact by rw [U _ (by omega)]; exact c8
  · exact by rw [U _ (by omega)]; exact c7
  · intro p' f' hp' hf'
    rw [np_u (by omega)] at hp'
    exact by rw [U _ (by omega)]; exact h2 p' f' hp' hf'
  · intro m' f' hm' hf'
    rw [nm_u (by omega)] at hm'
    exact by rw [U _ (by omega)]; exact h3 m' f' hm' hf'
  · intro i' hi'
    rw [nsg_u (by omega)] at hi'
    exact ⟨by rw [U _ (by omega)]; exact (h4 i' hi').1, by rw [U _ (by omega)]; exact (h4 i' hi').2⟩
  · intro t ht
    rw [ntx_u (by omega)] at ht
    exact tx_R_u (by omega) (sv_t hV ht)
  · intro i' hi'
    exact by rw [U _ (by omega)]; exact h6 i' hi'
  · intro i' hi'
    rw [nch_u (by omega)] at hi'
    exact by rw [U _ (by omega)]; exact h7 i' hi'
  · intro i' hi'
    rw [nwp_u (by omega)] at hi'
    exact ⟨by rw [U _ (by omega)]; exact (h8 i' hi').1, by rw [U _ (by omega)]; exact (h8 i' hi').2⟩
  · intro i' f' hi' hf'
    rw [nlg_u (by omega)] at hi'
    exact by rw [U _ (by omega)]; exact h9 i' f' hi' hf'
theorem su_M (hV : sc_V w E b s g) (hc : wf_c s) {m f : Nat} (hm : m < nm s) (hf : f < 8) : sc_V w E b (upd s (60 + 8 * m + f) v) (mu_sI g (b + 21 + m) (f) v) := by
  have hE := sv_E hV
  have hb := wc_b hc
  obtain ⟨h0, ⟨c0, c1, c2, c3, c4, c5, c9, c6, c8, c7⟩, h2, h3, h4, h5, h6, h7, h8, h9⟩ := id hV
  have G : ∀ x z, (x ≠ b + 21 + m ∨ z ≠ f) → mu_I (mu_sI g (b + 21 + m) (f) v) x z = mu_I g x z := fun x z h => if_neg (fun q => by obtain ⟨q1, q2⟩ := q; rcases h with h | h; exact h q1; exact h q2)
  have U : ∀ j, j ≠ 60 + 8 * m + f → (upd s (60 + 8 * m + f) v) j = s j := fun j h => pk_un h
  refine ⟨h0, ⟨?_, ?_, ?_, ?_, ?_, ?_, ?_, ?_, ?_, ?_⟩, ?_, ?_, ?_, ?_, ?_, ?_, ?_, ?_⟩
  · exact by rw [G _ _ (by omega), U _ (by omega)]; exact c0
  · exact by rw [G _ _ (by omega), U _ (by omega)]; exact c1
  · exact by rw [G _ _ (by omega), U _ (by omega)]; exact c2
  · exact by rw [G _ _ (by omega), U _ (by omega)]; exact c3
  · exact by rw [G _ _ (by omega), U _ (by omega)]; exact c4
  · exact by rw [G _ _ (by omega), U _ (by omega)]; exact c5
  · exact by rw [G _ _ (by omega), U _ (by omega)]; exact c9
  · exact by rw [G _ _ (by omega), U _ (by omega)]; exact c6
  · exact by rw [G _ _ (by omega), U _ (by omega)]; exact c8
  · exact by rw [G _ _ (by omega), U _ (by omega)]; exact c7
  · intro p' f' hp' hf'
    rw [np_u (by omega)] at hp'
    exact by rw [G _ _ (by omega), U _ (by omega)]; exact h2 p' f' hp' hf'
  · intro m' f' hm' hf'
    rw [nm_u (by omega)] at hm'
    by_cases e : m' = m ∧ f' = f
    · obtain ⟨rfl, rfl⟩ := e; rw [I_sI_same, pk_us]
    · rw [G _ _ (by omega), U _ (by omega)]; exact h3 m' f' hm' hf'
  · intro i' hi'
    rw [nsg_u (by omega)] at hi'
    exact ⟨by rw [G _ _ (by omega), U _ (by omega)]; exact (h4 i' hi').1, by rw [G _ _ (by omega), U _ (by omega)]; exact (h4 i' hi').2⟩
  · intro t ht
    rw [ntx_u (by omega)] at ht
    exact tx_R_u (by omega) (tx_R_g (by omega) (sv_t hV ht))
  · intro i' hi'
    exact by rw [G _ _ (by omega), U _ (by omega)]; exact h6 i' hi'
  · intro i' hi'
    rw [nch_u (by omega)] at hi'
    exact by rw [G _ _ (by omega), U _ (by omega)]; exact h7 i' hi'
  · intro i' hi'
    rw [nwp_u (by omega)] at hi'
    exact ⟨by rw [G _ _ (by omega), U _ (by omega)]; exact (h8 i' hi').1, by rw [G _ _ (by omega), U _ (by omega)]; exact (h8 i' hi').2⟩
  · intro i' f' hi' hf'
    rw [nlg_u (by omega)] at hi'
    exact by rw [G _ _ (by omega), U _ (by omega)]; exact h9 i' f' hi' hf'
theorem su_H (hV : sc_V w E b s g) (hc : wf_c s) {k : Nat} (hk : k < 64) : sc_V w E b (upd s (290 + k) v) (mu_sI g (b + 6) (k) v) := by
  have hE := sv_E hV
  have hb := wc_b hc
  obtain ⟨h0, ⟨c0, c1, c2, c3, c4, c5, c9, c6, c8, c7⟩, h2, h3, h4, h5, h6, h7, h8, h9⟩ := id hV
  have G : ∀ x z, (x ≠ b + 6 ∨ z ≠ k) → mu_I (mu_sI g (b + 6) (k) v) x z = mu_I g x z := fun x z h => if_neg (fun q => by obtain ⟨q1, q2⟩ := q; rcases h with h | h; exact h q1; exact h q2)
  have U : ∀ j, j ≠ 290 + k → (upd s (290 + k) v) j = s j := fun j h => pk_un h
  refine ⟨h0, ⟨?_, ?_, ?_, ?_, ?_, ?_, ?_, ?_, ?_, ?_⟩, ?_, ?_, ?_, ?_, ?_, ?_, ?_, ?_⟩
  · exact by rw [G _ _ (by omega), U _ (by omega)]; exact c0
  · exact by rw [G _ _ (by omega), U _ (by omega)]; exact c1
  · exact by rw [G _ _ (by omega), U _ (by omega)]; exact c2
  · exact by rw [G _ _ (by omega), U _ (by omega)]; exact c3
  · exact by rw [G _ _ (by omega), U _ (by omega)]; exact c4
  · exact by rw [G _ _ (by omega), U _ (by omega)]; exact c5
  · exact by rw [G _ _ (by omega), U _ (by omega)]; exact c9
  · exact by rw [G _ _ (by omega), U _ (by omega)]; exact c6
  · exact by rw [G _ _ (by omega), U _ (by omega)]; exact c8
  · exact by rw [G _ _ (by omega), U _ (by omega)]; exact c7
  · intro p' f' hp' hf'
    rw [np_u (by omega)] at hp'
    exact by rw [G _ _ (by omega), U _ (by omega)]; exact h2 p' f' hp' hf'
  · intro m' f' hm' hf'
    rw [nm_u (by omega)] at hm'
    exact by rw [G _ _ (by omega), U _ (by omega)]; exact h3 m' f' hm' hf'
  · intro i' hi'
    rw [nsg_u (by omega)] at hi'
    exact ⟨by rw [G _ _ (by omega), U _ (by omega)]; exact (h4 i' hi').1, by rw [G _ _ (by omega), U _ (by omega)]; exact (h4 i' hi').2⟩
  · intro t ht
    rw [ntx_u (by omega)] at ht
    exact tx_R_u (by omega) (tx_R_g (by omega) (sv_t hV ht))
  · intro i' hi'
    by_cases e : i' = k
    · subst e; rw [I_sI_same, pk_us]
    · rw [G _ _ (by omega), U _ (by omega)]; exact h6 i' hi'
  · intro i' hi'
    rw [nch_u (by omega)] at hi'
    exact by rw [G _ _ (by omega), U _ (by omega)]; exact h7 i' hi'
  · intro i' hi'
    rw [nwp_u (by omega)] at hi'
    exact ⟨by rw [G _ _ (by omega), U _ (by omega)]; exact (h8 i' hi').1, by rw [G _ _ (by omega), U _ (by omega)]; exact (h8 i' hi').2⟩
  · intro i' f' hi' hf'
    rw [nlg_u (by omega)] at hi'
    exact by rw [G _ _ (by omega), U _ (by omega)]; exact h9 i' f' hi' hf'
theorem su_W (hV : sc_V w E b s g) (hc : wf_c s) {k : Nat} (hk : k < nwp s) : sc_V w E b (upd s (270 + 2 * k) v) (mu_sI g (b + 8) (k) v) := by
  have hE := sv_E hV
  have hb := wc_b hc
  obtain ⟨h0, ⟨c0, c1, c2, c3, c4, c5, c9, c6, c8, c7⟩, h2, h3, h4, h5, h6, h7, h8, h9⟩ := id hV
  have G : ∀ x z, (x ≠ b + 8 ∨ z ≠ k) → mu_I (mu_sI g (b + 8) (k) v) x z = mu_I g x z := fun x z h => if_neg (fun q => by obtain ⟨q1, q2⟩ := q; rcases h with h | h; exact h q1; exact h q2)
  have U : ∀ j, j ≠ 270 + 2 * k → (upd s (270 + 2 * k) v) j = s j := fun j h => pk_un h
  refine ⟨h0, ⟨?_, ?_, ?_, ?_, ?_, ?_, ?_, ?_, ?_, ?_⟩, ?_, ?_, ?_, ?_, ?_, ?_, ?_, ?_⟩
  · exact by rw [G _ _ (by omega), U _ (by omega)]; exact c0
  · exact by rw [G _ _ (by omega), U _ (by omega)]; exact c1
  · exact by rw [G _ _ (by omega), U _ (by omega)]; exact c2
  · exact by rw [G _ _ (by omega), U _ (by omega)]; exact c3
  · exact by rw [G _ _ (by omega), U _ (by omega)]; exact c4
  · exact by rw [G _ _ (by omega), U _ (by omega)]; exact c5
  · exact by rw [G _ _ (by omega), U _ (by omega)]; exact c9
  · exact by rw [G _ _ (by omega), U _ (by omega)]; exact c6
  · exact by rw [G _ _ (by omega), U _ (by omega)]; exact c8
  · exact by rw [G _ _ (by omega), U _ (by omega)]; exact c7
  · intro p' f' hp' hf'
    rw [np_u (by omega)] at hp'
    exact by rw [G _ _ (by omega), U _ (by omega)]; exact h2 p' f' hp' hf'
  · intro m' f' hm' hf'
    rw [nm_u (by omega)] at hm'
    exact by rw [G _ _ (by omega), U _ (by omega)]; exact h3 m' f' hm' hf'
  · intro i' hi'
    rw [nsg_u (by omega)] at hi'
    exact ⟨by rw [G _ _ (by omega), U _ (by omega)]; exact (h4 i' hi').1, by rw [G _ _ (by omega), U _ (by omega)]; exact (h4 i' hi').2⟩
  · intro t ht
    rw [ntx_u (by omega)] at ht
    exact tx_R_u (by omega) (tx_R_g (by omega) (sv_t hV ht))
  · intro i' hi'
    exact by rw [G _ _ (by omega), U _ (by omega)]; exact h6 i' hi'
  · intro i' hi'
    rw [nch_u (by omega)] at hi'
    exact by rw [G _ _ (by omega), U _ (by omega)]; exact h7 i' hi'
  · intro i' hi'
    rw [nwp_u (by omega)] at hi'
    refine ⟨?_, by rw [G _ _ (by omega), U _ (by omega)]; exact (h8 i' hi').2⟩
    by_cases e : i' = k
    · subst e; rw [I_sI_same, pk_us]
    · rw [G _ _ (by omega), U _ (by omega)]; exact (h8 i' hi').1
  · intro i' f' hi' hf'
    rw [nlg_u (by omega)] at hi'
    exact by rw [G _ _ (by omega), U _ (by omega)]; exact h9 i' f' hi' hf'
theorem su_Wh (hV : sc_V w E b s g) (hc : wf_c s) {k : Nat} (hk : k < nwp s) : sc_V w E b (upd s (270 + 2 * k + 1) v) (mu_sI g (b + 9) (k) (nn v)) := by
  have hE := sv_E hV
  have hb := wc_b hc
  obtain ⟨h0, ⟨c0, c1, c2, c3, c4, c5, c9, c6, c8, c7⟩, h2, h3, h4, h5, h6, h7, h8, h9⟩ := id hV
  have G : ∀ x z, (x ≠ b + 9 ∨ z ≠ k) → mu_I (mu_sI g (b + 9) (k) (nn v)) x z = mu_I g x z := fun x z h => if_neg (fun q => by obtain ⟨q1, q2⟩ := q; rcases h with h | h; exact h q1; exact h q2)
  have U : ∀ j, j ≠ 270 + 2 * k + 1 → (upd s (270 + 2 * k + 1) v) j = s j := fun j h => pk_un h
  refine ⟨h0, ⟨?_, ?_, ?_, ?_, ?_, ?_, ?_, ?_, ?_, ?_⟩, ?_, ?_, ?_, ?_, ?_, ?_, ?_, ?_⟩
  · exact by rw [G _ _ (by omega), U _ (by omega)]; exact c0
  · exact by rw [G _ _ (by omega), U _ (by omega)]; exact c1
  · exact by rw [G _ _ (by omega), U _ (by omega)]; exact c2
  · exact by rw [G _ _ (by omega), U _ (by omega)]; exact c3
  · exact by rw [G _ _ (by omega), U _ (by omega)]; exact c4
  · exact by rw [G _ _ (by omega), U _ (by omega)]; exact c5
  · exact by rw [G _ _ (by omega), U _ (by omega)]; exact c9
  · exact by rw [G _ _ (by omega), U _ (by omega)]; exact c6
  · exact by rw [G _ _ (by omega), U _ (by omega)]; exact c8
  · exact by rw [G _ _ (by omega), U _ (by omega)]; exact c7
  · intro p' f' hp' hf'
    rw [np_u (by omega)] at hp'
    exact by rw [G _ _ (by omega), U _ (by omega)]; exact h2 p' f' hp' hf'
  · intro m' f' hm' hf'
    rw [nm_u (by omega)] at hm'
    exact by rw [G _ _ (by omega), U _ (by omega)]; exact h3 m' f' hm' hf'
  · intro i' hi'
    rw [nsg_u (by omega)] at hi'
    exact ⟨by rw [G _ _ (by omega), U _ (by omega)]; exact (h4 i' hi').1, by rw [G _ _ (by omega), U _ (by omega)]; exact (h4 i' hi').2⟩
  · intro t ht
    rw [ntx_u (by omega)] at ht
    exact tx_R_u (by omega) (tx_R_g (by omega) (sv_t hV ht))
  · intro i' hi'
    exact by rw [G _ _ (by omega), U _ (by omega)]; exact h6 i' hi'
  · intro i' hi'
    rw [nch_u (by omega)] at hi'
    exact by rw [G _ _ (by omega), U _ (by omega)]; exact h7 i' hi'
  · intro i' hi'
    rw [nwp_u (by omega)] at hi'
    refine ⟨by rw [G _ _ (by omega), U _ (by omega)]; exact (h8 i' hi').1, ?_⟩
    by_cases e : i' = k
    · subst e; rw [I_sI_same, pk_us]
    · rw [G _ _ (by omega), U _ (by omega)]; exact (h8 i' hi').2
  · intro i' f' hi' hf'
    rw [nlg_u (by omega)] at hi'
    exact by rw [G _ _ (by omega), U _ (by omega)]; exact h9 i' f' hi' hf'
theorem su_8 (hV : sc_V w E b s g) (hc : wf_c s)  : sc_V w E b (upd s (8) v) (mu_sI g (b) (18) v) := by
  have hE := sv_E hV
  have hb := wc_b hc
  obtain ⟨h0, ⟨c0, c1, c2, c3, c4, c5, c9, c6, c8, c7⟩, h2, h3, h4, h5, h6, h7, h8, h9⟩ := id hV
  have G : ∀ x z, (x ≠ b ∨ z ≠ 18) → mu_I (mu_sI g (b) (18) v) x z = mu_I g x z := fun x z h => if_neg (fun q => by obtain ⟨q1, q2⟩ := q; rcases h with h | h; exact h q1; exact h q2)
  have U : ∀ j, j ≠ 8 → (upd s (8) v) j = s j := fun j h => pk_un h
  refine ⟨h0, ⟨?_, ?_, ?_, ?_, ?_, ?_, ?_, ?_, ?_, ?_⟩, ?_, ?_, ?_, ?_, ?_, ?_, ?_, ?_⟩
  · exact by rw [G _ _ (by omega), U _ (by omega)]; exact c0
  · exact by rw [G _ _ (by omega), U _ (by omega)]; exact c1
  · exact by rw [G _ _ (by omega), U _ (by omega)]; exact c2
  · exact by rw [G _ _ (by omega), U _ (by omega)]; exact c3
  · exact by rw [G _ _ (by omega), U _ (by omega)]; exact c4
  · exact by rw [G _ _ (by omega), U _ (by omega)]; exact c5
  · exact by rw [G _ _ (by omega), U _ (by omega)]; exact c9
  · exact by rw [G _ _ (by omega), U _ (by omega)]; exact c6
  · exact by rw [I_sI_same, pk_us]
  · exact by rw [G _ _ (by omega), U _ (by omega)]; exact c7
  · intro p' f' hp' hf'
    rw [np_u (by omega)] at hp'
    exact by rw [G _ _ (by omega), U _ (by omega)]; exact h2 p' f' hp' hf'
  · intro m' f' hm' hf'
    rw [nm_u (by omega)] at hm'
    exact by rw [G _ _ (by omega), U _ (by omega)]; exact h3 m' f' hm' hf'
  · intro i' hi'
    rw [nsg_u (by omega)] at hi'
    exact ⟨by rw [G _ _ (by omega), U _ (by omega)]; exact (h4 i' hi').1, by rw [G _ _ (by omega), U _ (by omega)]; exact (h4 i' hi').2⟩
  · intro t ht
    rw [ntx_u (by omega)] at ht
    exact tx_R_u (by omega) (tx_R_g (by omega) (sv_t hV ht))
  · intro i' hi'
    exact by rw [G _ _ (by omega), U _ (by omega)]; exact h6 i' hi'
  · intro i' hi'
    rw [nch_u (by omega)] at hi'
    exact by rw [G _ _ (by omega), U _ (by omega)]; exact h7 i' hi'
  · intro i' hi'
    rw [nwp_u (by omega)] at hi'
    exact ⟨by rw [G _ _ (by omega), U _ (by omega)]; exact (h8 i' hi').1, by rw [G _ _ (by omega), U _ (by omega)]; exact (h8 i' hi').2⟩
  · intro i' f' hi' hf'
    rw [nlg_u (by omega)] at hi'
    exact by rw [G _ _ (by omega), U _ (by omega)]; exact h9 i' f' hi' hf'
theorem su_9 (hV : sc_V w E b s g) (hc : wf_c s)  : sc_V w E b (upd s (9) v) (mu_sI g (b) (16) v) := by
  have hE := sv_E hV
  have hb := wc_b hc
  obtain ⟨h0, ⟨c0, c1, c2, c3, c4, c5, c9, c6, c8, c7⟩, h2, h3, h4, h5, h6, h7, h8, h9⟩ := id hV
  have G : ∀ x z, (x ≠ b ∨ z ≠ 16) → mu_I (mu_sI g (b) (16) v) x z = mu_I g x z := fun x z h => if_neg (fun q => by obtain ⟨q1, q2⟩ := q; rcases h with h | h; exact h q1; exact h q2)
  have U : ∀ j, j ≠ 9 → (upd s (9) v) j = s j := fun j h => pk_un h
  refine ⟨h0, ⟨?_, ?_, ?_, ?_, ?_, ?_, ?_, ?_, ?_, ?_⟩, ?_, ?_, ?_, ?_, ?_, ?_, ?_, ?_⟩
  · exact by rw [G _ _ (by omega), U _ (by omega)]; exact c0
  · exact by rw [G _ _ (by omega), U _ (by omega)]; exact c1
  · exact by rw [G _ _ (by omega), U _ (by omega)]; exact c2
  · exact by rw [G _ _ (by omega), U _ (by omega)]; exact c3
  · exact by rw [G _ _ (by omega), U _ (by omega)]; exact c4
  · exact by rw [G _ _ (by omega), U _ (by omega)]; exact c5
  · exact by rw [I_sI_same, pk_us]
  · exact by rw [G _ _ (by omega), U _ (by omega)]; exact c6
  · exact by rw [G _ _ (by omega), U _ (by omega)]; exact c8
  · exact by rw [G _ _ (by omega), U _ (by omega)]; exact c7
  · intro p' f' hp' hf'
    rw [np_u (by omega)] at hp'
    exact by rw [G _ _ (by omega), U _ (by omega)]; exact h2 p' f' hp' hf'
  · intro m' f' hm' hf'
    rw [nm_u (by omega)] at hm'
    exact by rw [G _ _ (by omega), U _ (by omega)]; exact h3 m' f' hm' hf'
  · intro i' hi'
    rw [nsg_u (by omega)] at hi'
    exact ⟨by rw [G _ _ (by omega), U _ (by omega)]; exact (h4 i' hi').1, by rw [G _ _ (by omega), U _ (by omega)]; exact (h4 i' hi').2⟩
  · intro t ht
    rw [ntx_u (by omega)] at ht
    exact tx_R_u (by omega) (tx_R_g (by omega) (sv_t hV ht))
  · intro i' hi'
    exact by rw [G _ _ (by omega), U _ (by omega)]; exact h6 i' hi'
  · intro i' hi'
    rw [nch_u (by omega)] at hi'
    exact by rw [G _ _ (by omega), U _ (by omega)]; exact h7 i' hi'
  · intro i' hi'
    rw [nwp_u (by omega)] at hi'
    exact ⟨by rw [G _ _ (by omega), U _ (by omega)]; exact (h8 i' hi').1, by rw [G _ _ (by omega), U _ (by omega)]; exact (h8 i' hi').2⟩
  · intro i' f' hi' hf'
    rw [nlg_u (by omega)] at hi'
    exact by rw [G _ _ (by omega), U _ (by omega)]; exact h9 i' f' hi' hf'
theorem su_6 (hV : sc_V w E b s g) (hc : wf_c s)  : sc_V w E b (upd s (6) v) (mu_sI g (b) (17) v) := by
  have hE := sv_E hV
  have hb := wc_b hc
  obtain ⟨h0, ⟨c0, c1, c2, c3, c4, c5, c9, c6, c8, c7⟩, h2, h3, h4, h5, h6, h7, h8, h9⟩ := id hV
  have G : ∀ x z, (x ≠ b ∨ z ≠ 17) → mu_I (mu_sI g (b) (17) v) x z = mu_I g x z := fun x z h => if_neg (fun q => by obtain ⟨q1, q2⟩ := q; rcases h with h | h; exact h q1; exact h q2)
  have U : ∀ j, j ≠ 6 → (upd s (6) v) j = s j := fun j h => pk_un h
  refine ⟨h0, ⟨?_, ?_, ?_, ?_, ?_, ?_, ?_, ?_, ?_, ?_⟩, ?_, ?_, ?_, ?_, ?_, ?_, ?_, ?_⟩
  · exact by rw [G _ _ (by omega), U _ (by omega)]; exact c0
  · exact by rw [G _ _ (by omega), U _ (by omega)]; exact c1
  · exact by rw [G _ _ (by omega), U _ (by omega)]; exact c2
  · exact by rw [G _ _ (by omega), U _ (by omega)]; exact c3
  · exact by rw [G _ _ (by omega), U _ (by omega)]; exact c4
  · exact by rw [G _ _ (by omega), U _ (by omega)]; exact c5
  · exact by rw [G _ _ (by omega), U _ (by omega)]; exact c9
  · exact by rw [I_sI_same, pk_us]
  · exact by rw [G _ _ (by omega), U _ (by omega)]; exact c8
  · exact by rw [G _ _ (by omega), U _ (by omega)]; exact c7
  · intro p' f' hp' hf'
    rw [np_u (by omega)] at hp'
    exact by rw [G _ _ (by omega), U _ (by omega)]; exact h2 p' f' hp' hf'
  · intro m' f' hm' hf'
    rw [nm_u (by omega)] at hm'
    exact by rw [G _ _ (by omega), U _ (by omega)]; exact h3 m' f' hm' hf'
  · intro i' hi'
    rw [nsg_u (by omega)] at hi'
    exact ⟨by rw [G _ _ (by omega), U _ (by omega)]; exact (h4 i' hi').1, by rw [G _ _ (by omega), U _ (by omega)]; exact (h4 i' hi').2⟩
  · intro t ht
    rw [ntx_u (by omega)] at ht
    exact tx_R_u (by omega) (tx_R_g (by omega) (sv_t hV ht))
  · intro i' hi'
    exact by rw [G _ _ (by omega), U _ (by omega)]; exact h6 i' hi'
  · intro i' hi'
    rw [nch_u (by omega)] at hi'
    exact by rw [G _ _ (by omega), U _ (by omega)]; exact h7 i' hi'
  · intro i' hi'
    rw [nwp_u (by omega)] at hi'
    exact ⟨by rw [G _ _ (by omega), U _ (by omega)]; exact (h8 i' hi').1, by rw [G _ _ (by omega), U _ (by omega)]; exact (h8 i' hi').2⟩
  · intro i' f' hi' hf'
    rw [nlg_u (by omega)] at hi'
    exact by rw [G _ _ (by omega), U _ (by omega)]; exact h9 i' f' hi' hf'
theorem su_4 (hV : sc_V w E b s g) (hc : wf_c s) (h4v : v.toNatClampNeg ≤ nch s) : sc_V w E b (upd s (4) v) (mu_sI g (b) (14) v) := by
  have hE := sv_E hV
  have hb := wc_b hc
  obtain ⟨h0, ⟨c0, c1, c2, c3, c4, c5, c9, c6, c8, c7⟩, h2, h3, h4, h5, h6, h7, h8, h9⟩ := id hV
  have G : ∀ x z, (x ≠ b ∨ z ≠ 14) → mu_I (mu_sI g (b) (14) v) x z = mu_I g x z := fun x z h => if_neg (fun q => by obtain ⟨q1, q2⟩ := q; rcases h with h | h; exact h q1; exact h q2)
  have U : ∀ j, j ≠ 4 → (upd s (4) v) j = s j := fun j h => pk_un h
  refine ⟨h0, ⟨?_, ?_, ?_, ?_, ?_, ?_, ?_, ?_, ?_, ?_⟩, ?_, ?_, ?_, ?_, ?_, ?_, ?_, ?_⟩
  · exact by rw [G _ _ (by omega), U _ (by omega)]; exact c0
  · exact by rw [G _ _ (by omega), U _ (by omega)]; exact c1
  · exact by rw [G _ _ (by omega), U _ (by omega)]; exact c2
  · exact by rw [G _ _ (by omega), U _ (by omega)]; exact c3
  · exact by rw [I_sI_same, pk_us]
  · exact by rw [G _ _ (by omega), U _ (by omega)]; exact c5
  · exact by rw [G _ _ (by omega), U _ (by omega)]; exact c9
  · exact by rw [G _ _ (by omega), U _ (by omega)]; exact c6
  · exact by rw [G _ _ (by omega), U _ (by omega)]; exact c8
  · exact by rw [G _ _ (by omega), U _ (by omega)]; exact c7
  · intro p' f' hp' hf'
    rw [np_u (by omega)] at hp'
    exact by rw [G _ _ (by omega), U _ (by omega)]; exact h2 p' f' hp' hf'
  · intro m' f' hm' hf'
    rw [nm_u (by omega)] at hm'
    exact by rw [G _ _ (by omega), U _ (by omega)]; exact h3 m' f' hm' hf'
  · intro i' hi'
    rw [nsg_u (by omega)] at hi'
    exact ⟨by rw [G _ _ (by omega), U _ (by omega)]; exact (h4 i' hi').1, by rw [G _ _ (by omega), U _ (by omega)]; exact (h4 i' hi').2⟩
  · intro t ht
    rw [ntx_u (by omega)] at ht
    exact tx_R_u (by omega) (tx_R_g (by omega) (sv_t hV ht))
  · intro i' hi'
    exact by rw [G _ _ (by omega), U _ (by omega)]; exact h6 i' hi'
  · intro i' hi'
    have e : nch (upd s 4 v) = v.toNatClampNeg := by unfold nch; rw [pk_us]
    rw [e] at hi'
    rw [G _ _ (by omega), U _ (by omega)]; exact h7 i' (by omega)
  · intro i' hi'
    rw [nwp_u (by omega)] at hi'
    exact ⟨by rw [G _ _ (by omega), U _ (by omega)]; exact (h8 i' hi').1, by rw [G _ _ (by omega), U _ (by omega)]; exact (h8 i' hi').2⟩
  · intro i' f' hi' hf'
    rw [nlg_u (by omega)] at hi'
    exact by rw [G _ _ (by omega), U _ (by omega)]; exact h9 i' f' hi' hf'
theorem sb_P (hV : sc_V w E b s g) (hc : wf_c s) {p f : Nat} (hp : np s ≤ p) (hp8 : p < 8) (hf : f < 3) : sc_V w E b (upd s (20 + 4 * p + f) v) (mu_sI g (b + 13 + p) (f) v) := by
  have hE := sv_E hV
  have hb := wc_b hc
  obtain ⟨h0, ⟨c0, c1, c2, c3, c4, c5, c9, c6, c8, c7⟩, h2, h3, h4, h5, h6, h7, h8, h9⟩ := id hV
  have G : ∀ x z, (x ≠ b + 13 + p ∨ z ≠ f) → mu_I (mu_sI g (b + 13 + p) (f) v) x z = mu_I g x z := fun x z h => if_neg (fun q => by obtain ⟨q1, q2⟩ := q; rcases h with h | h; exact h q1; exact h q2)
  have U : ∀ j, j ≠ 20 + 4 * p + f → (upd s (20 + 4 * p + f) v) j = s j := fun j h => pk_un h
  refine ⟨h0, ⟨?_, ?_, ?_, ?_, ?_, ?_, ?_, ?_, ?_, ?_⟩, ?_, ?_, ?_, ?_, ?_, ?_, ?_, ?_⟩
  · exact by rw [G _ _ (by omega), U _ (by omega)]; exact c0
  · exact by rw [G _ _ (by omega), U _ (by omega)]; exact c1
  · exact by rw [G _ _ (by omega), U _ (by omega)]; exact c2
  · exact by rw [G _ _ (by omega), U _ (by omega)]; exact c3
  · exact by rw [G _ _ (by omega), U _ (by omega)]; exact c4
  · exact by rw [G _ _ (by omega), U _ (by omega)]; exact c5
  · exact by rw [G _ _ (by omega), U _ (by omega)]; exact c9
  · exact by rw [G _ _ (by omega), U _ (by omega)]; exact c6
  · exact by rw [G _ _ (by omega), U _ (by omega)]; exact c8
  · exact by rw [G _ _ (by omega), U _ (by omega)]; exact c7
  · intro p' f' hp' hf'
    rw [np_u (by omega)] at hp'
    exact by rw [G _ _ (by omega), U _ (by omega)]; exact h2 p' f' hp' hf'
  · intro m' f' hm' hf'
    rw [nm_u (by omega)] at hm'
    exact by rw [G _ _ (by omega), U _ (by omega)]; exact h3 m' f' hm' hf'
  · intro i' hi'
    rw [nsg_u (by omega)] at hi'
    exact ⟨by rw [G _ _ (by omega), U _ (by omega)]; exact (h4 i' hi').1, by rw [G _ _ (by omega), U _ (by omega)]; exact (h4 i' hi').2⟩
  · intro t ht
    rw [ntx_u (by omega)] at ht
    exact tx_R_u (by omega) (tx_R_g (by omega) (sv_t hV ht))
  · intro i' hi'
    exact by rw [G _ _ (by omega), U _ (by omega)]; exact h6 i' hi'
  · intro i' hi'
    rw [nch_u (by omega)] at hi'
    exact by rw [G _ _ (by omega), U _ (by omega)]; exact h7 i' hi'
  · intro i' hi'
    rw [nwp_u (by omega)] at hi'
    exact ⟨by rw [G _ _ (by omega), U _ (by omega)]; exact (h8 i' hi').1, by rw [G _ _ (by omega), U _ (by omega)]; exact (h8 i' hi').2⟩
  · intro i' f' hi' hf'
    rw [nlg_u (by omega)] at hi'
    exact by rw [G _ _ (by omega), U _ (by omega)]; exact h9 i' f' hi' hf'
theorem sb_M (hV : sc_V w E b s g) (hc : wf_c s) {m f : Nat} (hm : nm s ≤ m) (hm2 : m < 20) (hf : f < 8) : sc_V w E b (upd s (60 + 8 * m + f) v) (mu_sI g (b + 21 + m) (f) v) := by
  have hE := sv_E hV
  have hb := wc_b hc
  obtain ⟨h0, ⟨c0, c1, c2, c3, c4, c5, c9, c6, c8, c7⟩, h2, h3, h4, h5, h6, h7, h8, h9⟩ := id hV
  have G : ∀ x z, (x ≠ b + 21 + m ∨ z ≠ f) → mu_I (mu_sI g (b + 21 + m) (f) v) x z = mu_I g x z := fun x z h => if_neg (fun q => by obtain ⟨q1, q2⟩ := q; rcases h with h | h; exact h q1; exact h q2)
  have U : ∀ j, j ≠ 60 + 8 * m + f → (upd s (60 + 8 * m + f) v) j = s j := fun j h => pk_un h
  refine ⟨h0, ⟨?_, ?_, ?_, ?_, ?_, ?_, ?_, ?_, ?_, ?_⟩, ?_, ?_, ?_, ?_, ?_, ?_, ?_, ?_⟩
  · exact by rw [G _ _ (by omega), U _ (by omega)]; exact c0
  · exact by rw [G _ _ (by omega), U _ (by omega)]; exact c1
  · exact by rw [G _ _ (by omega), U _ (by omega)]; exact c2
  · exact by rw [G _ _ (by omega), U _ (by omega)]; exact c3
  · exact by rw [G _ _ (by omega), U _ (by omega)]; exact c4
  · exact by rw [G _ _ (by omega), U _ (by omega)]; exact c5
  · exact by rw [G _ _ (by omega), U _ (by omega)]; exact c9
  · exact by rw [G _ _ (by omega), U _ (by omega)]; exact c6
  · exact by rw [G _ _ (by omega), U _ (by omega)]; exact c8
  · exact by rw [G _ _ (by omega), U _ (by omega)]; exact c7
  · intro p' f' hp' hf'
    rw [np_u (by omega)] at hp'
    exact by rw [G _ _ (by omega), U _ (by omega)]; exact h2 p' f' hp' hf'
  · intro m' f' hm' hf'
    rw [nm_u (by omega)] at hm'
    exact by rw [G _ _ (by omega), U _ (by omega)]; exact h3 m' f' hm' hf'
  · intro i' hi'
    rw [nsg_u (by omega)] at hi'
    exact ⟨by rw [G _ _ (by omega), U _ (by omega)]; exact (h4 i' hi').1, by rw [G _ _ (by omega), U _ (by omega)]; exact (h4 i' hi').2⟩
  · intro t ht
    rw [ntx_u (by omega)] at ht
    exact tx_R_u (by omega) (tx_R_g (by omega) (sv_t hV ht))
  · intro i' hi'
    exact by rw [G _ _ (by omega), U _ (by omega)]; exact h6 i' hi'
  · intro i' hi'
    rw [nch_u (by omega)] at hi'
    exact by rw [G _ _ (by omega), U _ (by omega)]; exact h7 i' hi'
  · intro i' hi'
    rw [nwp_u (by omega)] at hi'
    exact ⟨by rw [G _ _ (by omega), U _ (by omega)]; exact (h8 i' hi').1, by rw [G _ _ (by omega), U _ (by omega)]; exact (h8 i' hi').2⟩
  · intro i' f' hi' hf'
    rw [nlg_u (by omega)] at hi'
    exact by rw [G _ _ (by omega), U _ (by omega)]; exact h9 i' f' hi' hf'
theorem sb_Mg (hV : sc_V w E b s g) (hc : wf_c s) {m f : Nat} (hm : nm s ≤ m) (hm2 : m < 20) : sc_V w E b s (mu_sI g (b + 21 + m) (f) v) := by
  have hE := sv_E hV
  have hb := wc_b hc
  obtain ⟨h0, ⟨c0, c1, c2, c3, c4, c5, c9, c6, c8, c7⟩, h2, h3, h4, h5, h6, h7, h8, h9⟩ := id hV
  have G : ∀ x z, (x ≠ b + 21 + m ∨ z ≠ f) → mu_I (mu_sI g (b + 21 + m) (f) v) x z = mu_I g x z := fun x z h => if_neg (fun q => by obtain ⟨q1, q2⟩ := q; rcases h with h | h; exact h q1; exact h q2)
  refine ⟨h0, ⟨?_, ?_, ?_, ?_, ?_, ?_, ?_, ?_, ?_, ?_⟩, ?_, ?_, ?_, ?_, ?_, ?_, ?_, ?_⟩
  · exact by rw [G _ _ (by omega)]; exact c0
  · exact by rw [G _ _ (by omega)]; exact c1
  · exact by rw [G _ _ (by omega)]; exact c2
  · exact by rw [G _ _ (by omega)]; exact c3
  · exact by rw [G _ _ (by omega)]; exact c4
  · exact by rw [G _ _ (by omega)]; exact c5
  · exact by rw [G _ _ (by omega)]; exact c9
  · exact by rw [G _ _ (by omega)]; exact c6
  · exact by rw [G _ _ (by omega)]; exact c8
  · exact by rw [G _ _ (by omega)]; exact c7
  · intro p' f' hp' hf'
    exact by rw [G _ _ (by omega)]; exact h2 p' f' hp' hf'
  · intro m' f' hm' hf'
    exact by rw [G _ _ (by omega)]; exact h3 m' f' hm' hf'
  · intro i' hi'
    exact ⟨by rw [G _ _ (by omega)]; exact (h4 i' hi').1, by rw [G _ _ (by omega)]; exact (h4 i' hi').2⟩
  · intro t ht
    exact tx_R_g (by omega) (sv_t hV ht)
  · intro i' hi'
    exact by rw [G _ _ (by omega)]; exact h6 i' hi'
  · intro i' hi'
    exact by rw [G _ _ (by omega)]; exact h7 i' hi'
  · intro i' hi'
    exact ⟨by rw [G _ _ (by omega)]; exact (h8 i' hi').1, by rw [G _ _ (by omega)]; exact (h8 i' hi').2⟩
  · intro i' f' hi' hf'
    exact by rw [G _ _ (by omega)]; exact h9 i' f' hi' hf'
theorem sb_G0 (hV : sc_V w E b s g) (hc : wf_c s) {i : Nat} (hi : nsg s ≤ i) (hi2 : i < 20) : sc_V w E b (upd s (220 + 2 * i) v) (mu_sI g (b + 3) (i) v) := by
  have hE := sv_E hV
  have hb := wc_b hc
  obtain ⟨h0, ⟨c0, c1, c2, c3, c4, c5, c9, c6, c8, c7⟩, h2, h3, h4, h5, h6, h7, h8, h9⟩ := id hV
  have G : ∀ x z, (x ≠ b + 3 ∨ z ≠ i) → mu_I (mu_sI g (b + 3) (i) v) x z = mu_I g x z := fun x z h => if_neg (fun q => by obtain ⟨q1, q2⟩ := q; rcases h with h | h; exact h q1; exact h q2)
  have U : ∀ j, j ≠ 220 + 2 * i → (upd s (220 + 2 * i) v) j = s j := fun j h => pk_un h
  refine ⟨h0, ⟨?_, ?_, ?_, ?_, ?_, ?_, ?_, ?_, ?_, ?_⟩, ?_, ?_, ?_, ?_, ?_, ?_, ?_, ?_⟩
  · exact by rw [G _ _ (by omega), U _ (by omega)]; exact c0
  · exact by rw [G _ _ (by omega), U _ (by omega)]; exact c1
  · exact by rw [G _ _ (by omega), U _ (by omega)]; exact c2
  · exact by rw [G _ _ (by omega), U _ (by omega)]; exact c3
  · exact by rw [G _ _ (by omega), U _ (by omega)]; exact c4
  · exact by rw [G _ _ (by omega), U _ (by omega)]; exact c5
  · exact by rw [G _ _ (by omega), U _ (by omega)]; exact c9
  · exact by rw [G _ _ (by omega), U _ (by omega)]; exact c6
  · exact by rw [G _ _ (by omega), U _ (by omega)]; exact c8
  · exact by rw [G _ _ (by omega), U _ (by omega)]; exact c7
  · intro p' f' hp' hf'
    rw [np_u (by omega)] at hp'
    exact by rw [G _ _ (by omega), U _ (by omega)]; exact h2 p' f' hp' hf'
  · intro m' f' hm' hf'
    rw [nm_u (by omega)] at hm'
    exact by rw [G _ _ (by omega), U _ (by omega)]; exact h3 m' f' hm' hf'
  · intro i' hi'
    rw [nsg_u (by omega)] at hi'
    exact ⟨by rw [G _ _ (by omega), U _ (by omega)]; exact (h4 i' hi').1, by rw [G _ _ (by omega), U _ (by omega)]; exact (h4 i' hi').2⟩
  · intro t ht
    rw [ntx_u (by omega)] at ht
    exact tx_R_u (by omega) (tx_R_g (by omega) (sv_t hV ht))
  · intro i' hi'
    exact by rw [G _ _ (by omega), U _ (by omega)]; exact h6 i' hi'
  · intro i' hi'
    rw [nch_u (by omega)] at hi'
    exact by rw [G _ _ (by omega), U _ (by omega)]; exact h7 i' hi'
  · intro i' hi'
    rw [nwp_u (by omega)] at hi'
    exact ⟨by rw [G _ _ (by omega), U _ (by omega)]; exact (h8 i' hi').1, by rw [G _ _ (by omega), U _ (by omega)]; exact (h8 i' hi').2⟩
  · intro i' f' hi' hf'
    rw [nlg_u (by omega)] at hi'
    exact by rw [G _ _ (by omega), U _ (by omega)]; exact h9 i' f' hi' hf'
theorem sb_G1 (hV : sc_V w E b s g) (hc : wf_c s) {i : Nat} (hi : nsg s ≤ i) (hi2 : i < 20) : sc_V w E b (upd s (220 + 2 * i + 1) v) (mu_sI g (b + 4) (i) v) := by
  have hE := sv_E hV
  have hb := wc_b hc
  obtain ⟨h0, ⟨c0, c1, c2, c3, c4, c5, c9, c6, c8, c7⟩, h2, h3, h4, h5, h6, h7, h8, h9⟩ := id hV
  have G : ∀ x z, (x ≠ b + 4 ∨ z ≠ i) → mu_I (mu_sI g (b + 4) (i) v) x z = mu_I g x z := fun x z h => if_neg (fun q => by obtain ⟨q1, q2⟩ := q; rcases h with h | h; exact h q1; exact h q2)
  have U : ∀ j, j ≠ 220 + 2 * i + 1 → (upd s (220 + 2 * i + 1) v) j = s j := fun j h => pk_un h
  refine ⟨h0, ⟨?_, ?_, ?_, ?_, ?_, ?_, ?_, ?_, ?_, ?_⟩, ?_, ?_, ?_, ?_, ?_, ?_, ?_, ?_⟩
  · exact by rw [G _ _ (by omega), U _ (by omega)]; exact c0
  · exact by rw [G _ _ (by omega), U _ (by omega)]; exact c1
  · exact by rw [G _ _ (by omega), U _ (by omega)]; exact c2
  · exact by rw [G _ _ (by omega), U _ (by omega)]; exact c3
  · exact by rw [G _ _ (by omega), U _ (by omega)]; exact c4
  · exact by rw [G _ _ (by omega), U _ (by omega)]; exact c5
  · exact by rw [G _ _ (by omega), U _ (by omega)]; exact c9
  · exact by rw [G _ _ (by omega), U _ (by omega)]; exact c6
  · exact by rw [G _ _ (by omega), U _ (by omega)]; exact c8
  · exact by rw [G _ _ (by omega), U _ (by omega)]; exact c7
  · intro p' f' hp' hf'
    rw [np_u (by omega)] at hp'
    exact by rw [G _ _ (by omega), U _ (by omega)]; exact h2 p' f' hp' hf'
  · intro m' f' hm' hf'
    rw [nm_u (by omega)] at hm'
    exact by rw [G _ _ (by omega), U _ (by omega)]; exact h3 m' f' hm' hf'
  · intro i' hi'
    rw [nsg_u (by omega)] at hi'
    exact ⟨by rw [G _ _ (by omega), U _ (by omega)]; exact (h4 i' hi').1, by rw [G _ _ (by omega), U _ (by omega)]; exact (h4 i' hi').2⟩
  · intro t ht
    rw [ntx_u (by omega)] at ht
    exact tx_R_u (by omega) (tx_R_g (by omega) (sv_t hV ht))
  · intro i' hi'
    exact by rw [G _ _ (by omega), U _ (by omega)]; exact h6 i' hi'
  · intro i' hi'
    rw [nch_u (by omega)] at hi'
    exact by rw [G _ _ (by omega), U _ (by omega)]; exact h7 i' hi'
  · intro i' hi'
    rw [nwp_u (by omega)] at hi'
    exact ⟨by rw [G _ _ (by omega), U _ (by omega)]; exact (h8 i' hi').1, by rw [G _ _ (by omega), U _ (by omega)]; exact (h8 i' hi').2⟩
  · intro i' f' hi' hf'
    rw [nlg_u (by omega)] at hi'
    exact by rw [G _ _ (by omega), U _ (by omega)]; exact h9 i' f' hi' hf'
theorem sb_C (hV : sc_V w E b s g) (hc : wf_c s) {i : Nat} (hi : nch s ≤ i) (hi2 : i < 6) : sc_V w E b (upd s (260 + i) v) (mu_sI g (b + 7) (i) v) := by
  have hE := sv_E hV
  have hb := wc_b hc
  obtain ⟨h0, ⟨c0, c1, c2, c3, c4, c5, c9, c6, c8, c7⟩, h2, h3, h4, h5, h6, h7, h8, h9⟩ := id hV
  have G : ∀ x z, (x ≠ b + 7 ∨ z ≠ i) → mu_I (mu_sI g (b + 7) (i) v) x z = mu_I g x z := fun x z h => if_neg (fun q => by obtain ⟨q1, q2⟩ := q; rcases h with h | h; exact h q1; exact h q2)
  have U : ∀ j, j ≠ 260 + i → (upd s (260 + i) v) j = s j := fun j h => pk_un h
  refine ⟨h0, ⟨?_, ?_, ?_, ?_, ?_, ?_, ?_, ?_, ?_, ?_⟩, ?_, ?_, ?_, ?_, ?_, ?_, ?_, ?_⟩
  · exact by rw [G _ _ (by omega), U _ (by omega)]; exact c0
  · exact by rw [G _ _ (by omega), U _ (by omega)]; exact c1
  · exact by rw [G _ _ (by omega), U _ (by omega)]; exact c2
  · exact by rw [G _ _ (by omega), U _ (by omega)]; exact c3
  · exact by rw [G _ _ (by omega), U _ (by omega)]; exact c4
  · exact by rw [G _ _ (by omega), U _ (by omega)]; exact c5
  · exact by rw [G _ _ (by omega), U _ (by omega)]; exact c9
  · exact by rw [G _ _ (by omega), U _ (by omega)]; exact c6
  · exact by rw [G _ _ (by omega), U _ (by omega)]; exact c8
  · exact by rw [G _ _ (by omega), U _ (by omega)]; exact c7
  · intro p' f' hp' hf'
    rw [np_u (by omega)] at hp'
    exact by rw [G _ _ (by omega), U _ (by omega)]; exact h2 p' f' hp' hf'
  · intro m' f' hm' hf'
    rw [nm_u (by omega)] at hm'
    exact by rw [G _ _ (by omega), U _ (by omega)]; exact h3 m' f' hm' hf'
  · intro i' hi'
    rw [nsg_u (by omega)] at hi'
    exact ⟨by rw [G _ _ (by omega), U _ (by omega)]; exact (h4 i' hi').1, by rw [G _ _ (by omega), U _ (by omega)]; exact (h4 i' hi').2⟩
  · intro t ht
    rw [ntx_u (by omega)] at ht
    exact tx_R_u (by omega) (tx_R_g (by omega) (sv_t hV ht))
  · intro i' hi'
    exact by rw [G _ _ (by omega), U _ (by omega)]; exact h6 i' hi'
  · intro i' hi'
    rw [nch_u (by omega)] at hi'
    exact by rw [G _ _ (by omega), U _ (by omega)]; exact h7 i' hi'
  · intro i' hi'
    rw [nwp_u (by omega)] at hi'
    exact ⟨by rw [G _ _ (by omega), U _ (by omega)]; exact (h8 i' hi').1, by rw [G _ _ (by omega), U _ (by omega)]; exact (h8 i' hi').2⟩
  · intro i' f' hi' hf'
    rw [nlg_u (by omega)] at hi'
    exact by rw [G _ _ (by omega), U _ (by omega)]; exact h9 i' f' hi' hf'
theorem sb_W (hV : sc_V w E b s g) (hc : wf_c s) {i : Nat} (hi : nwp s ≤ i) (hi2 : i < 6) : sc_V w E b (upd s (270 + 2 * i) v) (mu_sI g (b + 8) (i) v) := by
  have hE := sv_E hV
  have hb := wc_b hc
  obtain ⟨h0, ⟨c0, c1, c2, c3, c4, c5, c9, c6, c8, c7⟩, h2, h3, h4, h5, h6, h7, h8, h9⟩ := id hV
  have G : ∀ x z, (x ≠ b + 8 ∨ z ≠ i) → mu_I (mu_sI g (b + 8) (i) v) x z = mu_I g x z := fun x z h => if_neg (fun q => by obtain ⟨q1, q2⟩ := q; rcases h with h | h; exact h q1; exact h q2)
  have U : ∀ j, j ≠ 270 + 2 * i → (upd s (270 + 2 * i) v) j = s j := fun j h => pk_un h
  refine ⟨h0, ⟨?_, ?_, ?_, ?_, ?_, ?_, ?_, ?_, ?_, ?_⟩, ?_, ?_, ?_, ?_, ?_, ?_, ?_, ?_⟩
  · exact by rw [G _ _ (by omega), U _ (by omega)]; exact c0
  · exact by rw [G _ _ (by omega), U _ (by omega)]; exact c1
  · exact by rw [G _ _ (by omega), U _ (by omega)]; exact c2
  · exact by rw [G _ _ (by omega), U _ (by omega)]; exact c3
  · exact by rw [G _ _ (by omega), U _ (by omega)]; exact c4
  · exact by rw [G _ _ (by omega), U _ (by omega)]; exact c5
  · exact by rw [G _ _ (by omega), U _ (by omega)]; exact c9
  · exact by rw [G _ _ (by omega), U _ (by omega)]; exact c6
  · exact by rw [G _ _ (by omega), U _ (by omega)]; exact c8
  · exact by rw [G _ _ (by omega), U _ (by omega)]; exact c7
  · intro p' f' hp' hf'
    rw [np_u (by omega)] at hp'
    exact by rw [G _ _ (by omega), U _ (by omega)]; exact h2 p' f' hp' hf'
  · intro m' f' hm' hf'
    rw [nm_u (by omega)] at hm'
    exact by rw [G _ _ (by omega), U _ (by omega)]; exact h3 m' f' hm' hf'
  · intro i' hi'
    rw [nsg_u (by omega)] at hi'
    exact ⟨by rw [G _ _ (by omega), U _ (by omega)]; exact (h4 i' hi').1, by rw [G _ _ (by omega), U _ (by omega)]; exact (h4 i' hi').2⟩
  · intro t ht
    rw [ntx_u (by omega)] at ht
    exact tx_R_u (by omega) (tx_R_g (by omega) (sv_t hV ht))
  · intro i' hi'
    exact by rw [G _ _ (by omega), U _ (by omega)]; exact h6 i' hi'
  · intro i' hi'
    rw [nch_u (by omega)] at hi'
    exact by rw [G _ _ (by omega), U _ (by omega)]; exact h7 i' hi'
  · intro i' hi'
    rw [nwp_u (by omega)] at hi'
    exact ⟨by rw [G _ _ (by omega), U _ (by omega)]; exact (h8 i' hi').1, by rw [G _ _ (by omega), U _ (by omega)]; exact (h8 i' hi').2⟩
  · intro i' f' hi' hf'
    rw [nlg_u (by omega)] at hi'
    exact by rw [G _ _ (by omega), U _ (by omega)]; exact h9 i' f' hi' hf'
theorem sb_Wh (hV : sc_V w E b s g) (hc : wf_c s) {i : Nat} (hi : nwp s ≤ i) (hi2 : i < 6) : sc_V w E b (upd s (270 + 2 * i + 1) v) (mu_sI g (b + 9) (i) (nn v)) := by
  have hE := sv_E hV
  have hb := wc_b hc
  obtain ⟨h0, ⟨c0, c1, c2, c3, c4, c5, c9, c6, c8, c7⟩, h2, h3, h4, h5, h6, h7, h8, h9⟩ := id hV
  have G : ∀ x z, (x ≠ b + 9 ∨ z ≠ i) → mu_I (mu_sI g (b + 9) (i) (nn v)) x z = mu_I g x z := fun x z h => if_neg (fun q => by obtain ⟨q1, q2⟩ := q; rcases h with h | h; exact h q1; exact h q2)
  have U : ∀ j, j ≠ 270 + 2 * i + 1 → (upd s (270 + 2 * i + 1) v) j = s j := fun j h => pk_un h
  refine ⟨h0, ⟨?_, ?_, ?_, ?_, ?_, ?_, ?_, ?_, ?_, ?_⟩, ?_, ?_, ?_, ?_, ?_, ?_, ?_, ?_⟩
  · exact by rw [G _ _ (by omega), U _ (by omega)]; exact c0
  · exact by rw [G _ _ (by omega), U _ (by omega)]; exact c1
  · exact by rw [G _ _ (by omega), U _ (by omega)]; exact c2
  · exact by rw [G _ _ (by omega), U _ (by omega)]; exact c3
  · exact by rw [G _ _ (by omega), U _ (by omega)]; exact c4
  · exact by rw [G _ _ (by omega), U _ (by omega)]; exact c5
  · exact by rw [G _ _ (by omega), U _ (by omega)]; exact c9
  · exact by rw [G _ _ (by omega), U _ (by omega)]; exact c6
  · exact by rw [G _ _ (by omega), U _ (by omega)]; exact c8
  · exact by rw [G _ _ (by omega), U _ (by omega)]; exact c7
  · intro p' f' hp' hf'
    rw [np_u (by omega)] at hp'
    exact by rw [G _ _ (by omega), U _ (by omega)]; exact h2 p' f' hp' hf'
  · intro m' f' hm' hf'
    rw [nm_u (by omega)] at hm'
    exact by rw [G _ _ (by omega), U _ (by omega)]; exact h3 m' f' hm' hf'
  · intro i' hi'
    rw [nsg_u (by omega)] at hi'
    exact ⟨by rw [G _ _ (by omega), U _ (by omega)]; exact (h4 i' hi').1, by rw [G _ _ (by omega), U _ (by omega)]; exact (h4 i' hi').2⟩
  · intro t ht
    rw [ntx_u (by omega)] at ht
    exact tx_R_u (by omega) (tx_R_g (by omega) (sv_t hV ht))
  · intro i' hi'
    exact by rw [G _ _ (by omega), U _ (by omega)]; exact h6 i' hi'
  · intro i' hi'
    rw [nch_u (by omega)] at hi'
    exact by rw [G _ _ (by omega), U _ (by omega)]; exact h7 i' hi'
  · intro i' hi'
    rw [nwp_u (by omega)] at hi'
    exact ⟨by rw [G _ _ (by omega), U _ (by omega)]; exact (h8 i' hi').1, by rw [G _ _ (by omega), U _ (by omega)]; exact (h8 i' hi').2⟩
  · intro i' f' hi' hf'
    rw [nlg_u (by omega)] at hi'
    exact by rw [G _ _ (by omega), U _ (by omega)]; exact h9 i' f' hi' hf'
theorem sb_L (hV : sc_V w E b s g) (hc : wf_c s) {i f : Nat} (hi : nlg s ≤ i) (hi2 : i < 30) (hf : f < 3) : sc_V w E b (upd s (360 + 3 * i + f) v) (mu_sI g (b + 11) (3 * i + f) v) := by
  have hE := sv_E hV
  have hb := wc_b hc
  obtain ⟨h0, ⟨c0, c1, c2, c3, c4, c5, c9, c6, c8, c7⟩, h2, h3, h4, h5, h6, h7, h8, h9⟩ := id hV
  have G : ∀ x z, (x ≠ b + 11 ∨ z ≠ 3 * i + f) → mu_I (mu_sI g (b + 11) (3 * i + f) v) x z = mu_I g x z := fun x z h => if_neg (fun q => by obtain ⟨q1, q2⟩ := q; rcases h with h | h; exact h q1; exact h q2)
  have U : ∀ j, j ≠ 360 + 3 * i + f → (upd s (360 + 3 * i + f) v) j = s j := fun j h => pk_un h
  refine ⟨h0, ⟨?_, ?_, ?_, ?_, ?_, ?_, ?_, ?_, ?_, ?_⟩, ?_, ?_, ?_, ?_, ?_, ?_, ?_, ?_⟩
  · exact by rw [G _ _ (by omega), U _ (by omega)]; exact c0
  · exact by rw [G _ _ (by omega), U _ (by omega)]; exact c1
  · exact by rw [G _ _ (by omega), U _ (by omega)]; exact c2
  · exact by rw [G _ _ (by omega), U _ (by omega)]; exact c3
  · exact by rw [G _ _ (by omega), U _ (by omega)]; exact c4
  · exact by rw [G _ _ (by omega), U _ (by omega)]; exact c5
  · exact by rw [G _ _ (by omega), U _ (by omega)]; exact c9
  · exact by rw [G _ _ (by omega), U _ (by omega)]; exact c6
  · exact by rw [G _ _ (by omega), U _ (by omega)]; exact c8
  · exact by rw [G _ _ (by omega), U _ (by omega)]; exact c7
  · intro p' f' hp' hf'
    rw [np_u (by omega)] at hp'
    exact by rw [G _ _ (by omega), U _ (by omega)]; exact h2 p' f' hp' hf'
  · intro m' f' hm' hf'
    rw [nm_u (by omega)] at hm'
    exact by rw [G _ _ (by omega), U _ (by omega)]; exact h3 m' f' hm' hf'
  · intro i' hi'
    rw [nsg_u (by omega)] at hi'
    exact ⟨by rw [G _ _ (by omega), U _ (by omega)]; exact (h4 i' hi').1, by rw [G _ _ (by omega), U _ (by omega)]; exact (h4 i' hi').2⟩
  · intro t ht
    rw [ntx_u (by omega)] at ht
    exact tx_R_u (by omega) (tx_R_g (by omega) (sv_t hV ht))
  · intro i' hi'
    exact by rw [G _ _ (by omega), U _ (by omega)]; exact h6 i' hi'
  · intro i' hi'
    rw [nch_u (by omega)] at hi'
    exact by rw [G _ _ (by omega), U _ (by omega)]; exact h7 i' hi'
  · intro i' hi'
    rw [nwp_u (by omega)] at hi'
    exact ⟨by rw [G _ _ (by omega), U _ (by omega)]; exact (h8 i' hi').1, by rw [G _ _ (by omega), U _ (by omega)]; exact (h8 i' hi').2⟩
  · intro i' f' hi' hf'
    rw [nlg_u (by omega)] at hi'
    exact by rw [G _ _ (by omega), U _ (by omega)]; exact h9 i' f' hi' hf'
theorem sm_P (hV : sc_V w E b s g) (hc : wf_c s) (hv : v.toNatClampNeg = np s + 1) (hn : ∀ f, f < 3 → mu_I g (b + 13 + np s) f = s (20 + 4 * np s + f)) : sc_V w E b (upd s (0) v) (mu_sI g (b) (10) v) := by
  have hE := sv_E hV
  have hb := wc_b hc
  obtain ⟨h0, ⟨c0, c1, c2, c3, c4, c5, c9, c6, c8, c7⟩, h2, h3, h4, h5, h6, h7, h8, h9⟩ := id hV
  have G : ∀ x z, (x ≠ b ∨ z ≠ 10) → mu_I (mu_sI g (b) (10) v) x z = mu_I g x z := fun x z h => if_neg (fun q => by obtain ⟨q1, q2⟩ := q; rcases h with h | h; exact h q1; exact h q2)
  have U : ∀ j, j ≠ 0 → (upd s (0) v) j = s j := fun j h => pk_un h
  refine ⟨h0, ⟨?_, ?_, ?_, ?_, ?_, ?_, ?_, ?_, ?_, ?_⟩, ?_, ?_, ?_, ?_, ?_, ?_, ?_, ?_⟩
  · exact by rw [I_sI_same, pk_us]
  · exact by rw [G _ _ (by omega), U _ (by omega)]; exact c1
  · exact by rw [G _ _ (by omega), U _ (by omega)]; exact c2
  · exact by rw [G _ _ (by omega), U _ (by omega)]; exact c3
  · exact by rw [G _ _ (by omega), U _ (by omega)]; exact c4
  · exact by rw [G _ _ (by omega), U _ (by omega)]; exact c5
  · exact by rw [G _ _ (by omega), U _ (by omega)]; exact c9
  · exact by rw [G _ _ (by omega), U _ (by omega)]; exact c6
  · exact by rw [G _ _ (by omega), U _ (by omega)]; exact c8
  · exact by rw [G _ _ (by omega), U _ (by omega)]; exact c7
  · intro p' f' hp' hf'
    have e : np (upd s 0 v) = np s + 1 := by unfold np; rw [pk_us]; exact hv
    rw [e] at hp'
    rw [G _ _ (by omega), U _ (by omega)]
    by_cases q : p' = np s
    · rw [q]; exact hn f' hf'
    · exact h2 p' f' (by omega) hf'
  · intro m' f' hm' hf'
    rw [nm_u (by omega)] at hm'
    exact by rw [G _ _ (by omega), U _ (by omega)]; exact h3 m' f' hm' hf'
  · intro i' hi'
    rw [nsg_u (by omega)] at hi'
    exact ⟨by rw [G _ _ (by omega), U _ (by omega)]; exact (h4 i' hi').1, by rw [G _ _ (by omega), U _ (by omega)]; exact (h4 i' hi').2⟩
  · intro t ht
    rw [ntx_u (by omega)] at ht
    exact tx_R_u (by omega) (tx_R_g (by omega) (sv_t hV ht))
  · intro i' hi'
    exact by rw [G _ _ (by omega), U _ (by omega)]; exact h6 i' hi'
  · intro i' hi'
    rw [nch_u (by omega)] at hi'
    exact by rw [G _ _ (by omega), U _ (by omega)]; exact h7 i' hi'
  · intro i' hi'
    rw [nwp_u (by omega)] at hi'
    exact ⟨by rw [G _ _ (by omega), U _ (by omega)]; exact (h8 i' hi').1, by rw [G _ _ (by omega), U _ (by omega)]; exact (h8 i' hi').2⟩
  · intro i' f' hi' hf'
    rw [nlg_u (by omega)] at hi'
    exact by rw [G _ _ (by omega), U _ (by omega)]; exact h9 i' f' hi' hf'
theorem sm_M (hV : sc_V w E b s g) (hc : wf_c s) (hv : v.toNatClampNeg = nm s + 1) (hn : ∀ f, f < 8 → mu_I g (b + 21 + nm s) f = s (60 + 8 * nm s + f)) : sc_V w E b (upd s (1) v) (mu_sI g (b) (11) v) := by
  have hE := sv_E hV
  have hb := wc_b hc
  obtain ⟨h0, ⟨c0, c1, c2, c3, c4, c5, c9, c6, c8, c7⟩, h2, h3, h4, h5, h6, h7, h8, h9⟩ := id hV
  have G : ∀ x z, (x ≠ b ∨ z ≠ 11) → mu_I (mu_sI g (b) (11) v) x z = mu_I g x z := fun x z h => if_neg (fun q => by obtain ⟨q1, q2⟩ := q; rcases h with h | h; exact h q1; exact h q2)
  have U : ∀ j, j ≠ 1 → (upd s (1) v) j = s j := fun j h => pk_un h
  refine ⟨h0, ⟨?_, ?_, ?_, ?_, ?_, ?_, ?_, ?_, ?_, ?_⟩, ?_, ?_, ?_, ?_, ?_, ?_, ?_, ?_⟩
  · exact by rw [G _ _ (by omega), U _ (by omega)]; exact c0
  · exact by rw [I_sI_same, pk_us]
  · exact by rw [G _ _ (by omega), U _ (by omega)]; exact c2
  · exact by rw [G _ _ (by omega), U _ (by omega)]; exact c3
  · exact by rw [G _ _ (by omega), U _ (by omega)]; exact c4
  · exact by rw [G _ _ (by omega), U _ (by omega)]; exact c5
  · exact by rw [G _ _ (by omega), U _ (by omega)]; exact c9
  · exact by rw [G _ _ (by omega), U _ (by omega)]; exact c6
  · exact by rw [G _ _ (by omega), U _ (by omega)]; exact c8
  · exact by rw [G _ _ (by omega), U _ (by omega)]; exact c7
  · intro p' f' hp' hf'
    rw [np_u (by omega)] at hp'
    exact by rw [G _ _ (by omega), U _ (by omega)]; exact h2 p' f' hp' hf'
  · intro m' f' hm' hf'
    have e : nm (upd s 1 v) = nm s + 1 := by unfold nm; rw [pk_us]; exact hv
    rw [e] at hm'
    rw [G _ _ (by omega), U _ (by omega)]
    by_cases q : m' = nm s
    · rw [q]; exact hn f' hf'
    · exact h3 m' f' (by omega) hf'
  · intro i' hi'
    rw [nsg_u (by omega)] at hi'
    exact ⟨by rw [G _ _ (by omega), U _ (by omega)]; exact (h4 i' hi').1, by rw [G _ _ (by omega), U _ (by omega)]; exact (h4 i' hi').2⟩
  · intro t ht
    rw [ntx_u (by omega)] at ht
    exact tx_R_u (by omega) (tx_R_g (by omega) (sv_t hV ht))
  · intro i' hi'
    exact by rw [G _ _ (by omega), U _ (by omega)]; exact h6 i' hi'
  · intro i' hi'
    rw [nch_u (by omega)] at hi'
    exact by rw [G _ _ (by omega), U _ (by omega)]; exact h7 i' hi'
  · intro i' hi'
    rw [nwp_u (by omega)] at hi'
    exact ⟨by rw [G _ _ (by omega), U _ (by omega)]; exact (h8 i' hi').1, by rw [G _ _ (by omega), U _ (by omega)]; exact (h8 i' hi').2⟩
  · intro i' f' hi' hf'
    rw [nlg_u (by omega)] at hi'
    exact by rw [G _ _ (by omega), U _ (by omega)]; exact h9 i' f' hi' hf'
theorem sm_G (hV : sc_V w E b s g) (hc : wf_c s) (hv : v.toNatClampNeg = nsg s + 1) (hn : mu_I g (b + 3) (nsg s) = s (220 + 2 * nsg s) ∧ mu_I g (b + 4) (nsg s) = s (220 + 2 * nsg s + 1)) : sc_V w E b (upd s (2) v) (mu_sI g (b) (12) v) := by
  have hE := sv_E hV
  have hb := wc_b hc
  obtain ⟨h0, ⟨c0, c1, c2, c3, c4, c5, c9, c6, c8, c7⟩, h2, h3, h4, h5, h6, h7, h8, h9⟩ := id hV
  have G : ∀ x z, (x ≠ b ∨ z ≠ 12) → mu_I (mu_sI g (b) (12) v) x z = mu_I g x z := fun x z h => if_neg (fun q => by obtain ⟨q1, q2⟩ := q; rcases h with h | h; exact h q1; exact h q2)
  have U : ∀ j, j ≠ 2 → (upd s (2) v) j = s j := fun j h => pk_un h
  refine ⟨h0, ⟨?_, ?_, ?_, ?_, ?_, ?_, ?_, ?_, ?_, ?_⟩, ?_, ?_, ?_, ?_, ?_, ?_, ?_, ?_⟩
  · exact by rw [G _ _ (by omega), U _ (by omega)]; exact c0
  · exact by rw [G _ _ (by omega), U _ (by omega)]; exact c1
  · exact by rw [I_sI_same, pk_us]
  · exact by rw [G _ _ (by omega), U _ (by omega)]; exact c3
  · exact by rw [G _ _ (by omega), U _ (by omega)]; exact c4
  · exact by rw [G _ _ (by omega), U _ (by omega)]; exact c5
  · exact by rw [G _ _ (by omega), U _ (by omega)]; exact c9
  · exact by rw [G _ _ (by omega), U _ (by omega)]; exact c6
  · exact by rw [G _ _ (by omega), U _ (by omega)]; exact c8
  · exact by rw [G _ _ (by omega), U _ (by omega)]; exact c7
  · intro p' f' hp' hf'
    rw [np_u (by omega)] at hp'
    exact by rw [G _ _ (by omega), U _ (by omega)]; exact h2 p' f' hp' hf'
  · intro m' f' hm' hf'
    rw [nm_u (by omega)] at hm'
    exact by rw [G _ _ (by omega), U _ (by omega)]; exact h3 m' f' hm' hf'
  · intro i' hi'
    have e : nsg (upd s 2 v) = nsg s + 1 := by unfold nsg; rw [pk_us]; exact hv
    rw [e] at hi'
    rw [G _ _ (by omega), U _ (by omega), G _ _ (by omega), U _ (by omega)]
    by_cases q : i' = nsg s
    · rw [q]; exact hn
    · exact h4 i' (by omega)
  · intro t ht
    rw [ntx_u (by omega)] at ht
    exact tx_R_u (by omega) (tx_R_g (by omega) (sv_t hV ht))
  · intro i' hi'
    exact by rw [G _ _ (by omega), U _ (by omega)]; exact h6 i' hi'
  · intro i' hi'
    rw [nch_u (by omega)] at hi'
    exact by rw [G _ _ (by omega), U _ (by omega)]; exact h7 i' hi'
  · intro i' hi'
    rw [nwp_u (by omega)] at hi'
    exact ⟨by rw [G _ _ (by omega), U _ (by omega)]; exact (h8 i' hi').1, by rw [G _ _ (by omega), U _ (by omega)]; exact (h8 i' hi').2⟩
  · intro i' f' hi' hf'
    rw [nlg_u (by omega)] at hi'
    exact by rw [G _ _ (by omega), U _ (by omega)]; exact h9 i' f' hi' hf'
theorem sm_C (hV : sc_V w E b s g) (hc : wf_c s) (hv : v.toNatClampNeg = nch s + 1) (hn : mu_I g (b + 7) (nch s) = s (260 + nch s)) : sc_V w E b (upd s (4) v) (mu_sI g (b) (14) v) := by
  have hE := sv_E hV
  have hb := wc_b hc
  obtain ⟨h0, ⟨c0, c1, c2, c3, c4, c5, c9, c6, c8, c7⟩, h2, h3, h4, h5, h6, h7, h8, h9⟩ := id hV
  have G : ∀ x z, (x ≠ b ∨ z ≠ 14) → mu_I (mu_sI g (b) (14) v) x z = mu_I g x z := fun x z h => if_neg (fun q => by obtain ⟨q1, q2⟩ := q; rcases h with h | h; exact h q1; exact h q2)
  have U : ∀ j, j ≠ 4 → (upd s (4) v) j = s j := fun j h => pk_un h
  refine ⟨h0, ⟨?_, ?_, ?_, ?_, ?_, ?_, ?_, ?_, ?_, ?_⟩, ?_, ?_, ?_, ?_, ?_, ?_, ?_, ?_⟩
  · exact by rw [G _ _ (by omega), U _ (by omega)]; exact c0
  · exact by rw [G _ _ (by omega), U _ (by omega)]; exact c1
  · exact by rw [G _ _ (by omega), U _ (by omega)]; exact c2
  · exact by rw [G _ _ (by omega), U _ (by omega)]; exact c3
  · exact by rw [I_sI_same, pk_us]
  · exact by rw [G _ _ (by omega), U _ (by omega)]; exact c5
  · exact by rw [G _ _ (by omega), U _ (by omega)]; exact c9
  · exact by rw [G _ _ (by omega), U _ (by omega)]; exact c6
  · exact by rw [G _ _ (by omega), U _ (by omega)]; exact c8
  · exact by rw [G _ _ (by omega), U _ (by omega)]; exact c7
  · intro p' f' hp' hf'
    rw [np_u (by omega)] at hp'
    exact by rw [G _ _ (by omega), U _ (by omega)]; exact h2 p' f' hp' hf'
  · intro m' f' hm' hf'
    rw [nm_u (by omega)] at hm'
    exact by rw [G _ _ (by omega), U _ (by omega)]; exact h3 m' f' hm' hf'
  · intro i' hi'
    rw [nsg_u (by omega)] at hi'
    exact ⟨by rw [G _ _ (by omega), U _ (by omega)]; exact (h4 i' hi').1, by rw [G _ _ (by omega), U _ (by omega)]; exact (h4 i' hi').2⟩
  · intro t ht
    rw [ntx_u (by omega)] at ht
    exact tx_R_u (by omega) (tx_R_g (by omega) (sv_t hV ht))
  · intro i' hi'
    exact by rw [G _ _ (by omega), U _ (by omega)]; exact h6 i' hi'
  · intro i' hi'
    have e : nch (upd s 4 v) = nch s + 1 := by unfold nch; rw [pk_us]; exact hv
    rw [e] at hi'
    rw [G _ _ (by omega), U _ (by omega)]
    by_cases q : i' = nch s
    · rw [q]; exact hn
    · exact h7 i' (by omega)
  · intro i' hi'
    rw [nwp_u (by omega)] at hi'
    exact ⟨by rw [G _ _ (by omega), U _ (by omega)]; exact (h8 i' hi').1, by rw [G _ _ (by omega), U _ (by omega)]; exact (h8 i' hi').2⟩
  · intro i' f' hi' hf'
    rw [nlg_u (by omega)] at hi'
    exact by rw [G _ _ (by omega), U _ (by omega)]; exact h9 i' f' hi' hf'
theorem sm_W (hV : sc_V w E b s g) (hc : wf_c s) (hv : v.toNatClampNeg = nwp s + 1) (hn : mu_I g (b + 8) (nwp s) = s (270 + 2 * nwp s) ∧ mu_I g (b + 9) (nwp s) = nn (s (270 + 2 * nwp s + 1))) : sc_V w E b (upd s (5) v) (mu_sI g (b) (15) v) := by
  have hE := sv_E hV
  have hb := wc_b hc
  obtain ⟨h0, ⟨c0, c1, c2, c3, c4, c5, c9, c6, c8, c7⟩, h2, h3, h4, h5, h6, h7, h8, h9⟩ := id hV
  have G : ∀ x z, (x ≠ b ∨ z ≠ 15) → mu_I (mu_sI g (b) (15) v) x z = mu_I g x z := fun x z h => if_neg (fun q => by obtain ⟨q1, q2⟩ := q; rcases h with h | h; exact h q1; exact h q2)
  have U : ∀ j, j ≠ 5 → (upd s (5) v) j = s j := fun j h => pk_un h
  refine ⟨h0, ⟨?_, ?_, ?_, ?_, ?_, ?_, ?_, ?_, ?_, ?_⟩, ?_, ?_, ?_, ?_, ?_, ?_, ?_, ?_⟩
  · exact by rw [G _ _ (by omega), U _ (by omega)]; exact c0
  · exact by rw [G _ _ (by omega), U _ (by omega)]; exact c1
  · exact by rw [G _ _ (by omega), U _ (by omega)]; exact c2
  · exact by rw [G _ _ (by omega), U _ (by omega)]; exact c3
  · exact by rw [G _ _ (by omega), U _ (by omega)]; exact c4
  · exact by rw [I_sI_same, pk_us]
  · exact by rw [G _ _ (by omega), U _ (by omega)]; exact c9
  · exact by rw [G _ _ (by omega), U _ (by omega)]; exact c6
  · exact by rw [G _ _ (by omega), U _ (by omega)]; exact c8
  · exact by rw [G _ _ (by omega), U _ (by omega)]; exact c7
  · intro p' f' hp' hf'
    rw [np_u (by omega)] at hp'
    exact by rw [G _ _ (by omega), U _ (by omega)]; exact h2 p' f' hp' hf'
  · intro m' f' hm' hf'
    rw [nm_u (by omega)] at hm'
    exact by rw [G _ _ (by omega), U _ (by omega)]; exact h3 m' f' hm' hf'
  · intro i' hi'
    rw [nsg_u (by omega)] at hi'
    exact ⟨by rw [G _ _ (by omega), U _ (by omega)]; exact (h4 i' hi').1, by rw [G _ _ (by omega), U _ (by omega)]; exact (h4 i' hi').2⟩
  · intro t ht
    rw [ntx_u (by omega)] at ht
    exact tx_R_u (by omega) (tx_R_g (by omega) (sv_t hV ht))
  · intro i' hi'
    exact by rw [G _ _ (by omega), U _ (by omega)]; exact h6 i' hi'
  · intro i' hi'
    rw [nch_u (by omega)] at hi'
    exact by rw [G _ _ (by omega), U _ (by omega)]; exact h7 i' hi'
  · intro i' hi'
    have e : nwp (upd s 5 v) = nwp s + 1 := by unfold nwp; rw [pk_us]; exact hv
    rw [e] at hi'
    rw [G _ _ (by omega), U _ (by omega), G _ _ (by omega), U _ (by omega)]
    by_cases q : i' = nwp s
    · rw [q]; exact hn
    · exact h8 i' (by omega)
  · intro i' f' hi' hf'
    rw [nlg_u (by omega)] at hi'
    exact by rw [G _ _ (by omega), U _ (by omega)]; exact h9 i' f' hi' hf'
theorem sm_L (hV : sc_V w E b s g) (hc : wf_c s) (hv : v.toNatClampNeg = nlg s + 1) (hn : ∀ f, f < 3 → mu_I g (b + 11) (3 * nlg s + f) = s (360 + 3 * nlg s + f)) : sc_V w E b (upd s (7) v) (mu_sI g (b + 10) (2) v) := by
  have hE := sv_E hV
  have hb := wc_b hc
  obtain ⟨h0, ⟨c0, c1, c2, c3, c4, c5, c9, c6, c8, c7⟩, h2, h3, h4, h5, h6, h7, h8, h9⟩ := id hV
  have G : ∀ x z, (x ≠ b + 10 ∨ z ≠ 2) → mu_I (mu_sI g (b + 10) (2) v) x z = mu_I g x z := fun x z h => if_neg (fun q => by obtain ⟨q1, q2⟩ := q; rcases h with h | h; exact h q1; exact h q2)
  have U : ∀ j, j ≠ 7 → (upd s (7) v) j = s j := fun j h => pk_un h
  refine ⟨h0, ⟨?_, ?_, ?_, ?_, ?_, ?_, ?_, ?_, ?_, ?_⟩, ?_, ?_, ?_, ?_, ?_, ?_, ?_, ?_⟩
  · exact by rw [G _ _ (by omega), U _ (by omega)]; exact c0
  · exact by rw [G _ _ (by omega), U _ (by omega)]; exact c1
  · exact by rw [G _ _ (by omega), U _ (by omega)]; exact c2
  · exact by rw [G _ _ (by omega), U _ (by omega)]; exact c3
  · exact by rw [G _ _ (by omega), U _ (by omega)]; exact c4
  · exact by rw [G _ _ (by omega), U _ (by omega)]; exact c5
  · exact by rw [G _ _ (by omega), U _ (by omega)]; exact c9
  · exact by rw [G _ _ (by omega), U _ (by omega)]; exact c6
  · exact by rw [G _ _ (by omega), U _ (by omega)]; exact c8
  · exact by rw [I_sI_same, pk_us]
  · intro p' f' hp' hf'
    rw [np_u (by omega)] at hp'
    exact by rw [G _ _ (by omega), U _ (by omega)]; exact h2 p' f' hp' hf'
  · intro m' f' hm' hf'
    rw [nm_u (by omega)] at hm'
    exact by rw [G _ _ (by omega), U _ (by omega)]; exact h3 m' f' hm' hf'
  · intro i' hi'
    rw [nsg_u (by omega)] at hi'
    exact ⟨by rw [G _ _ (by omega), U _ (by omega)]; exact (h4 i' hi').1, by rw [G _ _ (by omega), U _ (by omega)]; exact (h4 i' hi').2⟩
  · intro t ht
    rw [ntx_u (by omega)] at ht
    exact tx_R_u (by omega) (tx_R_g (by omega) (sv_t hV ht))
  · intro i' hi'
    exact by rw [G _ _ (by omega), U _ (by omega)]; exact h6 i' hi'
  · intro i' hi'
    rw [nch_u (by omega)] at hi'
    exact by rw [G _ _ (by omega), U _ (by omega)]; exact h7 i' hi'
  · intro i' hi'
    rw [nwp_u (by omega)] at hi'
    exact ⟨by rw [G _ _ (by omega), U _ (by omega)]; exact (h8 i' hi').1, by rw [G _ _ (by omega), U _ (by omega)]; exact (h8 i' hi').2⟩
  · intro i' f' hi' hf'
    have e : nlg (upd s 7 v) = nlg s + 1 := by unfold nlg; rw [pk_us]; exact hv
    rw [e] at hi'
    rw [G _ _ (by omega), U _ (by omega)]
    by_cases q : i' = nlg s
    · rw [q]; exact hn f' hf'
    · exact h9 i' f' (by omega) hf'
end Up
