/-! ROWS: what a row's being right rests on -/
section Wg
variable {s c : Nat → Int32} {B : Nat}
theorem cg_c (h : ∀ i, i < 10 → i ≠ 8 → c i = s i) (hw : wf_c s) : wf_c c := by
  unfold wf_c np nm nsg ntx nch nwp nsh nlg nwt at *
  rw [h 0 (by omega) (by omega), h 1 (by omega) (by omega), h 2 (by omega) (by omega), h 3 (by omega) (by omega), h 4 (by omega) (by omega), h 5 (by omega) (by omega), h 6 (by omega) (by omega), h 7 (by omega) (by omega), h 9 (by omega) (by omega)]
  exact hw
theorem cg_vP {p f : Nat} (h : c (20 + 4 * p + f) = s (20 + 4 * p + f)) : vP c p f = vP s p f := by unfold vP; rw [h]
theorem cg_vM {p f : Nat} (h : c (60 + 8 * p + f) = s (60 + 8 * p + f)) : vM c p f = vM s p f := by unfold vM; rw [h]
theorem cg_p1 {p : Nat} (h : ∀ f, f < 3 → c (20 + 4 * p + f) = s (20 + 4 * p + f)) (q : (∀ f, f < 3 → s (20 + 4 * p + f) = nI (vP s p f)) ∧ vP s p 0 / 10 ≤ 11 ∧ vP s p 0 % 10 ≤ 7 ∧ vP s p 1 ≤ 9 ∧ vP s p 2 ≤ 99) : (∀ f, f < 3 → c (20 + 4 * p + f) = nI (vP c p f)) ∧ vP c p 0 / 10 ≤ 11 ∧ vP c p 0 % 10 ≤ 7 ∧ vP c p 1 ≤ 9 ∧ vP c p 2 ≤ 99 := by
  rw [cg_vP (h 0 (by omega)), cg_vP (h 1 (by omega)), cg_vP (h 2 (by omega))]
  exact ⟨fun f hf => by rw [h f hf, cg_vP (h f hf)]; exact q.1 f hf, q.2⟩
theorem cg_p (e0 : np c = np s) (h : ∀ p f, p < np s → f < 3 → c (20 + 4 * p + f) = s (20 + 4 * p + f)) (hw : wf_p s) : wf_p c := fun p hp => by
  rw [e0] at hp
  exact cg_p1 (fun f hf => h p f hp hf) (hw p hp)
theorem cg_m1 {m : Nat} (e0 : np s ≤ np c) (h : ∀ f, f < 8 → c (60 + 8 * m + f) = s (60 + 8 * m + f)) (q : (∀ f, f < 8 → s (60 + 8 * m + f) = nI (vM s m f)) ∧ vM s m 0 < np s ∧ vM s m 1 ≤ 5 ∧ vM s m 2 ≤ B ∧ 1 ≤ vM s m 3 ∧ vM s m 3 ≤ 4 ∧ vM s m 4 / 10 ≤ 11 ∧ vM s m 4 % 10 ≤ 7 ∧ vM s m 5 < np s ∧ vM s m 5 ≠ vM s m 0 ∧ vM s m 6 ≤ 9 ∧ vM s m 7 ≤ 1) : (∀ f, f < 8 → c (60 + 8 * m + f) = nI (vM c m f)) ∧ vM c m 0 < np c ∧ vM c m 1 ≤ 5 ∧ vM c m 2 ≤ B ∧ 1 ≤ vM c m 3 ∧ vM c m 3 ≤ 4 ∧ vM c m 4 / 10 ≤ 11 ∧ vM c m 4 % 10 ≤ 7 ∧ vM c m 5 < np c ∧ vM c m 5 ≠ vM c m 0 ∧ vM c m 6 ≤ 9 ∧ vM c m 7 ≤ 1 := by
  rw [cg_vM (h 0 (by omega)), cg_vM (h 1 (by omega)), cg_vM (h 2 (by omega)), cg_vM (h 3 (by omega)), cg_vM (h 4 (by omega)), cg_vM (h 5 (by omega)), cg_vM (h 6 (by omega)), cg_vM (h 7 (by omega))]
  obtain ⟨q0, q1, q2, q3, q4, q5, q6, q7, q8, q9⟩ := q
  exact ⟨fun f hf => by rw [h f hf, cg_vM (h f hf)]; exact q0 f hf, by omega, q2, q3, q4, q5, q6, q7, by omega, q9⟩
theorem cg_m (e0 : np s ≤ np c) (e1 : nm c = nm s) (h : ∀ m f, m < nm s → f < 8 → c (60 + 8 * m + f) = s (60 + 8 * m + f)) (hw : wf_m B s) : wf_m B c := fun m hm => by
  rw [e1] at hm
  exact cg_m1 e0 (fun f hf => h m f hm hf) (hw m hm)
theorem cg_a (e1 : nm c = nm s) (h : ∀ m f, m < nm s → f = 0 ∨ f = 2 ∨ f = 3 → c (60 + 8 * m + f) = s (60 + 8 * m + f)) (hw : wf_a s) : wf_a c := fun a b ha hb hne he => by
  rw [e1] at ha hb
  rw [cg_vM (h a 0 ha (by omega)), cg_vM (h b 0 hb (by omega))] at he
  rw [cg_vM (h a 2 ha (by omega)), cg_vM (h a 3 ha (by omega)), cg_vM (h b 2 hb (by omega)), cg_vM (h b 3 hb (by omega))]
  exact hw a b ha hb hne he
theorem cg_g1 {i : Nat} (e0 : np s ≤ np c) (h : ∀ f, f < 2 → c (220 + 2 * i + f) = s (220 + 2 * i + f)) (q : (∀ f, f < 2 → s (220 + 2 * i + f) = nI (vG s i f)) ∧ vG s i 0 < np s ∧ vG s i 1 ≤ 99) : (∀ f, f < 2 → c (220 + 2 * i + f) = nI (vG c i f)) ∧ vG c i 0 < np c ∧ vG c i 1 ≤ 99 := by
  have e : ∀ f, f < 2 → vG c i f = vG s i f := fun f hf => by unfold vG; rw [h f hf]
  rw [e 0 (by omega), e 1 (by omega)]
  exact ⟨fun f hf => by rw [h f hf, e f hf]; exact q.1 f hf, by omega, q.2.2⟩
theorem cg_g (e0 : np s ≤ np c) (e1 : nsg c = nsg s) (h : ∀ i f, i < nsg s → f < 2 → c (220 + 2 * i + f) = s (220 + 2 * i + f)) (hw : wf_g s) : wf_g c := fun i hi => by
  rw [e1] at hi
  exact cg_g1 e0 (fun f hf => h i f hi hf) (hw i hi)
theorem cg_ch (e0 : nm s ≤ nm c) (e1 : nch c ≤ nch s) (h : ∀ i, i < nch c → c (260 + i) = s (260 + i)) (hw : wf_ch s) : wf_ch c := fun i hi => by
  have e : ∀ j, j < nch c → vC c j = vC s j := fun j hj => by unfold vC; rw [h j hj]
  obtain ⟨q1, q2, q3⟩ := hw i (by omega)
  rw [e i hi, h i hi]
  exact ⟨q1, by omega, fun j hj hE => by rw [e j hj] at hE; exact q3 j (by omega) hE⟩
theorem cg_w (e0 : np c = np s) (e1 : nwp c = nwp s) (h : ∀ k, k < nwp s → c (270 + 2 * k) = s (270 + 2 * k) ∧ c (270 + 2 * k + 1) = s (270 + 2 * k + 1)) (h2 : ∀ p, p < np s → c (20 + 4 * p + 3) = s (20 + 4 * p + 3)) (hw : wf_w s) : wf_w c := by
  refine ⟨fun k hk => ?_, fun p hp => ?_⟩
  · rw [e1] at hk
    obtain ⟨q1, q2, q3⟩ := hw.1 k hk
    have e : vW c k = vW s k := by unfold vW; rw [(h k hk).1]
    rw [e, (h k hk).1, (h k hk).2, e0]
    exact ⟨q1, q2, q3.imp id (fun ⟨p, p1, p2, p3⟩ => ⟨p, p1, p2, by rw [h2 p p1]; exact p3⟩)⟩
  · rw [e0] at hp
    rw [h2 p hp, e1]
    exact (hw.2 p hp).imp id (fun ⟨k, k1, k2, k3⟩ => ⟨k, k1, k2, by rw [(h k k1).2]; exact k3⟩)
theorem cg_h (h : ∀ k, k < 64 → c (290 + k) = s (290 + k)) (hw : wf_h s) : wf_h c := by
  have e : ∀ k, k < 64 → vH c k = vH s k := fun k hk => by unfold vH; rw [h k hk]
  exact ⟨fun k hk => by rw [e k hk, h k hk]; exact hw.1 k hk, fun a b ha hb => by rw [e _ (by omega), e _ (by omega)]; exact hw.2 a b ha hb⟩
theorem cg_l (e0 : nm s ≤ nm c) (e1 : nlg c = nlg s) (h : ∀ i f, i < nlg s → f < 3 → c (360 + 3 * i + f) = s (360 + 3 * i + f)) (hw : wf_l s) : wf_l c := fun i hi => by
  rw [e1] at hi
  have e : ∀ f, f < 3 → vL c i f = vL s i f := fun f hf => by unfold vL; rw [h i f hi hf]
  obtain ⟨q1, q2⟩ := hw i hi
  exact ⟨fun f hf => by rw [e f hf, h i f hi hf]; exact q1 f hf, by rw [e 1 (by omega)]; omega⟩
theorem cg_x1 {t : Nat} (h : ∀ i, i < 4 + 2 * txn s t → c (460 + 200 * t + i) = s (460 + 200 * t + i)) (hw : wf_text s t) : wf_text c t := by
  have e3 : txn c t = txn s t := by unfold txn; rw [h 2 (by omega)]
  have e4 : txl c t = txl s t := by unfold txl; rw [h 1 (by omega)]
  have e1 : ∀ k, k < txn s t → txw c t k = txw s t k := fun k hk => by have e := h (4 + 2 * k) (by omega); rw [show 460 + 200 * t + (4 + 2 * k) = 460 + 200 * t + 4 + 2 * k by omega] at e; exact e
  have e2 : ∀ k, k < txn s t → txv c t k = txv s t k := fun k hk => by have e := h (4 + 2 * k + 1) (by omega); rw [show 460 + 200 * t + (4 + 2 * k + 1) = 460 + 200 * t + 4 + 2 * k + 1 by omega] at e; exact e
  obtain ⟨q1, q2, q3, ⟨o1, o2, o3, o4, o5⟩, q5⟩ := hw
  have eh : ∀ n, n ≤ txn s t → rf_ht (txw c t) (txv c t) n = rf_ht (txw s t) (txv s t) n := fun n => by
    induction n with
    | zero => intro _; rfl
    | succ n ih =>
      intro hn
      unfold rf_ht
      rw [ih (by omega), e1 n (by omega), e2 n (by omega)]
  have h0 : c (460 + 200 * t) = s (460 + 200 * t) := h 0 (by omega)
  unfold wf_text tx_ok
  rw [e3, e4, h 2 (by omega), h 1 (by omega), h0]
  refine ⟨q1, q2, q3, ⟨o1, o2, o3, by rw [eh _ (Nat.le_refl _)]; exact o4, fun k hk => ?_⟩, fun k hk => ?_⟩
  · rw [eh k hk]
    refine ⟨(o5 k hk).1, fun hk2 => ?_⟩
    rw [e1 k hk2, e2 k hk2]
    exact (o5 k hk).2 hk2
  · rw [e1 k hk, e2 k hk]
    exact q5 k hk
theorem cg_t (e1 : ntx c = ntx s) (h : ∀ i, 460 ≤ i → i < 460 + 200 * ntx s → c i = s i) (hw : wf_texts s (ntx s)) : wf_texts c (ntx c) := fun t ht => by
  rw [e1] at ht
  have := (hw t ht).2.2.2.1.1
  exact cg_x1 (fun i hi => h _ (by omega) (by omega)) (hw t ht)
/-- a row that agrees with a right one but for what is told of -/
theorem cg_s (hw : wf_s s) (h : ∀ i, i ≠ 8 → i < 460 + 200 * ntx s → c i = s i) : wf_s c := by
  obtain ⟨h1, h2, h3, h4, h5, h6, h7, h8, h9, h10⟩ := hw
  have hb := wc_b h1
  have e0 : np c = np s := by unfold np; rw [h 0 (by omega) (by omega)]
  have e1 : nm c = nm s := by unfold nm; rw [h 1 (by omega) (by omega)]
  have e2 : nsg c = nsg s := by unfold nsg; rw [h 2 (by omega) (by omega)]
  have e3 : ntx c = ntx s := by unfold ntx; rw [h 3 (by omega) (by omega)]
  have e4 : nch c = nch s := by unfold nch; rw [h 4 (by omega) (by omega)]
  have e5 : nwp c = nwp s := by unfold nwp; rw [h 5 (by omega) (by omega)]
  have e7 : nlg c = nlg s := by unfold nlg; rw [h 7 (by omega) (by omega)]
  exact ⟨cg_c (fun i hi h8 => h i h8 (by omega)) h1, cg_p e0 (fun p f hp hf => h _ (by omega) (by omega)) h2, cg_m (by omega) e1 (fun m f hm hf => h _ (by omega) (by omega)) h3, cg_a e1 (fun m f hm hf => h _ (by omega) (by omega)) h4, cg_g (by omega) e2 (fun i f hi hf => h _ (by omega) (by omega)) h5, cg_ch (by omega) (by omega) (fun i hi => h _ (by omega) (by omega)) h6, cg_w e0 e5 (fun k hk => ⟨h _ (by omega) (by omega), h _ (by omega) (by omega)⟩) (fun p hp => h _ (by omega) (by omega)) h7, cg_h (fun k hk => h _ (by omega) (by omega)) h8, cg_l (by omega) e7 (fun i f hi hf => h _ (by omega) (by omega)) h9, cg_t e3 (fun i _ hi => h i (by omega) hi) h10⟩
end Wg
