/-! rows that agree in what places and shifts rest on -/
def agZ (s c : Nat → Int32) : Prop := ∀ i, (i = 0 ∨ i = 1 ∨ i = 3 ∨ i = 4 ∨ i = 9 ∨ (20 ≤ i ∧ i < 52 ∧ i % 4 ≠ 3) ∨ (60 ≤ i ∧ i < 220) ∨ (260 ≤ i ∧ i < 266) ∨ (460 ≤ i ∧ i < 460 + 200 * ntx s)) → c i = s i
theorem rf_rl_c {wh v wh' v' nm : Nat → Int32} : ∀ {n : Nat}, (∀ k, k < n → wh k = wh' k ∧ v k = v' k) → rf_rl wh v nm n = rf_rl wh' v' nm n
  | 0, _ => rfl
  | n + 1, h => by
    unfold rf_rl
    rw [rf_rl_c (fun k hk => h k (by omega)), (h n (by omega)).1, (h n (by omega)).2]
section Az
variable {s c : Nat → Int32}
theorem az_np (h : agZ s c) : np c = np s := by unfold np; rw [h 0 (by omega)]
theorem az_nm (h : agZ s c) : nm c = nm s := by unfold nm; rw [h 1 (by omega)]
theorem az_ntx (h : agZ s c) : ntx c = ntx s := by unfold ntx; rw [h 3 (by omega)]
theorem az_nch (h : agZ s c) : nch c = nch s := by unfold nch; rw [h 4 (by omega)]
theorem az_vM (h : agZ s c) {m f : Nat} (hm : m < 20) (hf : f < 8) : vM c m f = vM s m f := by unfold vM; rw [h _ (by omega)]
theorem az_vP (h : agZ s c) {p f : Nat} (hp : p < 8) (hf : f < 3) : vP c p f = vP s p f := by unfold vP; rw [h _ (by omega)]
theorem az_vC (h : agZ s c) {k : Nat} (hk : k < 6) : vC c k = vC s k := by unfold vC; rw [h _ (by omega)]
theorem az_mDo (h : agZ s c) {m : Nat} (hm : m < 20) : mDo c m ↔ mDo s m := by unfold mDo; rw [az_vM h hm (by omega), az_vM h hm (by omega)]
theorem az_mGo (h : agZ s c) {m : Nat} (hm : m < 20) : mGo c m ↔ mGo s m := by unfold mGo; rw [az_vM h hm (by omega), az_vM h hm (by omega)]
theorem az_PL (h : agZ s c) (hn : nm s ≤ 20) {p : Nat} (hp : p < 8) (t : Nat) : PL c p t = PL s p t := by
  refine PL_c (az_vP h hp (by omega)) (az_nm h) (fun m hm => ?_) t
  rw [az_nm h] at hm
  refine ⟨?_, fun _ _ => ⟨az_vM h (by omega) (by omega), az_vM h (by omega) (by omega), az_vM h (by omega) (by omega)⟩⟩
  rw [az_mGo h (by omega), az_vM h (by omega) (by omega)]
theorem az_want (h : agZ s c) {m q : Nat} (hm : m < 20) : want c m q = want s m q := by unfold want; rw [az_vM h hm (by omega), az_vM h hm (by omega)]
theorem az_gpV (h : agZ s c) (hn : nm s ≤ 20) {m q : Nat} {lo : Int} {n : Nat} (hm : m < 20) (hw : vM s m 0 < 8) (hq : q < 8) : gpV c m q lo n = gpV s m q lo n := by
  unfold gpV
  rw [az_vM h hm (by omega), az_vM h hm (by omega)]
  exact mnF_c (fun i _ => by rw [az_PL h hn hw, az_PL h hn hq])
theorem az_last (h : agZ s c) {key : Int32} : ∀ {n : Nat}, n ≤ ntx s → rf_last c key n = rf_last s key n
  | 0, _ => rfl
  | n + 1, hn => by unfold rf_last; rw [h _ (by omega), az_last h (by omega)]
theorem az_val (h : agZ s c) (hT : wf_texts s (ntx s)) {t : Nat} {nm : Nat → Int32} (ht : t < ntx s) : tx_val c t nm = tx_val s t nm := by
  have hw := hT t ht
  have hn := hw.2.2.2.1.1
  have e3 : txn c t = txn s t := by unfold txn; rw [h _ (by omega)]
  unfold tx_val
  rw [e3, rf_rl_c (fun k hk => ⟨h _ (by omega), h _ (by omega)⟩)]
theorem az_late (h : agZ s c) (hc : wf_c s) (hT : wf_texts s (ntx s)) {p : Nat} (hp : p < 8) : sLate c p = sLate s p := by
  have hb := wc_b hc
  unfold sLate rf_late rf_law
  rw [az_ntx h, az_last h (Nat.le_refl _), h 9 (by omega), h _ (by omega), h _ (by omega)]
  rcases rf_last_ok (s := s) (key := 0) (n := ntx s) (by omega) with e | ⟨t, h1, h2, h3⟩
  · have hneg : (rf_last s 0 (ntx s)).toInt < 0 := by rw [e]; decide
    rw [if_pos hneg, if_pos hneg]
  · rw [h2, nI_clamp (by omega), az_val h hT h1]
theorem az_lateN (h : agZ s c) (hc : wf_c s) (hT : wf_texts s (ntx s)) {p : Nat} (hp : p < 8) : lateN c p = lateN s p := by unfold lateN; rw [az_late h hc hT hp]
theorem fBr_c {l l' : Nat → Nat} (h : agZ s c) (hc : wf_c s) (hm : wf_m 95 s) (hl : ∀ p, p < 8 → l p = l' p) : fBr c l = fBr s l' := by
  have hb := wc_b hc
  unfold fBr
  rw [az_nm h]
  refine fsN_c (fun m hm2 => and_congr (az_mDo h (by omega)) ?_)
  have hmb := wm_b hm hm2
  unfold brkA
  rw [az_np h]
  refine exists_congr (fun q => and_congr_right (fun hq => ?_))
  unfold brk
  rw [az_vM h (by omega) (by omega), az_vM h (by omega) (by omega), az_vM h (by omega) (by omega), az_vM h (by omega) (by omega), az_want h (by omega), hl q (by omega), hl (vM s m 0) (by omega), az_gpV h (by omega) (by omega) (by omega) (by omega)]
theorem az_shR (h : agZ s c) (hw : wf_s s) {r : Nat → Nat} : ∀ {n : Nat}, n ≤ nch s → agZ (shR s r n) (shR c r n) := by
  have hb := wc_b (ws_c hw)
  intro n
  induction n with
  | zero => intro _; exact h
  | succ n ih =>
    intro hn i hi
    have hci := ws_ch hw n (by omega)
    have e1 : bI' c n = bI' s n := by unfold bI'; rw [az_vC h (by omega)]
    have e2 : vM c (vC c n) 2 = vM s (vC s n) 2 := by rw [az_vC h (by omega), az_vM h (by omega) (by omega)]
    have en : ntx (shR s r (n + 1)) = ntx (shR s r n) := by rw [ab_ntx (shR_ag hw hn), ab_ntx (shR_ag hw (by omega))]
    unfold shR
    rw [e1, e2]
    by_cases q : i = bI' s n
    · rw [q, pk_us, pk_us]
    · rw [pk_un q, pk_un q]
      exact ih (by omega) i (by rw [en] at hi; exact hi)
theorem az_good (h : agZ s c) (hw : wf_s s) {f u t : Nat} : good c f u t ↔ good s f u t := by
  have hb := wc_b (ws_c hw)
  have hn : nK s ≤ nch s := by unfold nK; omega
  have eK : nK c = nK s := by unfold nK; rw [az_nch h]
  unfold good
  rw [eK]
  refine and_congr_right (fun hvd => ?_)
  have ha := shR_ag (r := tri f u t) hw hn
  have hz := az_shR (r := tri f u t) h hw hn
  have en := ab_nm ha
  unfold shOK
  rw [eK, az_nm h]
  refine and_congr ⟨fun q k hk => ?_, fun q k hk => ?_⟩ (and_congr ?_ ?_)
  · have := q k hk; rw [az_vC h (by omega), az_vM h (by have := (ws_ch hw k (by omega)).2.1; omega) (by omega)] at this; exact this
  · rw [az_vC h (by omega), az_vM h (by have := (ws_ch hw k (by omega)).2.1; omega) (by omega)]; exact q k hk
  · unfold wf_a
    rw [az_nm hz]
    constructor
    · intro q a b ha' hb' hne he
      have := q a b ha' hb' hne (by rw [az_vM hz (by omega) (by omega), az_vM hz (by omega) (by omega)]; exact he)
      rw [az_vM hz (by omega) (by omega), az_vM hz (by omega) (by omega), az_vM hz (by omega) (by omega), az_vM hz (by omega) (by omega)] at this
      exact this
    · intro q a b ha' hb' hne he
      rw [az_vM hz (by omega) (by omega), az_vM hz (by omega) (by omega)] at he
      rw [az_vM hz (by omega) (by omega), az_vM hz (by omega) (by omega), az_vM hz (by omega) (by omega), az_vM hz (by omega) (by omega)]
      exact q a b ha' hb' hne he
  · rw [fBr_c (l := lateN c) (l' := lateN s) hz (ab_c ha (ws_c hw)) (shR_m95 hw hn (fun k _ => tri_le hvd)) (fun p hp => az_lateN h (ws_c hw) (ws_t hw) hp)]
theorem az_caC {y : Nat} {g g' : mu_H} (h : agZ s c) (hw : wf_s s) (hca : caC y s g) (h1 : mu_I g' y 17 = mu_I g y 17) (h2 : mu_I g' y 18 = mu_I g y 18) (h3 : mu_I g' y 34 = mu_I g y 34) (h4 : mu_I g' (y + 15) = mu_I g (y + 15)) (h5 : mu_I g' (y + 21) = mu_I g (y + 21)) : caC y c g' := by
  have hb := wc_b (ws_c hw)
  unfold caC
  rw [h1, h2]
  refine ⟨hca.1.imp id (fun q => ⟨q.1, fun p hp T hT => ?_⟩), hca.2.imp id (fun q => ⟨q.1, ?_⟩)⟩
  · rw [az_np h] at hp
    rw [h4, az_PL h (by omega) (by omega)]
    exact q.2 p hp T hT
  · have eK : nK c = nK s := by unfold nK; rw [az_nch h]
    unfold shfC
    rw [h3, h5, eK]
    rcases q.2 with ⟨f, u, t, q1, q2, q3⟩ | ⟨q1, q2⟩
    · exact Or.inl ⟨f, u, t, ⟨(az_good h hw).mpr q1.1, fun f' u' t' h' => q1.2 f' u' t' ((az_good h hw).mp h')⟩, q2, q3⟩
    · exact Or.inr ⟨fun f u t h' => q1 f u t ((az_good h hw).mp h'), q2⟩
end Az
