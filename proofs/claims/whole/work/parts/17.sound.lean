/-! OWN SMALL MACHINE, PART 13: soundness -/
section Mu15
variable {w : mu_O} {mi : mu_M} {d : Nat} {L : Nat × Nat} {Q : Option Value → mu_H → Prop} {pc : Nat} {ls : List (Option Value)} {st : List Value} {g : mu_H}
set_option maxHeartbeats 4000000 in
set_option maxRecDepth 100000 in
theorem mu_step_sound {i : Instr} {n : Nat} {K : mu_C} (hm : mu_ok mi = true) (hat : mu_at (mu_mC mi) pc = some (i, n)) (h : mu_step w mi d L Q i n K pc ls st g) (hK : ∀ pc' ls' st' g', K pc' ls' st' g' → mu_go w mi d L Q pc' ls' st' g') : mu_go w mi d L Q pc ls st g := by
  obtain ⟨hd, hn, ha⟩ := mu_okI_e hm hat
  obtain ⟨k18, kown, -, -, -⟩ := mu_ok_e hm
  cases i
  case iconst v =>
    have hn : n = 1 := hn
    subst hn
    exact mu_go_iconst hd (hK _ _ _ _ h)
  case bipush v =>
    have hn : n = 2 := hn
    subst hn
    exact mu_go_bipush hd (of_decide_eq_true ha) (hK _ _ _ _ h)
  case sipush v =>
    have hn : n = 3 := hn
    subst hn
    exact mu_go_sipush hd (of_decide_eq_true ha) (hK _ _ _ _ h)
  case lconst v =>
    have hn : n = 1 := hn
    subst hn
    exact mu_go_lconst hd (hK _ _ _ _ h)
  case aconst_null =>
    have hn : n = 1 := hn
    subst hn
    exact mu_go_null hd (hK _ _ _ _ h)
  case ldc x =>
    have hn : n = 2 := hn
    subst hn
    unfold mu_step at h
    dsimp only at h
    split at h
    · rename_i v wi hl
      have h1 := mu_k_of mu_kC k18 (mu_look_mem hl)
      unfold mu_ckC at h1
      rw [kown] at h1
      exact mu_go_ldc hd (mu_w_e h1) (hK _ _ _ _ h)
    · rename_i j hl
      have h1 := mu_k_of mu_kC k18 (mu_look_mem hl)
      unfold mu_ckC at h1
      rw [kown] at h1
      dsimp only at h1
      split at h1
      · rename_i q hq
        simp only [Bool.and_eq_true] at h1
        exact mu_go_ldcS hd hq (of_decide_eq_true h1.1) (Nat.eq_of_beq_eq_true h1.2) (hK _ _ _ _ h)
      · cases h1
    · exact h.elim
  case ldc_w x =>
    have hn : n = 3 := hn
    subst hn
    unfold mu_step at h
    dsimp only at h
    split at h
    · rename_i v wi hl
      have h1 := mu_k_of mu_kC k18 (mu_look_mem hl)
      unfold mu_ckC at h1
      rw [kown] at h1
      exact mu_go_ldcw hd (mu_w_e h1) (hK _ _ _ _ h)
    · exact h.elim
  case ldc2_w x =>
    have hn : n = 3 := hn
    subst hn
    unfold mu_step at h
    dsimp only at h
    split at h
    · rename_i v wi hl
      have h1 := mu_k_of mu_kL k18 (mu_look_mem hl)
      unfold mu_ckL at h1
      rw [kown] at h1
      exact mu_go_ldc2 hd (mu_w_e h1) (hK _ _ _ _ h)
    · exact h.elim
  case iload x =>
    have hn : n = 2 := hn
    subst hn
    obtain ⟨v, hv, h⟩ := mu_ldI_e h
    exact mu_go_iload hd hv (hK _ _ _ _ h)
  case iload_n x =>
    have hn : n = 1 := hn
    subst hn
    obtain ⟨v, hv, h⟩ := mu_ldI_e h
    exact mu_go_iload_n hd hv (hK _ _ _ _ h)
  case lload x =>
    have hn : n = 2 := hn
    subst hn
    obtain ⟨v, hv, h⟩ := mu_ldL_e h
    exact mu_go_lload hd hv (hK _ _ _ _ h)
  case lload_n x =>
    have hn : n = 1 := hn
    subst hn
    obtain ⟨v, hv, h⟩ := mu_ldL_e h
    exact mu_go_lload_n hd hv (hK _ _ _ _ h)
  case aload x =>
    have hn : n = 2 := hn
    subst hn
    obtain ⟨v, hv, h⟩ := mu_ldA_e h
    exact mu_go_aload hd hv (hK _ _ _ _ h)
  case aload_n x =>
    have hn : n = 1 := hn
    subst hn
    obtain ⟨v, hv, h⟩ := mu_ldA_e h
    exact mu_go_aload_n hd hv (hK _ _ _ _ h)
  case istore x =>
    have hn : n = 2 := hn
    subst hn
    obtain ⟨v, r, rfl, h⟩ := mu_p1_e h
    obtain ⟨h1, h⟩ := mu_sto_e h
    exact mu_go_istore hd (Nat.le_of_ble_eq_true ha) h1 (hK _ _ _ _ h)
  case istore_n x =>
    have hn : n = 1 := hn
    subst hn
    obtain ⟨v, r, rfl, h⟩ := mu_p1_e h
    obtain ⟨h1, h⟩ := mu_sto_e h
    exact mu_go_istore_n hd (Nat.le_of_ble_eq_true ha) h1 (hK _ _ _ _ h)
  case astore x =>
    have hn : n = 2 := hn
    subst hn
    obtain ⟨v, r, rfl, h⟩ := mu_pr_e h
    obtain ⟨h1, h⟩ := mu_sto_e h
    exact mu_go_astore hd (Nat.le_of_ble_eq_true ha) h1 (hK _ _ _ _ h)
  case astore_n x =>
    have hn : n = 1 := hn
    subst hn
    obtain ⟨v, r, rfl, h⟩ := mu_pr_e h
    obtain ⟨h1, h⟩ := mu_sto_e h
    exact mu_go_astore_n hd (Nat.le_of_ble_eq_true ha) h1 (hK _ _ _ _ h)
  case iinc x c0 =>
    have hn : n = 3 := hn
    subst hn
    unfold mu_step at h
    dsimp only at h
    split at h
    · rename_i v hv
      obtain ⟨h1, h⟩ := mu_sto_e h
      exact mu_go_iinc hd (Nat.le_of_ble_eq_true ha) hv h1 (hK _ _ _ _ h)
    · exact h.elim
  case iadd =>
    have hn : n = 1 := hn
    subst hn
    obtain ⟨x, y, r, rfl, h⟩ := mu_p2_e h
    exact mu_go_bin (hK _ _ _ _ h) (fun _ _ _ _ _ _ _ _ _ _ _ _ _ _ _ _ hx hb k => lv_iadd hx hb hd k)
  case isub =>
    have hn : n = 1 := hn
    subst hn
    obtain ⟨x, y, r, rfl, h⟩ := mu_p2_e h
    exact mu_go_bin (hK _ _ _ _ h) (fun _ _ _ _ _ _ _ _ _ _ _ _ _ _ _ _ hx hb k => lv_isub hx hb hd k)
  case imul =>
    have hn : n = 1 := hn
    subst hn
    obtain ⟨x, y, r, rfl, h⟩ := mu_p2_e h
    exact mu_go_bin (hK _ _ _ _ h) (fun _ _ _ _ _ _ _ _ _ _ _ _ _ _ _ _ hx hb k => lv_imul hx hb hd k)
  case idiv =>
    have hn : n = 1 := hn
    subst hn
    obtain ⟨x, y, r, rfl, h0, h⟩ := mu_p2_e h
    exact mu_go_bin (hK _ _ _ _ h) (fun _ _ _ _ _ _ _ _ _ _ _ _ _ _ _ _ hx hb k => lv_idiv hx hb hd h0 k)
  case irem =>
    have hn : n = 1 := hn
    subst hn
    obtain ⟨x, y, r, rfl, h0, h⟩ := mu_p2_e h
    rw [← irem_eq_mod] at h
    exact mu_go_bin (hK _ _ _ _ h) (fun _ _ _ _ _ _ _ _ _ _ _ _ _ _ _ _ hx hb k => lv_irem hx hb hd h0 k)
  case iand =>
    have hn : n = 1 := hn
    subst hn
    obtain ⟨x, y, r, rfl, h⟩ := mu_p2_e h
    exact mu_go_bin (hK _ _ _ _ h) (fun _ _ _ _ _ _ _ _ _ _ _ _ _ _ _ _ hx hb k => lv_iand hx hb hd k)
  case ior =>
    have hn : n = 1 := hn
    subst hn
    obtain ⟨x, y, r, rfl, h⟩ := mu_p2_e h
    exact mu_go_bin (hK _ _ _ _ h) (fun _ _ _ _ _ _ _ _ _ _ _ _ _ _ _ _ hx hb k => lv_ior hx hb hd k)
  case ishl =>
    have hn : n = 1 := hn
    subst hn
    obtain ⟨x, y, r, rfl, h⟩ := mu_p2_e h
    exact mu_go_bin (hK _ _ _ _ h) (fun _ _ _ _ _ _ _ _ _ _ _ _ _ _ _ _ hx hb k => lv_ishl hx hb hd k)
  case ishr =>
    have hn : n = 1 := hn
    subst hn
    obtain ⟨x, y, r, rfl, h⟩ := mu_p2_e h
    exact mu_go_bin (hK _ _ _ _ h) (fun _ _ _ _ _ _ _ _ _ _ _ _ _ _ _ _ hx hb k => lv_ishr hx hb hd k)
  case iushr =>
    have hn : n = 1 := hn
    subst hn
    obtain ⟨x, y, r, rfl, h⟩ := mu_p2_e h
    exact mu_go_bin (hK _ _ _ _ h) (fun _ _ _ _ _ _ _ _ _ _ _ _ _ _ _ _ hx hb k => lv_iushr hx hb hd rfl k)
  case ineg =>
    have hn : n = 1 := hn
    subst hn
    obtain ⟨x, r, rfl, h⟩ := mu_p1_e h
    exact mu_lift (fun _ _ _ _ _ _ _ _ _ _ _ _ _ _ _ _ _ hc _ _ k => lv_ineg hc.1 hc.2.1 hd k) (hK _ _ _ _ h)
  case i2l =>
    have hn : n = 1 := hn
    subst hn
    obtain ⟨x, r, rfl, h⟩ := mu_p1_e h
    exact mu_lift (fun _ _ _ _ _ _ _ _ _ _ _ _ _ _ _ _ _ hc _ _ k => lv_i2l hc.1 hc.2.1 hd rfl k) (hK _ _ _ _ h)
  case i2b =>
    have hn : n = 1 := hn
    subst hn
    obtain ⟨x, r, rfl, h⟩ := mu_p1_e h
    exact mu_lift (fun _ _ _ _ _ _ _ _ _ _ _ _ _ _ _ _ _ hc _ _ k => lv_i2b hc.1 hc.2.1 hd rfl k) (hK _ _ _ _ h)
  case i2c =>
    have hn : n = 1 := hn
    subst hn
    obtain ⟨x, r, rfl, h⟩ := mu_p1_e h
    exact mu_lift (fun _ _ _ _ _ _ _ _ _ _ _ _ _ _ _ _ _ hc _ _ k => lv_i2c hc.1 hc.2.1 hd rfl k) (hK _ _ _ _ h)
  case ladd =>
    have hn : n = 1 := hn
    subst hn
    obtain ⟨x, y, r, rfl, h⟩ := mu_q2_e h
    exact mu_lift (fun _ _ _ _ _ _ _ _ _ _ _ _ _ _ _ _ _ hc _ _ k => lv_ladd hc.1 hc.2.1 hd k) (hK _ _ _ _ h)
  case lcmp =>
    have hn : n = 1 := hn
    subst hn
    obtain ⟨x, y, r, rfl, h⟩ := mu_q2_e h
    exact mu_lift (fun _ _ _ _ _ _ _ _ _ _ _ _ _ _ _ _ _ hc _ _ k => W.lcmp hc.1 hc.2.1 hd k) (hK _ _ _ _ h)
  case dup =>
    have hn : n = 1 := hn
    subst hn
    unfold mu_step at h
    dsimp only at h
    split at h
    · exact mu_lift (fun _ _ _ _ _ _ _ _ _ _ _ _ _ _ _ _ _ hc _ _ k => lv_dup hc.1 hc.2.1 hd rfl k) (hK _ _ _ _ h)
    · exact mu_lift (fun _ _ _ _ _ _ _ _ _ _ _ _ _ _ _ _ _ hc _ _ k => lv_dup hc.1 hc.2.1 hd (mu_V_cat _) k) (hK _ _ _ _ h)
    · exact h.elim
  case dup2 =>
    have hn : n = 1 := hn
    subst hn
    obtain ⟨a, j, r, rfl, h⟩ := mu_pir_e h
    exact mu_lift (fun _ _ _ _ _ _ _ _ _ _ _ _ _ _ _ _ _ hc _ _ k => lv_dup2_11 hc.1 hc.2.1 hd rfl (mu_V_cat _) k) (hK _ _ _ _ h)
  case pop =>
    have hn : n = 1 := hn
    subst hn
    unfold mu_step at h
    dsimp only at h
    split at h
    · exact mu_lift (fun _ _ _ _ _ _ _ _ _ _ _ _ _ _ _ _ _ hc _ _ k => lv_pop hc.1 hc.2.1 hd rfl k) (hK _ _ _ _ h)
    · exact mu_lift (fun _ _ _ _ _ _ _ _ _ _ _ _ _ _ _ _ _ hc _ _ k => lv_pop hc.1 hc.2.1 hd (mu_V_cat _) k) (hK _ _ _ _ h)
    · exact h.elim
  case goto off =>
    have hn : n = 3 := hn
    subst hn
    exact mu_go_goto hd (of_decide_eq_true ha) (hK _ _ _ _ h)
  case ifCond c off =>
    have hn : n = 3 := hn
    subst hn
    obtain ⟨x, r, rfl, h1, h2⟩ := mu_p1_e h
    exact mu_go_ifc hd (of_decide_eq_true ha) (fun q => hK _ _ _ _ (h1 q)) (fun q => hK _ _ _ _ (h2 q))
  case if_icmp c off =>
    have hn : n = 3 := hn
    subst hn
    obtain ⟨x, y, r, rfl, h1, h2⟩ := mu_p2_e h
    exact mu_go_icmp hd (of_decide_eq_true ha) (fun q => hK _ _ _ _ (h1 q)) (fun q => hK _ _ _ _ (h2 q))
  case ifnull off =>
    have hn : n = 3 := hn
    subst hn
    obtain ⟨a, r, rfl, h1, h2⟩ := mu_pr_e h
    exact mu_go_ifnull hd (of_decide_eq_true ha) (fun q => hK _ _ _ _ (h1 q)) (fun q => hK _ _ _ _ (h2 q))
  case ifnonnull off =>
    have hn : n = 3 := hn
    subst hn
    obtain ⟨a, r, rfl, h1, h2⟩ := mu_pr_e h
    exact mu_go_ifnonnull hd (of_decide_eq_true ha) (fun q => hK _ _ _ _ (h1 q)) (fun q => hK _ _ _ _ (h2 q))
  case tableswitch dflt lo hi offs =>
    obtain ⟨x, r, rfl, h1, h2⟩ := mu_p1_e h
    have ha : (mu_nn pc dflt && offs.toList.all (mu_nn pc) && decide ((offs.size : Int) = hi - lo + 1)) = true := ha
    simp only [Bool.and_eq_true] at ha
    exact mu_go_table hd (of_decide_eq_true ha.1.1) (fun o ho => of_decide_eq_true (List.all_eq_true.mp ha.1.2 o ho)) (of_decide_eq_true ha.2) (fun q => hK _ _ _ _ (h1 q)) (fun j off hj hx => hK _ _ _ _ (mu_sw_e h2 hj hx))
  case lookupswitch dflt ps =>
    obtain ⟨x, r, rfl, h1⟩ := mu_p1_e h
    have ha : (mu_nn pc dflt && ps.toList.all (fun q => mu_nn pc q.2) && (ps.toList.zip (ps.toList.drop 1)).all (fun (a, next) => a.1 < next.1)) = true := ha
    simp only [Bool.and_eq_true] at ha
    have h2 := mu_lw_e (K := fun t => K t ls r g) h1
    have h0 : 0 ≤ (pc : Int) + Op.lookupswitch.offset ps.toList dflt x.toInt := by
      have hall := ha.1.2
      have hdf : 0 ≤ (pc : Int) + dflt := of_decide_eq_true ha.1.1
      generalize ps.toList = l at hall
      induction l with
      | nil => exact hdf
      | cons q t ih =>
        rw [List.all_cons, Bool.and_eq_true] at hall
        have h3 : 0 ≤ (pc : Int) + q.2 := of_decide_eq_true hall.1
        have h4 := ih hall.2
        obtain ⟨qk, qo⟩ := q
        by_cases hk : qk = x.toInt
        · simpa [Op.lookupswitch.offset, hk] using h3
        · have hk2 : ¬ x.toInt = qk := fun e => hk e.symm
          simpa [Op.lookupswitch.offset, hk, hk2] using h4
    exact mu_lift (fun _ _ _ _ _ _ _ _ _ _ _ _ _ _ _ _ _ hc _ _ k => lv_lookup hc.1 hc.2.1 hd ha.2 rfl (Int.toNat_of_nonneg h0).symm k) (hK _ _ _ _ h2)
  case getfield x =>
    have hn : n = 3 := hn
    subst hn
    unfold mu_step at h
    dsimp only at h
    split at h
    · rename_i c f wi hl
      obtain ⟨a, r, rfl, ht, h⟩ := mu_pr_e h
      rcases mu_ckF_e k18 hl with ⟨hc, q, hq, hf, hw⟩ | ⟨rfl, n0, d0, hf, hw⟩
      · rw [kown] at hw
        have e0 : mu_fR c f = mu_isR (mu_Ty c f) := by
          unfold mu_fR
          have : Nat.beq c 12 = false := by
            cases hb : Nat.beq c 12 with
            | false => rfl
            | true => have := Nat.eq_of_beq_eq_true hb; omega
          rw [this]
        rw [e0] at h
        refine mu_go_get hc hd hq hf hw ht (hK _ _ _ _ ?_)
        unfold mu_Fv
        cases hb : mu_isR (mu_Ty c f) with
        | true => rw [hb] at h; exact h
        | false => rw [hb] at h; exact h
      · rw [kown] at hw
        refine mu_go_getS hd hf hw ht (hK _ _ _ _ ?_)
        rcases hf with ⟨rfl, -, -⟩ | ⟨rfl, -, -⟩
        · exact h
        · exact h
    · exact h.elim
  case putfield x =>
    have hn : n = 3 := hn
    subst hn
    unfold mu_step at h
    unfold mu_okA at ha
    dsimp only at h ha
    split at h
    · rename_i c f wi hl
      rw [hl] at ha
      dsimp only at ha
      rcases mu_ckF_e k18 hl with ⟨hc, q, hq, hf, hw⟩ | ⟨rfl, n0, d0, hf, hw⟩
      · rw [kown] at hw
        rw [hq] at ha
        have hfin : (q.2.1 f).2.2.2 = false ∨ ((mu_mY mi).name = "<init>" ∧ (q.2.1 f).1 = (mu_mY mi).cls) := by
          simp only [Bool.or_eq_true, Bool.not_eq_true', Bool.and_eq_true] at ha
          rcases ha with ha | ha
          · exact Or.inl ha
          · exact Or.inr ⟨of_decide_eq_true ha.1, of_decide_eq_true ha.2⟩
        obtain ⟨q', hq', -, -, -, -, -, -, -, hkd⟩ := mu_cls hc
        cases hq.symm.trans hq'
        have e0 : mu_fR c f = mu_isR (mu_Ty c f) := by
          unfold mu_fR
          have : Nat.beq c 12 = false := by
            cases hb : Nat.beq c 12 with
            | false => rfl
            | true => have := Nat.eq_of_beq_eq_true hb; omega
          rw [this]
        rw [e0] at h
        cases hb : mu_isR (mu_Ty c f) with
        | true =>
          rw [hb] at h
          obtain ⟨a, b, r, rfl, ht, h⟩ := mu_prr_e h
          have hnf : narrow (mu_Ty c f) (mu_V (.ref b)) = mu_V (.ref b) ∧ fits (mu_Ty c f) (mu_V (.ref b)) = true := by
            rcases hkd f hf with e | e | ⟨_, e⟩ | ⟨_, e⟩
            · rw [e] at hb; cases hb
            · rw [e] at hb; cases hb
            · rw [e]; cases b <;> exact ⟨rfl, rfl⟩
            · rw [e]; cases b <;> exact ⟨rfl, rfl⟩
          refine mu_go_put (g' := mu_sR g a f b) hc hd hq hf hw hfin ht hnf.1 hnf.2 rfl rfl rfl rfl mu_sR_eo (fun k hk => ?_) (hK _ _ _ _ h)
          by_cases hkf : k = f
          · subst hkf
            rw [mu_fv_ref hb, if_pos rfl]
            show Value.ref (if a = a ∧ k = k then b else _) = _
            rw [if_pos ⟨rfl, rfl⟩]
          · rw [if_neg hkf]
            unfold mu_Fv
            have : mu_R (mu_sR g a f b) a k = mu_R g a k := if_neg (fun z => hkf z.2)
            rw [this]
            rfl
        | false =>
          rw [hb] at h
          obtain ⟨a, v, r, rfl, ht, h⟩ := mu_pir_e h
          have hnf : (narrow (mu_Ty c f) (.int v) = .int v ∧ fits (mu_Ty c f) (.int v) = true) ∧ K (pc + 3) ls r (mu_sI g a f v) := by
            unfold mu_fit at h
            split at h
            · rename_i e; rw [e]; exact ⟨⟨rfl, rfl⟩, h⟩
            · rename_i e
              rw [e]
              refine ⟨?_, h.2⟩
              rcases h.1 with rfl | rfl <;> exact ⟨rfl, rfl⟩
            · exact h.elim
          refine mu_go_put (g' := mu_sI g a f v) hc hd hq hf hw hfin ht hnf.1.1 hnf.1.2 rfl rfl rfl rfl mu_sI_eo (fun k hk => ?_) (hK _ _ _ _ hnf.2)
          by_cases hkf : k = f
          · subst hkf
            rw [mu_fv_int hb, if_pos rfl]
            show Value.int (if a = a ∧ k = k then v else _) = _
            rw [if_pos ⟨rfl, rfl⟩]
          · rw [if_neg hkf]
            unfold mu_Fv
            have : mu_I (mu_sI g a f v) a k = mu_I g a k := if_neg (fun z => hkf z.2)
            rw [this]
            rfl
      · cases ha
    · exact h.elim
  case getstatic x =>
    have hn : n = 3 := hn
    subst hn
    unfold mu_step at h
    dsimp only at h
    split at h
    · rename_i j r hl
      have h1 := mu_k_of mu_kS k18 (mu_look_mem hl)
      unfold mu_ckS at h1
      rw [kown] at h1
      dsimp only at h1
      split at h1
      · rename_i q hq
        split at h1
        · exact mu_go_gets hd hq (Or.inl (mu_w_e h1)) (hK _ _ _ _ h)
        · exact mu_go_gets hd hq (Or.inr (List.mem_of_getElem? (of_decide_eq_true h1))) (hK _ _ _ _ h)
      · cases h1
    · exact h.elim
  case new x =>
    have hn : n = 3 := hn
    subst hn
    unfold mu_step at h
    dsimp only at h
    split at h
    · rename_i c wi hl
      have h1 := mu_k_of mu_kN k18 (mu_look_mem hl)
      unfold mu_ckN at h1
      rw [kown] at h1
      rw [Bool.and_eq_true] at h1
      obtain ⟨hb, h1⟩ := h1
      dsimp only at h1 hb
      split at h1
      · rename_i r hr
        exact mu_go_new (Nat.le_of_ble_eq_true hb) hd hr (mu_w_e h1) h.1 h.2.1 (hK _ _ _ _ (h.2.2 _ rfl))
      · cases h1
    · exact h.elim
  case newarray t =>
    have hn : n = 2 := hn
    subst hn
    obtain ⟨x, r, rfl, h1, h2, h3, h⟩ := mu_p1_e h
    cases t with
    | int => exact mu_go_newarr (q := 0) (by omega) rfl hd h1 h2 h3 (hK _ _ _ _ (h _ rfl))
    | byte => exact mu_go_newarr (q := 1) (by omega) rfl hd h1 h2 h3 (hK _ _ _ _ (h _ rfl))
    | _ => exact h.elim
  case anewarray y =>
    have hn : n = 3 := hn
    subst hn
    unfold mu_step at h
    dsimp only at h
    split at h
    · rename_i c wi hl
      have h1 := mu_k_of mu_kA k18 (mu_look_mem hl)
      unfold mu_ckA at h1
      rw [kown] at h1
      simp only [Bool.and_eq_true] at h1
      obtain ⟨⟨c1, c2⟩, h4⟩ := h1
      obtain ⟨x, r, rfl, i1, i2, i3, h⟩ := mu_p1_e h
      split at h4
      · rename_i C hC
        exact mu_go_anew (Nat.le_of_ble_eq_true c1) (Nat.le_of_ble_eq_true c2) hC hd (mu_w_e h4) i1 i2 i3 (hK _ _ _ _ (h _ rfl))
      · cases h4
    · exact h.elim
  case arraylength =>
    have hn : n = 1 := hn
    subst hn
    obtain ⟨a, r, rfl, ht, h⟩ := mu_pr_e h
    exact mu_go_alen hd ht (hK _ _ _ _ h)
  case iaload =>
    have hn : n = 1 := hn
    subst hn
    obtain ⟨a, j, r, rfl, ht, hj, h⟩ := mu_pir_e h
    exact mu_go_iald hd ht hj (hK _ _ _ _ h)
  case baload =>
    have hn : n = 1 := hn
    subst hn
    obtain ⟨a, j, r, rfl, ht, hj, h⟩ := mu_pir_e h
    exact mu_go_bald hd ht hj (hK _ _ _ _ h)
  case aaload =>
    have hn : n = 1 := hn
    subst hn
    obtain ⟨a, j, r, rfl, ht, hj, h⟩ := mu_pir_e h
    exact mu_go_aald hd ht hj (hK _ _ _ _ h)
  case iastore =>
    have hn : n = 1 := hn
    subst hn
    obtain ⟨a, j, x, r, rfl, hwa, ht, hj, h⟩ := mu_piir_e h
    exact mu_go_iast hd hwa ht hj (hK _ _ _ _ h)
  case bastore =>
    have hn : n = 1 := hn
    subst hn
    obtain ⟨a, j, x, r, rfl, hwa, ht, hj, h⟩ := mu_piir_e h
    exact mu_go_bast hd hwa ht hj (hK _ _ _ _ h)
  case aastore =>
    have hn : n = 1 := hn
    subst hn
    obtain ⟨a, j, v, r, rfl, hwa, ht, hv, hj, h⟩ := mu_prir_e h
    exact mu_go_aast hd hwa ht hv hj (hK _ _ _ _ h)
  case ireturn =>
    have hn : n = 1 := hn
    subst hn
    unfold mu_step at h
    dsimp only at h
    split at h
    · exact mu_go_ireturn hd (mu_rI_e h)
    · exact h.elim
  case areturn =>
    have hn : n = 1 := hn
    subst hn
    unfold mu_step at h
    dsimp only at h
    split at h
    · exact mu_go_areturn hd ha h
    · exact h.elim
  case return_ =>
    have hn : n = 1 := hn
    subst hn
    unfold mu_step at h
    dsimp only at h
    split at h
    · exact mu_go_return hd ha h
    · exact h.elim
  case invokestatic x =>
    have hn : n = 3 := hn
    subst hn
    unfold mu_step at h
    dsimp only at h
    split at h
    · rename_i mj r0 hl
      obtain ⟨kd, ne, is⟩ := r0
      have hkd := mu_kd_e ha hl
      obtain ⟨he, hlk, -, hs, -, -⟩ := mu_ckM_e k18 hl
      rw [kown] at hlk
      split at h
      · rename_i As rest hsp
        obtain ⟨Bs, b1, b2, b3⟩ := mu_split_e hsp
        rw [List.append_nil] at b2
        subst b2
        subst b3
        obtain ⟨hsm, h⟩ := mu_small_e h
        obtain ⟨d', P, X, S, rfl, hM, hX, hS, h⟩ := mu_call_e h
        exact mu_go_callS hd he hlk (hs hkd) b1 hsm hM hX hS (fun r g' hp hx hs => hK _ _ _ _ (h r g' hp hx hs))
      · exact h.elim
    · split at h
      · rename_i wi hl
        have h1 := mu_k_of mu_kQ k18 (mu_look_mem hl)
        unfold mu_ckQ at h1
        rw [kown] at h1
        obtain ⟨a, b, r, rfl, h⟩ := mu_p2_e h
        obtain ⟨hsm, h⟩ := mu_small_e h
        obtain ⟨h0, h⟩ := mu_pos_e h
        exact mu_go_max hd (mu_w_e h1) hsm h0 (hK _ _ _ _ h)
      · rename_i wi hl
        have h1 := mu_k_of mu_kQ k18 (mu_look_mem hl)
        unfold mu_ckQ at h1
        rw [kown] at h1
        obtain ⟨a, b, r, rfl, h⟩ := mu_p2_e h
        obtain ⟨hsm, h⟩ := mu_small_e h
        obtain ⟨h0, h⟩ := mu_pos_e h
        exact mu_go_min hd (mu_w_e h1) hsm h0 (hK _ _ _ _ h)
      · rename_i wi hl
        have h1 := mu_k_of mu_kQ k18 (mu_look_mem hl)
        unfold mu_ckQ at h1
        rw [kown] at h1
        obtain ⟨a, r, rfl, h⟩ := mu_p1_e h
        obtain ⟨hsm, h⟩ := mu_small_e h
        obtain ⟨h0, h⟩ := mu_pos_e h
        exact mu_go_abs hd (mu_w_e h1) hsm h0 (hK _ _ _ _ h)
      · rename_i wi hl
        have h1 := mu_k_of mu_kQ k18 (mu_look_mem hl)
        unfold mu_ckQ at h1
        rw [kown] at h1
        obtain ⟨a, sp, b, dp, m, r, rfl, h⟩ := mu_pcp_e h
        obtain ⟨hsm, h⟩ := mu_small_e h
        obtain ⟨h0, i1, i2, i3, i4, i5, i6, i7, i8, h⟩ := mu_pos_e h
        rcases i3 with ⟨t1, t2⟩ | ⟨t1, t2⟩
        · exact mu_go_copy (q := 0) (by omega) hd (mu_w_e h1) hsm h0 i1 i2 t1 t2 i4 i5 i6 i7 i8 (hK _ _ _ _ h)
        · exact mu_go_copy (q := 1) (by omega) hd (mu_w_e h1) hsm h0 i1 i2 t1 t2 i4 i5 i6 i7 i8 (hK _ _ _ _ h)
      · exact h.elim
  case invokevirtual x =>
    have hn : n = 3 := hn
    subst hn
    unfold mu_step at h
    dsimp only at h
    split at h
    · rename_i mj r0 hl
      obtain ⟨kd, ne, is⟩ := r0
      have hkd := mu_kd_e ha hl
      obtain ⟨he, hlk, hne, -, hs, -⟩ := mu_ckM_e k18 hl
      rw [kown] at hlk hne
      split at h
      · rename_i As a rest hsp
        obtain ⟨Bs, b1, b2, b3⟩ := mu_split_e hsp
        rw [List.append_nil] at b2
        subst b2
        subst b3
        obtain ⟨ht, h⟩ := h
        obtain ⟨hsm, h⟩ := mu_small_e h
        obtain ⟨d', P, X, S, rfl, hM, hX, hS, h⟩ := mu_call_e h
        obtain ⟨hl2, s1, s2, s3, s4⟩ := hs hkd
        rw [kown] at hl2
        exact mu_go_callV hd he hl2 s1 s2 s3 s4 ht b1 hsm hM hX hS (fun r g' hp hx hs => hK _ _ _ _ (h r g' hp hx hs))
      · exact h.elim
    · exact h.elim
  case invokespecial x =>
    have hn : n = 3 := hn
    subst hn
    unfold mu_step at h
    dsimp only at h
    split at h
    · rename_i mj r0 hl
      obtain ⟨kd, ne, is⟩ := r0
      have hkd := mu_kd_e ha hl
      obtain ⟨he, hlk, -, -, -, hs⟩ := mu_ckM_e k18 hl
      rw [kown] at hlk
      split at h
      · rename_i As a rest hsp
        obtain ⟨Bs, b1, b2, b3⟩ := mu_split_e hsp
        rw [List.append_nil] at b2
        subst b2
        subst b3
        obtain ⟨ht, h⟩ := h
        obtain ⟨hsm, h⟩ := mu_small_e h
        obtain ⟨d', P, X, S, rfl, hM, hX, hS, h⟩ := mu_call_e h
        obtain ⟨s1, s2, s3⟩ := hs hkd
        exact mu_go_callI hd he hlk s1 s2 s3 ht b1 hsm hM hX hS (fun r g' hp hx hs => hK _ _ _ _ (h r g' hp hx hs))
      · exact h.elim
    · split at h
      · rename_i wi hl
        have h1 := mu_k_of mu_kQ k18 (mu_look_mem hl)
        unfold mu_ckQ at h1
        rw [kown] at h1
        obtain ⟨a, r, rfl, h9, h⟩ := mu_pr_e h
        obtain ⟨hsm, h⟩ := mu_small_e h
        obtain ⟨h0, h⟩ := mu_pos_e h
        exact mu_go_objI hd (mu_w_e h1) h9 hsm h0 (hK _ _ _ _ h)
      · exact h.elim
  all_goals exact False.elim h
theorem mu_wpgo (hm : mu_ok mi = true) {hs : List (Nat × List Bool)} : ∀ {k pc : Nat} {ls : List (Option Value)} {st : List Value} {g : mu_H}, mu_wp w mi d L Q hs k pc ls st g → mu_go w mi d L Q pc ls st g
  | 0, _, _, _, _, h => h
  | k + 1, pc, ls, st, g, h => by
    unfold mu_wp at h
    split at h
    · exact h.elim
    · rename_i i n hat
      refine mu_step_sound hm hat h fun pc' ls' st' g' h' => ?_
      split at h'
      · intro p l e R s m args below meth c H locs cells slots S0 Qw lsA hc hy hl hr
        exact h' p l e R s m args below meth c H locs cells slots S0 Qw lsA hc hy (mu_has_mask hl) hr
      · exact mu_wpgo hm h'
/-- the locals at a method's entry -/
def mu_ent : Nat → List Value → List (Option Value)
  | n, [] => List.replicate n none
  | n, .long x :: t => some (.long x) :: none :: mu_ent (n - 2) t
  | n, .double x :: t => some (.double x) :: none :: mu_ent (n - 2) t
  | n, v :: t => some v :: mu_ent (n - 1) t
theorem mu_lv_none : ∀ (k n : Nat), mu_lv k (List.replicate n none) = []
  | _, 0 => rfl
  | k, n + 1 => mu_lv_none (k + 1) n
theorem mu_ent_lv : ∀ (As : List Value) (n k : Nat), mu_lv k (mu_ent n As) = lv_args k (As.map mu_V)
  | [], n, k => mu_lv_none k n
  | v :: t, n, k => by
    cases v with
    | long x => exact congrArg ((k, Value.long x) :: ·) (mu_ent_lv t (n - 2) (k + 2))
    | double x => exact congrArg ((k, Value.double x) :: ·) (mu_ent_lv t (n - 2) (k + 2))
    | ref a =>
      show (k, mu_V (.ref a)) :: mu_lv (k + 1) (mu_ent (n - 1) t) = (k, mu_V (.ref a)) :: lv_args (if (mu_V (.ref a)).category = 2 then k + 2 else k + 1) (t.map mu_V)
      rw [mu_V_cat, mu_ent_lv t (n - 1) (k + 1)]
      rfl
    | int x => exact congrArg ((k, Value.int x) :: ·) (mu_ent_lv t (n - 1) (k + 1))
    | float x => exact congrArg ((k, Value.float x) :: ·) (mu_ent_lv t (n - 1) (k + 1))
    | null => exact congrArg ((k, Value.null) :: ·) (mu_ent_lv t (n - 1) (k + 1))
    | retAddr x => exact congrArg ((k, Value.retAddr x) :: ·) (mu_ent_lv t (n - 1) (k + 1))
theorem mu_sl_len : ∀ (As : List Value), (lg_sl (As.map mu_V)).length = mu_words As
  | [] => rfl
  | v :: t => by
    have ih := mu_sl_len t
    unfold lg_sl at ih ⊢
    rw [List.map_cons, List.flatMap_cons, List.length_append, ih, mu_V_cat]
    cases v <;> simp [mu_words, Value.category] <;> omega
/-- a contract out of a walk from the entry -/
theorem mu_mtG {As : List Value} {P : Option Value → mu_H → Prop} {X S : Nat} (hm : mu_ok mi = true) (k : mu_go w mi d (X, S) (fun r' g'' => P r' g'' ∧ mu_X g'' = X ∧ mu_S g'' = S) 0 (mu_ent (mu_mL mi) As) [] g) (hlen : Nat.ble (mu_words As) (mu_mL mi) = true) (hX : mu_X g ≤ X) (hS : mu_S g ≤ S) : mu_mt w mi d As g P X S :=
  mu_mt_of (mu_ok_e hm).2.2.2.1 (by rw [mu_sl_len]; exact Nat.le_of_ble_eq_true hlen) (fun lsA h => by rw [mu_ent_lv]; exact h) hX hS k
end Mu15
