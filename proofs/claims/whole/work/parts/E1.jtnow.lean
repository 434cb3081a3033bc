/-! BOTH: the calls about now answer the same -/
section Jn
variable {w : mu_O} {ξ : Nat × Nat × (Nat → Int32)} {x E D tl wl : Nat} {σ : Nat → Nat → Int32} {s c : Nat → Int32} {h : Int32}
theorem cif_2 {α β : Type} {p : Prop} {a b : α} {s : β} : (cif p (a, s) (b, s)).2 = s := by unfold cif; split <;> rfl
theorem un_2 {v : Int32} : (pUnready s v).2 = s := by unfold pUnready pBl; exact cif_2
theorem wear_2 {v u : Int32} : (pWear s v u).2 = s := cif_2
theorem hours_2 {v u k : Int32} : (pHours s v u k).2 = s := cif_2
theorem sh_6 (hc : c 6 = s 6) (hs : nsh s ≤ 999) : nsh c ≤ 999 := by unfold nsh at *; rw [hc]; exact hs
theorem rs_6 : ∀ {n : Nat}, rsR s n 6 = s 6
  | 0 => rfl
  | n + 1 => by unfold rsR; rw [pk_un (by omega)]; exact rs_6
theorem ct_6 {f : Nat → Int32} : ∀ {n : Nat}, ctR s f n 6 = s 6
  | 0 => rfl
  | n + 1 => by unfold ctR; rw [pk_un (by omega)]; exact ct_6
theorem sr_6 {r : Nat → Nat} : ∀ {n : Nat}, shR s r n 6 = s 6
  | 0 => rfl
  | n + 1 => by unfold shR; rw [pk_un (by unfold bI'; omega)]; exact sr_6
theorem sh_wet {v : Int32} (W : jW σ tl wl h) : nsh (pWet (σ 0) v).2 ≤ 999 := sh_6 (by unfold pWet cif; (repeat' split) <;> first | rfl | (dsimp only; repeat rw [pk_un (by omega)])) W.2.1
theorem sh_weapon (W : jW σ tl wl h) : nsh (pWeapon (σ 0) ).2 ≤ 999 := sh_6 (by unfold pWeapon cif; (repeat' split) <;> first | rfl | (dsimp only; repeat rw [pk_un (by omega)])) W.2.1
theorem sh_in {v : Int32} (W : jW σ tl wl h) : nsh (pIn (σ 0) v).2 ≤ 999 := sh_6 (by unfold pIn cif; (repeat' split) <;> first | rfl | (dsimp only; repeat rw [pk_un (by omega)])) W.2.1
theorem sh_out {v u : Int32} (W : jW σ tl wl h) : nsh (pOut (σ 0) v u).2 ≤ 999 := sh_6 (by unfold pOut cif; (repeat' split) <;> first | rfl | (dsimp only; repeat rw [pk_un (by omega)])) W.2.1
theorem sh_cut {v u : Int32} (W : jW σ tl wl h) : nsh (pCut (σ 0) v u).2 ≤ 999 := sh_6 (by unfold pCut cif; (repeat' split) <;> first | rfl | (dsimp only; repeat rw [pk_un (by omega)])) W.2.1
theorem sh_practise {v u k : Int32} (W : jW σ tl wl h) : nsh (pPractise (σ 0) v u k).2 ≤ 999 := sh_6 (by unfold pPractise cif; (repeat' split) <;> first | rfl | (dsimp only; repeat rw [pk_un (by omega)])) W.2.1
theorem sh_set {v f n : Int32} (W : jW σ tl wl h) : nsh (pSet (σ 0) v f n).2 ≤ 999 := sh_6 (by unfold pSet cif; (repeat' split) <;> first | rfl | (dsimp only; repeat rw [pk_un (by omega)])) W.2.1
theorem sh_sign {v u : Int32} (W : jW σ tl wl h) : nsh (pSign (σ 0) v u).2 ≤ 999 := sh_6 (by unfold pSign cif; (repeat' split) <;> first | rfl | (dsimp only; repeat rw [pk_un (by omega)])) W.2.1
theorem sh_choose {v : Int32} (W : jW σ tl wl h) : nsh (pChoose (σ 0) v).2 ≤ 999 := sh_6 (by unfold pChoose cif; (repeat' split) <;> first | rfl | (dsimp only; repeat rw [pk_un (by omega)])) W.2.1
theorem sh_person {v u : Int32} (W : jW σ tl wl h) : nsh (pPerson (σ 0) v u).2 ≤ 999 := sh_6 (by unfold pPerson psR cif; (repeat' split) <;> first | rfl | (dsimp only; repeat rw [pk_un (by omega)])) W.2.1
theorem sh_move {v1 v2 v3 v4 v5 : Int32} (W : jW σ tl wl h) : nsh (pMove (σ 0) v1 v2 v3 v4 v5).2 ≤ 999 := sh_6 (by unfold pMove mvR mvU cif; (repeat' split) <;> first | rfl | (dsimp only; repeat rw [pk_un (by omega)])) W.2.1
theorem sh_seed {v : Int32} (W : jW σ tl wl h) : nsh (pSeed (σ 0) v).2 ≤ 999 := sh_6 (s := σ 0) (by unfold pSeed; dsimp only; rw [pk_un (by omega)]) W.2.1
theorem sh_clear (W : jW σ tl wl h) : nsh (pClear (σ 0)).2 ≤ 999 := sh_6 (s := σ 0) (by unfold pClear; dsimp only; rw [pk_un (by omega)]) W.2.1
theorem sh_restAll (W : jW σ tl wl h) : nsh (pRest (σ 0)).2 ≤ 999 := sh_6 rs_6 W.2.1
theorem sh_shift (W : jW σ tl wl h) : nsh (pShift (σ 0)).2 ≤ 999 := sh_6 (by unfold pShift cif; split <;> first | rfl | exact sr_6) W.2.1
theorem sh_cuts {v1 : Int32} (W : jW σ tl wl h) : nsh (pCuts (σ 0) (σ 4) (σ 5) (σ 6) v1).2 ≤ 999 := sh_6 (by unfold pCuts ctQ cif; (repeat' split) <;> first | rfl | exact ct_6) W.2.1
theorem sh_show {v : Int32} (W : jW σ tl wl h) : nsh (pShow (σ 0) v).2 ≤ 999 := by
  unfold pShow
  by_cases h1 : 1 ≤ v.toInt ∧ v.toInt ≤ 20
  · rw [cif_t h1]
    by_cases h2 : nsh (σ 0) + v.toNatClampNeg ≤ 999
    · rw [cif_t h2]
      have := (wr_shN W.1 (n := v.toNatClampNeg) (by omega)).2.1
      show nsh (shN (σ 0) v.toNatClampNeg) ≤ 999
      omega
    · rw [cif_f h2]; exact W.2.1
  · rw [cif_f h1]; exact W.2.1
theorem jt_seed {v : Int32} : jT w x E ξ (D + 1500) mm_X10_seed mm_X11_seed [.int v] := jt_now (fun σ tl wl => pSeed (σ 0) v) (fun σ tl wl h g W C S => pc_seed C.1 C.2.1 W.1) (fun σ tl wl h g W R => pm_seed R.1 R.2.2.1) (fun σ tl wl h W => ⟨wr_seed W.1, sh_seed W⟩)
theorem jt_wet {v : Int32} : jT w x E ξ (D + 1500) mm_X10_wet mm_X11_wet [.int v] := jt_now (fun σ tl wl => pWet (σ 0) v) (fun σ tl wl h g W C S => pc_wet C.1 C.2.1 W.1) (fun σ tl wl h g W R => pm_wet R.1 R.2.2.1 R.2.2.2.2.2.2) (fun σ tl wl h W => ⟨wr_wet W.1, sh_wet W⟩)
theorem jt_clear : jT w x E ξ (D + 1500) mm_X10_clear mm_X11_clear [] := jt_now (fun σ tl wl => pClear (σ 0)) (fun σ tl wl h g W C S => pc_clear C.1 C.2.1 W.1) (fun σ tl wl h g W R => pm_clear R.1 R.2.2.1) (fun σ tl wl h W => ⟨wr_clear W.1, sh_clear W⟩)
theorem jt_weapon : jT w x E ξ (D + 1500) mm_X10_weapon mm_X11_weapon [] := jt_now (fun σ tl wl => pWeapon (σ 0)) (fun σ tl wl h g W C S => pc_weapon C.1 C.2.1 W.1) (fun σ tl wl h g W R => pm_weapon R.1 R.2.2.1 (ws_c W.1) W.1 R.2.2.2.2.2.2) (fun σ tl wl h W => ⟨wr_weapon W.1, sh_weapon W⟩)
theorem jt_in {v : Int32} : jT w x E ξ (D + 1500) mm_X10_in mm_X11_in [.int v] := jt_now (fun σ tl wl => pIn (σ 0) v) (fun σ tl wl h g W C S => pc_in C.1 C.2.1 W.1) (fun σ tl wl h g W R => pm_in R.1 R.2.2.1 (ws_c W.1) W.1 R.2.2.2.2.2.2) (fun σ tl wl h W => ⟨wr_in W.1, sh_in W⟩)
theorem jt_out {v u : Int32} : jT w x E ξ (D + 1500) mm_X10_out mm_X11_out [.int v, .int u] := jt_now (fun σ tl wl => pOut (σ 0) v u) (fun σ tl wl h g W C S => pc_out C.1 C.2.1 W.1) (fun σ tl wl h g W R => pm_out R.1 R.2.2.1 (ws_c W.1) W.1 R.2.2.2.2.2.2) (fun σ tl wl h W => ⟨wr_out W.1, sh_out W⟩)
theorem jt_wear {v u : Int32} : jT w x E ξ (D + 1500) mm_X10_wear mm_X11_wear [.int v, .int u] := jt_now (fun σ tl wl => pWear (σ 0) v u) (fun σ tl wl h g W C S => pc_wear C.1 C.2.1 W.1) (fun σ tl wl h g W R => pm_wear R.1 R.2.2.1 (ws_c W.1) W.1 R.2.2.2.2.2.2) (fun σ tl wl h W => ⟨by rw [wear_2]; exact W.1, by rw [wear_2]; exact W.2.1⟩)
theorem jt_cut {v u : Int32} (hu : u = 0 ∨ u = 1) : jT w x E ξ (D + 1500) mm_X10_cut mm_X11_cut [.int v, .int u] := jt_now (fun σ tl wl => pCut (σ 0) v u) (fun σ tl wl h g W C S => pc_cut C.1 C.2.1 W.1 hu) (fun σ tl wl h g W R => pm_cut R.1 R.2.2.1 (ws_c W.1) W.1 R.2.2.2.2.2.2 hu) (fun σ tl wl h W => ⟨wr_cut W.1 hu, sh_cut W⟩)
theorem jt_hours {v u k : Int32} : jT w x E ξ (D + 1500) mm_X10_hours mm_X11_hours [.int v, .int u, .int k] := jt_now (fun σ tl wl => pHours (σ 0) v u k) (fun σ tl wl h g W C S => pc_hours S.1 C.1 C.2.1 W.1) (fun σ tl wl h g W R => pm_hours R.1 R.2.2.1 (ws_c W.1) W.1 R.2.2.2.2.2.2) (fun σ tl wl h W => ⟨by rw [hours_2]; exact W.1, by rw [hours_2]; exact W.2.1⟩)
theorem jt_practise {v u k : Int32} : jT w x E ξ (D + 1500) mm_X10_practise mm_X11_practise [.int v, .int u, .int k] := jt_now (fun σ tl wl => pPractise (σ 0) v u k) (fun σ tl wl h g W C S => pc_practise C.1 C.2.1 W.1) (fun σ tl wl h g W R => pm_practise R.1 R.2.2.1 (ws_c W.1) W.1 R.2.2.2.2.2.2) (fun σ tl wl h W => ⟨wr_practise W.1, sh_practise W⟩)
theorem jt_set {v f n : Int32} : jT w x E ξ (D + 1500) mm_X10_set mm_X11_set [.int v, .int f, .int n] := jt_now (fun σ tl wl => pSet (σ 0) v f n) (fun σ tl wl h g W C S => pc_set C.1 C.2.1 W.1) (fun σ tl wl h g W R => pm_set R.1 R.2.2.1 (ws_c W.1) W.1 R.2.2.2.2.2.2) (fun σ tl wl h W => ⟨wr_set W.1, sh_set W⟩)
theorem jt_where {v u : Int32} : jT w x E ξ (D + 1500) mm_X10_where mm_X11_where [.int v, .int u] := jt_now (fun σ tl wl => pWhere (σ 0) v u) (fun σ tl wl h g W C S => pc_where S.2.2.2.1 S.1 C.1 C.2.1 W.1) (fun σ tl wl h g W R => pm_where R.1 R.2.2.1 (ws_c W.1) W.1 R.2.2.2.2.2.2) (fun σ tl wl h W => ⟨W.1, W.2.1⟩)
theorem jt_seen {v : Int32} : jT w x E ξ (D + 1500) mm_X10_seen mm_X11_seen [.int v] := jt_now (fun σ tl wl => pSeen (σ 0) v) (fun σ tl wl h g W C S => pc_seen S.2.2.2.1 S.1 C.1 C.2.1 W.1) (fun σ tl wl h g W R => pm_seen R.1 R.2.2.1 (ws_c W.1) W.1 R.2.2.2.2.2.2) (fun σ tl wl h W => ⟨W.1, W.2.1⟩)
theorem jt_keeps {v : Int32} : jT w x E ξ (D + 1500) mm_X10_keeps mm_X11_keeps [.int v] := jt_now (fun σ tl wl => pKeeps (σ 0) v) (fun σ tl wl h g W C S => pc_keeps S.2.2.2.1 S.1 C.1 C.2.1 W.1) (fun σ tl wl h g W R => pm_keeps R.1 R.2.2.1 (ws_c W.1) R.2.1 W.1 R.2.2.2.2.2.2) (fun σ tl wl h W => ⟨W.1, W.2.1⟩)
theorem jt_gap {v u : Int32} : jT w x E ξ (D + 1500) mm_X10_gap mm_X11_gap [.int v, .int u] := jt_now (fun σ tl wl => pGap (σ 0) v u) (fun σ tl wl h g W C S => pc_gap S.2.2.2.1 S.1 C.1 C.2.1 W.1) (fun σ tl wl h g W R => pm_gap R.1 R.2.2.1 (ws_c W.1) R.2.1 W.1 R.2.2.2.2.2.2) (fun σ tl wl h W => ⟨W.1, W.2.1⟩)
theorem jt_breach {v : Int32} : jT w x E ξ (D + 1500) mm_X10_breach mm_X11_breach [.int v] := jt_now (fun σ tl wl => pBreach (σ 0) v) (fun σ tl wl h g W C S => pc_breach S.2.2.2.1 S.1 C.1 C.2.1 W.1) (fun σ tl wl h g W R => pm_breach R.1 R.2.2.1 (ws_c W.1) R.2.1 W.1 R.2.2.2.2.2.2) (fun σ tl wl h W => ⟨W.1, W.2.1⟩)
theorem jt_may : jT w x E ξ (D + 1500) mm_X10_may mm_X11_may [] := jt_now (fun σ tl wl => pMay (σ 0)) (fun σ tl wl h g W C S => pc_may S.2.2.2.1 S.1 C.1 C.2.1 W.1) (fun σ tl wl h g W R => pm_may R.1 R.2.2.1 (ws_c W.1) R.2.1 W.1 R.2.2.2.2.2.2) (fun σ tl wl h W => ⟨W.1, W.2.1⟩)
theorem jt_unready {v : Int32} : jT w x E ξ (D + 1500) mm_X10_unready mm_X11_unready [.int v] := jt_now (fun σ tl wl => pUnready (σ 0) v) (fun σ tl wl h g W C S => pc_unready S.1 C.1 C.2.1 W.1) (fun σ tl wl h g W R => pm_unready R.1 R.2.2.1 (ws_c W.1) W.1 R.2.2.2.2.2.2) (fun σ tl wl h W => ⟨by rw [un_2]; exact W.1, by rw [un_2]; exact W.2.1⟩)
theorem jt_sign {v u : Int32} : jT w x E ξ (D + 1500) mm_X10_sign mm_X11_sign [.int v, .int u] := jt_now (fun σ tl wl => pSign (σ 0) v u) (fun σ tl wl h g W C S => pc_sign C.1 C.2.1 W.1) (fun σ tl wl h g W R => pm_sign R.1 R.2.2.1 (ws_c W.1) W.1 R.2.2.2.2.2.2) (fun σ tl wl h W => ⟨wr_sign W.1, sh_sign W⟩)
theorem jt_log {v u : Int32} : jT w x E ξ (D + 1500) mm_X10_log mm_X11_log [.int v, .int u] := jt_now (fun σ tl wl => pLog (σ 0) v u) (fun σ tl wl h g W C S => pc_log C.1 C.2.1 W.1) (fun σ tl wl h g W R => pm_log R.1 R.2.2.1 (ws_c W.1) R.2.2.2.2.2.2) (fun σ tl wl h W => ⟨W.1, W.2.1⟩)
theorem jt_told {v u : Int32} : jT w x E ξ (D + 1500) mm_X10_told mm_X11_told [.int v, .int u] := jt_now (fun σ tl wl => pTold (σ 0) v u) (fun σ tl wl h g W C S => pc_told C.1 C.2.1 W.1) (fun σ tl wl h g W R => pm_told R.1 R.2.2.1 (ws_c W.1) W.1 R.2.2.2.2.2.2) (fun σ tl wl h W => ⟨W.1, W.2.1⟩)
theorem jt_as {v u : Int32} : jT w x E ξ (D + 1500) mm_X10_as mm_X11_as [.int v, .int u] := jt_now (fun σ tl wl => pAs (σ 0) v u) (fun σ tl wl h g W C S => pc_as S.1 C.1 C.2.1 W.1) (fun σ tl wl h g W R => pm_as R.1 R.2.2.1 (ws_c W.1) W.1 R.2.2.2.2.2.2) (fun σ tl wl h W => ⟨W.1, W.2.1⟩)
theorem jt_choose {v : Int32} : jT w x E ξ (D + 1500) mm_X10_choose mm_X11_choose [.int v] := jt_now (fun σ tl wl => pChoose (σ 0) v) (fun σ tl wl h g W C S => pc_choose C.1 C.2.1 W.1) (fun σ tl wl h g W R => pm_choose R.1 R.2.2.1 (ws_c W.1) W.1 R.2.2.2.2.2.2) (fun σ tl wl h W => ⟨wr_choose W.1, sh_choose W⟩)
theorem jt_story : jT w x E ξ (D + 1500) mm_X10_story mm_X11_story [] := jt_now (fun σ tl wl => pStory (σ 0)) (fun σ tl wl h g W C S => pc_story S.2.2.2.1 S.1 C.1 C.2.1 W.1) (fun σ tl wl h g W R => pm_story R.1 R.2.2.1 (ws_c W.1) R.2.1 W.1 R.2.2.2.2.2.2) (fun σ tl wl h W => ⟨W.1, W.2.1⟩)
theorem jt_of {v u : Int32} : jT w x E ξ (D + 1500) mm_X10_of mm_X11_of [.int v, .int u] := jt_now (fun σ tl wl => pOf (σ 0) v u) (fun σ tl wl h g W C S => pc_of S.1 C.1 C.2.1 W.1) (fun σ tl wl h g W R => pm_of R.1 R.2.2.1 (ws_c W.1) R.2.1 W.1 R.2.2.2.2.2.2) (fun σ tl wl h W => ⟨W.1, W.2.1⟩)
theorem jt_count {v : Int32} : jT w x E ξ (D + 1500) mm_X10_count mm_X11_count [.int v] := jt_now (fun σ tl wl => pCount (σ 0) (nI wl) (nI tl) v) (fun σ tl wl h g W C S => pc_count S.1 C.1 C.2.1 W.1 C.2.2.2.2.2.2.1.1 C.2.2.2.2.2.1.1) (fun σ tl wl h g W R => pm_count R.1 R.2.2.1 (ws_c W.1) W.1 R.2.2.2.2.2.2 R.2.2.2.2.2.1.2.1 R.2.2.2.2.2.1.1) (fun σ tl wl h W => ⟨W.1, W.2.1⟩)
theorem jt_restAll : jT w x E ξ (D + 1500) mm_X10_restAll mm_X11_restAll [] := jt_now (fun σ tl wl => pRest (σ 0)) (fun σ tl wl h g W C S => pc_restAll C.1 C.2.1 W.1) (fun σ tl wl h g W R => pm_restAll R.1 R.2.2.1 (ws_c W.1) W.1) (fun σ tl wl h W => ⟨wr_rest W.1, sh_restAll W⟩)
theorem jt_shifts {v : Int32} : jT w x E ξ (D + 1500) mm_X10_shifts mm_X11_shifts [.int v] := jt_now (fun σ tl wl => pShifts (σ 0) v) (fun σ tl wl h g W C S => pc_shifts S.2.2.2.1 S.1 C.1 C.2.1 W.1) (fun σ tl wl h g W R => pm_shifts R.1 R.2.2.1 (ws_c W.1) R.2.1 W.1 R.2.2.2.2.2.2) (fun σ tl wl h W => ⟨W.1, W.2.1⟩)
theorem jt_person {v u : Int32} : jT w x E ξ (D + 1500) mm_X10_person mm_X11_person [.int v, .int u] := jt_now (fun σ tl wl => pPerson (σ 0) v u) (fun σ tl wl h g W C S => pc_person C.1 C.2.1 W.1) (fun σ tl wl h g W R => pm_person R.1 R.2.2.1 (ws_c W.1) W.1 R.2.2.2.2.2.2) (fun σ tl wl h W => ⟨wr_person W.1, sh_person W⟩)
theorem jt_led : jT w x E ξ (D + 1500) mm_X10_led mm_X11_led [] := jt_now (fun σ tl wl => pLed (σ 0)) (fun σ tl wl h g W C S => pc_led C.1 C.2.1 W.1) (fun σ tl wl h g W R => pm_led R.1 R.2.2.1 (ws_c W.1) W.1 R.2.2.2.2.2.2) (fun σ tl wl h W => ⟨W.1, W.2.1⟩)
theorem jt_shift : jT w x E ξ (D + 1500) mm_X10_shift mm_X11_shift [] := jt_now (fun σ tl wl => pShift (σ 0)) (fun σ tl wl h g W C S => pc_shift S.2.2.2.1 S.1 C.1 C.2.1 W.1) (fun σ tl wl h g W R => pm_shift R.1 R.2.2.1 (ws_c W.1) R.2.1 W.1 R.2.2.2.2.2.2) (fun σ tl wl h W => ⟨wr_shift W.1, sh_shift W⟩)
theorem jt_move {v1 v2 v3 v4 v5 : Int32} : jT w x E ξ (D + 1500) mm_X10_move mm_X11_move [.int v1, .int v2, .int v3, .int v4, .int v5] := jt_now (fun σ tl wl => pMove (σ 0) v1 v2 v3 v4 v5) (fun σ tl wl h g W C S => pc_move C.1 C.2.1 W.1) (fun σ tl wl h g W R => pm_move R.1 R.2.2.1 (ws_c W.1) W.1 R.2.2.2.2.2.2) (fun σ tl wl h W => ⟨wr_move W.1, sh_move W⟩)
theorem jt_show {v : Int32} : jT w x E ξ (D + 1500) mm_X10_show mm_X11_show [.int v] := jt_now (fun σ tl wl => pShow (σ 0) v) (fun σ tl wl h g W C S => pc_show S.2.2.2.1 S.1 C.1 C.2.1 W.1) (fun σ tl wl h g W R => pm_show R.1 R.2.2.1 (ws_c W.1) R.2.1 W.1 R.2.2.2.2.2.2) (fun σ tl wl h W => ⟨wr_show W.1, sh_show W⟩)
theorem jt_understudy {v1 v2 v3 : Int32} : jT w x E ξ (D + 1500) mm_X10_understudy mm_X11_understudy [.int v1, .int v2, .int v3] := jt_now (fun σ tl wl => pUnder (σ 0) v1 v2 v3) (fun σ tl wl h g W C S => pc_understudy S.2.2.2.1 S.1 C.1 C.2.1 W.1) (fun σ tl wl h g W R => pm_understudy R.1 R.2.2.1 (ws_c W.1) R.2.1 W.1 R.2.2.2.2.2.2) (fun σ tl wl h W => ⟨W.1, W.2.1⟩)
theorem jt_cuts {v1 : Int32} : jT w x E ξ (D + 1500) mm_X10_cuts mm_X11_cuts [.int v1] := jt_now (fun σ tl wl => pCuts (σ 0) (σ 4) (σ 5) (σ 6) v1) (fun σ tl wl h g W C S => pc_cuts C.1 C.2.1 W.1 C.2.2.2.1 W.2.2.2.1) (fun σ tl wl h g W R => pm_cuts R.1 R.2.2.1 (ws_c W.1) W.1 R.2.2.2.2.2.2 (R.2.2.2.2.1 4 (by decide)) (R.2.2.2.2.1 5 (by decide)) (R.2.2.2.2.1 6 (by decide)) W.2.2.2.1) (fun σ tl wl h W => ⟨wr_cuts W.1, sh_cuts W⟩)
theorem jt_textTold {v1 v2 : Int32} : jT w x E ξ (D + 1500) mm_X10_textTold mm_X11_textTold [.int v1, .int v2] := jt_now (fun σ tl wl => pTextT (σ 0) v1 v2) (fun σ tl wl h g W C S => pc_textTold C.1 C.2.1 W.1) (fun σ tl wl h g W R => pm_textTold R.1 R.2.2.1 (ws_c W.1) W.1 R.2.2.2.2.2.2) (fun σ tl wl h W => ⟨W.1, W.2.1⟩)
end Jn
