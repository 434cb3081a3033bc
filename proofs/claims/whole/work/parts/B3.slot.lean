/-! CLIENTS: slots asked: both public calls -/
abbrev r4 : Type := Int32 × (Nat → Int32) × (Nat → Int32) × (Nat → Int32) × (Nat → Int32)
def cSl (w : mu_O) (x : Nat) (q : r4) (g : mu_H) : Option Value → mu_H → Prop := fun r g' => ∃ v, r = some (.int v) ∧ (v = q.1 ∧ cl_L w x g' ∧ sd_H x q.2.1 q.2.2.1 q.2.2.2.1 q.2.2.2.2 g' ∧ mu_fr (fun a => x + 146 ≤ a ∧ a < x + 161) g g')
def mSlW (y : Nat) : Nat → Prop := fun a => a = y + 7 ∨ a = y + 8 ∨ a = y + 9 ∨ a = y + 10
def mSl (y : Nat) (q : r4) (g : mu_H) : Option Value → mu_H → Prop := fun r g' => ∃ v, r = some (.int v) ∧ (v = q.1 ∧ (mu_I g' (y + 7) = q.2.1 ∧ mu_I g' (y + 8) = q.2.2.1 ∧ mu_I g' (y + 9) = q.2.2.2.1 ∧ mu_I g' (y + 10) = q.2.2.2.2) ∧ mu_fr (mSlW y) g g')
noncomputable def pAsk (B7 B8 : Nat → Int32) (v1 v2 : Int32) : Int32 := cif ((0 ≤ v1.toInt ∧ v1.toInt ≤ 4) ∧ 0 ≤ v2.toInt ∧ v2.toInt ≤ 5) (cif (B7 v1.toNatClampNeg = 0) (-1000000011) (cif (B7 v1.toNatClampNeg = 1 ∧ isOf (B8 v1.toNatClampNeg).toNatClampNeg v2.toNatClampNeg) (nI (kWorth (B8 v1.toNatClampNeg).toNatClampNeg)) (-1000000012))) (-1000000001)
noncomputable def pItem (B7 B9 B10 : Nat → Int32) (v1 v2 : Int32) : Int32 := cif (0 ≤ v1.toInt ∧ v1.toInt ≤ 4) (cif (B7 v1.toNatClampNeg = 0) (-1000000011) (cif (B7 v1.toNatClampNeg = 2) (cif (0 ≤ v2.toInt ∧ v2.toInt < ((B9 v1.toNatClampNeg).toNatClampNeg : Int)) (B10 (24 * v1.toNatClampNeg + v2.toNatClampNeg)) (-1000000013)) (-1000000012))) (-1000000001)
noncomputable def pRm (B7 B8 : Nat → Int32) (v1 v2 : Int32) : Int32 := cif (0 ≤ v1.toInt ∧ v1.toInt ≤ 4) (cif (B7 v1.toNatClampNeg = 0) (-1000000011) (cif (B7 v1.toNatClampNeg = 3) (cif (v2 = 0) (-1000000002) (B8 v1.toNatClampNeg % v2)) (-1000000012))) (-1000000001)
section Sh8
variable {w : mu_O} {d x y : Nat} {g g1 : mu_H} {A4 A5 A6 B7 B8 B9 B10 : Nat → Int32} {v1 v2 v3 : Int32}
theorem pc_ask (hst : st_L w g) (hC : cl_L w x g) (hH : sd_H x B7 B8 B9 B10 g) (hwH : sd_wH B7 B8 B9) : mu_met w mm_X10_ask (d + 2) [.ref x, .int v1, .int v2] g (some (.int (pAsk B7 B8 v1 v2))) g := by
  refine mu_mk mk_X10_ask rfl rfl rfl (fun L hL Q hQ => fm_X10_ask_0 (mu_cI sp_X10_isSlot hL ?_))
  unfold pAsk at hQ
  rw [cI_0]
  refine ⟨fun h => ?_, fun h => mu_cI sp_X10_isKind hL ?_⟩
  · rw [cif_f (fun q => h q.1)] at hQ; exact hQ
  · replace h := Classical.not_not.mp h
    rw [cI_0]
    refine ⟨fun h2 => ?_, fun h2 => ?_⟩
    · replace h2 := Classical.not_not.mp h2
      rw [cif_t ⟨h, h2⟩] at hQ
      obtain ⟨i, i1, rfl, i3, i2⟩ := ix_of (v := v1) (n := 5) ⟨h.1, by omega⟩
      obtain ⟨n, n1, rfl, n3, n2⟩ := ix_of (v := v2) (n := 6) ⟨h2.1, by omega⟩
      rw [i3, n3] at hQ
      obtain ⟨t1, t2, t3, t4⟩ := hH i i1
      have hin : mu_in (nI i) 5 := mu_in_n i1 (by omega)
      rw [cl_T hC, cl_R9 hC, cl_T9 hC, cl_N9 hC, i3, cl_RO hC i1, cl_O1 hC i1]
      refine ⟨rfl, ⟨by decide, by decide⟩, hin, rfl, mu_cI (sp_X7_findingOn (cl_O1 hC i1)) hL ?_⟩
      rw [t1]
      by_cases e0 : B7 i = 0
      · rw [cif_t e0] at hQ ⊢
        exact ⟨fun q => absurd q (by decide), fun _ => hQ⟩
      · rw [cif_f e0] at hQ ⊢
        by_cases e1 : B7 i = 1
        · rw [cif_t e1]
          obtain ⟨k, k1, k2⟩ := (hwH i i1).2.1 e1
          rw [k2, nI_clamp (by omega)] at hQ
          have ek : mu_I g (x + 146 + 3 * i) 2 = nI k := (t2 e1).trans k2
          refine ⟨fun _ => ⟨cl_O1 hC i1, ?_⟩, fun q => absurd rfl q⟩
          rw [ek]
          refine mu_cI (sp_X10_isOfKind hst (by omega) (by omega)) hL ?_
          rw [cI_0]
          refine ⟨fun h3 => ?_, fun h3 => ⟨cl_O1 hC i1, st_T hst (by omega), ?_⟩⟩
          · rw [cif_f (fun q => h3 q.2)] at hQ; exact hQ
          · rw [cif_t ⟨e1, Classical.not_not.mp h3⟩] at hQ
            rw [ek, st_N hst (by omega), nI_clamp (by omega), st_2 hst (by omega)]
            exact ⟨mu_in_n (by omega) (by omega), hQ⟩
        · rw [cif_f e1]
          rw [cif_f (fun q => e1 q.1)] at hQ
          exact ⟨fun q => absurd q (by decide), fun _ => hQ⟩
    · rw [cif_f (fun q => h2 (fun z => z q.2))] at hQ; exact hQ
theorem pm_ask (hM : md_L w y g) (hK : md_K y g) (h7 : mu_I g (y + 7) = B7) (h8 : mu_I g (y + 8) = B8) (hwH : sd_wH B7 B8 B9) : mu_met w mm_X11_ask (d + 3) [.ref y, .int v1, .int v2] g (some (.int (pAsk B7 B8 v1 v2))) g := by
  refine mu_mk mk_X11_ask rfl rfl rfl (fun L hL Q hQ => fm_X11_ask_0 (mu_cI sp_X11_isSlotN hL ?_))
  unfold pAsk at hQ
  rw [cI_0]
  refine ⟨fun h => ?_, fun h => mu_cI (sp_X11_iN (a := 0) (b := 5) rfl rfl) hL ?_⟩
  · rw [cif_f (fun q => h q.1)] at hQ; exact hQ
  · replace h := Classical.not_not.mp h
    rw [cI_0]
    refine ⟨fun h2 => ?_, fun h2 => ?_⟩
    · replace h2 := Classical.not_not.mp h2
      rw [cif_t ⟨h, h2⟩] at hQ
      obtain ⟨i, i1, rfl, i3, i2⟩ := ix_of (v := v1) (n := 5) ⟨h.1, by omega⟩
      obtain ⟨n, n1, rfl, n3, n2⟩ := ix_of (v := v2) (n := 6) ⟨h2.1, by omega⟩
      rw [i3, n3] at hQ
      have hin : mu_in (nI i) 5 := mu_in_n i1 (by omega)
      rw [md_T0 hM, md_R7 hM, md_T7 hM, md_N7 hM, md_R8 hM, md_T8 hM, md_N8 hM, h7, h8, i3]
      refine ⟨rfl, rfl, hin, fun e0 => ⟨rfl, rfl, hin, fun e1 => ?_, fun e1 => ⟨rfl, rfl, hin, ?_⟩⟩, fun e0 => ?_⟩
      · rw [cif_f e0, cif_f (fun q => e1 q.1)] at hQ; exact hQ
      · replace e1 := Classical.not_not.mp e1
        rw [cif_f e0] at hQ
        obtain ⟨k, k1, k2⟩ := (hwH i i1).2.1 e1
        rw [k2, nI_clamp (by omega)] at hQ
        rw [k2]
        refine mu_cI (isOf_n (by omega) n2) hL ?_
        rw [cI_0]
        refine ⟨fun h3 => ?_, fun h3 => ?_⟩
        · rw [cif_f (fun q => h3 q.2)] at hQ; exact hQ
        · rw [cif_t ⟨e1, Classical.not_not.mp h3⟩] at hQ
          rw [md_T0 hM, md_R8 hM, md_T8 hM, md_N8 hM, h8, k2, md_R12 hM, md_T12 hM, md_N12 hM, nI_clamp (by omega), (hK k (by omega)).2.1]
          exact ⟨rfl, rfl, rfl, hin, rfl, mu_in_n (by omega) (by omega), hQ⟩
      · rw [cif_t (Classical.not_not.mp e0)] at hQ; exact hQ
    · rw [cif_f (fun q => h2 (fun z => z q.2))] at hQ; exact hQ
theorem pc_item (hC : cl_L w x g) (hH : sd_H x B7 B8 B9 B10 g) (hwH : sd_wH B7 B8 B9) : mu_met w mm_X10_item (d + 2) [.ref x, .int v1, .int v2] g (some (.int (pItem B7 B9 B10 v1 v2))) g := by
  refine mu_mk mk_X10_item rfl rfl rfl (fun L hL Q hQ => fm_X10_item_0 (mu_cI sp_X10_isSlot hL ?_))
  unfold pItem at hQ
  rw [cI_0]
  refine ⟨fun h => ?_, fun h => ?_⟩
  · replace h := Classical.not_not.mp h
    rw [cif_t h] at hQ
    obtain ⟨i, i1, rfl, i3, i2⟩ := ix_of (v := v1) (n := 5) ⟨h.1, by omega⟩
    rw [i3] at hQ
    obtain ⟨t1, t2, t3, t4⟩ := hH i i1
    have hin : mu_in (nI i) 5 := mu_in_n i1 (by omega)
    rw [cl_T hC, cl_R9 hC, cl_T9 hC, cl_N9 hC, i3, cl_RO hC i1, cl_O1 hC i1]
    refine ⟨rfl, ⟨by decide, by decide⟩, hin, rfl, mu_cI (sp_X7_findingOn (cl_O1 hC i1)) hL ?_⟩
    rw [t1]
    by_cases e0 : B7 i = 0
    · rw [cif_t e0] at hQ ⊢
      exact ⟨fun q => absurd q (by decide), fun _ => hQ⟩
    · rw [cif_f e0] at hQ ⊢
      by_cases e1 : B7 i = 2
      · rw [cif_t e1] at hQ ⊢
        obtain ⟨n, n1, n2⟩ := (hwH i i1).2.2 e1
        obtain ⟨u1, u2⟩ := t4 e1
        rw [n2, nI_clamp (by omega)] at hQ
        rw [cl_O1 hC i1, cl_O2 hC i1, cl_O3 hC i1]
        refine ⟨fun _ => ⟨rfl, rfl, mu_cI (sp_X5_hasPlace (cl_O3 hC i1) (u1.trans n2) n1) hL ?_⟩, fun q => absurd rfl q⟩
        rw [cI_0]
        refine ⟨fun h3 => ?_, fun h3 => ?_⟩
        · rw [cif_f h3] at hQ; exact hQ
        · replace h3 := Classical.not_not.mp h3
          rw [cif_t h3] at hQ
          obtain ⟨k, k1, rfl, k3, k2⟩ := ix_of h3
          rw [k3] at hQ
          rw [cl_O1 hC i1, cl_O2 hC i1, cl_O3 hC i1, cl_O4 hC i1, cl_O5 hC i1, cl_O6 hC i1, k3, u2 k (by omega)]
          exact ⟨rfl, rfl, rfl, mu_in_n (by omega) (by omega), hQ⟩
      · rw [cif_f e1] at hQ ⊢
        exact ⟨fun q => absurd q (by decide), fun _ => hQ⟩
  · rw [cif_f (fun q => h (fun z => z q))] at hQ; exact hQ
theorem pm_item (hM : md_L w y g) (h7 : mu_I g (y + 7) = B7) (h9 : mu_I g (y + 9) = B9) (h10 : mu_I g (y + 10) = B10) (hwH : sd_wH B7 B8 B9) : mu_met w mm_X11_item (d + 2) [.ref y, .int v1, .int v2] g (some (.int (pItem B7 B9 B10 v1 v2))) g := by
  refine mu_mk mk_X11_item rfl rfl rfl (fun L hL Q hQ => fm_X11_item_0 (mu_cI sp_X11_isSlotN hL ?_))
  unfold pItem at hQ
  rw [cI_0]
  refine ⟨fun h => ?_, fun h => ?_⟩
  · replace h := Classical.not_not.mp h
    rw [cif_t h] at hQ
    obtain ⟨i, i1, rfl, i3, i2⟩ := ix_of (v := v1) (n := 5) ⟨h.1, by omega⟩
    rw [i3] at hQ
    have hin : mu_in (nI i) 5 := mu_in_n i1 (by omega)
    rw [md_T0 hM, md_R7 hM, md_T7 hM, md_N7 hM, md_R9 hM, md_T9 hM, md_N9 hM, h7, h9, i3]
    refine ⟨rfl, rfl, hin, fun e1 => ⟨rfl, rfl, hin, ?_⟩, fun e1 => ⟨rfl, rfl, hin, fun e0 => ?_, fun e0 => ?_⟩⟩
    · have e0 : ¬ B7 i = 0 := by rw [e1]; decide
      rw [cif_f e0, cif_t e1] at hQ
      obtain ⟨n, n1, n2⟩ := (hwH i i1).2.2 e1
      rw [n2, nI_clamp (by omega)] at hQ
      rw [n2]
      refine mu_cI (sp_X11_iN (a := 0) (b := (n : Int) - 1) rfl (by rw [Int32.toInt_toInt64]; exact li_cnt (by omega))) hL ?_
      have ec : (0 ≤ v2.toInt ∧ v2.toInt ≤ (n : Int) - 1) ↔ (0 ≤ v2.toInt ∧ v2.toInt < (n : Int)) := by omega
      rw [cI_0, ec]
      refine ⟨fun h3 => ?_, fun h3 => ?_⟩
      · rw [cif_f h3] at hQ; exact hQ
      · replace h3 := Classical.not_not.mp h3
        rw [cif_t h3] at hQ
        obtain ⟨k, k1, rfl, k3, k2⟩ := ix_of h3
        rw [k3] at hQ
        have e24 : (24 : Int32) * nI i + nI k = nI (24 * i + k) := by rw [li_n, pk_mul, nI_add]
        rw [md_T0 hM, md_R10 hM, md_T10 hM, md_N10 hM, h10, e24, nI_clamp (by omega)]
        exact ⟨rfl, rfl, mu_in_n (by omega) (by omega), hQ⟩
    · rw [cif_f e0, cif_f e1] at hQ; exact hQ
    · rw [cif_t (Classical.not_not.mp e0)] at hQ; exact hQ
  · rw [cif_f (fun q => h (fun z => z q))] at hQ; exact hQ
theorem pc_rest (hC : cl_L w x g) (hH : sd_H x B7 B8 B9 B10 g) : mu_met w mm_X10_rest (d + 2) [.ref x, .int v1, .int v2] g (some (.int (pRm B7 B8 v1 v2))) g := by
  refine mu_mk mk_X10_rest rfl rfl rfl (fun L hL Q hQ => fm_X10_rest_0 (mu_cI sp_X10_isSlot hL ?_))
  unfold pRm at hQ
  rw [cI_0]
  refine ⟨fun h => ?_, fun h => ?_⟩
  · replace h := Classical.not_not.mp h
    rw [cif_t h] at hQ
    obtain ⟨i, i1, rfl, i3, i2⟩ := ix_of (v := v1) (n := 5) ⟨h.1, by omega⟩
    rw [i3] at hQ
    obtain ⟨t1, t2, t3, t4⟩ := hH i i1
    have hin : mu_in (nI i) 5 := mu_in_n i1 (by omega)
    rw [cl_T hC, cl_R9 hC, cl_T9 hC, cl_N9 hC, i3, cl_RO hC i1, cl_O1 hC i1]
    refine ⟨rfl, ⟨by decide, by decide⟩, hin, rfl, mu_cI (sp_X7_findingOn (cl_O1 hC i1)) hL ?_⟩
    rw [t1]
    by_cases e0 : B7 i = 0
    · rw [cif_t e0] at hQ ⊢
      exact ⟨fun q => absurd q (by decide), fun _ => hQ⟩
    · rw [cif_f e0] at hQ ⊢
      by_cases e1 : B7 i = 3
      · rw [cif_t e1] at hQ ⊢
        refine ⟨fun _ => ⟨fun h3 => ⟨cl_O1 hC i1, h3, ?_⟩, fun h3 => ?_⟩, fun q => absurd rfl q⟩
        · rw [cif_f h3] at hQ
          rw [t3 e1]
          exact hQ
        · rw [cif_t (Classical.not_not.mp h3)] at hQ; exact hQ
      · rw [cif_f e1] at hQ ⊢
        exact ⟨fun q => absurd q (by decide), fun _ => hQ⟩
  · rw [cif_f (fun q => h (fun z => z q))] at hQ; exact hQ
theorem pm_rest (hM : md_L w y g) (h7 : mu_I g (y + 7) = B7) (h8 : mu_I g (y + 8) = B8) : mu_met w mm_X11_rest (d + 2) [.ref y, .int v1, .int v2] g (some (.int (pRm B7 B8 v1 v2))) g := by
  refine mu_mk mk_X11_rest rfl rfl rfl (fun L hL Q hQ => fm_X11_rest_0 (mu_cI sp_X11_isSlotN hL ?_))
  unfold pRm at hQ
  rw [cI_0]
  refine ⟨fun h => ?_, fun h => ?_⟩
  · replace h := Classical.not_not.mp h
    rw [cif_t h] at hQ
    obtain ⟨i, i1, rfl, i3, i2⟩ := ix_of (v := v1) (n := 5) ⟨h.1, by omega⟩
    rw [i3] at hQ
    have hin : mu_in (nI i) 5 := mu_in_n i1 (by omega)
    rw [md_T0 hM, md_R7 hM, md_T7 hM, md_N7 hM, md_R8 hM, md_T8 hM, md_N8 hM, h7, h8, i3]
    refine ⟨rfl, rfl, hin, fun e1 => ⟨fun h3 => ⟨rfl, rfl, hin, h3, ?_⟩, fun h3 => ?_⟩, fun e1 => ⟨rfl, rfl, hin, fun e0 => ?_, fun e0 => ?_⟩⟩
    · rw [cif_f (by rw [e1]; decide), cif_t e1, cif_f h3] at hQ; exact hQ
    · rw [cif_f (by rw [e1]; decide), cif_t e1, cif_t (Classical.not_not.mp h3)] at hQ; exact hQ
    · rw [cif_f e0, cif_f e1] at hQ; exact hQ
    · rw [cif_t (Classical.not_not.mp e0)] at hQ; exact hQ
  · rw [cif_f (fun q => h (fun z => z q))] at hQ; exact hQ
end Sh8
