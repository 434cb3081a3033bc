/-! CLIENTS: weapons and what a show leaves behind, in the class -/
theorem nn_m1 : nn (-1) = -1000000005 := rfl
theorem nn_n {k : Nat} (h : k < 1000) : nn (nI k) = nI k := by
  unfold nn
  rw [if_neg (fun e => by
    have := congrArg Int32.toInt e
    rw [nI_toInt (by omega)] at this
    have h2 : (-1 : Int32).toInt = -1 := rfl
    omega)]
theorem m1_n {k : Nat} (h : k < 2 ^ 31) : ¬ nI k = -1 := fun e => by
  have := congrArg Int32.toInt e
  rw [nI_toInt h] at this
  have h2 : (-1 : Int32).toInt = -1 := rfl
  omega
theorem wf_c_u {s : Nat → Int32} {K : Nat} {v : Int32} (h : wf_c s) (hK : 10 ≤ K) : wf_c (upd s K v) := by
  obtain ⟨a0, a1, a2, a3, a4, a5, a6, a7, a9⟩ := h
  refine ⟨?_, ?_, ?_, ?_, ?_, ?_, ?_, ?_, ?_⟩
  · rw [np_u (by omega), pk_un (by omega)]; exact a0
  · rw [nm_u (by omega), pk_un (by omega)]; exact a1
  · rw [nsg_u (by omega), pk_un (by omega)]; exact a2
  · rw [ntx_u (by omega), pk_un (by omega)]; exact a3
  · rw [nch_u (by omega), pk_un (by omega)]; exact a4
  · rw [nwp_u (by omega), pk_un (by omega)]; exact a5
  · rw [nsh_u (by omega), pk_un (by omega)]; exact a6
  · rw [nlg_u (by omega), pk_un (by omega)]; exact a7
  · rw [nwt_u (by omega), pk_un (by omega)]; exact a9
theorem wf_m_u {s : Nat → Int32} {K B : Nat} {v : Int32} (h : wf_m B s) (hc : wf_c s) (hK : 1 < K) (hK2 : K < 60 ∨ 60 + 8 * nm s ≤ K) : wf_m B (upd s K v) := fun m hm => by
  rw [nm_u (by omega)] at hm
  obtain ⟨h1, h2⟩ := h m hm
  rw [np_u (by omega), vM_u (by omega), vM_u (by omega), vM_u (by omega), vM_u (by omega), vM_u (by omega), vM_u (by omega), vM_u (by omega), vM_u (by omega)]
  refine ⟨fun f hf => ?_, h2⟩
  rw [vM_u (by omega), pk_un (by omega)]
  exact h1 f hf
/-- one of them is tired, and his weapon worn -/
def tw (s : Nat → Int32) (p : Nat) : Nat → Int32 := if s (20 + 4 * p + 3) = -1 then upd s (20 + 4 * p + 2) (nI (min 99 (vP s p 2 + sTi s p (nm s)))) else upd (upd s (20 + 4 * p + 2) (nI (min 99 (vP s p 2 + sTi s p (nm s))))) (270 + 2 * (s (20 + 4 * p + 3)).toNatClampNeg) (nI (min 99 (vW s (s (20 + 4 * p + 3)).toNatClampNeg + sWe s p (nm s))))
theorem sTi_le (s : Nat → Int32) (p n : Nat) : sTi s p n ≤ n * 3 := sumN_le (fun i _ => by dsimp only; split; (unfold kTires; split <;> omega); omega)
theorem sWe_le (s : Nat → Int32) (p n : Nat) : sWe s p n ≤ n * 3 := sumN_le (fun i _ => by dsimp only; split; (unfold kWears; split <;> omega); omega)
section Cv
variable {w : mu_O} {d b S E : Nat} {g : mu_H} {s : Nat → Int32} {B : Nat}
theorem sp_X4_weaponOf {p : Nat} (hS : sc_L w b g) (hV : sc_V w E b s g) (hc : wf_c s) (hw : wf_w s) (hp : p < np s) : mu_met w mm_X4_weaponOf d [.ref b, .int (nI p)] g (some (.int (nn (s (20 + 4 * p + 3))))) g := by
  refine mu_mk mk_X4_weaponOf rfl rfl rfl (fun L hL Q hQ => fm_X4_weaponOf_0 ?_)
  sorry
end Cv
