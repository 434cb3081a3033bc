/-! CLIENTS: a move is written: the class -/
def bcG (a : Nat) (v1 v2 v3 v4 v5 : Int32) (g : mu_H) : mu_H := mu_sI (mu_sI (mu_sI (mu_sI (mu_sI (mu_sI (mu_sI (mu_sI g a 0 v1) a 1 v2) a 2 (v3 / 10)) a 3 (v3 % 10)) a 4 v4) a 5 (v5 / 10)) a 6 (v5 % 10)) a 7 0
section Qs
variable {w : mu_O} {d a : Nat} {g : mu_H}
theorem sp_X1_become {v1 v2 v3 v4 v5 : Int32} (hT : mu_T g a = 2) : mu_met w mm_X1_become d [.ref a, .int v1, .int v2, .int v3, .int v4, .int v5] g none (bcG a v1 v2 v3 v4 v5 g) := by
  refine mu_mk mk_X1_become rfl rfl rfl (fun L hL Q hQ => fm_X1_become_0 ?_)
  have h10 : ¬ (10 : Int32) = 0 := by decide
  exact ⟨hT, hT, h10, hT, h10, hT, hT, h10, hT, h10, hT, hT, Or.inl rfl, hQ⟩
end Qs
