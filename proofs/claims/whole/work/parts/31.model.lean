/-! CLIENTS: the reference's cells: the object at y, its 25 rows behind it -/
theorem mu_T_sI (g : mu_H) (a k : Nat) (v : Int32) : mu_T (mu_sI g a k v) = mu_T g := rfl
theorem mu_N_sI (g : mu_H) (a k : Nat) (v : Int32) : mu_N (mu_sI g a k v) = mu_N g := rfl
theorem mu_R_sI (g : mu_H) (a k : Nat) (v : Int32) : mu_R (mu_sI g a k v) = mu_R g := rfl
theorem mu_X_sI (g : mu_H) (a k : Nat) (v : Int32) : mu_X (mu_sI g a k v) = mu_X g := rfl
theorem mu_S_sI (g : mu_H) (a k : Nat) (v : Int32) : mu_S (mu_sI g a k v) = mu_S g := rfl
theorem mu_I_sI (g : mu_H) (a k : Nat) (v : Int32) (x y : Nat) : mu_I (mu_sI g a k v) x y = if x = a ∧ y = k then v else mu_I g x y := rfl
def md_R (y : Nat) : Nat → Nat
  | 0 => y + 1
  | 1 => y + 2
  | 2 => y + 3
  | 4 => y + 4
  | 5 => y + 5
  | 6 => y + 6
  | 7 => y + 7
  | 8 => y + 8
  | 9 => y + 9
  | 10 => y + 10
  | 11 => y + 11
  | 12 => y + 12
  | 13 => y + 13
  | 14 => y + 14
  | 15 => y + 15
  | 16 => y + 16
  | 19 => y + 17
  | 20 => y + 18
  | 32 => y + 19
  | 33 => y + 20
  | 35 => y + 21
  | 36 => y + 22
  | 37 => y + 23
  | 38 => y + 24
  | 40 => y + 25
  | _ => 0
def md_N : Nat → Nat
  | 1 => 3470
  | 2 => 3470
  | 3 => 3470
  | 4 => 4
  | 5 => 4
  | 6 => 96
  | 7 => 5
  | 8 => 5
  | 9 => 5
  | 10 => 120
  | 11 => 6
  | 12 => 6
  | 13 => 6
  | 14 => 6
  | 15 => 968
  | 16 => 20
  | 17 => 8
  | 18 => 96
  | 19 => 128
  | 20 => 100
  | 21 => 3
  | 22 => 3
  | 23 => 24
  | 24 => 60
  | 25 => 60
  | _ => 0
def md_A : List Nat := [0, 1, 2, 4, 5, 6, 7, 8, 9, 10, 11, 12, 13, 14, 15, 16, 19, 20, 32, 33, 35, 36, 37, 38, 40]
/-- the reference's cells lie as they were made -/
def md_L (w : mu_O) (y : Nat) (g : mu_H) : Prop := w.1 < y ∧ mu_T g y = 12 ∧ (∀ k ∈ md_A, mu_R g y k = md_R y k) ∧ (∀ j, 1 ≤ j → j ≤ 25 → mu_T g (y + j) = 20 ∧ mu_N g (y + j) = md_N j)
section Md
variable {w : mu_O} {y : Nat} {g : mu_H}
theorem md_w (h : md_L w y g) : w.1 < y := h.1
theorem md_wj (h : md_L w y g) (j : Nat) : w.1 < y + j := Nat.lt_of_lt_of_le h.1 (Nat.le_add_right y j)
theorem md_T0 (h : md_L w y g) : mu_T g y = 12 := h.2.1
theorem md_R0 (h : md_L w y g) : mu_R g y 0 = y + 1 := h.2.2.1 0 (by decide)
theorem md_R1 (h : md_L w y g) : mu_R g y 1 = y + 2 := h.2.2.1 1 (by decide)
theorem md_R2 (h : md_L w y g) : mu_R g y 2 = y + 3 := h.2.2.1 2 (by decide)
theorem md_R4 (h : md_L w y g) : mu_R g y 4 = y + 4 := h.2.2.1 4 (by decide)
theorem md_R5 (h : md_L w y g) : mu_R g y 5 = y + 5 := h.2.2.1 5 (by decide)
theorem md_R6 (h : md_L w y g) : mu_R g y 6 = y + 6 := h.2.2.1 6 (by decide)
theorem md_R7 (h : md_L w y g) : mu_R g y 7 = y + 7 := h.2.2.1 7 (by decide)
theorem md_R8 (h : md_L w y g) : mu_R g y 8 = y + 8 := h.2.2.1 8 (by decide)
theorem md_R9 (h : md_L w y g) : mu_R g y 9 = y + 9 := h.2.2.1 9 (by decide)
theorem md_R10 (h : md_L w y g) : mu_R g y 10 = y + 10 := h.2.2.1 10 (by decide)
theorem md_R11 (h : md_L w y g) : mu_R g y 11 = y + 11 := h.2.2.1 11 (by decide)
theorem md_R12 (h : md_L w y g) : mu_R g y 12 = y + 12 := h.2.2.1 12 (by decide)
theorem md_R13 (h : md_L w y g) : mu_R g y 13 = y + 13 := h.2.2.1 13 (by decide)
theorem md_R14 (h : md_L w y g) : mu_R g y 14 = y + 14 := h.2.2.1 14 (by decide)
theorem md_R15 (h : md_L w y g) : mu_R g y 15 = y + 15 := h.2.2.1 15 (by decide)
theorem md_R16 (h : md_L w y g) : mu_R g y 16 = y + 16 := h.2.2.1 16 (by decide)
theorem md_R19 (h : md_L w y g) : mu_R g y 19 = y + 17 := h.2.2.1 19 (by decide)
theorem md_R20 (h : md_L w y g) : mu_R g y 20 = y + 18 := h.2.2.1 20 (by decide)
theorem md_R32 (h : md_L w y g) : mu_R g y 32 = y + 19 := h.2.2.1 32 (by decide)
theorem md_R33 (h : md_L w y g) : mu_R g y 33 = y + 20 := h.2.2.1 33 (by decide)
theorem md_R35 (h : md_L w y g) : mu_R g y 35 = y + 21 := h.2.2.1 35 (by decide)
theorem md_R36 (h : md_L w y g) : mu_R g y 36 = y + 22 := h.2.2.1 36 (by decide)
theorem md_R37 (h : md_L w y g) : mu_R g y 37 = y + 23 := h.2.2.1 37 (by decide)
theorem md_R38 (h : md_L w y g) : mu_R g y 38 = y + 24 := h.2.2.1 38 (by decide)
theorem md_R40 (h : md_L w y g) : mu_R g y 40 = y + 25 := h.2.2.1 40 (by decide)
theorem md_T1 (h : md_L w y g) : mu_T g (y + 1) = 20 := (h.2.2.2 1 (by decide) (by decide)).1
theorem md_N1 (h : md_L w y g) : mu_N g (y + 1) = 3470 := (h.2.2.2 1 (by decide) (by decide)).2
theorem md_T2 (h : md_L w y g) : mu_T g (y + 2) = 20 := (h.2.2.2 2 (by decide) (by decide)).1
theorem md_N2 (h : md_L w y g) : mu_N g (y + 2) = 3470 := (h.2.2.2 2 (by decide) (by decide)).2
theorem md_T3 (h : md_L w y g) : mu_T g (y + 3) = 20 := (h.2.2.2 3 (by decide) (by decide)).1
theorem md_N3 (h : md_L w y g) : mu_N g (y + 3) = 3470 := (h.2.2.2 3 (by decide) (by decide)).2
theorem md_T4 (h : md_L w y g) : mu_T g (y + 4) = 20 := (h.2.2.2 4 (by decide) (by decide)).1
theorem md_N4 (h : md_L w y g) : mu_N g (y + 4) = 4 := (h.2.2.2 4 (by decide) (by decide)).2
theorem md_T5 (h : md_L w y g) : mu_T g (y + 5) = 20 := (h.2.2.2 5 (by decide) (by decide)).1
theorem md_N5 (h : md_L w y g) : mu_N g (y + 5) = 4 := (h.2.2.2 5 (by decide) (by decide)).2
theorem md_T6 (h : md_L w y g) : mu_T g (y + 6) = 20 := (h.2.2.2 6 (by decide) (by decide)).1
theorem md_N6 (h : md_L w y g) : mu_N g (y + 6) = 96 := (h.2.2.2 6 (by decide) (by decide)).2
theorem md_T7 (h : md_L w y g) : mu_T g (y + 7) = 20 := (h.2.2.2 7 (by decide) (by decide)).1
theorem md_N7 (h : md_L w y g) : mu_N g (y + 7) = 5 := (h.2.2.2 7 (by decide) (by decide)).2
theorem md_T8 (h : md_L w y g) : mu_T g (y + 8) = 20 := (h.2.2.2 8 (by decide) (by decide)).1
theorem md_N8 (h : md_L w y g) : mu_N g (y + 8) = 5 := (h.2.2.2 8 (by decide) (by decide)).2
theorem md_T9 (h : md_L w y g) : mu_T g (y + 9) = 20 := (h.2.2.2 9 (by decide) (by decide)).1
theorem md_N9 (h : md_L w y g) : mu_N g (y + 9) = 5 := (h.2.2.2 9 (by decide) (by decide)).2
theorem md_T10 (h : md_L w y g) : mu_T g (y + 10) = 20 := (h.2.2.2 10 (by decide) (by decide)).1
theorem md_N10 (h : md_L w y g) : mu_N g (y + 10) = 120 := (h.2.2.2 10 (by decide) (by decide)).2
theorem md_T11 (h : md_L w y g) : mu_T g (y + 11) = 20 := (h.2.2.2 11 (by decide) (by decide)).1
theorem md_N11 (h : md_L w y g) : mu_N g (y + 11) = 6 := (h.2.2.2 11 (by decide) (by decide)).2
theorem md_T12 (h : md_L w y g) : mu_T g (y + 12) = 20 := (h.2.2.2 12 (by decide) (by decide)).1
theorem md_N12 (h : md_L w y g) : mu_N g (y + 12) = 6 := (h.2.2.2 12 (by decide) (by decide)).2
theorem md_T13 (h : md_L w y g) : mu_T g (y + 13) = 20 := (h.2.2.2 13 (by decide) (by decide)).1
theorem md_N13 (h : md_L w y g) : mu_N g (y + 13) = 6 := (h.2.2.2 13 (by decide) (by decide)).2
theorem md_T14 (h : md_L w y g) : mu_T g (y + 14) = 20 := (h.2.2.2 14 (by decide) (by decide)).1
theorem md_N14 (h : md_L w y g) : mu_N g (y + 14) = 6 := (h.2.2.2 14 (by decide) (by decide)).2
theorem md_T15 (h : md_L w y g) : mu_T g (y + 15) = 20 := (h.2.2.2 15 (by decide) (by decide)).1
theorem md_N15 (h : md_L w y g) : mu_N g (y + 15) = 968 := (h.2.2.2 15 (by decide) (by decide)).2
theorem md_T16 (h : md_L w y g) : mu_T g (y + 16) = 20 := (h.2.2.2 16 (by decide) (by decide)).1
theorem md_N16 (h : md_L w y g) : mu_N g (y + 16) = 20 := (h.2.2.2 16 (by decide) (by decide)).2
theorem md_T17 (h : md_L w y g) : mu_T g (y + 17) = 20 := (h.2.2.2 17 (by decide) (by decide)).1
theorem md_N17 (h : md_L w y g) : mu_N g (y + 17) = 8 := (h.2.2.2 17 (by decide) (by decide)).2
theorem md_T18 (h : md_L w y g) : mu_T g (y + 18) = 20 := (h.2.2.2 18 (by decide) (by decide)).1
theorem md_N18 (h : md_L w y g) : mu_N g (y + 18) = 96 := (h.2.2.2 18 (by decide) (by decide)).2
theorem md_T19 (h : md_L w y g) : mu_T g (y + 19) = 20 := (h.2.2.2 19 (by decide) (by decide)).1
theorem md_N19 (h : md_L w y g) : mu_N g (y + 19) = 128 := (h.2.2.2 19 (by decide) (by decide)).2
theorem md_T20 (h : md_L w y g) : mu_T g (y + 20) = 20 := (h.2.2.2 20 (by decide) (by decide)).1
theorem md_N20 (h : md_L w y g) : mu_N g (y + 20) = 100 := (h.2.2.2 20 (by decide) (by decide)).2
theorem md_T21 (h : md_L w y g) : mu_T g (y + 21) = 20 := (h.2.2.2 21 (by decide) (by decide)).1
theorem md_N21 (h : md_L w y g) : mu_N g (y + 21) = 3 := (h.2.2.2 21 (by decide) (by decide)).2
theorem md_T22 (h : md_L w y g) : mu_T g (y + 22) = 20 := (h.2.2.2 22 (by decide) (by decide)).1
theorem md_N22 (h : md_L w y g) : mu_N g (y + 22) = 3 := (h.2.2.2 22 (by decide) (by decide)).2
theorem md_T23 (h : md_L w y g) : mu_T g (y + 23) = 20 := (h.2.2.2 23 (by decide) (by decide)).1
theorem md_N23 (h : md_L w y g) : mu_N g (y + 23) = 24 := (h.2.2.2 23 (by decide) (by decide)).2
theorem md_T24 (h : md_L w y g) : mu_T g (y + 24) = 20 := (h.2.2.2 24 (by decide) (by decide)).1
theorem md_N24 (h : md_L w y g) : mu_N g (y + 24) = 60 := (h.2.2.2 24 (by decide) (by decide)).2
theorem md_T25 (h : md_L w y g) : mu_T g (y + 25) = 20 := (h.2.2.2 25 (by decide) (by decide)).1
theorem md_N25 (h : md_L w y g) : mu_N g (y + 25) = 60 := (h.2.2.2 25 (by decide) (by decide)).2
end Md
