/-! THE START: the words that its world rests on -/
theorem in_t {i : Nat} {x : Jvm.Cond} (h : tables_1[i]? = some x) : x ∈ lw_tbl := List.mem_append_right _ (List.mem_of_getElem? h)
theorem nM_in : ∀ q ∈ mu_nM, Jvm.Cond.methodLinkNest q.1 q.2.1 q.2.2.1 q.2.2.2 ∈ lw_tbl := by
  unfold mu_nM
  exact List.forall_mem_cons.mpr ⟨in_t (i := 43) (by decide +kernel), List.forall_mem_cons.mpr ⟨in_t (i := 61) (by decide +kernel), List.forall_mem_cons.mpr ⟨in_t (i := 83) (by decide +kernel), List.forall_mem_cons.mpr ⟨in_t (i := 305) (by decide +kernel), List.forall_mem_cons.mpr ⟨in_t (i := 323) (by decide +kernel), List.forall_mem_cons.mpr ⟨in_t (i := 328) (by decide +kernel), List.forall_mem_cons.mpr ⟨in_t (i := 410) (by decide +kernel), List.forall_mem_cons.mpr ⟨in_t (i := 437) (by decide +kernel), List.forall_mem_cons.mpr ⟨in_t (i := 443) (by decide +kernel), List.forall_mem_cons.mpr ⟨in_t (i := 500) (by decide +kernel), List.forall_mem_cons.mpr ⟨in_t (i := 571) (by decide +kernel), List.forall_mem_cons.mpr ⟨in_t (i := 634) (by decide +kernel), List.forall_mem_cons.mpr ⟨in_t (i := 1060) (by decide +kernel), List.forall_mem_cons.mpr ⟨in_t (i := 1066) (by decide +kernel), fun _ h => absurd h List.not_mem_nil⟩⟩⟩⟩⟩⟩⟩⟩⟩⟩⟩⟩⟩⟩
theorem nF_in : ∀ q ∈ mu_nF, Jvm.Cond.fieldLinkNest q.1 q.2.1 q.2.2.1 q.2.2.2.1 q.2.2.2.2.1 q.2.2.2.2.2 ∈ lw_tbl := by
  unfold mu_nF
  exact List.forall_mem_cons.mpr ⟨in_t (i := 544) (by decide +kernel), List.forall_mem_cons.mpr ⟨in_t (i := 583) (by decide +kernel), List.forall_mem_cons.mpr ⟨in_t (i := 1015) (by decide +kernel), List.forall_mem_cons.mpr ⟨in_t (i := 1016) (by decide +kernel), fun _ h => absurd h List.not_mem_nil⟩⟩⟩⟩
theorem lay_0 : Jvm.Cond.laysStatic "StageFights" "ABOVE" "[I" ∈ lw_tbl := in_t (i := 509) (by decide +kernel)
theorem lay_1 : Jvm.Cond.laysStatic "StageFights" "REACH" "[I" ∈ lw_tbl := in_t (i := 484) (by decide +kernel)
theorem lay_2 : Jvm.Cond.laysStatic "StageFights" "WORTH" "[I" ∈ lw_tbl := in_t (i := 486) (by decide +kernel)
theorem lay_3 : Jvm.Cond.laysStatic "StageFights" "TIRES" "[I" ∈ lw_tbl := in_t (i := 488) (by decide +kernel)
theorem lay_4 : Jvm.Cond.laysStatic "StageFights" "WEARS" "[I" ∈ lw_tbl := in_t (i := 490) (by decide +kernel)
theorem lay_5 : Jvm.Cond.laysStatic "StageFights" "GOES" "[I" ∈ lw_tbl := in_t (i := 545) (by decide +kernel)
theorem lay_6 : Jvm.Cond.laysStatic "java/lang/String" "COMPACT_STRINGS" "Z" ∈ lw_tbl := in_t (i := 695) (by decide +kernel)
theorem lay_7 : Jvm.Cond.laysStatic "jdk/internal/util/Preconditions" "SIOOBE_FORMATTER" "Ljava/util/function/BiFunction;" ∈ lw_tbl := in_t (i := 711) (by decide +kernel)
theorem ini_0 : Jvm.Cond.initialized "StageFights" ∈ lw_tbl := in_t (i := 1) (by decide +kernel)
theorem ini_1 : Jvm.Cond.initialized "java/lang/String" ∈ lw_tbl := in_t (i := 14) (by decide +kernel)
theorem ini_2 : Jvm.Cond.initialized "jdk/internal/util/Preconditions" ∈ lw_tbl := in_t (i := 16) (by decide +kernel)
theorem sref_0 : Jvm.Cond.stringRef "StageFights$Reader" 73 "late" ∈ lw_tbl := in_t (i := 681) (by decide +kernel)
theorem sref_1 : Jvm.Cond.stringRef "StageFights$Reader" 79 "bar" ∈ lw_tbl := in_t (i := 734) (by decide +kernel)
theorem sref_2 : Jvm.Cond.stringRef "StageFights$Reader" 81 "hours" ∈ lw_tbl := in_t (i := 735) (by decide +kernel)
theorem sref_3 : Jvm.Cond.stringRef "StageFights$Reader" 113 "stw" ∈ lw_tbl := in_t (i := 752) (by decide +kernel)
theorem sref_4 : Jvm.Cond.stringRef "StageFights$Reader" 115 "ksba" ∈ lw_tbl := in_t (i := 753) (by decide +kernel)
theorem sref_5 : Jvm.Cond.stringRef "StageFights$Reader" 117 "ns" ∈ lw_tbl := in_t (i := 754) (by decide +kernel)
theorem arr_0 : Jvm.Cond.arrayClass .int ∈ lw_tbl := in_t (i := 59) (by decide +kernel)
theorem arr_1 : Jvm.Cond.arrayClass .byte ∈ lw_tbl := in_t (i := 299) (by decide +kernel)
theorem arr_2 : Jvm.Cond.arrayOver (.object "StageFights$Person") ∈ lw_tbl := in_t (i := 36) (by decide +kernel)
theorem arr_3 : Jvm.Cond.arrayOver (.object "StageFights$Move") ∈ lw_tbl := in_t (i := 38) (by decide +kernel)
theorem arr_4 : Jvm.Cond.arrayOver (.object "StageFights$Text") ∈ lw_tbl := in_t (i := 40) (by decide +kernel)
theorem arr_5 : Jvm.Cond.arrayOver (.object "StageFights$Sheet") ∈ lw_tbl := in_t (i := 301) (by decide +kernel)
theorem arr_6 : Jvm.Cond.arrayOver (.object "StageFights$Slot") ∈ lw_tbl := in_t (i := 303) (by decide +kernel)
def tR : Nat → Nat
  | 0 => 73
  | 1 => 79
  | 2 => 81
  | 3 => 113
  | 4 => 115
  | _ => 117
def tmS (i : Nat) : Jvm.Term := .string "StageFights$Reader" (tR i)
def lenS : List Nat := [4, 3, 5, 3, 4, 2]
def bytS : List (List Int32) := [[108, 97, 116, 101], [98, 97, 114], [104, 111, 117, 114, 115], [115, 116, 119], [107, 115, 98, 97], [110, 115]]
def nSt : Nat → String
  | 0 => "ABOVE"
  | 1 => "REACH"
  | 2 => "WORTH"
  | 3 => "TIRES"
  | 4 => "WEARS"
  | _ => "GOES"
def tmA (j : Nat) : Jvm.Term := .static "StageFights" (nSt j) "[I"
abbrev pG : Jvm.Cond := Jvm.Cond.and given_1 narrow_1
theorem pS_ex : ∀ i, i < 6 → Jvm.Cond.exactly (tmS i) "java/lang/String" ∈ flatC pG := by decide +kernel
theorem pS_co : ∀ i, i < 6 → Jvm.Cond.eq (.field (tmS i) "java/lang/String" "coder" "B") (.int 0) ∈ flatC pG := by decide +kernel
theorem pS_ar : ∀ i, i < 6 → Jvm.Cond.arrayOf (.field (tmS i) "java/lang/String" "value" "[B") .byte ∈ flatC pG := by decide +kernel
theorem pS_le : ∀ i, i < 6 → Jvm.Cond.eq (.length (.field (tmS i) "java/lang/String" "value" "[B")) (.int (Int32.ofNat (lenS.getD i 0))) ∈ flatC pG := by decide +kernel
theorem pS_el : ∀ i, i < 6 → ∀ j, j < lenS.getD i 0 → Jvm.Cond.eq (.elem (.field (tmS i) "java/lang/String" "value" "[B") (.int (Int32.ofNat j))) (.int ((bytS.getD i []).getD j 0)) ∈ flatC pG := by decide +kernel
theorem pS_ne : ∀ i, i < 6 → ∀ j, j < 6 → i ≠ j → Jvm.Cond.not (Jvm.Cond.eq (tmS i) (tmS j)) ∈ flatC pG ∨ Jvm.Cond.not (Jvm.Cond.eq (tmS j) (tmS i)) ∈ flatC pG := by decide +kernel
theorem pA_ar : ∀ j, j < 6 → Jvm.Cond.arrayOf (tmA j) .int ∈ flatC pG := by decide +kernel
theorem pA_le : ∀ j, j < 6 → Jvm.Cond.eq (.length (tmA j)) (.int (Int32.ofNat 6)) ∈ flatC pG := by decide +kernel
theorem pA_el : ∀ j, j < 6 → ∀ k, k < 6 → Jvm.Cond.eq (.elem (tmA j) (.int (Int32.ofNat k))) (.int (st_v j k)) ∈ flatC pG := by decide +kernel
theorem pC_6 : Jvm.Cond.eq (.static "java/lang/String" "COMPACT_STRINGS" "Z") (.int 1) ∈ flatC pG := by decide +kernel
theorem pC_7 : Jvm.Cond.isRef (.static "jdk/internal/util/Preconditions" "SIOOBE_FORMATTER" "Ljava/util/function/BiFunction;") ∈ flatC pG := by decide +kernel
theorem bS_eq : ∀ i, i < 6 → lenS.getD i 0 = (stx i).length ∧ lenS.getD i 0 < 100 ∧ ∀ k, k < (stx i).length → (bytS.getD i []).getD k 0 = nI ((stx i).getD k 0) := by decide +kernel
