/-! OWN SMALL MACHINE, PART 2: methods, what a walk is, what a contract is -/
/-- a method: its class' number, its name, its bytes, how many locals, what it returns, how many parameters, its instructions (pc, instruction, length) -/
abbrev mu_M : Type := Nat × MethodName × ByteArray × Nat × Option FieldType × Nat × List (Nat × Instr × Nat)
def mu_mK (m : mu_M) : Nat := m.1
def mu_mY (m : mu_M) : MethodName := m.2.1
def mu_mB (m : mu_M) : ByteArray := m.2.2.1
def mu_mL (m : mu_M) : Nat := m.2.2.2.1
def mu_mR (m : mu_M) : Option FieldType := m.2.2.2.2.1
def mu_mA (m : mu_M) : Nat := m.2.2.2.2.2.1
def mu_mC (m : mu_M) : List (Nat × Instr × Nat) := m.2.2.2.2.2.2
/-- links to private members of nest mates: fields (class, entry, class, name, descriptor, host), methods -/
def mu_nF : List (String × Nat × String × String × String × String) := [("StageFights$Move", 49, "StageFights", "GOES", "[I", "StageFights"), ("StageFights$Stage", 92, "StageFights", "REACH", "[I", "StageFights"), ("StageFights$Scene", 187, "StageFights", "TIRES", "[I", "StageFights"), ("StageFights$Scene", 190, "StageFights", "WEARS", "[I", "StageFights")]
def mu_nM : List (String × Nat × MethodName × String) := [("StageFights$Scene", 50, ⟨"StageFights$Log", "<init>", "()V"⟩, "StageFights"), ("StageFights$Scene", 83, ⟨"StageFights$Person", "<init>", "()V"⟩, "StageFights"), ("StageFights$Scene", 84, ⟨"StageFights$Move", "<init>", "()V"⟩, "StageFights"), ("StageFights", 80, ⟨"StageFights$Sheet", "<init>", "()V"⟩, "StageFights"), ("StageFights", 81, ⟨"StageFights$Slot", "<init>", "()V"⟩, "StageFights"), ("StageFights$Slot", 11, ⟨"StageFights$Sheet", "<init>", "()V"⟩, "StageFights"), ("StageFights$Scene", 101, ⟨"StageFights", "isWithin", "(III)Z"⟩, "StageFights"), ("StageFights$Text", 38, ⟨"StageFights", "asInt", "(Z)I"⟩, "StageFights"), ("StageFights$Scene", 163, ⟨"StageFights", "held", "(III)I"⟩, "StageFights"), ("StageFights$Move", 37, ⟨"StageFights", "asInt", "(Z)I"⟩, "StageFights"), ("StageFights$Move", 41, ⟨"StageFights", "isOfKind", "(II)Z"⟩, "StageFights"), ("StageFights$Scene", 122, ⟨"StageFights", "asInt", "(Z)I"⟩, "StageFights"), ("StageFights$Sheet", 28, ⟨"StageFights", "isWithin", "(III)Z"⟩, "StageFights"), ("StageFights$Sheet", 32, ⟨"StageFights", "asInt", "(Z)I"⟩, "StageFights")]
/-- the String constants: class, entry, text -/
def mu_ss : List (String × Nat × String) := [("StageFights$Reader", 73, "late"), ("StageFights$Reader", 79, "bar"), ("StageFights$Reader", 81, "hours"), ("StageFights$Reader", 113, "stw"), ("StageFights$Reader", 115, "ksba"), ("StageFights$Reader", 117, "ns")]
def mu_at : List (Nat × Instr × Nat) → Nat → Option (Instr × Nat)
  | [], _ => none
  | (k, i, n) :: t, pc => match Nat.beq k pc with
    | true => some (i, n)
    | false => mu_at t pc
def mu_nf : Nat → Nat
  | 0 => 3
  | 1 => 8
  | 2 => 3
  | 3 => 9
  | 4 => 19
  | 5 => 3
  | 6 => 6
  | 7 => 4
  | 8 => 5
  | 9 => 4
  | 10 => 13
  | _ => 41
