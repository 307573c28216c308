/-! ===== the pure machine: cells by number (0: null), typed memory: ints, longs, references; shapes stand still ===== -/
abbrev ab_Ls : Type := List (Option Value)
abbrev ab_T : Type := List (Nat × Instr × Nat × Nat)
/-- a method: its name, class number, bytes, locals, what it returns, parameters (the receiver among them), rows, frames, words -/
abbrev ab_I : Type := MethodName × Nat × ByteArray × Nat × Option FieldType × Nat × ab_T × Nat × Nat
abbrev ab_Iy (i : ab_I) : MethodName := i.1
abbrev ab_Ic (i : ab_I) : Nat := i.2.1
abbrev ab_Ib (i : ab_I) : ByteArray := i.2.2.1
abbrev ab_Il (i : ab_I) : Nat := i.2.2.2.1
abbrev ab_Ir (i : ab_I) : Option FieldType := i.2.2.2.2.1
abbrev ab_In (i : ab_I) : Nat := i.2.2.2.2.2.1
abbrev ab_It (i : ab_I) : ab_T := i.2.2.2.2.2.2.1
abbrev ab_If (i : ab_I) : Nat := i.2.2.2.2.2.2.2.1
abbrev ab_Iw (i : ab_I) : Nat := i.2.2.2.2.2.2.2.2
/-- arrays of kinds 24 to 27 hold objects of the classes 1, 2, 3, 7 -/
def ab_oc : Nat → Nat
  | 24 => 1
  | 25 => 2
  | 26 => 3
  | _ => 7
