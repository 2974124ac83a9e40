/-! The abstract machine: values name cells by their PLACE in a list of shapes; the numbers lie in a memory. -/
/-- pc, instruction, two numbers that resolve it -/
abbrev zE : Type := Nat × Instr × Nat × Nat
/-- the shape of a cell: kind (0 object, 1 ints, 2 booleans, 3 references), its number of the list of kinds or its length, its references -/
abbrev zS : Type := Nat × Nat × List (Option Nat)
abbrev zP : Type := MethodName × ByteArray × Nat × Option FieldType × Nat × Nat × Nat × Nat × Nat × Nat × List zE
abbrev z_nm (P : zP) : MethodName := P.1
abbrev z_by (P : zP) : ByteArray := P.2.1
abbrev z_mL (P : zP) : Nat := P.2.2.1
abbrev z_rt (P : zP) : Option FieldType := P.2.2.2.1
abbrev z_na (P : zP) : Nat := P.2.2.2.2.1
abbrev z_ci (P : zP) : Nat := P.2.2.2.2.2.1
abbrev z_mc (P : zP) : Nat := P.2.2.2.2.2.2.1
abbrev z_ms (P : zP) : Nat := P.2.2.2.2.2.2.2.1
abbrev z_fb (P : zP) : Nat := P.2.2.2.2.2.2.2.2.1
abbrev z_lb (P : zP) : Nat := P.2.2.2.2.2.2.2.2.2.1
abbrev z_cd (P : zP) : List zE := P.2.2.2.2.2.2.2.2.2.2
abbrev zT (μ : Type) : Type := Nat × List (Option Value) × List Value × List zS × μ × Nat × Nat
def z_at {α : Type} : List α → Nat → Option α
  | [], _ => none
  | a :: _, 0 => some a
  | _ :: l, n + 1 => z_at l n
