/-! THE ENVIRONMENT: addresses of what was there before (printed by gen/env.py) -/
abbrev zE : Type := va_G × (Nat → ClassId) × Nat × (Nat → Nat) × (Nat → Nat) × (Nat → Nat) × Nat × Nat × (Nat → Int32) × Option Nat
def eD (E : zE) : va_G := E.1
def eY (E : zE) : Nat → ClassId := E.2.1
def eB (E : zE) : Nat := E.2.2.1
/-- the literals' addresses, their values' addresses, the static arrays' addresses -/
def eK (E : zE) : Nat → Nat := E.2.2.2.1
def eV (E : zE) : Nat → Nat := E.2.2.2.2.1
def eU (E : zE) : Nat → Nat := E.2.2.2.2.2.1
/-- the script: its address, length, numbers -/
def eb (E : zE) : Nat := E.2.2.2.2.2.2.1
def eL (E : zE) : Nat := E.2.2.2.2.2.2.2.1
def eX (E : zE) : Nat → Int32 := E.2.2.2.2.2.2.2.2.1
/-- what the JDK has there for its own messages -/
def eW (E : zE) : Option Nat := E.2.2.2.2.2.2.2.2.2
def eA (E : zE) : Nat → Prop := fun q => eB E ≤ q
abbrev zRZ : Type := String × String × String × Value
abbrev zRT : Type := FieldType × Nat × Nat × (Nat → Value)
abbrev zRO : Type := String × Nat
abbrev zRF : Type := String × String × String × Value × Nat
abbrev zRR : Type := String × Nat × String × Nat
/-- the literals' bytes -/
def zLit : Nat → List Int32 := fun i => match i with
  | 0 => [98, 108, 111, 99, 107, 32, 114, 101, 97, 109, 32, 115, 101, 116, 32, 112, 97, 115, 115, 32]
  | 1 => [114, 117, 110, 115, 32, 108, 101, 97, 107, 115, 32, 112, 97, 121, 115, 32, 98, 97, 114, 115, 32]
  | 2 => [97, 116]
  | 3 => [111, 102]
  | 4 => [104, 111, 117, 114, 32, 100, 111, 110, 101, 32, 108, 97, 116, 101, 115, 116, 32, 99, 97, 117, 103, 104, 116, 32, 116, 117, 114, 110, 32, 108, 101, 118, 101, 108, 32, 102, 108, 111, 119, 32]
  | 5 => [114, 105, 110, 103, 32, 104, 111, 108, 101, 32, 98, 111, 114, 101, 32, 102, 105, 101, 108, 100, 32, 98, 117, 99, 107, 101, 116, 32, 108, 101, 118, 101, 108, 32, 104, 111, 117, 114, 32, 119, 101, 116, 32, 109, 111, 111, 100, 32]
  | 6 => [42, 47, 37]
  | 7 => [43, 45]
  | 8 => [116, 105, 109, 101, 115]
  | 9 => [105, 102]
  | 10 => [110, 111, 116]
  | 11 => [60, 62, 61]
  | 12 => [97, 110, 100]
  | 13 => [111, 114]
  | _ => []
/-- the static arrays -/
def zSta : Nat → List Int32 := fun i => match i with
  | 0 => [999, 9, 9, 10]
  | 1 => [3, 2, 7]
  | 2 => [4, 8, 11]
  | _ => []
def eRR (E : zE) : List zRR := [("NightColander$Parser", 56, "block ream set pass ", eK E 0), ("NightColander$Parser", 58, "runs leaks pays bars ", eK E 1), ("NightColander$Parser", 93, "at", eK E 2), ("NightColander$Parser", 95, "of", eK E 3), ("NightColander$Parser", 155, "hour done latest caught turn level flow ", eK E 4), ("NightColander$Parser", 157, "ring hole bore field bucket level hour wet mood ", eK E 5), ("NightColander$Parser", 150, "*/%", eK E 6), ("NightColander$Parser", 145, "+-", eK E 7), ("NightColander$Parser", 100, "times", eK E 8), ("NightColander$Parser", 75, "if", eK E 9), ("NightColander$Parser", 129, "not", eK E 10), ("NightColander$Parser", 137, "<>=", eK E 11), ("NightColander$Parser", 127, "and", eK E 12), ("NightColander$Parser", 115, "or", eK E 13)]
def eRO (E : zE) : List zRO := (List.range 14).map (fun i => ("java/lang/String", eK E i))
def eRF (E : zE) : List zRF := (List.range 14).map (fun i => ("java/lang/String", "coder", "B", .int 0, eK E i)) ++ (List.range 14).map (fun i => ("java/lang/String", "value", "[B", .ref (eV E i), eK E i))
def eRT (E : zE) : List zRT := (.int, eb E, eL E, fun j => .int (eX E j)) :: ((List.range 3).map (fun i => (.int, eU E i, (zSta i).length, fun j => .int ((zSta i).getD j 0))) ++ (List.range 14).map (fun i => (.byte, eV E i, (zLit i).length, fun j => .int ((zLit i).getD j 0))))
def eRZ (E : zE) : List zRZ := [("NightColander", "MOST_TERM", "[I", .ref (eU E 0)), ("NightColander$Parser", "MOST_BEHIND", "[I", .ref (eU E 1)), ("NightColander$Parser", "FIRST_OF_WORD", "[I", .ref (eU E 2)), ("java/lang/String", "COMPACT_STRINGS", "Z", .int 1), ("jdk/internal/util/Preconditions", "SIOOBE_FORMATTER", "Ljava/util/function/BiFunction;", va_rf (eW E))]
