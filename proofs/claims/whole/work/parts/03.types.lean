/-! THE MINI MACHINE: ints as Int (wrapped), references as small numbers, the heap as a function. Its soundness over the kit stands in a later part. -/
abbrev mV : Type := Int ⊕ (Int ⊕ Option Nat)
abbrev mR : Type := Option mV
abbrev mC : Type := (Nat × List mV) ⊕ (Nat × Nat × (Int → Int))
abbrev mW : Type := (Nat → mC) × Nat × Nat
abbrev mL : Type := List (Option mV)
/-- op, a, b, c, v, cases of a switch, locals that are dead here -/
abbrev mI : Type := Nat × Nat × Nat × Nat × Int × List (Int × Nat) × List Nat
abbrev mO : Type := Option (mR × mW)
def mm_nth : List mI → Nat → mI
  | [], _ => (0, 0, 0, 0, 0, [], [])
  | x :: _, 0 => x
  | _ :: r, n + 1 => mm_nth r n
