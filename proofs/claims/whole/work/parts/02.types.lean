/-! ===== the abstract machine: heaps as functions, addresses as small numbers (0 null; 1 the script; 2, 3, 4 the static rows; 5 the text of the words; from 6 on what is made) ===== -/
abbrev aG : Type := (Nat → Nat) × (Nat → Nat) × (Nat → Nat → Nat) × Nat × Nat
abbrev aH : Type := aG × (Nat → Nat → Int32) × (Nat → Nat → Int64)
abbrev aQ : Type := Option Value → aH → Prop
abbrev aK : Type := Nat → List Value → List Value → aH → Prop
abbrev aCF : Type := Nat → List Value → aH → aQ → Prop
/-- instruction; the pc behind it; p; q; t; an int; a long; locals that are dead from here on; cases of a switch -/
abbrev aI : Type := Instr × Nat × Nat × Nat × Nat × Int32 × Int64 × List Nat × List (Int32 × Nat)
