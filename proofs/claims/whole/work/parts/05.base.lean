/-! Values of AM, and what they are on the true machine. -/
abbrev AV : Type := Option (Int ⊕ (Int ⊕ Option Nat))
abbrev aI (x : Int) : AV := some (.inl x)
abbrev aL (x : Int) : AV := some (.inr (.inl x))
abbrev aR (a : Nat) : AV := some (.inr (.inr (some a)))
abbrev aN : AV := some (.inr (.inr none))
def cv (v : AV) : Value := match v with
  | some (.inl x) => .int (Int32.ofInt x)
  | some (.inr (.inl x)) => .long (Int64.ofInt x)
  | some (.inr (.inr (some a))) => .ref a
  | some (.inr (.inr none)) => .null
  | none => .null
def r32 (x : Int) : Prop := -2147483648 ≤ x ∧ x ≤ 2147483647
def r64 (x : Int) : Prop := -9223372036854775808 ≤ x ∧ x ≤ 9223372036854775807
def r8 (x : Int) : Prop := -128 ≤ x ∧ x ≤ 127
