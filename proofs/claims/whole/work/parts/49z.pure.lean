/-- what is left to prove: of functions alone -/
theorem pure_ok : ∃ (N : Nat) (Inv : Nat → gI → gR → gS → Prop), gPureY N Inv := sorry
