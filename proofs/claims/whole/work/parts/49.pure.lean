/-- what is left to prove: of functions alone -/
theorem pure_ok : ∃ (N : Nat) (Inv : gI → gR → gS → Prop), gPure N Inv := sorry
