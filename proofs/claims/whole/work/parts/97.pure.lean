theorem lw_pure : ∃ V : Nat × Nat → Nat → Nat → Nat → Nat → qS → Prop, lw_V V := by
  sorry
