theorem kindOf_b {nt : Nat} {M : xM} : 0 ≤ f_X10_kindOf nt M ∧ f_X10_kindOf nt M ≤ 5 := by
  unfold f_X10_kindOf
  simp only [xlet]
  split
  · decide
  · split
    · decide
    · cases f_X10_bankOf (M 29 nt 1) M with
      | none => dsimp only [xopt]; decide
      | some q =>
        dsimp only [xopt]
        repeat' split
        all_goals decide
