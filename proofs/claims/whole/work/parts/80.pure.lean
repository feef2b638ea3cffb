theorem whole_pure (xs : Nat → Int32) (L : Nat) (hL : L ≤ 3072) : ∃ σS σM : Mm, f_State_clear z_State mm_0 0 = some σS ∧ f_Mod_init2 z_Mod (kI (kI mm_0 0 26 (-1)) 0 35 (-1)) 0 = some σM ∧ f_law z_Law xs L (mm_Law σS σM) = some 1 := by
  sorry
