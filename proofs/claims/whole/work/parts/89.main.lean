def A00 (L : Nat) (xs : Nat → Int32) : LH := ([.inl (0, L, .inl xs), .inl (0, 5, .inl a_who), .inl (0, 4, .inl a_what), .inr (100, []), .inr (100, []), .inr (100, []), .inr (100, []), .inr (100, [])] ++ List.replicate 51 ab_, 0, 0, fun _ => ab_)
theorem main_run (L : Nat) (xs : Nat → Int32) (hL : L ≤ 3584) : ∃ N A', f_L_law N (A00 L xs) (some 0) = some (1, A') ∧ hn A' ≤ 600000 ∧ hz A' ≤ 7302250 := by
  sorry
