theorem law0_all (xs : Nat → Int32) (L : Nat) (hL : L ≤ 3072) : law0 xs L := by sorry
