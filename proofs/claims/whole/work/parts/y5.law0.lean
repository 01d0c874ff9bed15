/-! the law holds: every call keeps what stands between calls -/
theorem law0_all (xs : Nat → Int32) (L : Nat) (hL : L ≤ 3072) : law0 xs L := law0_of c_text xs L hL
