/-! the pure layer: numbers -/
theorem z_nn {n : Nat} (h : n < 2147483648) : (nI n).toNatClampNeg = n := Int32.toNatClampNeg_ofNat_of_lt h
theorem z_add (a b : Nat) : nI a + nI b = nI (a + b) := (Int32.ofNat_add a b).symm
theorem z_mul (a b : Nat) : nI a * nI b = nI (a * b) := (Int32.ofNat_mul a b).symm
theorem z_sub {a b : Nat} (h : b ≤ a) : nI a - nI b = nI (a - b) := (Int32.ofNat_sub a b h).symm
theorem z_lt {a b : Nat} (ha : a < 2147483648) (hb : b < 2147483648) : nI a < nI b ↔ a < b := Int32.ofNat_lt_iff_lt ha hb
theorem z_le {a b : Nat} (ha : a < 2147483648) (hb : b < 2147483648) : nI a ≤ nI b ↔ a ≤ b := Int32.ofNat_le_iff_le ha hb
theorem z_eq {a b : Nat} (ha : a < 2147483648) (hb : b < 2147483648) : nI a = nI b ↔ a = b :=
  ⟨fun h => by have := congrArg Int32.toNatClampNeg h; rwa [z_nn ha, z_nn hb] at this, fun h => h ▸ rfl⟩
theorem z_pos {n : Nat} (h : n < 2147483648) : ¬ nI n < 0 := fun hc => absurd ((z_lt h (by decide)).mp (show nI n < nI 0 from hc)) (Nat.not_lt_zero n)
theorem z_ne1 {n : Nat} (h : n < 2147483648) : ¬ nI n = -1 := fun hc => by
  have := z_pos h
  rw [hc] at this
  exact this (by decide)
theorem z_ex {x : Int32} (h : ¬ x < 0) : ∃ n : Nat, n < 2147483648 ∧ x = nI n := by
  have h0 : (0 : Int32) ≤ x := Int32.not_lt.mp h
  exact ⟨x.toNatClampNeg, Int32.toNatClampNeg_lt x, (Int32.ofNat_toNatClampNeg x h0).symm⟩
theorem vpi {k n : Nat} (h : k < n) (hn : n < 2147483648) : vp_in (nI k) n := by
  intro hc
  rcases hc with hc | hc
  · exact z_pos (Nat.lt_trans h hn) hc
  · rw [z_nn (Nat.lt_trans h hn)] at hc; omega
theorem z_dec {k f : Nat} (hk : k < 2147483648) (hf : f < 2147483648) : nI k - 1 < nI f ↔ k ≤ f := by
  cases k with
  | zero =>
    refine ⟨fun _ => Nat.zero_le _, fun _ => ?_⟩
    rw [Int32.lt_iff_toInt_lt]
    have h1 : (nI 0 - 1).toInt = -1 := by decide
    have h2 : (nI f).toInt = f := Int32.toInt_ofNat_of_lt hf
    rw [h1, h2]; omega
  | succ k =>
    have h1 : nI (k + 1) - 1 = nI k := by
      rw [show (1 : Int32) = nI 1 from rfl, z_sub (by omega)]; rfl
    rw [h1, z_lt (by omega) hf]; omega
theorem z_m1 (k : Nat) : nI (k + 1) - 1 = nI k := by
  rw [show (1 : Int32) = nI 1 from rfl, z_sub (by omega)]; rfl
theorem z_a1 (k : Nat) : nI k + 1 = nI (k + 1) := z_add k 1
theorem z_am1 (k : Nat) : nI (k + 1) + (-1) = nI k := by
  have : nI (k + 1) + (-1) = nI (k + 1) - 1 := by rw [Int32.sub_eq_add_neg]
  rw [this, z_m1]
theorem i_ext {x y : Int32} (h : x.toInt = y.toInt) : x = y := Int32.toInt_inj.mp h
theorem z_int {n : Nat} (h : n < 2147483648) : (nI n).toInt = n := Int32.toInt_ofNat_of_lt h
