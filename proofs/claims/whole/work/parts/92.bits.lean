/-! bits -/
theorem nI_bv (n : Nat) : (nI n).toBitVec = BitVec.ofNat 32 n := rfl
theorem i_bv {x y : Int32} (h : x.toBitVec = y.toBitVec) : x = y := Int32.toBitVec_inj.mp h
theorem sh_am : ∀ h, h < 32 → (nI h &&& 31).toBitVec.smod 32 = BitVec.ofNat 32 h := by decide
theorem b_shr {n h : Nat} (hn : n < 2147483648) (hh : h < 32) : nI n >>> (nI h &&& 31) = nI (n >>> h) := by
  apply i_bv
  show (nI n).toBitVec.sshiftRight' ((nI h &&& 31).toBitVec.smod 32) = _
  rw [sh_am h hh, nI_bv, nI_bv]
  show (BitVec.ofNat 32 n).sshiftRight (BitVec.ofNat 32 h).toNat = _
  rw [BitVec.sshiftRight_eq_of_msb_false (by rw [BitVec.msb_eq_decide]; simp; omega)]
  apply BitVec.eq_of_toNat_eq
  have h2 : n >>> h ≤ n := by rw [Nat.shiftRight_eq_div_pow]; exact Nat.div_le_self _ _
  rw [BitVec.toNat_ushiftRight, BitVec.toNat_ofNat, BitVec.toNat_ofNat, BitVec.toNat_ofNat, Nat.mod_eq_of_lt (show n < 2 ^ 32 by omega), Nat.mod_eq_of_lt (show h < 2 ^ 32 by omega), Nat.mod_eq_of_lt (show n >>> h < 2 ^ 32 by omega)]
theorem b_shl {h : Nat} (hh : h < 31) : (1 : Int32) <<< (nI h &&& 31) = nI (2 ^ h) := by
  have : ∀ h, h < 31 → (1 : Int32) <<< (nI h &&& 31) = nI (2 ^ h) := by decide
  exact this h hh
theorem b_and {a b : Nat} (ha : a < 2147483648) (hb : b < 2147483648) : nI a &&& nI b = nI (a &&& b) := by
  apply i_bv
  show (nI a).toBitVec &&& (nI b).toBitVec = _
  rw [nI_bv, nI_bv, nI_bv]
  apply BitVec.eq_of_toNat_eq
  have h2 : a &&& b ≤ a := Nat.and_le_left
  rw [BitVec.toNat_and, BitVec.toNat_ofNat, BitVec.toNat_ofNat, BitVec.toNat_ofNat, Nat.mod_eq_of_lt (show a < 2 ^ 32 by omega), Nat.mod_eq_of_lt (show b < 2 ^ 32 by omega), Nat.mod_eq_of_lt (show a &&& b < 2 ^ 32 by omega)]
theorem b_or {a b : Nat} (ha : a < 2147483648) (hb : b < 2147483648) : nI a ||| nI b = nI (a ||| b) := by
  apply i_bv
  show (nI a).toBitVec ||| (nI b).toBitVec = _
  rw [nI_bv, nI_bv, nI_bv]
  apply BitVec.eq_of_toNat_eq
  have h2 : a ||| b < 2 ^ 31 := Nat.or_lt_two_pow ha hb
  rw [BitVec.toNat_or, BitVec.toNat_ofNat, BitVec.toNat_ofNat, BitVec.toNat_ofNat, Nat.mod_eq_of_lt (show a < 2 ^ 32 by omega), Nat.mod_eq_of_lt (show b < 2 ^ 32 by omega), Nat.mod_eq_of_lt (show a ||| b < 2 ^ 32 by omega)]
/-- a without b -/
def sbN (a b : Nat) : Nat := a ^^^ (a &&& b)
theorem sb_bit (a b i : Nat) : (sbN a b).testBit i = (a.testBit i && !b.testBit i) := by
  unfold sbN; rw [Nat.testBit_xor, Nat.testBit_and]
  cases a.testBit i <;> cases b.testBit i <;> rfl
theorem sb_lt {a b k : Nat} (h : a < 2 ^ k) : sbN a b < 2 ^ k := by
  apply Nat.lt_pow_two_of_testBit
  intro i hi
  rw [sb_bit, Nat.testBit_lt_two_pow (Nat.lt_of_lt_of_le h (Nat.pow_le_pow_right (by omega) hi))]; rfl
theorem b_not {a b : Nat} (ha : a < 2147483648) (hb : b < 2147483648) : nI a &&& (nI b ^^^ (-1)) = nI (sbN a b) := by
  apply i_bv
  show (nI a).toBitVec &&& ((nI b).toBitVec ^^^ (-1 : Int32).toBitVec) = _
  rw [nI_bv, nI_bv, nI_bv, show (-1 : Int32).toBitVec = BitVec.allOnes 32 from by decide, BitVec.xor_allOnes]
  apply BitVec.eq_of_getLsbD_eq
  intro i hi
  rw [BitVec.getLsbD_and, BitVec.getLsbD_not, BitVec.getLsbD_ofNat, BitVec.getLsbD_ofNat, BitVec.getLsbD_ofNat, sb_bit]
  simp [hi]
theorem b_bit {n h : Nat} (hn : n < 2147483648) (hh : h < 32) : (nI n >>> (nI h &&& 31)) &&& 1 = if n.testBit h = true then 1 else 0 := by
  have h2 : n >>> h ≤ n := by rw [Nat.shiftRight_eq_div_pow]; exact Nat.div_le_self _ _
  rw [b_shr hn hh, show (1 : Int32) = nI 1 from rfl, b_and (by omega) (by decide)]
  have e : n >>> h &&& 1 = if n.testBit h = true then 1 else 0 := by
    rw [Nat.testBit, Nat.and_comm]
    have := Nat.and_one_is_mod (n >>> h)
    rw [Nat.and_comm] at this
    rw [this]
    have hm := Nat.mod_two_eq_zero_or_one (n >>> h)
    rcases hm with hm | hm <;> simp [hm]
  rw [e]; split <;> rfl
theorem b_mask (x : Int32) {k : Nat} (hk : k ≤ 12) : x &&& (((1 : Int32) <<< (nI k &&& 31)) - 1) = nI (x.toBitVec.toNat % 2 ^ k) := by
  have e : ∀ k, k ≤ 12 → ((1 : Int32) <<< (nI k &&& 31)) - 1 = nI (2 ^ k - 1) := by decide
  have p : 2 ^ k ≤ 2 ^ 12 := Nat.pow_le_pow_right (by omega) hk
  have p0 : 0 < 2 ^ k := Nat.pow_pos (by omega)
  rw [e k hk]
  apply i_bv
  show x.toBitVec &&& (nI (2 ^ k - 1)).toBitVec = _
  rw [nI_bv, nI_bv]
  apply BitVec.eq_of_toNat_eq
  have h1 := Nat.mod_lt x.toBitVec.toNat p0
  rw [BitVec.toNat_and, BitVec.toNat_ofNat, BitVec.toNat_ofNat, Nat.mod_eq_of_lt (show 2 ^ k - 1 < 2 ^ 32 by omega), Nat.and_two_pow_sub_one_eq_mod, Nat.mod_eq_of_lt (show x.toBitVec.toNat % 2 ^ k < 2 ^ 32 by omega)]
