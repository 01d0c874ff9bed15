/-! parts of a set, from the largest down -/
theorem and_div2 (a b : Nat) : (a &&& b) / 2 = a / 2 &&& b / 2 := by
  apply Nat.eq_of_testBit_eq; intro i
  rw [Nat.testBit_and, Nat.testBit_div_two, Nat.testBit_div_two, Nat.testBit_div_two, Nat.testBit_and]
theorem and_mod2 (a b : Nat) : (a &&& b) % 2 = if a % 2 = 1 ∧ b % 2 = 1 then 1 else 0 := by
  have h := Nat.testBit_and a b 0
  simp only [Nat.testBit_zero] at h
  have h1 := Nat.mod_two_eq_zero_or_one (a &&& b)
  have h2 := Nat.mod_two_eq_zero_or_one a
  have h3 := Nat.mod_two_eq_zero_or_one b
  rcases h1 with h1 | h1 <;> rcases h2 with h2 | h2 <;> rcases h3 with h3 | h3 <;> simp_all
theorem sub_half {a m : Nat} : a &&& m = a ↔ a / 2 &&& m / 2 = a / 2 ∧ (a % 2 = 1 → m % 2 = 1) := by
  constructor
  · intro h
    refine ⟨by rw [← and_div2, h], fun h1 => ?_⟩
    have := and_mod2 a m
    rw [h, h1] at this
    by_cases q : m % 2 = 1
    · exact q
    · rw [if_neg (fun z => q z.2)] at this; omega
  · rintro ⟨h1, h2⟩
    have e1 := and_div2 a m
    have e2 := and_mod2 a m
    rw [h1] at e1
    by_cases q : a % 2 = 1
    · rw [if_pos ⟨q, h2 q⟩] at e2; omega
    · rw [if_neg (fun z => q z.1)] at e2; omega
theorem sub_gap : ∀ (p m s : Nat), 0 < p → p &&& m = p → s &&& m = s → s < p → s ≤ (p - 1) &&& m := by
  intro p
  induction p using Nat.strongRecOn with
  | _ p ihp =>
    intro m s h0 hp hs hlt
    obtain ⟨p1, p2⟩ := sub_half.mp hp
    obtain ⟨s1, s2⟩ := sub_half.mp hs
    have e1 := and_div2 (p - 1) m
    have e2 := and_mod2 (p - 1) m
    by_cases q : p % 2 = 1
    · have hh : (p - 1) / 2 = p / 2 := by omega
      rw [hh, p1] at e1
      omega
    · have hh : (p - 1) / 2 = p / 2 - 1 := by omega
      rw [hh] at e1
      have h1 : (p - 1) % 2 = 1 := by omega
      by_cases z : s / 2 < p / 2
      · have := ihp (p / 2) (by omega) (m / 2) (s / 2) (by omega) p1 s1 z
        by_cases y : s % 2 = 1
        · rw [if_pos ⟨h1, s2 y⟩] at e2; omega
        · omega
      · omega
theorem sub_le {s m : Nat} (h : s &&& m = s) : s ≤ m := by have : s &&& m ≤ m := Nat.and_le_right; rw [h] at this; exact this
theorem sub_and {a m : Nat} : (a &&& m) &&& m = a &&& m := by rw [Nat.and_assoc, Nat.and_self]
theorem sum_skip {f : Nat → Nat} {a : Nat} : ∀ b, a ≤ b → (∀ j, a ≤ j → j < b → f j = 0) → sumN f b = sumN f a
  | 0, h, _ => by rw [show a = 0 by omega]
  | b + 1, h, z => by
    by_cases e : a = b + 1
    · rw [e]
    · show sumN f b + f b = _
      rw [z b (by omega) (by omega), sum_skip b (by omega) (fun j h1 h2 => z j h1 (by omega)), Nat.add_zero]
theorem sb_0 {a : Nat} : sbN a 0 = a := by unfold sbN; rw [Nat.and_zero, Nat.xor_zero]
theorem pop_0 : ∀ m, popN 0 m = 0
  | 0 => rfl
  | m + 1 => by unfold popN; rw [pop_0 m, Nat.zero_testBit]; rfl
theorem gd_0 {set may lost : Nat} : gdB set may lost 0 = true := by unfold gdB; rw [Nat.zero_and, pop_0]; simp
theorem stF_0 {w : Nat → Nat} {may lost set : Nat} : stF w may lost set 0 = w set := by unfold stF; rw [gd_0, if_pos rfl, sb_0]
theorem pop_pos {n : Nat} : ∀ m, popN n m = 0 → ∀ i, i < m → n.testBit i = false
  | 0, _, i, hi => by omega
  | m + 1, h, i, hi => by
    unfold popN at h
    by_cases e : i = m
    · subst e
      cases q : n.testBit i
      · rfl
      · rw [q, if_pos rfl] at h; omega
    · exact pop_pos m (by omega) i (by omega)
theorem pop_z {n : Nat} (hn : n < 4096) (h : popN n 12 = 0) : n = 0 := by
  apply Nat.eq_of_testBit_eq; intro i
  rw [Nat.zero_testBit]
  by_cases hi : i < 12
  · exact pop_pos 12 h i hi
  · exact Nat.testBit_lt_two_pow (Nat.lt_of_lt_of_le (show n < 2 ^ 12 from hn) (Nat.pow_le_pow_right (by decide) (by omega)))
/-- a hut that lost none, or that nothing fits, changes nothing -/
theorem st_none {w : Nat → Nat} {may lost set : Nat} (hs : set < 4096) (h : lost = 0 ∨ may = 0) : stW w may lost set = w set := by
  unfold stW
  rw [sum_skip (a := 1) (set + 1) (by omega) (fun j h1 h2 => ?_)]
  · show 0 + stF w may lost set 0 = _
    rw [stF_0, Nat.zero_add]
  · unfold stF gdB
    rcases h with h | h
    · rw [show decide (popN j 12 ≤ lost) = false from by
        rw [decide_eq_false_iff_not]; intro q
        have := pop_z (show j < 4096 by omega) (by omega)
        omega, Bool.and_false, if_neg (by decide)]
    · rw [show decide (j &&& (set &&& may) = j) = false from by
        rw [decide_eq_false_iff_not, h, Nat.and_zero, Nat.and_zero]; omega, Bool.false_and, if_neg (by decide)]
theorem b_xor {a b : Nat} (ha : a < 2147483648) (hb : b < 2147483648) : nI a ^^^ nI b = nI (a ^^^ b) := by
  apply i_bv
  show (nI a).toBitVec ^^^ (nI b).toBitVec = _
  rw [nI_bv, nI_bv, nI_bv]
  apply BitVec.eq_of_toNat_eq
  have h2 : a ^^^ b < 2 ^ 31 := Nat.xor_lt_two_pow ha hb
  rw [BitVec.toNat_xor, BitVec.toNat_ofNat, BitVec.toNat_ofNat, BitVec.toNat_ofNat, Nat.mod_eq_of_lt (show a < 2 ^ 32 by omega), Nat.mod_eq_of_lt (show b < 2 ^ 32 by omega), Nat.mod_eq_of_lt (show a ^^^ b < 2 ^ 32 by omega)]
theorem sb_sub {a b : Nat} (h : b &&& a = b) : a ^^^ b = sbN a b := by unfold sbN; rw [Nat.and_comm a b, h]
theorem sub_tr {p s f : Nat} (h : p &&& (s &&& f) = p) : p &&& s = p := by
  have e : p &&& s = (p &&& (s &&& f)) &&& s := by rw [h]
  rw [e, Nat.and_assoc, Nat.and_assoc, Nat.and_comm f s, ← Nat.and_assoc s s f, Nat.and_self, h]
theorem sb_lt2 {a b : Nat} (hb : 0 < b) (h : b &&& a = b) : sbN a b < a := by
  have hne : sbN a b ≠ a := fun q => by
    have : b = 0 := Nat.eq_of_testBit_eq (fun i => by
      have q1 := congrArg (fun z => z.testBit i) q
      have q2 := congrArg (fun z => z.testBit i) h
      simp only [sb_bit, Nat.testBit_and] at q1 q2
      rw [Nat.zero_testBit]
      cases h1 : a.testBit i <;> cases h2 : b.testBit i <;> simp_all)
    omega
  exact Nat.lt_of_le_of_ne sb_le hne
def fitN (W : Nat → Int32) (S : RS) (nh i : Nat) : Nat := if losN W i = 0 then 0 else btN (canB W S nh i) (cnt W 6)
theorem fit_lt {W : Nat → Int32} {S : RS} {nh i : Nat} : fitN W S nh i < 2 ^ cnt W 6 := by
  unfold fitN; split
  · exact Nat.two_pow_pos _
  · exact bt_lt _ _
