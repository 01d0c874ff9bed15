/-! no more ways than so many -/
theorem sub_iff {a m : Nat} : a &&& m = a ↔ ∀ i, a.testBit i = true → m.testBit i = true := by
  constructor
  · intro h i hi
    have := congrArg (fun z => z.testBit i) h
    simp only [Nat.testBit_and] at this
    rw [hi] at this; simpa using this
  · intro h
    apply Nat.eq_of_testBit_eq; intro i
    rw [Nat.testBit_and]
    cases q : a.testBit i
    · rfl
    · rw [h i q]; rfl
theorem pop_half (s : Nat) : ∀ k, popN s (k + 1) = popN (s / 2) k + s % 2
  | 0 => by
    show 0 + (if s.testBit 0 = true then 1 else 0) = 0 + s % 2
    rw [Nat.testBit_zero]
    rcases Nat.mod_two_eq_zero_or_one s with q | q <;> simp [q]
  | k + 1 => by
    show popN s (k + 1) + (if s.testBit (k + 1) = true then 1 else 0) = popN (s / 2) k + (if (s / 2).testBit k = true then 1 else 0) + s % 2
    rw [pop_half s k, Nat.testBit_div_two]; omega
theorem sb_div2 (a b : Nat) : sbN a b / 2 = sbN (a / 2) (b / 2) := by
  apply Nat.eq_of_testBit_eq; intro i
  rw [Nat.testBit_div_two, sb_bit, sb_bit, Nat.testBit_div_two, Nat.testBit_div_two]
theorem sb_mod2 (a b : Nat) : sbN a b % 2 = if a % 2 = 1 ∧ b % 2 = 0 then 1 else 0 := by
  have h := sb_bit a b 0
  simp only [Nat.testBit_zero] at h
  have h1 := Nat.mod_two_eq_zero_or_one (sbN a b)
  have h2 := Nat.mod_two_eq_zero_or_one a
  have h3 := Nat.mod_two_eq_zero_or_one b
  rcases h1 with h1 | h1 <;> rcases h2 with h2 | h2 <;> rcases h3 with h3 | h3 <;> simp_all
theorem sum_two (f : Nat → Nat) : ∀ a, sumN f (2 * a) = sumN (fun x => f (2 * x) + f (2 * x + 1)) a
  | 0 => rfl
  | a + 1 => by
    show sumN f (2 * a + 2) = sumN (fun x => f (2 * x) + f (2 * x + 1)) a + (f (2 * a) + f (2 * a + 1))
    rw [← sum_two f a]
    show sumN f (2 * a) + f (2 * a) + f (2 * a + 1) = _
    omega
theorem sumN_cgr {f g : Nat → Nat} : ∀ {m}, (∀ j, j < m → f j = g j) → sumN f m = sumN g m
  | 0, _ => rfl
  | m + 1, h => by show sumN f m + f m = sumN g m + g m; rw [h m (by omega), sumN_cgr (fun j hj => h j (by omega))]
theorem sumN_le {f g : Nat → Nat} : ∀ {m}, (∀ j, j < m → f j ≤ g j) → sumN f m ≤ sumN g m
  | 0, _ => Nat.le_refl _
  | m + 1, h => by
    have h1 := h m (by omega)
    have h2 := sumN_le (m := m) (fun j hj => h j (by omega))
    show sumN f m + f m ≤ sumN g m + g m; omega
theorem sumN_mul {f : Nat → Nat} {c : Nat} : ∀ {m}, sumN (fun j => c * f j) m = c * sumN f m
  | 0 => rfl
  | m + 1 => by show sumN (fun j => c * f j) m + c * f m = c * (sumN f m + f m); rw [sumN_mul, Nat.mul_add]
theorem sumN_pos {f : Nat → Nat} : ∀ {m}, 0 < sumN f m ↔ ∃ j, j < m ∧ 0 < f j
  | 0 => ⟨fun h => absurd h (Nat.lt_irrefl _), fun ⟨j, hj, _⟩ => absurd hj (Nat.not_lt_zero _)⟩
  | m + 1 => by
    show 0 < sumN f m + f m ↔ _
    constructor
    · intro h
      by_cases q : 0 < f m
      · exact ⟨m, by omega, q⟩
      · obtain ⟨j, h1, h2⟩ := (sumN_pos (f := f) (m := m)).mp (by omega)
        exact ⟨j, by omega, h2⟩
    · rintro ⟨j, h1, h2⟩
      by_cases q : j = m
      · subst q; omega
      · have := (sumN_pos (f := f) (m := m)).mpr ⟨j, by omega, h2⟩; omega
def bnF (c s k p : Nat) : Nat := if p &&& s = p then c ^ popN (sbN s p) k else 0
theorem bn_sum (c : Nat) : ∀ k s, s < 2 ^ k → sumN (bnF c s k) (s + 1) = (c + 1) ^ popN s k
  | 0, s, hs => by
    have : s = 0 := by have : (2 : Nat) ^ 0 = 1 := rfl; omega
    subst this
    show 0 + bnF c 0 0 0 = _
    unfold bnF
    rw [if_pos (Nat.zero_and 0)]; rfl
  | k + 1, s, hs => by
    have hk : s / 2 < 2 ^ k := by rw [Nat.pow_succ] at hs; omega
    have ihk := bn_sum c k (s / 2) hk
    have e2 : sumN (bnF c s (k + 1)) (2 * (s / 2 + 1)) = sumN (bnF c s (k + 1)) (s + 1) := by
      refine sum_skip _ (by omega) (fun j h1 h2 => ?_)
      unfold bnF
      rw [if_neg]
      intro q
      have := sub_le q
      omega
    rw [← e2, sum_two, pop_half]
    have ev : ∀ x, x < s / 2 + 1 → bnF c s (k + 1) (2 * x) + bnF c s (k + 1) (2 * x + 1) = (if s % 2 = 1 then c + 1 else 1) * bnF c (s / 2) k x := fun x _ => by
      unfold bnF
      have d1 : 2 * x / 2 = x := by omega
      have d2 : (2 * x + 1) / 2 = x := by omega
      have m1 : (2 * x) % 2 = 0 := by omega
      have m2 : (2 * x + 1) % 2 = 1 := by omega
      rw [pop_half (sbN s (2 * x)) k, pop_half (sbN s (2 * x + 1)) k, sb_div2, sb_div2, sb_mod2, sb_mod2, d1, d2, m1, m2]
      have s1 := sub_half (a := 2 * x) (m := s)
      have s2 := sub_half (a := 2 * x + 1) (m := s)
      rw [d1, m1] at s1
      rw [d2, m2] at s2
      by_cases q : x &&& s / 2 = x
      · rw [if_pos (s1.mpr ⟨q, fun z => absurd z (by decide)⟩), if_pos q]
        rcases Nat.mod_two_eq_zero_or_one s with z | z
        · have n2 : ¬ (2 * x + 1 &&& s = 2 * x + 1) := fun w => by have := (s2.mp w).2 rfl; omega
          rw [if_neg n2, z]; simp
        · rw [if_pos (s2.mpr ⟨q, fun _ => z⟩), if_pos ⟨z, rfl⟩, if_neg (by omega), if_pos z, Nat.pow_succ, Nat.add_zero, Nat.add_mul, Nat.one_mul, Nat.mul_comm c]
      · rw [if_neg (fun w => q (s1.mp w).1), if_neg (fun w => q (s2.mp w).1), if_neg q, Nat.mul_zero]
    rw [sumN_cgr ev, sumN_mul, ihk]
    rcases Nat.mod_two_eq_zero_or_one s with z | z
    · rw [if_neg (by omega), z, Nat.one_mul]; rfl
    · rw [if_pos z, z, Nat.pow_succ, Nat.mul_comm]
theorem wy_le {may lost : Nat → Nat} : ∀ i s, s < 2 ^ 12 → wyN may lost i s ≤ (i + 1) ^ popN s 12
  | 0, s, hs => by
    show (if s = 0 then 1 else 0) ≤ (0 + 1) ^ popN s 12
    rw [Nat.zero_add, Nat.one_pow]; split <;> omega
  | i + 1, s, hs => by
    rw [← bn_sum (i + 1) 12 s hs]
    show sumN (stF (wyN may lost i) (may i) (lost i) s) (s + 1) ≤ _
    refine sumN_le (fun p hp => ?_)
    unfold stF bnF gdB
    by_cases q : p &&& (s &&& may i) = p
    · have qs := sub_tr q
      rw [if_pos qs]
      split
      · exact wy_le i _ (Nat.lt_of_le_of_lt sb_le hs)
      · exact Nat.zero_le _
    · rw [show decide (p &&& (s &&& may i) = p) = false from by simpa using q, Bool.false_and, if_neg (by decide)]
      exact Nat.zero_le _
theorem wy_63 {may lost : Nat → Nat} {i s n : Nat} (hi : i ≤ 10) (hn : n ≤ 8) (hs : s < 2 ^ n) : wyN may lost i s < 9223372036854775808 := by
  have q := p256 hn
  have h1 := wy_le (may := may) (lost := lost) i s (by omega)
  have h2 : popN s 12 ≤ 8 := by
    rw [pop_hi (k := 8) (by omega) 12 (by decide)]; exact pop_le s 8
  have h3 : (i + 1) ^ popN s 12 ≤ 11 ^ 8 := Nat.le_trans (Nat.pow_le_pow_left (show i + 1 ≤ 11 by omega) _) (Nat.pow_le_pow_right (by decide) h2)
  have h4 : (11 : Nat) ^ 8 < 9223372036854775808 := by decide
  omega
theorem lg_pos {x : Nat} (hx : x < 9223372036854775808) : lg_cmp (Int64.ofNat x) 0 ≤ 0 ↔ x = 0 := by
  have e : (Int64.ofNat x).toInt = x := Int64.toInt_ofNat_of_lt hx
  unfold lg_cmp
  by_cases h1 : Int64.ofNat x > 0
  · rw [if_pos h1]
    refine ⟨fun q => absurd q (by decide), fun q => ?_⟩
    subst q; exact absurd h1 (by decide)
  · rw [if_neg h1]
    have h1 : ¬ (0 : Int64) < Int64.ofNat x := h1
    rw [Int64.lt_iff_toInt_lt, e, show (0 : Int64).toInt = 0 from rfl] at h1
    have : x = 0 := by omega
    subst this
    exact ⟨fun _ => rfl, fun _ => by decide⟩
