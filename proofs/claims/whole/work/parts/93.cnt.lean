/-! the JDK's counts of bits -/
def lowN (n : Nat) : Nat → Nat
  | 0 => 0
  | f + 1 => if n.testBit 0 = true then 0 else lowN (n / 2) f + 1
def ntF4 (v0 v1 : Int32) : Int32 := v1 + ((v0.toUInt32 >>> ((1 : Int32).toUInt32 &&& Int32.toUInt32 31)).toInt32)
def ntF3 (v0 v1 : Int32) : Int32 := if v0 ≤ 4 then ntF4 v0 v1 else ntF4 ((v0.toUInt32 >>> ((2 : Int32).toUInt32 &&& Int32.toUInt32 31)).toInt32) (v1 + 2)
def ntF2 (v0 v1 : Int32) : Int32 := if v0 ≤ 16 then ntF3 v0 v1 else ntF3 ((v0.toUInt32 >>> ((4 : Int32).toUInt32 &&& Int32.toUInt32 31)).toInt32) (v1 + 4)
def ntF1 (v0 v1 : Int32) : Int32 := if v0 ≤ 256 then ntF2 v0 v1 else ntF2 ((v0.toUInt32 >>> ((8 : Int32).toUInt32 &&& Int32.toUInt32 31)).toInt32) (v1 + 8)
def ntF (x : Int32) : Int32 := if 0 < ((x ^^^ (-1)) &&& (x - 1)) then (if ((x ^^^ (-1)) &&& (x - 1)) ≤ 65536 then ntF1 ((x ^^^ (-1)) &&& (x - 1)) 1 else ntF1 ((((x ^^^ (-1)) &&& (x - 1)).toUInt32 >>> ((16 : Int32).toUInt32 &&& Int32.toUInt32 31)).toInt32) (1 + 16)) else (((x ^^^ (-1)) &&& (x - 1)) &&& 32)
theorem itP {c : Prop} [Decidable c] {α : Type} {a b : α} {P : α → Prop} (h : P (if c then a else b)) : (c → P a) ∧ (¬ c → P b) := ⟨fun q => by rw [if_pos q] at h; exact h, fun q => by rw [if_neg q] at h; exact h⟩
theorem k_ntz {E : En} {x : Int32} {d : Dy} {K : Int32 → Dy → Prop} (k : K (ntF x) d) : w_J6_numberOfTrailingZeros_0f7a4 E x d K := by
  have s3 : ∀ v0 v1, K (ntF3 v0 v1) d → b_J6_numberOfTrailingZeros_0f7a4_62 E K v0 v1 d := fun v0 v1 q => itP (P := fun z => K z d) q
  have s2 : ∀ v0 v1, K (ntF2 v0 v1) d → b_J6_numberOfTrailingZeros_0f7a4_49 E K v0 v1 d := fun v0 v1 q => by
    obtain ⟨q1, q2⟩ := itP (P := fun z => K z d) q
    exact ⟨fun c => s3 _ _ (q1 c), fun c => s3 _ _ (q2 c)⟩
  have s1 : ∀ v0 v1, K (ntF1 v0 v1) d → b_J6_numberOfTrailingZeros_0f7a4_34 E K v0 v1 d := fun v0 v1 q => by
    obtain ⟨q1, q2⟩ := itP (P := fun z => K z d) q
    exact ⟨fun c => s2 _ _ (q1 c), fun c => s2 _ _ (q2 c)⟩
  obtain ⟨q1, q2⟩ := itP (P := fun z => K z d) k
  refine ⟨fun c => ?_, q2⟩
  obtain ⟨q3, q4⟩ := itP (P := fun z => K z d) (q1 c)
  exact ⟨fun c => s1 _ _ (q3 c), fun c => s1 _ _ (q4 c)⟩
theorem nt_all_ab : ∀ a, a < 64 → ∀ b, b < 64 → (64 * a + b) = 0 ∨ ntF (nI (64 * a + b)) = nI (lowN (64 * a + b) 12) := by decide +kernel
theorem nt_all : ∀ n, n < 4096 → n = 0 ∨ ntF (nI n) = nI (lowN n 12) := fun n hn => by
  have := nt_all_ab (n / 64) (by omega) (n % 64) (by omega)
  rwa [show 64 * (n / 64) + n % 64 = n by omega] at this
theorem low_spec_ab : ∀ a, a < 64 → ∀ b, b < 64 → (64 * a + b) = 0 ∨ (lowN (64 * a + b) 12 < 12 ∧ Nat.testBit (64 * a + b) (lowN (64 * a + b) 12) = true) := by decide +kernel
theorem low_spec : ∀ n, n < 4096 → n = 0 ∨ (lowN n 12 < 12 ∧ Nat.testBit n (lowN n 12) = true) := fun n hn => by
  have := low_spec_ab (n / 64) (by omega) (n % 64) (by omega)
  rwa [show 64 * (n / 64) + n % 64 = n by omega] at this
theorem low_min : ∀ (f n i : Nat), i < lowN n f → n.testBit i = false
  | 0, n, i, h => by simp [lowN] at h
  | f + 1, n, i, h => by
    unfold lowN at h
    split at h
    · omega
    · next hc =>
      cases i with
      | zero => simpa using hc
      | succ i =>
        rw [Nat.testBit_succ]
        exact low_min f (n / 2) i (by omega)
def popN (n : Nat) : Nat → Nat
  | 0 => 0
  | i + 1 => popN n i + (if n.testBit i = true then 1 else 0)
def bcF (p0 : Int32) : Int32 := 
  let a := p0 - (((p0.toUInt32 >>> ((1 : Int32).toUInt32 &&& Int32.toUInt32 31)).toInt32) &&& 1431655765)
  let b := (a &&& 858993459) + (((a.toUInt32 >>> ((2 : Int32).toUInt32 &&& Int32.toUInt32 31)).toInt32) &&& 858993459)
  let c := (b + ((b.toUInt32 >>> ((4 : Int32).toUInt32 &&& Int32.toUInt32 31)).toInt32)) &&& 252645135
  let e := c + ((c.toUInt32 >>> ((8 : Int32).toUInt32 &&& Int32.toUInt32 31)).toInt32)
  (e + ((e.toUInt32 >>> ((16 : Int32).toUInt32 &&& Int32.toUInt32 31)).toInt32)) &&& 63
theorem k_bc {E : En} {x : Int32} {d : Dy} {K : Int32 → Dy → Prop} (k : K (bcF x) d) : w_J6_bitCount_0f7a4 E x d K := k
theorem bc_all_ab : ∀ a, a < 64 → ∀ b, b < 64 → bcF (nI (64 * a + b)) = nI (popN (64 * a + b) 12) := by decide +kernel
theorem bc_all : ∀ n, n < 4096 → bcF (nI n) = nI (popN n 12) := fun n hn => by
  have := bc_all_ab (n / 64) (by omega) (n % 64) (by omega)
  rwa [show 64 * (n / 64) + n % 64 = n by omega] at this
theorem pop_hi {n k : Nat} (h : n < 2 ^ k) : ∀ i, k ≤ i → popN n i = popN n k
  | 0, hi => by rw [show k = 0 by omega]
  | i + 1, hi => by
    by_cases e : k = i + 1
    · rw [e]
    · show popN n i + _ = _
      rw [pop_hi h i (by omega), Nat.testBit_lt_two_pow (Nat.lt_of_lt_of_le h (Nat.pow_le_pow_right (by omega) (by omega)))]; rfl
