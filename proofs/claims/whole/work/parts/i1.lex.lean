/-! texts: the things on the tape -/
def inR (B : Nat → Nat) (tl lo hi p : Nat) : Bool := decide (p < tl) && (decide (lo ≤ B p) && decide (B p ≤ hi))
def skp (B : Nat → Nat) (tl lo hi : Nat) : Nat → Nat → Nat
  | 0, p => p
  | n + 1, p => if inR B tl lo hi p = true then skp B tl lo hi n (p + 1) else p
def skG (B : Nat → Nat) (tl lo hi p : Nat) : Nat := skp B tl lo hi (tl - p) p
section
variable {B : Nat → Nat} {tl lo hi p : Nat}
theorem inR_lt (h : inR B tl lo hi p = true) : p < tl := by unfold inR at h; simp only [Bool.and_eq_true, decide_eq_true_eq] at h; exact h.1
theorem inR_iff : inR B tl lo hi p = true ↔ p < tl ∧ lo ≤ B p ∧ B p ≤ hi := by unfold inR; simp only [Bool.and_eq_true, decide_eq_true_eq]
theorem sk_t (h : inR B tl lo hi p = true) : skG B tl lo hi p = skG B tl lo hi (p + 1) := by
  have := inR_lt h
  unfold skG
  rw [show tl - p = (tl - (p + 1)) + 1 by omega]
  show (if _ then _ else _) = _
  rw [if_pos h]
theorem skG_f (h : inR B tl lo hi p = false) : skG B tl lo hi p = p := by
  unfold skG
  cases hn : tl - p with
  | zero => rfl
  | succ n => show (if _ then _ else _) = _; rw [if_neg (by rw [h]; decide)]
theorem sk_all : ∀ n p, tl - p ≤ n → p ≤ skG B tl lo hi p ∧ (p ≤ tl → skG B tl lo hi p ≤ tl) ∧ inR B tl lo hi (skG B tl lo hi p) = false ∧ ∀ q, p ≤ q → q ≤ skG B tl lo hi p → skG B tl lo hi q = skG B tl lo hi p
  | 0, p, h => by
    have hf : inR B tl lo hi p = false := by
      cases z : inR B tl lo hi p
      · rfl
      · have := inR_lt z; omega
    rw [skG_f hf]
    exact ⟨Nat.le_refl _, id, hf, fun q h1 h2 => by rw [show q = p by omega, skG_f hf]⟩
  | n + 1, p, h => by
    cases z : inR B tl lo hi p
    · rw [skG_f z]
      exact ⟨Nat.le_refl _, id, z, fun q h1 h2 => by rw [show q = p by omega, skG_f z]⟩
    · have l := inR_lt z
      obtain ⟨a, b, c, e⟩ := sk_all n (p + 1) (by omega)
      rw [sk_t z]
      refine ⟨by omega, fun _ => b (by omega), c, fun q h1 h2 => ?_⟩
      by_cases q1 : q = p
      · rw [q1, sk_t z]
      · exact e q (by omega) h2
theorem sk_ge : p ≤ skG B tl lo hi p := (sk_all (tl - p) p (Nat.le_refl _)).1
theorem sk_le (h : p ≤ tl) : skG B tl lo hi p ≤ tl := (sk_all (tl - p) p (Nat.le_refl _)).2.1 h
theorem sk_end : inR B tl lo hi (skG B tl lo hi p) = false := (sk_all (tl - p) p (Nat.le_refl _)).2.2.1
theorem sk_mid {q : Nat} (h1 : p ≤ q) (h2 : q ≤ skG B tl lo hi p) : skG B tl lo hi q = skG B tl lo hi p := (sk_all (tl - p) p (Nat.le_refl _)).2.2.2 q h1 h2
end
def blk (B : Nat → Nat) (tl p : Nat) : Nat := skG B tl 32 32 p
theorem blk_blk {B : Nat → Nat} {tl p : Nat} : blk B tl (blk B tl p) = blk B tl p := sk_mid sk_ge (Nat.le_refl _)
def eqW (B : Nat → Nat) : List Nat → Nat → Bool
  | [], _ => true
  | c :: l, p => decide (B p = c) && eqW B l (p + 1)
def mtc (B : Nat → Nat) (b a : Nat) (w : List Nat) : Bool := decide (a = b + w.length) && eqW B w b
def wdC : List (List Nat) := [[104, 101, 108, 100], [97, 103, 101], [99, 104, 105, 108, 100, 114, 101, 110], [121, 101, 97, 114], [115, 105, 122, 101], [112, 108, 97, 99, 101], [119, 101, 101, 107, 115], [119, 97, 105, 116, 101, 100], [108, 111, 99, 97, 108], [115, 112, 111, 117, 115, 101], [99, 104, 105, 108, 100], [112, 97, 114, 101, 110, 116], [98, 114, 111, 116, 104, 101, 114], [116, 111], [105, 102], [97, 100, 100], [108, 101, 115, 115], [97, 108, 108, 111, 119], [111, 114], [97, 110, 100], [110, 111, 116]]
def twN (B : Nat → Nat) (b a : Nat) : List (List Nat) → Nat → Nat
  | [], _ => 32
  | w :: ws, i => if mtc B b a w = true then i else twN B b a ws (i + 1)
def vlN (B : Nat → Nat) (b : Nat) : Nat → Nat
  | 0 => 0
  | n + 1 => 10 * vlN B b n + (B (b + n) - 48)
def sgB (c : Nat) : Bool := (decide (40 ≤ c) && decide (c ≤ 43)) || (decide (c = 59) || (decide (c = 60) || decide (c = 62)))
/-- the thing that begins at b: what it is, where it ends -/
def thB (B : Nat → Nat) (tl b : Nat) : Nat := if tl ≤ b then 31 else if inR B tl 48 57 b = true then (if skG B tl 48 57 b - b ≤ 4 then 30 else 32) else if inR B tl 97 122 b = true then twN B b (skG B tl 97 122 b) wdC 0 else if sgB (B b) = true then B b else 32
def afB (B : Nat → Nat) (tl b : Nat) : Nat := if tl ≤ b then b else if inR B tl 48 57 b = true then skG B tl 48 57 b else if inR B tl 97 122 b = true then skG B tl 97 122 b else b + 1
def thN (B : Nat → Nat) (tl p : Nat) : Nat := thB B tl (blk B tl p)
def afN (B : Nat → Nat) (tl p : Nat) : Nat := afB B tl (blk B tl p)
def vaN (B : Nat → Nat) (tl p : Nat) : Nat := vlN B (blk B tl p) (afN B tl p - blk B tl p)
theorem tw_le {B : Nat → Nat} {b a : Nat} : ∀ ws i, i + ws.length ≤ 32 → twN B b a ws i ≤ 32
  | [], _, _ => Nat.le_refl _
  | w :: ws, i, h => by
    rw [List.length_cons] at h
    have := tw_le (B := B) (b := b) (a := a) ws (i + 1) (by omega)
    unfold twN; split <;> omega
theorem th_le {B : Nat → Nat} (hB : ∀ k, B k < 256) {tl b : Nat} : thB B tl b < 256 := by
  unfold thB
  split
  · decide
  · split
    · split <;> decide
    · split
      · have := tw_le (B := B) (b := b) (a := skG B tl 97 122 b) wdC 0 (by decide); omega
      · split
        · exact hB b
        · decide
theorem af_gt {B : Nat → Nat} {tl b : Nat} (h : b < tl) : b < afB B tl b ∧ afB B tl b ≤ tl := by
  unfold afB
  rw [if_neg (by omega)]
  split
  · next z => rw [sk_t z]; exact ⟨Nat.lt_of_lt_of_le (Nat.lt_succ_self b) sk_ge, sk_le (by omega)⟩
  · split
    · next z => rw [sk_t z]; exact ⟨Nat.lt_of_lt_of_le (Nat.lt_succ_self b) sk_ge, sk_le (by omega)⟩
    · omega
theorem th_end {B : Nat → Nat} {tl p : Nat} : thN B tl p ≠ 31 → blk B tl p < tl := fun h => by
  unfold thN thB at h
  by_cases z : tl ≤ blk B tl p
  · rw [if_pos z] at h; exact absurd rfl h
  · omega
theorem vl_lt {B : Nat → Nat} (hB : ∀ k, B k < 256) {b : Nat} : ∀ n, (∀ k, k < n → 48 ≤ B (b + k) ∧ B (b + k) ≤ 57) → vlN B b n < 10 ^ n
  | 0, _ => by show 0 < 1; decide
  | n + 1, h => by
    have h1 := vl_lt hB n (fun k hk => h k (by omega))
    have h2 := h n (by omega)
    show 10 * vlN B b n + (B (b + n) - 48) < 10 ^ (n + 1)
    rw [Nat.pow_succ]; omega
/-- all that stands between is of the kind -/
theorem sk_in {B : Nat → Nat} {tl lo hi : Nat} : ∀ n p, tl - p ≤ n → ∀ q, p ≤ q → q < skG B tl lo hi p → inR B tl lo hi q = true
  | 0, p, h, q, h1, h2 => by
    have hf : inR B tl lo hi p = false := by
      cases z : inR B tl lo hi p
      · rfl
      · have := inR_lt z; omega
    rw [skG_f hf] at h2; omega
  | n + 1, p, h, q, h1, h2 => by
    cases z : inR B tl lo hi p
    · rw [skG_f z] at h2; omega
    · by_cases e : q = p
      · rw [e]; exact z
      · rw [sk_t z] at h2
        exact sk_in n (p + 1) (by have := inR_lt z; omega) q (by omega) h2
theorem tw_lt {B : Nat → Nat} {b a : Nat} : ∀ ws i, twN B b a ws i < i + ws.length ∨ twN B b a ws i = 32
  | [], _ => Or.inr rfl
  | w :: ws, i => by
    rw [List.length_cons]
    unfold twN; split
    · left; omega
    · rcases tw_lt (B := B) (b := b) (a := a) ws (i + 1) with q | q
      · left; omega
      · right; exact q
theorem tw_ne30 {B : Nat → Nat} {b a : Nat} (ws i) (h : i + ws.length ≤ 30) : ¬ twN B b a ws i = 30 := by
  rcases tw_lt (B := B) (b := b) (a := a) ws i with q | q <;> omega
