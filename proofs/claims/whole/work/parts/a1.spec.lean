/-! how all stands: what is meant -/
abbrev RS : Type := (Nat → Bool) × (Nat → Option Nat) × (Nat → Nat → Bool) × (Nat → Option Nat) × (Nat → Int32) × (Nat → Nat) × (Nat → Bool) × (Nat → Bool)
def rsL (S : RS) : Nat → Bool := S.1
def rsP (S : RS) : Nat → Option Nat := S.2.1
def rsC (S : RS) : Nat → Nat → Bool := S.2.2.1
def rsH (S : RS) : Nat → Option Nat := S.2.2.2.1
def rsF (S : RS) : Nat → Int32 := S.2.2.2.2.1
def rsO (S : RS) : Nat → Nat := S.2.2.2.2.2.1
def rsS (S : RS) : Nat → Bool := S.2.2.2.2.2.2.1
def rsD (S : RS) : Nat → Bool := S.2.2.2.2.2.2.2
def bn (W : Nat → Int32) (p : Nat) : Int32 := W (14 + 3 * p)
def spS (S : RS) (p : Nat) : Option Nat := match rsP S p with
  | none => none
  | some q => if rsL S q = true then some q else none
def chS (S : RS) (p c : Nat) : Bool := rsC S p c && rsL S c
def cntN (f : Nat → Bool) : Nat → Nat
  | 0 => 0
  | n + 1 => cntN f n + (if f n = true then 1 else 0)
def eldM (W : Nat → Int32) (o : Option Nat) (n : Nat) : Option Nat := match o with
  | none => some n
  | some b => if bn W n < bn W b then some n else some b
def eldN (W : Nat → Int32) (f : Nat → Bool) : Nat → Option Nat
  | 0 => none
  | n + 1 => if f n = true then eldM W (eldN W f n) n else eldN W f n
def fstN (f : Nat → Bool) : Nat → Option Nat
  | 0 => none
  | n + 1 => match fstN f n with
    | some b => some b
    | none => if f n = true then some n else none
def anyN (f : Nat → Bool) : Nat → Bool
  | 0 => false
  | n + 1 => anyN f n || f n
def ofS (S : RS) (np a b : Nat) : Bool := anyN (fun q => rsC S q a && rsC S q b) np && decide (a ≠ b)
def paS (S : RS) (np p : Nat) : Option Nat := fstN (fun q => rsC S q p && rsL S q) np
def elS (W : Nat → Int32) (S : RS) (np p : Nat) : Option Nat := eldN W (chS S p) np
def brS (W : Nat → Int32) (S : RS) (np p : Nat) : Option Nat := eldN W (fun c => rsL S c && ofS S np p c) np
def kinS (S : RS) (np p q : Nat) : Bool := decide (spS S p = some q) || chS S p q || rsC S q p || ofS S np p q
/-- the first place of a hut in a row -/
def plN (r : Nat → Nat) (h : Nat) : Nat → Nat → Nat
  | 0, k => k
  | n + 1, k => if r k = h then k else plN r h n (k + 1)
def mvN (r : Nat → Nat) (h k to : Nat) : Nat → Nat := fun i => if to ≤ k then (if i < to then r i else if i = to then h else if i ≤ k then r (i - 1) else r i) else (if i < k then r i else if i < to then r (i + 1) else if i = to then h else r i)
theorem cnt_le (f : Nat → Bool) : ∀ n, cntN f n ≤ n
  | 0 => Nat.le_refl 0
  | n + 1 => by have := cnt_le f n; unfold cntN; split <;> omega
theorem eld_lt {W : Nat → Int32} {f : Nat → Bool} : ∀ {n b}, eldN W f n = some b → b < n ∧ f b = true
  | n + 1, b, h => by
    unfold eldN at h
    split at h
    · next hf =>
      unfold eldM at h
      split at h
      · cases h; exact ⟨by omega, hf⟩
      · next c hc =>
        have := eld_lt hc
        split at h <;> cases h
        · exact ⟨by omega, hf⟩
        · exact ⟨by omega, this.2⟩
    · have := eld_lt h; exact ⟨by omega, this.2⟩
theorem fst_lt {f : Nat → Bool} : ∀ {n b}, fstN f n = some b → b < n ∧ f b = true ∧ ∀ i, i < b → f i = false
  | n + 1, b, h => by
    unfold fstN at h
    split at h
    · next c hc => cases h; have := fst_lt hc; exact ⟨by omega, this.2⟩
    · next hc =>
      split at h
      · next hf =>
        cases h
        refine ⟨by omega, hf, fun i hi => ?_⟩
        have key : ∀ n, fstN f n = none → ∀ i, i < n → f i = false := by
          intro n
          induction n with
          | zero => intro _ i hi; omega
          | succ n ih =>
            intro h2 i hi
            unfold fstN at h2
            split at h2
            · cases h2
            · next h3 =>
              split at h2
              · cases h2
              · next h4 =>
                by_cases e : i = n
                · subst e; simpa using h4
                · exact ih h3 i (by omega)
        exact key n hc i hi
      · cases h
theorem fst_none {f : Nat → Bool} : ∀ {n}, fstN f n = none → ∀ i, i < n → f i = false
  | n + 1, h2, i, hi => by
    unfold fstN at h2
    split at h2
    · cases h2
    · next h3 =>
      split at h2
      · cases h2
      · next h4 =>
        by_cases e : i = n
        · subst e; simpa using h4
        · exact fst_none h3 i (by omega)
theorem any_iff {f : Nat → Bool} : ∀ {n}, anyN f n = true ↔ ∃ i, i < n ∧ f i = true
  | 0 => by simp [anyN]
  | n + 1 => by
    unfold anyN
    rw [Bool.or_eq_true, any_iff (n := n)]
    constructor
    · rintro (⟨i, h1, h2⟩ | h)
      · exact ⟨i, by omega, h2⟩
      · exact ⟨n, by omega, h⟩
    · rintro ⟨i, h1, h2⟩
      by_cases e : i = n
      · subst e; exact Or.inr h2
      · exact Or.inl ⟨i, by omega, h2⟩
theorem eld_congr {W : Nat → Int32} {f g : Nat → Bool} : ∀ {n}, (∀ i, i < n → f i = g i) → eldN W f n = eldN W g n
  | 0, _ => rfl
  | n + 1, h => by unfold eldN; rw [h n (by omega), eld_congr (fun i hi => h i (by omega))]
theorem pl_at {r : Nat → Nat} {h : Nat} : ∀ (n k m : Nat), k ≤ m → m < k + n → r m = h → r (plN r h n k) = h ∧ k ≤ plN r h n k ∧ plN r h n k ≤ m
  | 0, k, m, h1, h2, h3 => by omega
  | n + 1, k, m, h1, h2, h3 => by
    unfold plN
    by_cases e : r k = h
    · rw [if_pos e]; exact ⟨e, Nat.le_refl _, h1⟩
    · rw [if_neg e]
      have : k ≠ m := fun q => e (q ▸ h3)
      obtain ⟨a, b, c⟩ := pl_at n (k + 1) m (by omega) (by omega) h3
      exact ⟨a, by omega, c⟩
/-! sets as bits -/
def btN (f : Nat → Bool) : Nat → Nat
  | 0 => 0
  | n + 1 => btN f n + (if f n = true then 2 ^ n else 0)
theorem bt_lt (f : Nat → Bool) : ∀ n, btN f n < 2 ^ n
  | 0 => by show 0 < 1; decide
  | n + 1 => by
    have := bt_lt f n
    unfold btN
    rw [Nat.pow_succ]; split <;> omega
theorem bt_bit (f : Nat → Bool) : ∀ n i, (btN f n).testBit i = (decide (i < n) && f i)
  | 0, i => by simp [btN]
  | n + 1, i => by
    unfold btN
    have hlt := bt_lt f n
    have hi := bt_bit f n i
    by_cases e : i = n
    · subst e
      cases hf : f i
      · simp only [Bool.false_eq_true, if_false, Nat.add_zero]
        rw [Nat.testBit_lt_two_pow hlt]; simp
      · simp only [if_true]
        rw [Nat.add_comm, Nat.testBit_two_pow_add_eq, Nat.testBit_lt_two_pow hlt]; simp
    · cases hf : f n
      · simp only [Bool.false_eq_true, if_false, Nat.add_zero]
        rw [hi]
        by_cases h1 : i < n
        · simp [h1, show i < n + 1 by omega]
        · simp [h1, show ¬ i < n + 1 by omega]
      · simp only [if_true]
        by_cases h1 : i < n
        · rw [Nat.add_comm, Nat.testBit_two_pow_add_gt h1, hi]; simp [h1, show i < n + 1 by omega]
        · have : n < i := by omega
          rw [Nat.testBit_lt_two_pow (Nat.lt_of_lt_of_le (show btN f n + 2 ^ n < 2 ^ (n + 1) by rw [Nat.pow_succ]; omega) (Nat.pow_le_pow_right (by omega) (by omega)))]
          simp [show ¬ i < n + 1 by omega]
theorem bt_eq {f : Nat → Bool} {n m : Nat} (hm : m < 2 ^ n) (h : ∀ i, i < n → m.testBit i = f i) : m = btN f n := by
  apply Nat.eq_of_testBit_eq
  intro i
  rw [bt_bit]
  by_cases hi : i < n
  · rw [h i hi]; simp [hi]
  · rw [Nat.testBit_lt_two_pow (Nat.lt_of_lt_of_le hm (Nat.pow_le_pow_right (by omega) (by omega)))]; simp [hi]
theorem bt_congr {f g : Nat → Bool} {n : Nat} (h : ∀ i, i < n → f i = g i) : btN f n = btN g n :=
  bt_eq (bt_lt f n) (fun i hi => by rw [bt_bit, h i hi]; simp [hi])
theorem bt_pop {f : Nat → Bool} {n : Nat} : ∀ k, k ≤ n → popN (btN f n) k = cntN f k
  | 0, _ => rfl
  | k + 1, hk => by
    unfold popN cntN
    rw [bt_pop k (by omega), bt_bit]
    simp [show k < n by omega]
theorem bt_cnt {f : Nat → Bool} {n : Nat} (hn : n ≤ 12) : bcF (nI (btN f n)) = nI (cntN f n) := by
  have hl := bt_lt f n
  have p : 2 ^ n ≤ 2 ^ 12 := Nat.pow_le_pow_right (by omega) hn
  rw [bc_all _ (by omega), pop_hi hl 12 hn, bt_pop n (Nat.le_refl n)]
