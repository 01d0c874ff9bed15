/-! rents are small: no product of them overflows -/
theorem bm32 {n : Int} (h1 : -2147483648 ≤ n) (h2 : n < 2147483648) : n.bmod (2 ^ 32) = n := Int.bmod_eq_of_le (by omega) (by omega)
theorem bm64 {n : Int} (h1 : -9223372036854775808 ≤ n) (h2 : n < 9223372036854775808) : n.bmod (2 ^ 64) = n := Int.bmod_eq_of_le (by omega) (by omega)
def bnd (x : Int32) (b : Nat) : Prop := x.toInt.natAbs ≤ b
theorem bnd_n {m b : Nat} (h : m ≤ b) (hb : b < 2147483648) : bnd (nI m) b := by
  unfold bnd; rw [z_int (by omega)]; omega
theorem bnd_add {x y : Int32} {a b : Nat} (hx : bnd x a) (hy : bnd y b) (h : a + b < 2147483648) : bnd (x + y) (a + b) := by
  unfold bnd at *
  rw [Int32.toInt_add, bm32 (by omega) (by omega)]; omega
theorem bnd_neg {x : Int32} {a : Nat} (hx : bnd x a) (h : a < 2147483648) : bnd (-x) a := by
  unfold bnd at *
  rw [Int32.toInt_neg, bm32 (by omega) (by omega)]; omega
theorem bnd_mul {x y : Int32} {a b : Nat} (hx : bnd x a) (hy : bnd y b) (h : a * b < 2147483648) : bnd (x * y) (a * b) := by
  unfold bnd at *
  have h2 : (x.toInt * y.toInt).natAbs ≤ a * b := by rw [Int.natAbs_mul]; exact Nat.mul_le_mul hx hy
  rw [Int32.toInt_mul, bm32 (by omega) (by omega)]; exact h2
theorem bnd_w {x : Int32} {a b : Nat} (h : bnd x a) (hab : a ≤ b) : bnd x b := Nat.le_trans h hab
theorem bnd_sub {y m : Nat} (h1 : 1900 ≤ y) (h2 : y ≤ 2099) (h3 : 1900 ≤ m) (h4 : m ≤ 2099) : bnd (nI y - nI m) 2099 := by
  unfold bnd
  rw [Int32.toInt_sub, z_int (by omega), z_int (by omega), bm32 (by omega) (by omega)]; omega
theorem lgc_lt {x y : Int64} : lg_cmp x y < 0 ↔ x < y := by
  unfold lg_cmp
  by_cases h1 : x > y
  · rw [if_pos h1]; exact ⟨fun q => absurd q (by decide), fun q => absurd (Int64.lt_trans h1 q) (Int64.lt_irrefl)⟩
  · rw [if_neg h1]
    by_cases h2 : x = y
    · rw [if_pos h2]; exact ⟨fun q => absurd q (by decide), fun q => absurd (h2 ▸ q) (Int64.lt_irrefl)⟩
    · rw [if_neg h2]
      refine ⟨fun _ => ?_, fun _ => by decide⟩
      rw [Int64.lt_iff_toInt_lt]
      have h1 : ¬ y < x := h1
      rw [Int64.lt_iff_toInt_lt] at h1
      have : x.toInt ≠ y.toInt := fun q => h2 (Int64.toInt_inj.mp q)
      omega
theorem J_int {n : Nat} (h : n < 2147483648) : (nI n).toInt64.toInt = n := by rw [Int32.toInt_toInt64, z_int h]
theorem J_lt {a b : Nat} (ha : a < 2147483648) (hb : b < 2147483648) : (nI a).toInt64 < (nI b).toInt64 ↔ a < b := by
  rw [Int64.lt_iff_toInt_lt, J_int ha, J_int hb]; omega
theorem J_mul {q r : Nat} (hq : q < 2147483648) (hr : r < 2147483648) (h : q * r < 2147483648) : (nI q).toInt64 * (nI r).toInt64 = (nI (q * r)).toInt64 := by
  refine Int64.toInt_inj.mp ?_
  have e : ((q : Int) * (r : Int)) = ((q * r : Nat) : Int) := by rw [Int.natCast_mul]
  rw [Int64.toInt_mul, J_int hq, J_int hr, J_int h, e, bm64 (by omega) (by omega)]
theorem lgc_n {a q r : Nat} (ha : a < 2147483648) (hq : q < 2147483648) (hr : r < 2147483648) (h : q * r < 2147483648) : lg_cmp (nI a).toInt64 ((nI q).toInt64 * (nI r).toInt64) < 0 ↔ a < q * r := by
  rw [lgc_lt, J_mul hq hr h, J_lt ha h]
theorem sum1_b {W : Nat → Int32} {s n i : Nat} {F : Nat → Int32} (hs : s = 1 ∨ s = 2) (t : TW W s n) (hi : i < n) (hF : ∀ m, m < 8 → fsB s m = true → bnd (F m) 2099) : bnd (sum1 W s F i) 20987901 := by
  obtain ⟨-, hl⟩ := t.2.2 i hi
  rw [if_neg (by omega), if_neg (by omega)] at hl
  obtain ⟨-, l2, l3⟩ := hl
  obtain ⟨v, -, hv, ev⟩ := bw_n (a := 0) (b := 9999) l2 (by decide) (by decide)
  have fac : bnd (if 0 ≤ W (599 + 851 * s + 5 * i) then F (W (599 + 851 * s + 5 * i)).toNatClampNeg else 1) 2099 := by
    rcases l3 with l3 | ⟨m, hm, l3, l4⟩
    · rw [l3, if_neg (by decide)]; exact bnd_n (m := 1) (by decide) (by decide)
    · rw [l3, z_nn (by omega)]
      split
      · exact hF m hm l4
      · exact bnd_n (m := 1) (by decide) (by decide)
  have pr := bnd_mul (bnd_n (m := v) (b := 9999) hv (by decide)) fac (by decide)
  unfold sum1
  rw [ev]
  generalize (nI v * if 0 ≤ W (599 + 851 * s + 5 * i) then F (W (599 + 851 * s + 5 * i)).toNatClampNeg else 1) = x at pr
  show bnd (if W (597 + 851 * s + 5 * i) = 4 then x else -x) 20987901
  by_cases q : W (597 + 851 * s + 5 * i) = 4
  · rw [if_pos q]; exact bnd_w pr (by omega)
  · rw [if_neg q]; exact bnd_w (bnd_neg pr (by omega)) (by omega)
theorem sumS_b {W : Nat → Int32} {s n : Nat} {F : Nat → Int32} (hs : s = 1 ∨ s = 2) (t : TW W s n) (hF : ∀ m, m < 8 → fsB s m = true → bnd (F m) 2099) : ∀ i, i ≤ n → bnd (sumS W s F i) (i * 20987901)
  | 0, _ => bnd_n (m := 0) (by decide) (by decide)
  | i + 1, hi => by
    have hn := t.2.1
    have ih := sumS_b hs t hF i (by omega)
    show bnd (if hdS W s i F = true then sumS W s F i + sum1 W s F i else sumS W s F i) ((i + 1) * 20987901)
    split
    · exact bnd_w (bnd_add ih (sum1_b hs t (by omega) hF) (by omega)) (by omega)
    · exact bnd_w ih (by omega)
theorem huF_b {W : Nat → Int32} {S : RS} {nh i Y : Nat} (hW : WI W) (hn : nh = cnt W 1) (hi : i < nh) (f : fOK S) (hr : rpS S nh i < nh) (hY1 : 1900 ≤ Y) (hY2 : Y ≤ 2099) : ∀ m, m < 8 → fsB 1 m = true → bnd (huF W S nh i (nI Y) m) 2099 := by
  have h10 : cnt W 1 ≤ 10 := (hW.1 1 (by decide) (by decide)).2
  intro m hm hb
  obtain ⟨o1, -, o3, -⟩ := hW.2.2 1 (by decide) i (show i < cnt W 1 by omega)
  have o1 : bw (W (50 + 7 * i + 0)) 1 9 := o1
  have o3 : bw (W (50 + 7 * i + 2)) 0 20 := o3
  rcases fs1 m hm hb with rfl | rfl | rfl | rfl | rfl
  · show bnd (if rsH S i = none then 0 else nI Y - rsF S i) 2099
    split
    · exact bnd_n (m := 0) (by decide) (by decide)
    · obtain ⟨z, h1, h2, e⟩ := f i
      rw [e]; exact bnd_sub hY1 hY2 h1 h2
  · exact bnd_n hY2 (by decide)
  · obtain ⟨z, h1, h2, e⟩ := bw_n (a := 1) (b := 9) o1 (by decide) (by decide)
    show bnd (W (50 + 7 * i)) 2099
    rw [show 50 + 7 * i + 0 = 50 + 7 * i by omega] at e
    rw [e]; exact bnd_n (by omega) (by decide)
  · show bnd (nI (rpS S nh i)) 2099
    exact bnd_n (by omega) (by decide)
  · obtain ⟨z, h1, h2, e⟩ := bw_n (a := 0) (b := 20) o3 (by decide) (by decide)
    show bnd (W (52 + 7 * i)) 2099
    rw [show 50 + 7 * i + 2 = 52 + 7 * i by omega] at e
    rw [e]; exact bnd_n (by omega) (by decide)
/-- a rent is a number of ten lines -/
theorem rent_n {W : Nat → Int32} {S : RS} {nh i Y : Nat} (hW : WI W) (tw : TWs W) (hn : nh = cnt W 1) (hi : i < nh) (f : fOK S) (hr : rpS S nh i < nh) (hY1 : 1900 ≤ Y) (hY2 : Y ≤ 2099) : ∃ r, r ≤ 209879010 ∧ rentS W S nh i (nI Y) = nI r := by
  unfold rentS
  by_cases q : W 11 = 0
  · rw [if_pos q]; exact ⟨0, by decide, rfl⟩
  · rw [if_neg q]
    obtain ⟨n, t⟩ : ∃ n, TW W 1 n := (tw 1 (by decide)).elim (fun q2 => absurd q2 q) (fun q2 => q2.2)
    have hn10 := t.2.1
    have en : cnt W 1447 = n := by have e : W 1447 = nI n := t.1; unfold cnt; rw [e, z_nn (by omega)]
    have b := sumS_b (Or.inl rfl) t (huF_b hW hn hi f hr hY1 hY2) n (Nat.le_refl n)
    rw [en]
    generalize sumS W 1 (huF W S nh i (nI Y)) n = x at b
    split
    · next hx =>
      obtain ⟨m, hm, rfl⟩ := z_ex (Int32.not_lt.mpr (Int32.le_of_lt hx))
      unfold bnd at b
      rw [z_int hm] at b
      exact ⟨m, by omega, rfl⟩
    · exact ⟨0, by decide, rfl⟩
