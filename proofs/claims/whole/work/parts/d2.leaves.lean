/-! who leaves -/
def mskN (g : Nat → Bool) (nh j : Nat) : Int32 := nI (btN (fun i => decide (i < j) && g i) nh)
theorem msk_0 {g : Nat → Bool} {nh : Nat} : (0 : Int32) = mskN g nh 0 := by
  unfold mskN
  rw [show (0 : Int32) = nI 0 from rfl]
  congr 1
  exact bt_eq (m := 0) (Nat.two_pow_pos nh) (fun i hi => by rw [Nat.zero_testBit]; simp)
theorem msk_f {g : Nat → Bool} {nh j : Nat} (q : g j = false) : mskN g nh j = mskN g nh (j + 1) := by
  unfold mskN
  congr 1
  refine bt_congr (fun i hi => ?_)
  by_cases e : i = j
  · subst e; simp [q]
  · have : decide (i < j) = decide (i < j + 1) := by congr 1; apply propext; omega
    rw [this]
theorem msk_f0 {g : Nat → Bool} {nh j : Nat} (h12 : nh ≤ 12) (q : g j = false) : mskN g nh j ||| 0 = mskN g nh (j + 1) := by
  rw [← msk_f q]
  unfold mskN
  rw [show (0 : Int32) = nI 0 from rfl, b_or (bt_31 h12) (by decide), Nat.or_zero]
theorem msk_t {g : Nat → Bool} {nh j : Nat} (h12 : nh ≤ 12) (hj : j < nh) (q : g j = true) : mskN g nh j ||| ((1 : Int32) <<< (nI j &&& 31)) = mskN g nh (j + 1) := by
  have p2 : 2 ^ j < 2147483648 := Nat.lt_of_le_of_lt (Nat.pow_le_pow_right (by decide) (show j ≤ 11 by omega)) (by decide)
  unfold mskN
  rw [b_shl (by omega), b_or (bt_31 h12) p2, or_bt1 hj]
  congr 1
  refine bt_congr (fun i hi => ?_)
  by_cases e : i = j
  · subst e; simp [q]
  · have : decide (i < j) = decide (i < j + 1) := by congr 1; apply propext; omega
    rw [this]
    simp [show ¬ j = i from fun q => e q.symm]
def stayB (W : Nat → Int32) (S : RS) (nh i : Nat) (y q : Int32) : Bool := match rsH S i with
  | none => false
  | some o => !decide (W (15 + 3 * o) < rentS W S nh i y * q)
def leavB (W : Nat → Int32) (S : RS) (nh : Nat) (y q : Int32) (i : Nat) : Bool := decide (rsH S i ≠ none) && !stayB W S nh i y q
section
variable {σ : Nat → Nat} {E : En} {d d' d2 d3 : Dy} {W : Nat → Int32} {np nh L : Nat} {S : RS} {K : Int32 → Dy → Prop} {K0 : Dy → Prop} {X : String → Dy → Prop} {kc : En → Dy → Prop} {v4 : Int32} {xs : Nat → Int32} {p1 p2 : Int32}
theorem money (c : cW σ E d W np nh) {p : Nat} (hp : p < np) : ∃ m, m ≤ 9999 ∧ W (15 + 3 * p) = nI m := by
  have hr2 : p < cnt (gA d (σ 88)) 0 := by rw [c.2.1]; have := c.2.2.1; omega
  have o : bw (gA d (σ 88) (14 + 3 * p + 1)) 0 9999 := (ok_2 c.1 hr2).2.1
  rw [c.2.1, show 14 + 3 * p + 1 = 15 + 3 * p by omega] at o
  obtain ⟨m, -, hm, em⟩ := bw_n (a := 0) (b := 9999) o (by decide) (by decide)
  exact ⟨m, hm, em⟩
theorem k_stays (c : cW σ E d W np nh) (C : clsR σ 50 np nh d S) (ok : rsOK np nh S) {i : Nat} (hi : i < nh) {y q : Int32} (k : K (b2i (stayB W S nh i y q)) d) : w_X10_stays E (σ 0) (nI i) (rentS W S nh i y * q) d K := by
  have h := c.1.1
  have h12 := c.2.2.2.2.1
  simp only [w_X10_stays, w_X3_holderOf, x_0_5 h, x_50_6 h, x_0_0 h, x_1_1 h]
  refine ⟨eo_0 h, eo_50 h, k_gH (j := 0) c rb50 C hi (by decide) ?_⟩
  rw [(C.2.2.2 i hi).1, enc_m1 (ok.2.1 i hi) (by omega)]
  unfold stayB at k
  refine ⟨fun v => ?_, fun v => ?_⟩
  · rw [v] at k; exact k
  · cases hO : rsH S i with
    | none => exact absurd hO v
    | some o =>
      rw [hO] at k
      have k : K (b2i (!decide (W (15 + 3 * o) < rentS W S nh i y * q))) d := k
      refine k_pers (j := 1) c (ok.2.1 i hi o hO) (by decide) ?_
      rw [show 14 + 3 * o + 1 = 15 + 3 * o by omega]
      refine ⟨fun v2 => ?_, fun v2 => ?_⟩
      · rw [show (!decide (W (15 + 3 * o) < rentS W S nh i y * q)) = false from by simp [v2]] at k; exact k
      · rw [show (!decide (W (15 + 3 * o) < rentS W S nh i y * q)) = true from by simp [v2]] at k; exact k
theorem r_stays (h : Env σ E) (g : gW σ d W np nh) (hbit : ∀ p, p < np → W (16 + 3 * p) = 0 ∨ W (16 + 3 * p) = 1) (hmon : ∀ p, p < np → ∃ m, m ≤ 9999 ∧ W (15 + 3 * p) = nI m) (R : refR σ np nh d S) (ok : rsOK np nh S) {i Y t r : Nat} (hi : i < nh) (ht : t ≤ 9) (hr : r ≤ 209879010) (er : rentS W S nh i (nI Y) = nI r) (k : ∀ d', Ch σ [92, 93] d d' → K (b2i (stayB W S nh i (nI Y) (nI t))) d') : w_X11_stays E (σ 87) (nI i) (nI Y) (nI t) d K := by
  obtain ⟨eW, hW, tw, e0, e1, n0, n1, hnp, hnh⟩ := id g
  have htr : t * r < 2147483648 := Nat.lt_of_le_of_lt (Nat.mul_le_mul ht hr) (by decide)
  simp only [w_X11_stays, x_87_21 h, en_98 h, z_nn (show i < 2147483648 by omega)]
  rw [(R.2.2.1 i hi).1, enc_lt (ok.2.1 i hi) (by omega)]
  unfold stayB at k
  refine ⟨eo_87 h, vpi (by omega) (by decide), fun v => ?_, fun v => ⟨vpi (by omega) (by decide), ?_⟩⟩
  · rw [v] at k; exact k d Ch_rf
  · cases hO : rsH S i with
    | none => exact absurd hO v
    | some o =>
      have ho := ok.2.1 i hi o hO
      rw [hO] at k
      obtain ⟨m, hm, em⟩ := hmon o ho
      refine r_ofPerson (c := 1) h (by omega) (by decide) ?_
      rw [eW, show 14 + 3 * o + 1 = 15 + 3 * o by omega, em]
      refine r_rentOf h g hbit R ok hi (fun d2 c2 => ?_)
      rw [er, lgc_n (by omega) (by omega) (by omega) htr]
      have k : K (b2i (!decide (W (15 + 3 * o) < rentS W S nh i (nI Y) * nI t))) d2 := k d2 c2
      have e : (W (15 + 3 * o) < rentS W S nh i (nI Y) * nI t) ↔ m < t * r := by rw [em, er, z_mul, z_lt (by omega) (by rw [Nat.mul_comm]; exact htr), Nat.mul_comm]
      refine ⟨fun v2 => ?_, fun v2 => ?_⟩
      · rw [show (!decide (W (15 + 3 * o) < rentS W S nh i (nI Y) * nI t)) = false from by simp [e.2 v2]] at k; exact k
      · rw [show (!decide (W (15 + 3 * o) < rentS W S nh i (nI Y) * nI t)) = true from by rw [Bool.not_eq_true', decide_eq_false_iff_not]; exact fun q => v2 (e.1 q)] at k; exact k
end
