/-! sales that were none -/
def yrN (W : Nat → Int32) (e : Nat) : Nat := cnt W (120 + 6 * e)
def cheB (W : Nat → Int32) (np nh : Nat) (kn : Int32) (t e : Nat) : Bool := decide (1900 < yrN W e) && decide (cnt W (124 + 6 * e) < (rentS W (repS W np nh (yrN W e - 1) kn) nh (cnt W (122 + 6 * e)) (nI (yrN W e - 1))).toNatClampNeg * t)
def askB (W : Nat → Int32) (np nh : Nat) (kn : Int32) (e : Nat) : Bool := rsS (kS W np nh kn (cnt W 2)) e && rsD (kS W np nh kn (cnt W 2)) e && decide (1900 < yrN W e)
def dodE (W : Nat → Int32) (np nh : Nat) (kn : Int32) (t e : Nat) : Int32 := if (rsS (kS W np nh kn (cnt W 2)) e && rsD (kS W np nh kn (cnt W 2)) e && cheB W np nh kn t e) = true then 1 else 0
theorem lgN {a q r : Nat} (ha : a < 2147483648) (hq : q < 2147483648) (hr : r < 2147483648) : 0 ≤ lg_cmp (nI a).toInt64 ((nI q).toInt64 * (nI r).toInt64) ↔ ¬ a < q * r := by
  rw [← Int32.not_lt, lgc_lt, Int64.lt_iff_toInt_lt, Int64.toInt_mul, J_int ha, J_int hq, J_int hr]
  have h1 : q * r ≤ 2147483647 * 2147483647 := Nat.mul_le_mul (by omega) (by omega)
  have e : ((q : Int) * (r : Int)) = ((q * r : Nat) : Int) := by rw [Int.natCast_mul]
  rw [e, bm64 (by omega) (by omega)]
  omega
theorem lg0 {a : Nat} (ha : a < 2147483648) {z : Int64} : 0 ≤ lg_cmp (nI a).toInt64 (0 * z) := by
  rw [← Int32.not_lt, lgc_lt, Int64.zero_mul, Int64.lt_iff_toInt_lt, J_int ha, show (0 : Int64).toInt = 0 from rfl]; omega
theorem ev_price {W : Nat → Int32} (hW : WI W) {e : Nat} (he : e < cnt W 2) : W (124 + 6 * e) = nI (cnt W (124 + 6 * e)) ∧ cnt W (124 + 6 * e) ≤ 9999 := by
  have o : bw (W (120 + 6 * e + 4)) 0 9999 := (hW.2.2 2 (by decide) e he).2.2.1
  rw [show 120 + 6 * e + 4 = 124 + 6 * e by omega] at o
  obtain ⟨m, -, hm, em⟩ := bw_n (a := 0) (b := 9999) o (by decide) (by decide)
  unfold cnt; rw [em, z_nn (by omega)]; exact ⟨rfl, hm⟩
theorem ev_yr {W : Nat → Int32} (hW : WI W) {e : Nat} (he : e < cnt W 2) : W (120 + 6 * e) = nI (yrN W e) ∧ 1900 ≤ yrN W e ∧ yrN W e ≤ 2099 := by
  obtain ⟨⟨m, h1, h2, em⟩, -⟩ := ev_nums hW he
  unfold yrN cnt; rw [em, z_nn (by omega)]; exact ⟨rfl, h1, h2⟩
theorem sell_facts {W : Nat → Int32} {S : RS} {e : Nat} {kn : Int32} (hW : WI W) (he : e < cnt W 2) (s : sellB W S kn e = true) : (cnt W (122 + 6 * e) < cnt W 1 ∧ W (122 + 6 * e) = nI (cnt W (122 + 6 * e))) ∧ (cnt W (123 + 6 * e) < cnt W 0 ∧ W (123 + 6 * e) = nI (cnt W (123 + 6 * e))) ∧ (∃ o, rsH S (cnt W (122 + 6 * e)) = some o) ∧ rsL S (cnt W (123 + 6 * e)) = true := by
  obtain ⟨-, cc, hcc, ec, c1, c2, c3, c4⟩ := ev_nums hW he
  have q4 : W (121 + 6 * e) = 4 ↔ cc = 4 := by rw [ec, show (4 : Int32) = nI 4 from rfl, z_eq (by omega) (by decide)]
  unfold sellB at s
  simp only [Bool.and_eq_true, decide_eq_true_eq] at s
  obtain ⟨⟨s1, s2⟩, s3⟩ := s
  have s1 := q4.1 s1
  refine ⟨c2 (by omega), c3 (by omega) (by omega), ?_⟩
  cases hO : rsH S (cnt W (122 + 6 * e)) with
  | none => rw [hO] at s3; exact nomatch s3
  | some o =>
    rw [hO] at s3
    have s3 : (decide (o ≠ cnt W (123 + 6 * e)) && rsL S (cnt W (123 + 6 * e))) = true := s3
    simp only [Bool.and_eq_true] at s3
    exact ⟨⟨o, rfl⟩, s3.2⟩
section
variable {σ : Nat → Nat} {E : En} {d d' d2 d3 : Dy} {W : Nat → Int32} {np nh L n : Nat} {S : RS} {K : Int32 → Dy → Prop} {K0 : Dy → Prop} {X : String → Dy → Prop} {kc : En → Dy → Prop} {v4 : Int32} {xs : Nat → Int32} {p1 p2 : Int32}
theorem k_toKin (c : cW σ E d W np nh) (C : clsR σ 50 np nh d S) (ok : rsOK np nh S) {j : Nat} (hj : j < cnt W 2) {kn : Int32} (s : sellB W S kn (roI W 2 j) = true) (k : K (b2i (!dodB W np S (roI W 2 j))) d) : w_X3_sellsToKin E (σ 50) (nI j) d K := by
  have h := c.1.1
  obtain ⟨eW, hW, tw, e0, e1, n0, n1, hnp, hnh⟩ := cW_gW c
  have he := ro2_lt hj
  obtain ⟨⟨a1, a2⟩, ⟨b1, b2⟩, ⟨o, ho⟩, lv⟩ := sell_facts hW he s
  unfold dodB at k
  rw [ho] at k
  have k : K (b2i (!!kinS S np o (cnt W (123 + 6 * roI W 2 j)))) d := k
  rw [Bool.not_not] at k
  rw [← n1] at a1
  rw [← n0] at b1
  have hon := ok.2.1 _ a1 o ho
  simp only [w_X3_sellsToKin, w_X3_holderOf, y_0 h rb50, x_1_3 h, y_5 h rb50, y_6 h rb50]
  refine ⟨eo_50 h, k_evt (cc := 2) (m := 3) c hj (by decide) rfl (by decide) ?_⟩
  rw [show 120 + 6 * roI W 2 j + 2 = 122 + 6 * roI W 2 j by omega, a2]
  generalize cnt W (122 + 6 * roI W 2 j) = A at *
  generalize hbb : cnt W (123 + 6 * roI W 2 j) = bb at *
  refine ⟨eo_50 h, k_gH (j := 0) c rb50 C a1 (by decide) ?_⟩
  rw [(C.2.2.2 A a1).1, ho]
  refine k_evt (cc := 3) (m := 4) c hj (by decide) rfl (by decide) (k_children c rb50 C hon (k_gP (j := 2) c rb50 C hon (by decide) (k_siblings c rb50 C hon (k_spouse c rb50 C ok hon ?_))))
  rw [show 120 + 6 * roI W 2 j + 3 = 123 + 6 * roI W 2 j by omega, b2, (C.2.2.1 o hon).2.2, enc_eq (fun q hq => sp_lt ok hon hq) (by omega) b1]
  unfold kinS at k
  refine ⟨fun l1 => ?_, fun l1 => ?_⟩
  · rw [show decide (spS S o = some bb) = true from by simp [l1]] at k; simp only [Bool.true_or] at k; exact k
  · rw [show decide (spS S o = some bb) = false from by simp [l1], Bool.false_or] at k
    have h12 := c.2.2.2.2.1
    rw [b_or (bt_31 h12) (bt_31 h12), or_bt, b_or (bt_31 h12) (bt_31 h12), or_bt, b_bit (bt_31 h12) (by omega), bt_bit]
    simp only [b1, lv, decide_true, Bool.true_and]
    cases hk2 : (chS S o bb || rsC S bb o || ofS S np o bb)
    · rw [hk2] at k
      exact ⟨fun _ => k, fun z => absurd rfl z⟩
    · rw [hk2] at k
      exact ⟨fun z => absurd z (by decide), fun _ => k⟩
theorem k_isCheap (c : cW σ E d W np nh) {j t : Nat} {kn : Int32} (hj : j < cnt W 2) (ht : t ≤ 99) (s : sellB W S kn (roI W 2 j) = true) (yb : gI d (σ 60) 2 = nI (yrN W (roI W 2 j) - 1)) (Cb : clsR σ 60 np nh d (repS W np nh (yrN W (roI W 2 j) - 1) kn)) (k : ∀ d', Ch σ [67, 68, 69] d d' → K (b2i (cheB W np nh kn t (roI W 2 j))) d') : w_X10_isCheap E (σ 0) (nI j) (nI t) d K := by
  have h := c.1.1
  obtain ⟨eW, hW, tw, e0, e1, n0, n1, hnp, hnh⟩ := cW_gW c
  have he := ro2_lt hj
  obtain ⟨⟨a1, a2⟩, -⟩ := sell_facts hW he s
  obtain ⟨pr1, pr2⟩ := ev_price hW he
  obtain ⟨y1, y2, y3⟩ := ev_yr hW he
  rw [← n1] at a1
  have okR : rsOK np nh (repS W np nh (yrN W (roI W 2 j) - 1) kn) := by rw [n0, n1]; exact rep_ok hW
  simp only [w_X10_isCheap, b_X10_isCheap_23, b_X10_isCheap_52, x_0_0 h, x_1_3 h, x_0_6 h]
  refine ⟨eo_0 h, k_evt (cc := 0) (m := 0) c hj (by decide) rfl (by decide) ?_⟩
  rw [show 120 + 6 * roI W 2 j + 0 = 120 + 6 * roI W 2 j by omega, y1, show (1900 : Int32) = nI 1900 from rfl, z_le (by omega) (by decide)]
  unfold cheB at k
  refine ⟨fun l1 => ⟨fun _ => k_evt (cc := 4) (m := 5) c hj (by decide) rfl (by decide) ?_, fun z => absurd trivial z⟩, fun l1 => ⟨fun z => absurd z (by decide), fun _ => k_evt (cc := 2) (m := 3) c hj (by decide) rfl (by decide) ?_⟩⟩
  · rw [show 120 + 6 * roI W 2 j + 4 = 124 + 6 * roI W 2 j by omega, pr1]
    have k := k d Ch_rf
    rw [show decide (1900 < yrN W (roI W 2 j)) = false from by simp; omega, Bool.false_and] at k
    exact ⟨fun _ => k, fun z => absurd (lg0 (by omega)) z⟩
  · rw [show 120 + 6 * roI W 2 j + 2 = 122 + 6 * roI W 2 j by omega, a2]
    refine k_rentOf c rb60 Cb okR a1 yb (fun de ue => ?_)
    have we := cW_ch c rb60 (Ch_w ue (by decide))
    refine k_evt (cc := 4) (m := 5) we hj (by decide) rfl (by decide) ?_
    have k := k de ue
    obtain ⟨r, hr1, hr2⟩ := rent_n hW tw n1 a1 (rep_f hW) (rp_spec okR a1).2 (show 1900 ≤ yrN W (roI W 2 j) - 1 by omega) (by omega)
    rw [show 120 + 6 * roI W 2 j + 4 = 124 + 6 * roI W 2 j by omega, pr1, hr2, lgN (by omega) (by omega) (by omega)]
    rw [show decide (1900 < yrN W (roI W 2 j)) = true from by simp; omega, Bool.true_and, hr2, z_nn (by omega)] at k
    refine ⟨fun l2 => ?_, fun l2 => ?_⟩
    · rw [show decide (cnt W (124 + 6 * roI W 2 j) < r * t) = false from by simpa using l2] at k; exact k
    · rw [Classical.not_not] at l2
      rw [show decide (cnt W (124 + 6 * roI W 2 j) < r * t) = true from by simpa using l2] at k; exact k
end
