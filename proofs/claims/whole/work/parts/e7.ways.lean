/-! planks on the road: in how many ways -/
def sumN (f : Nat → Nat) : Nat → Nat
  | 0 => 0
  | n + 1 => sumN f n + f n
def gdB (set may lost some : Nat) : Bool := decide (some &&& (set &&& may) = some) && decide (popN some 12 ≤ lost)
def stF (w : Nat → Nat) (may lost set some : Nat) : Nat := if gdB set may lost some = true then w (sbN set some) else 0
def stW (w : Nat → Nat) (may lost set : Nat) : Nat := sumN (stF w may lost set) (set + 1)
def wyN (may lost : Nat → Nat) : Nat → Nat → Nat
  | 0 => fun s => if s = 0 then 1 else 0
  | i + 1 => stW (wyN may lost i) (may i) (lost i)
def absI (x : Int32) : Int32 := if 0 ≤ x then x else 0 - x
def canB (W : Nat → Int32) (S : RS) (nh i p : Nat) : Bool := decide (((W (420 + 3 * p)) >>> (W (56 + 7 * i) &&& 31)) &&& 1 = 1) && !decide (W (422 + 3 * p) < absI (W (421 + 3 * p) - nI (rpS S nh i)))
def mayB (W : Nat → Int32) (S : RS) (nh : Nat) (pl its : Int32) (i p : Nat) : Bool := canB W S nh i p && (decide (nI p ≠ pl) || (decide (its < 0) || decide (its = nI i)))
def mayN (W : Nat → Int32) (S : RS) (nh : Nat) (pl its : Int32) (i : Nat) : Nat := btN (mayB W S nh pl its i) (cnt W 6)
def losN (W : Nat → Int32) (i : Nat) : Nat := cnt W (55 + 7 * i)
theorem hu_lost {W : Nat → Int32} (hW : WI W) {i : Nat} (hi : i < cnt W 1) : W (55 + 7 * i) = nI (losN W i) ∧ losN W i ≤ 4 := by
  obtain ⟨-, -, -, -, -, o, -⟩ := hW.2.2 1 (by decide) i hi
  have o : bw (W (50 + 7 * i + 5)) 0 4 := o
  rw [show 50 + 7 * i + 5 = 55 + 7 * i by omega] at o
  obtain ⟨m, -, hm, em⟩ := bw_n (a := 0) (b := 4) o (by decide) (by decide)
  unfold losN cnt; rw [em, z_nn (by omega)]; exact ⟨rfl, hm⟩
theorem sb_zero {a b : Nat} : sbN a b = 0 ↔ a &&& b = a := by
  constructor
  · intro h
    apply Nat.eq_of_testBit_eq
    intro i
    have := congrArg (fun z => z.testBit i) h
    simp only [sb_bit, Nat.zero_testBit] at this
    rw [Nat.testBit_and]
    cases h1 : a.testBit i <;> cases h2 : b.testBit i <;> simp_all
  · intro h
    apply Nat.eq_of_testBit_eq
    intro i
    have := congrArg (fun z => z.testBit i) h
    simp only [Nat.testBit_and] at this
    rw [sb_bit, Nat.zero_testBit]
    cases h1 : a.testBit i <;> cases h2 : b.testBit i <;> simp_all
theorem gJp {d : Dy} {b k j : Nat} {v : Int64} : gJ (pJ d b k v) b j = if j = k then v else gJ d b j := by rw [gJ_pJ]
theorem sb_le {a b : Nat} : sbN a b ≤ a := by
  have h1 : sbN a b &&& a = sbN a b := by
    apply Nat.eq_of_testBit_eq; intro q; rw [Nat.testBit_and, sb_bit]; cases a.testBit q <;> simp
  have h2 : sbN a b &&& a ≤ a := Nat.and_le_right
  rw [h1] at h2; exact h2
theorem pop_le (n : Nat) : ∀ m, popN n m ≤ m
  | 0 => Nat.le_refl 0
  | m + 1 => by have := pop_le n m; unfold popN; split <;> omega
def wJ (σ : Nat → Nat) (l : Nat) (d : Dy) (n : Nat) (w : Nat → Nat) : Prop := ∀ s, s < 2 ^ n → gJ d (σ l) s = Int64.ofNat (w s)
section
variable {σ : Nat → Nat} {E : En} {d d' d2 d3 : Dy} {W : Nat → Int32} {np nh L n : Nat} {S : RS} {K : Int32 → Dy → Prop} {K0 : Dy → Prop} {KJ : Int64 → Dy → Prop} {X : String → Dy → Prop} {kc : En → Dy → Prop} {v4 : Int32} {xs : Nat → Int32} {p1 p2 : Int32} {w : Nat → Nat}
theorem Ch_J {P : List Nat} (h : Ch σ P d d') {i : Nat} (hi : i < 116) (hp : i ∉ P) : gJ d' (σ i) = gJ d (σ i) := (h.1 i hi hp).2.2
theorem r_canBeOf (h : Env σ E) (g : gW σ d W np nh) (R : refR σ np nh d S) (ok : rsOK np nh S) {i p : Nat} (hi : i < nh) (hp : p < 8) (k : K (b2i (canB W S nh i p)) d) : w_X11_canBeOf E (σ 87) (nI p) (nI i) d K := by
  obtain ⟨eW, hW, tw, e0, e1, n0, n1, hnp, hnh⟩ := id g
  have x1 : (420 : Int32) + 3 * nI p = nI (420 + 3 * p) := by rw [show (3 : Int32) = nI 3 from rfl, z_mul]; exact z_add 420 _
  have x2 : nI (420 + 3 * p) + 1 = nI (421 + 3 * p) := by rw [show 421 + 3 * p = 420 + 3 * p + 1 by omega]; exact z_add _ 1
  have x3 : nI (420 + 3 * p) + 2 = nI (422 + 3 * p) := by rw [show 422 + 3 * p = 420 + 3 * p + 2 by omega]; exact z_add _ 2
  simp only [w_X11_canBeOf, x_87_1 h, en_88 h, x1, x2, x3, z_nn (show 420 + 3 * p < 2147483648 by omega), z_nn (show 421 + 3 * p < 2147483648 by omega), z_nn (show 422 + 3 * p < 2147483648 by omega), eW]
  refine ⟨eo_87 h, vpw (by omega), r_ofHut (c := 6) h (by omega) (by decide) ?_⟩
  rw [eW, show 50 + 7 * i + 6 = 56 + 7 * i by omega]
  unfold canB at k
  refine ⟨fun l1 => ?_, fun l1 => ⟨vpw (by omega), r_rowPlace h hnh R ok hi ⟨vpw (by omega), ?_⟩⟩⟩
  · rw [show decide (((W (420 + 3 * p)) >>> (W (56 + 7 * i) &&& 31)) &&& 1 = 1) = false from by simpa using l1] at k; exact k
  · rw [show decide (((W (420 + 3 * p)) >>> (W (56 + 7 * i) &&& 31)) &&& 1 = 1) = true from by simpa using l1, Bool.true_and] at k
    rw [eW]
    refine ⟨fun l2 => ?_, fun l2 => ?_⟩
    · rw [show decide (W (422 + 3 * p) < absI (W (421 + 3 * p) - nI (rpS S nh i))) = true from by rw [decide_eq_true_eq]; exact l2] at k; exact k
    · rw [show decide (W (422 + 3 * p) < absI (W (421 + 3 * p) - nI (rpS S nh i))) = false from by rw [decide_eq_false_iff_not]; exact l2] at k; exact k
theorem p256 {n : Nat} (hn : n ≤ 8) : 2 ^ n ≤ 256 ∧ 0 < 2 ^ n := ⟨Nat.pow_le_pow_right (by decide) hn, Nat.two_pow_pos n⟩
theorem r_aw138 (h : Env σ E) (g : gW σ d W np nh) {i set may N : Nat} (hi : i < nh) (hn : n ≤ 8) (hs : set < 2 ^ n) (hm : may < 2 ^ n) {k45 : Int32 → Int32 → Dy → Prop} {k121 : Int32 → Int32 → Int32 → Int32 → Dy → Prop} (hw : wJ σ 113 d n w) (e0 : gJ d (σ 114) set = 0)
    (k : ∀ d', Ch σ [114] d d' → gJ d' (σ 114) set = Int64.ofNat (stW w may (losN W i) set) → (∀ s, s ≠ set → gJ d' (σ 114) s = gJ d (σ 114) s) → k121 (nI N) (nI i) (nI may) (nI set + 1) d') : ∃ M, l_X11_allWays_138 E (σ 87) p1 p2 KJ k45 k121 M (nI N) (nI i) (nI may) (nI set) 0 d := by
  obtain ⟨eW, hW, tw, e0', e1, n0, n1, hnp, hnh⟩ := id g
  obtain ⟨q1, q2⟩ := p256 hn
  obtain ⟨ls1, ls2⟩ := hu_lost hW (show i < cnt W 1 by omega)
  refine ⟨set + 1 + 1, loopG (S := Int32 × Int32 × Int32 × Int32 × Int32 × Dy) (l := fun N z => l_X11_allWays_138 E (σ 87) p1 p2 KJ k45 k121 N z.1 z.2.1 z.2.2.1 z.2.2.2.1 z.2.2.2.2.1 z.2.2.2.2.2) (b := fun kk z => b_X11_allWays_138 E (σ 87) p1 p2 KJ k45 k121 (fun a b c e f g => kk (a, b, c, e, f, g)) z.1 z.2.1 z.2.2.1 z.2.2.2.1 z.2.2.2.2.1 z.2.2.2.2.2) (fun _ _ => rfl)
    (μ := fun z => set + 1 - z.2.2.2.2.1.toNatClampNeg) (P := fun z => nI N = z.1 ∧ nI i = z.2.1 ∧ nI may = z.2.2.1 ∧ nI set = z.2.2.2.1 ∧ ∃ j, j ≤ set + 1 ∧ nI j = z.2.2.2.2.1 ∧ Ch σ [114] d z.2.2.2.2.2 ∧ gJ z.2.2.2.2.2 (σ 114) set = Int64.ofNat (sumN (stF w may (losN W i) set) j) ∧ ∀ s, s ≠ set → gJ z.2.2.2.2.2 (σ 114) s = gJ d (σ 114) s) ?_ (set + 1) (nI N, nI i, nI may, nI set, 0, d) ⟨rfl, rfl, rfl, rfl, 0, by omega, rfl, Ch_rf, e0, fun _ _ => rfl⟩ (Nat.sub_le _ _)⟩
  rintro kk ⟨a1, a2, a3, a4, a5, dz⟩ ⟨e_1, e_2, e_3, e_4, j, hj, e_5, cz, gz, oz⟩ hk
  subst e_1 e_2 e_3 e_4 e_5
  have cz : Ch σ [114] d dz := cz
  have gz : gJ dz (σ 114) set = Int64.ofNat (sumN (stF w may (losN W i) set) j) := gz
  have oz : ∀ s, s ≠ set → gJ dz (σ 114) s = gJ d (σ 114) s := oz
  have Wz := gW_ch g cz (by decide)
  have la : set &&& may ≤ set := Nat.and_le_left
  simp only [b_X11_allWays_138, x_87_38 h, x_87_39 h, en_113 h, en_114 h, z_nn (show set < 2147483648 by omega)]
  rw [z_lt (by omega) (by omega), b_and (by omega) (by omega), b_not (by omega) (by omega), b_not (by omega) (by omega), z_a1 j]
  have sl : sbN set j ≤ set := sb_le
  have nx : ∀ de, Ch σ [114] dz de → gJ de (σ 114) set = Int64.ofNat (sumN (stF w may (losN W i) set) (j + 1)) → (∀ s, s ≠ set → gJ de (σ 114) s = gJ dz (σ 114) s) → j ≤ set → kk (nI N, nI i, nI may, nI set, nI (j + 1), de) := fun de ue ge oe hjs =>
    hk (nI N, nI i, nI may, nI set, nI (j + 1), de) ⟨rfl, rfl, rfl, rfl, j + 1, by omega, rfl, Ch_tr cz ue, ge, fun s hs2 => (oe s hs2).trans (oz s hs2)⟩ (by simp only [z_nn (show j + 1 < 2147483648 by omega), z_nn (show j < 2147483648 by omega)]; omega)
  have sj : sumN (stF w may (losN W i) set) (j + 1) = sumN (stF w may (losN W i) set) j + stF w may (losN W i) set j := rfl
  refine ⟨fun hc => ?_, fun hc => ⟨fun l1 => nx dz Ch_rf ?_ (fun _ _ => rfl) (by omega), fun l1 => k_bc (r_ofHut (c := 5) h (by omega) (by decide) ?_)⟩⟩
  · have : j = set + 1 := by omega
    subst this
    exact k dz cz gz oz
  · rw [gz, sj]
    have l1 : ¬ sbN j (set &&& may) = 0 := fun q => l1 (by rw [q]; rfl)
    rw [sb_zero] at l1
    unfold stF gdB; rw [show decide (j &&& (set &&& may) = j) = false from by simpa using l1, Bool.false_and, if_neg (by decide), Nat.add_zero]
  · have sm : sbN j (set &&& may) ≤ j := sb_le
    rw [show (0 : Int32) = nI 0 from rfl, z_eq (by omega) (by decide), sb_zero] at l1
    have pl := pop_le j 12
    rw [Wz.1, show 50 + 7 * i + 5 = 55 + 7 * i by omega, ls1, bc_all _ (by omega), z_lt (by omega) (by omega)]
    refine ⟨fun l2 => nx dz Ch_rf ?_ (fun _ _ => rfl) (by omega), fun l2 => ⟨vpi (by omega) (by decide), vpi (by omega) (by decide), vpi (by omega) (by decide), nx _ (Ch_pJ h (by decide) (by decide)) ?_ (fun s hs2 => ?_) (by omega)⟩⟩
    · rw [gz, sj]
      unfold stF gdB; rw [show decide (popN j 12 ≤ losN W i) = false from by simp; omega, Bool.and_false, if_neg (by decide), Nat.add_zero]
    · rw [gJp, if_pos rfl, gz, z_nn (by omega), Ch_J cz (by decide) (by decide), hw _ (by omega), sj]
      unfold stF gdB
      rw [show decide (j &&& (set &&& may) = j) = true from by simpa using l1, show decide (popN j 12 ≤ losN W i) = true from by simp; omega, Bool.and_self, if_pos rfl, ← Int64.ofNat_add]
    · rw [gJp, if_neg hs2]
end
