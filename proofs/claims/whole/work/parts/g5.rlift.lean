section
variable {σ : Nat → Nat} {E : En} {d d' d2 d3 : Dy} {W : Nat → Int32} {np nh L n P : Nat} {S : RS} {K : Int32 → Dy → Prop} {K0 : Dy → Prop} {rk : Nat → Int32} {sz hu : Nat → Nat} {how p1 p4 : Int32}
def fndA (P n A : Nat) (hu : Nat → Nat) (p4 : Int32) : Int32 := match fstN (fun k => decide (nI (hu k) = p4)) n with
  | none => -1
  | some k => nI (dgN P n k A)
theorem r_l265 (h : Env σ E) (hn : n ≤ 7) (l : lfR σ d n hu) {A : Nat} (hg : ∀ q, q < n → gA d (σ 108) q = nI (dgN P n q A)) {p2 p3 : Int32} (k : K (fndA P n A hu p4) d) : ∃ N, l_X11_lift_265 E (σ 87) p1 p2 p3 p4 K N 0 d := by
  unfold fndA at k
  refine ⟨n + 1, loopG (S := Int32 × Dy) (l := fun M z => l_X11_lift_265 E (σ 87) p1 p2 p3 p4 K M z.1 z.2) (b := fun kk z => b_X11_lift_265 E (σ 87) p1 p2 p3 p4 K (fun a b => kk (a, b)) z.1 z.2) (fun _ _ => rfl)
    (μ := fun z => n - z.1.toNatClampNeg) (P := fun z => d = z.2 ∧ ∃ j, j ≤ n ∧ nI j = z.1 ∧ fstN (fun k => decide (nI (hu k) = p4)) j = none) ?_ n (0, d) ⟨rfl, 0, by omega, rfl, rfl⟩ (Nat.sub_le _ _)⟩
  rintro kk ⟨v, dz⟩ ⟨e_0, j, hj, e_1, ej⟩ hk
  subst e_0 e_1
  simp only [b_X11_lift_265, x_87_31 h, x_87_32 h, en_107 h, en_108 h, z_nn (show j < 2147483648 by omega)]
  rw [l.1, z_le (by omega) (by omega)]
  refine ⟨fun hc => ?_, fun hc => ⟨vpi (by omega) (by decide), ?_⟩⟩
  · have : j = n := by omega
    subst this; rw [ej] at k; exact k
  · rw [l.2 j (by omega), hg j (by omega)]
    refine ⟨fun l1 => ?_, fun l1 => ⟨vpi (by omega) (by decide), ?_⟩⟩
    · rw [z_a1]
      exact hk (nI (j + 1), d) ⟨rfl, j + 1, by omega, rfl, fst_f ej (by simpa using l1)⟩ (by simp only [z_nn (show j + 1 < 2147483648 by omega), z_nn (show j < 2147483648 by omega)]; omega)
    · rw [fst_t ej (show j < n by omega) (by simpa using l1)] at k; exact k
theorem r_l167 (h : Env σ E) (g : gW σ d W np nh) (hn : n ≤ 7) (hP1 : 1 ≤ P) (hP4 : P ≤ 4) (l : lfR σ d n hu) (hu10 : ∀ k, k < n → hu k < nh) (hsz : ∀ k, k < n → W (50 + 7 * hu k) = nI (sz k) ∧ sz k ≤ 9) (hrk : ∀ x k, x < k → k < n → (ahB how hu x k = true ↔ rk x < rk k))
    (k : ∀ d' A, Ch σ [108] d d' → LMn (coN P rk sz n 0 (fun _ => 2147483647)) (P ^ n) A → K (if p4 = -1 then nI (coN P rk sz n 0 (fun _ => 2147483647) A) else fndA P n A hu p4) d') : ∃ N, l_X11_lift_167 E (σ 87) p1 (nI P) how p4 K N 1 0 d := by
  have hPn : ∀ j, j ≤ n → P ^ j ≤ 4 ^ 7 := fun j hj => Nat.le_trans (Nat.pow_le_pow_left hP4 j) (Nat.pow_le_pow_right (by decide) (show j ≤ 7 by omega))
  have h47 : (4 : Nat) ^ 7 = 16384 := by decide
  have hP0 : 0 < P ^ n := Nat.pow_pos hP1
  have hPn' := hPn n (Nat.le_refl n)
  refine ⟨n + 1, loopG (S := Int32 × Int32 × Dy) (l := fun M z => l_X11_lift_167 E (σ 87) p1 (nI P) how p4 K M z.1 z.2.1 z.2.2) (b := fun kk z => b_X11_lift_167 E (σ 87) p1 (nI P) how p4 K (fun a b c => kk (a, b, c)) z.1 z.2.1 z.2.2) (fun _ _ => rfl)
    (μ := fun z => n - z.2.1.toNatClampNeg) (P := fun z => d = z.2.2 ∧ ∃ j, j ≤ n ∧ nI j = z.2.1 ∧ nI (P ^ j) = z.1) ?_ n (1, 0, d) ⟨rfl, 0, by omega, rfl, rfl⟩ (Nat.sub_le _ _)⟩
  rintro kk ⟨a1, a2, dz⟩ ⟨e_0, j, hj, e_1, e_2⟩ hk
  subst e_0 e_1 e_2
  simp only [b_X11_lift_167]
  rw [l.1, z_le (by omega) (by omega)]
  refine ⟨fun hc => ?_, fun hc => ?_⟩
  · have ej : j = n := by omega
    subst ej
    refine r_twice (w := 0) h g hn hP1 hP4 l hu10 hsz hrk hP0 (fun da ua ga => ?_)
    have cl : ∀ w, coN P rk sz j 0 (fun _ => 2147483647) w ≤ 9 * j := fun w => by
      have sz' : ∀ k, (fun k => if k < j then sz k else 0) k ≤ 9 := fun k => by
        show (if k < j then sz k else 0) ≤ 9
        split
        · next z => exact (hsz k z).2
        · omega
      have := co_le (P := P) (rk := rk) sz' j 0 (fun _ => 2147483647) w
      have cg : ∀ m a fb w, a + m = j → coN P rk (fun k => if k < j then sz k else 0) m a fb w = coN P rk sz m a fb w := fun m => by
        induction m with
        | zero => intro a fb w _; rfl
        | succ m ihm =>
          intro a fb w ha
          show cs1 rk (fun k => if k < j then sz k else 0) a fb (w / P ^ m) + coN P rk (fun k => if k < j then sz k else 0) m (a + 1) _ _ = cs1 rk sz a fb (w / P ^ m) + coN P rk sz m (a + 1) _ _
          rw [ihm (a + 1) _ _ (by omega)]
          unfold cs1
          simp only [if_pos (show a < j by omega)]
      rw [cg j 0 _ w (by omega)] at this; exact this
    generalize hco : coN P rk sz j 0 (fun _ => 2147483647) = co at k cl
    refine ⟨P ^ j + 1, loopG (S := Int32 × Int32 × Int32 × Int32 × Dy) (l := fun M z => l_X11_lift_203 E (σ 87) p1 (nI P) how p4 K M z.1 z.2.1 z.2.2.1 z.2.2.2.1 z.2.2.2.2) (b := fun k2 z => b_X11_lift_203 E (σ 87) p1 (nI P) how p4 K (fun a b c e f => k2 (a, b, c, e, f)) z.1 z.2.1 z.2.2.1 z.2.2.2.1 z.2.2.2.2) (fun _ _ => rfl)
      (μ := fun z => P ^ j - z.2.2.2.1.toNatClampNeg) (P := fun z => nI (P ^ j) = z.1 ∧ Ch σ [108] d z.2.2.2.2 ∧ ∃ w A, 1 ≤ w ∧ w ≤ P ^ j ∧ nI w = z.2.2.2.1 ∧ nI A = z.2.1 ∧ nI (co A) = z.2.2.1 ∧ LMn co w A) ?_ (P ^ j) (nI (P ^ j), 0, nI (co 0), 1, da) ⟨rfl, ua, 1, 0, by omega, hP0, rfl, rfl, rfl, by omega, fun q hq => ⟨by rw [show q = 0 by omega]; exact Nat.le_refl _, fun z => absurd z (Nat.not_lt_zero _)⟩⟩ (Nat.sub_le _ _)⟩
    rintro k2 ⟨b1, b2, b3, b4, dy⟩ ⟨e_3, cy, w, A, hw1, hw2, e_4, e_5, e_6, lm⟩ hk2
    subst e_3 e_4 e_5 e_6
    have cy : Ch σ [108] d dy := cy
    have gy := gW_ch g cy (by decide)
    have ly := lfR_ch l cy (by decide) (by decide)
    simp only [b_X11_lift_203]
    rw [z_le (by omega) (by omega)]
    refine ⟨fun hc2 => ?_, fun hc2 => ?_⟩
    · have ew : w = P ^ j := by omega
      rw [ew] at lm
      refine ⟨fun l4 => r_twice (w := A) h gy hn hP1 hP4 ly hu10 hsz hrk lm.1 (fun db ub gb => r_l265 h hn (lfR_ch ly ub (by decide) (by decide)) gb ?_), fun l4 => ?_⟩
      · have := k db A (Ch_tr cy ub) lm
        rw [if_neg l4] at this; exact this
      · have := k dy A cy lm
        rw [if_pos l4] at this; exact this
    · refine r_twice (w := w) h gy hn hP1 hP4 ly hu10 hsz hrk (by omega) (fun db ub gb => ?_)
      rw [hco]
      have c1 := cl w
      have c2 := cl A
      rw [z_lt (by omega) (by omega), z_a1]
      have nx : ∀ A2, LMn co (w + 1) A2 → k2 (nI (P ^ j), nI A2, nI (co A2), nI (w + 1), db) := fun A2 lm2 =>
        hk2 (nI (P ^ j), nI A2, nI (co A2), nI (w + 1), db) ⟨rfl, Ch_tr cy ub, w + 1, A2, by omega, by omega, rfl, rfl, rfl, lm2⟩ (by simp only [z_nn (show w + 1 < 2147483648 by omega), z_nn (show w < 2147483648 by omega)]; omega)
      refine ⟨fun l5 => nx w ⟨by omega, fun q hq => ?_⟩, fun l5 => nx A ⟨by have := lm.1; omega, fun q hq => ?_⟩⟩
      · by_cases e : q = w
        · rw [e]; exact ⟨Nat.le_refl _, fun z => absurd z (Nat.lt_irrefl _)⟩
        · have := (lm.2 q (by omega)).1
          exact ⟨by omega, fun _ => by omega⟩
      · by_cases e : q = w
        · rw [e]; exact ⟨by omega, fun z => by have := lm.1; omega⟩
        · exact lm.2 q (by omega)
  · rw [z_mul, z_a1]
    have hj1 := hPn (j + 1) (by omega)
    exact hk (nI (P ^ j * P), nI (j + 1), d) ⟨rfl, j + 1, by omega, rfl, by rw [Nat.pow_succ]⟩ (by simp only [z_nn (show j + 1 < 2147483648 by omega), z_nn (show j < 2147483648 by omega)]; omega)
theorem r_l102 (h : Env σ E) (g : gW σ d W np nh) (R : refR σ np nh d S) (ok : rsOK np nh S) {X : Nat} (hX : X < 2 ^ nh) (h7 : (itL X S nh).length ≤ 7) {p2 p3 : Int32}
    (k : ∀ d', Ch σ [87, 107] d d' → gI d' (σ 87) 0 = gI d (σ 87) 0 → lfR σ d' (itL X S nh).length (huI X S nh) → ∃ N, l_X11_lift_167 E (σ 87) p1 p2 p3 p4 K N 1 0 d') : ∃ N, l_X11_lift_102 E (σ 87) p1 p2 p3 p4 K N (nI X) 0 (pI d (σ 87) 33 0) := by
  obtain ⟨eW, hW, tw, e0, e1, n0, n1, hnp, hnh⟩ := id g
  have hX2 : X < 2 ^ 10 := Nat.lt_of_lt_of_le hX (Nat.pow_le_pow_right (by decide) hnh)
  have c0 : Ch σ [87, 107] d (pI d (σ 87) 33 0) := Ch_pI h (by decide) (by decide) (by decide)
  have g0 : gI (pI d (σ 87) 33 0) (σ 87) 33 = nI 0 := gI_pI _ _ _ _
  have t0 : gI (pI d (σ 87) 33 0) (σ 87) 0 = gI d (σ 87) 0 := gI_pI_k _ _ _ (by decide)
  generalize pI d (σ 87) 33 0 = d0 at c0 g0 t0
  refine ⟨nh + 1, loopG (S := Int32 × Int32 × Dy) (l := fun M z => l_X11_lift_102 E (σ 87) p1 p2 p3 p4 K M z.1 z.2.1 z.2.2) (b := fun kk z => b_X11_lift_102 E (σ 87) p1 p2 p3 p4 K (fun a b c => kk (a, b, c)) z.1 z.2.1 z.2.2) (fun _ _ => rfl)
    (μ := fun z => nh - z.2.1.toNatClampNeg) (P := fun z => nI X = z.1 ∧ Ch σ [87, 107] d z.2.2 ∧ gI z.2.2 (σ 87) 0 = gI d (σ 87) 0 ∧ ∃ j, j ≤ nh ∧ nI j = z.2.1 ∧ gI z.2.2 (σ 87) 33 = nI (itL X S j).length ∧ ∀ k, k < (itL X S j).length → gA z.2.2 (σ 107) k = nI (rsO S ((itL X S j).getD k 0))) ?_ nh (nI X, 0, d0) ⟨rfl, c0, t0, 0, by omega, rfl, g0, fun k hk => absurd hk (Nat.not_lt_zero _)⟩ (Nat.sub_le _ _)⟩
  rintro kk ⟨a1, a2, dz⟩ ⟨e_1, cz, tz, j, hj, e_2, lz, az⟩ hk
  subst e_1 e_2
  have cz : Ch σ [87, 107] d dz := cz
  have tz : gI dz (σ 87) 0 = gI d (σ 87) 0 := tz
  have lz : gI dz (σ 87) 33 = nI (itL X S j).length := lz
  have az : ∀ k, k < (itL X S j).length → gA dz (σ 107) k = nI (rsO S ((itL X S j).getD k 0)) := az
  have gz := gW_ch g cz (by decide)
  have rz := refR_ch R cz (by decide)
  refine r_huts h ?_
  rw [gz.1, e1, z_le (by omega) (by omega), z_a1 j]
  simp only [x_87_23 h, x_87_31 h, en_100 h, en_107 h, z_nn (show j < 2147483648 by omega)]
  refine ⟨fun hc => ?_, fun hc => ⟨vpi (by omega) (by decide), ?_⟩⟩
  · have : j = nh := by omega
    subst this
    exact k dz cz tz ⟨lz, az⟩
  · have hjn : j < nh := by omega
    have hr := ok.2.2.1 j hjn
    have lj : (itL X S j).length ≤ j := by rw [it_len]; exact cnt_le _ _
    rw [(rz.2.2.1 j hjn).2.2, b_bit (by omega) (by omega)]
    have nx : ∀ de, Ch σ [87, 107] dz de → gI de (σ 87) 0 = gI dz (σ 87) 0 → gI de (σ 87) 33 = nI (itL X S (j + 1)).length → (∀ k, k < (itL X S (j + 1)).length → gA de (σ 107) k = nI (rsO S ((itL X S (j + 1)).getD k 0))) → kk (nI X, nI (j + 1), de) := fun de ue te le ae =>
      hk (nI X, nI (j + 1), de) ⟨rfl, Ch_tr cz ue, te.trans tz, j + 1, by omega, rfl, le, ae⟩ (by simp only [z_nn (show j + 1 < 2147483648 by omega), z_nn (show j < 2147483648 by omega)]; omega)
    refine ⟨fun l1 => ⟨vpi (by omega) (by decide), ?_, ?_⟩, fun l1 => ?_⟩
    · rw [lz]; exact vpi (by omega) (by decide)
    · have q : X.testBit (rsO S j) = true := by
        cases z : X.testBit (rsO S j)
        · rw [z] at l1; exact absurd rfl l1
        · rfl
      have s1 := (it_snoc (k := 0) q).1
      rw [gI_pA_x, lz, z_a1, z_nn (by omega)]
      refine nx _ (Ch_tr (Ch_pA h (by decide) (by decide)) (Ch_pI h (by decide) (by decide) (by decide))) ?_ ?_ (fun k hk2 => ?_)
      · rw [gI_pI_k _ _ _ (by decide)]; rfl
      · rw [gI_pI, s1]
      · rw [gA_pI_x, gA_pA_x, if_pos rfl]
        by_cases e : k = (itL X S j).length
        · rw [if_pos e, e, (it_snoc (k := 0) q).2.2]
        · rw [if_neg e, (it_snoc q).2.1 (by omega)]; exact az k (by omega)
    · have q : X.testBit (rsO S j) = false := by
        cases z : X.testBit (rsO S j)
        · rfl
        · rw [z] at l1; exact absurd l1 (by decide)
      refine nx dz Ch_rf rfl ?_ ?_
      · rw [it_skip q]; exact lz
      · rw [it_skip q]; exact az
end
