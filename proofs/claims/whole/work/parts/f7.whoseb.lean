theorem jy_hi {W : Nat → Int32} {S : RS} {nh q : Nat} : ∀ i s b, s.testBit q = true → i ≤ b → (jyN (fitN W S nh) (losN W) q i s).testBit b = false
  | 0, s, b, hs, hb => by
    have e : s ≠ 0 := fun e => by rw [e, Nat.zero_testBit] at hs; exact nomatch hs
    show (if s = 0 then 1 else 0 : Nat).testBit b = false
    rw [if_neg e, Nat.zero_testBit]
  | i + 1, s, b, hs, hb => by
    show (btN _ 10).testBit b = false
    rw [bt_bit, jy_hi i s b hs (by omega), Bool.false_or]
    cases z : anyN (jnF (jyN (fitN W S nh) (losN W) q i) (fitN W S nh i) (losN W i) i q s b) (s + 1)
    · rw [Bool.and_false]
    · obtain ⟨p, hp, y⟩ := any_iff.mp z
      unfold jnF at y
      by_cases pq : p.testBit q = true
      · simp only [if_pos pq, Bool.and_eq_true, decide_eq_true_eq] at y; omega
      · have sq : (sbN s p).testBit q = true := by rw [sb_bit, hs]; simpa using pq
        rw [if_neg pq, jy_hi i _ b sq (by omega)] at y
        simp at y
theorem whose_eq {W : Nat → Int32} {S : RS} {nh q : Nat} (hn : cnt W 6 ≤ 8) (hq : q < cnt W 6) (hh : nh ≤ 10) : jyN (fitN W S nh) (losN W) q nh (2 ^ cnt W 6 - 1) = btN (fun i0 => decide (0 < wyN (mayN W S nh (nI q) (nI i0)) (losN W) nh (2 ^ cnt W 6 - 1))) nh := by
  have p2 := p256 hn
  have aq : (2 ^ cnt W 6 - 1).testBit q = true := by rw [Nat.testBit_two_pow_sub_one]; simpa using hq
  have jw := (jy_wy (S := S) (nh := nh) hn hq nh hh (2 ^ cnt W 6 - 1) (by omega)).2 aq
  refine bt_eq ?_ (fun i hi => ?_)
  · apply Nat.lt_pow_two_of_testBit
    intro b hb
    exact jy_hi nh _ b aq hb
  · have := jw i (by omega)
    cases z : (jyN (fitN W S nh) (losN W) q nh (2 ^ cnt W 6 - 1)).testBit i
    · rw [z] at this
      symm
      rw [decide_eq_false_iff_not]
      exact fun y => (nomatch (this.mpr y))
    · symm
      rw [decide_eq_true_eq]
      exact this.mp z
theorem jn_0 {ar : Nat → Nat} {fit lost i q : Nat} (h : ar 0 < 1024) : jnW ar fit lost i q 0 = ar 0 := by
  symm
  refine bt_eq h (fun b hb => ?_)
  have : anyN (jnF ar fit lost i q 0 b) (0 + 1) = false := by
    show (anyN _ 0 || jnF ar fit lost i q 0 b 0) = false
    unfold jnF; simp [anyN]
  rw [this, Bool.or_false]
theorem jn_none {ar : Nat → Nat} {lost i q s : Nat} (h : ar s < 1024) : jnW ar 0 lost i q s = ar s := by
  symm
  refine bt_eq h (fun b hb => ?_)
  cases z : anyN (jnF ar 0 lost i q s b) (s + 1)
  · rw [Bool.or_false]
  · obtain ⟨p, hp, y⟩ := any_iff.mp z
    unfold jnF gdB at y
    simp only [Bool.and_eq_true, decide_eq_true_eq, Nat.and_zero] at y
    omega
section
variable {σ : Nat → Nat} {E : En} {d d' d2 d3 : Dy} {W : Nat → Int32} {np nh L n : Nat} {S : RS} {K : Int32 → Dy → Prop} {K0 : Dy → Prop} {KJ : Int64 → Dy → Prop} {X : String → Dy → Prop} {kc : En → Dy → Prop} {v4 : Int32} {xs : Nat → Int32} {p1 p2 : Int32} {ar : Nat → Nat}
theorem k_ownersOf (c : cW σ E d W np nh) (C : clsR σ 50 np nh d S) (ok : rsOK np nh S) {q : Nat} (hq : q < cnt W 6) (k : ∀ d', Ch σ rdL d d' → K (nI (jyN (fitN W S nh) (losN W) q nh (2 ^ cnt W 6 - 1))) d') : w_X4_ownersOf E (σ 85) (nI q) d K := by
  have h := c.1.1
  obtain ⟨eW, hW, tw, e0, e1, n0, n1, hnp, hnh⟩ := cW_gW c
  obtain ⟨w6, hn⟩ := w6_pl hW
  obtain ⟨q1, q2⟩ := p256 hn
  refine ⟨eo_85 h, k_rclear c (fun da ua ga wa => ?_)⟩
  refine ⟨nh + 1, loopG (S := Int32 × Dy) (l := fun M z => l_X4_ownersOf_6 E (σ 85) (nI q) K M z.1 z.2) (b := fun kk z => b_X4_ownersOf_6 E (σ 85) (nI q) K (fun a b => kk (a, b)) z.1 z.2) (fun _ _ => rfl)
    (μ := fun z => nh - z.1.toNatClampNeg) (P := fun z => ∃ i, i ≤ nh ∧ nI i = z.1 ∧ Ch σ rdL d z.2 ∧ gI z.2 (σ 85) 3 = nI (2 ^ cnt W 6 - 1) ∧ ∀ s, s < 2 ^ cnt W 6 → gJ z.2 (σ 86) s = Int64.ofNat (jyN (fitN W S nh) (losN W) q i s)) ?_ nh (0, da) ⟨0, by omega, rfl, ua, ga, fun s hs => wa s (by omega)⟩ (Nat.sub_le _ _)⟩
  rintro kk ⟨v, dz⟩ ⟨i, hi, e_1, cz, gz, wz⟩ hk
  subst e_1
  have cz : Ch σ rdL d dz := cz
  have gz : gI dz (σ 85) 3 = nI (2 ^ cnt W 6 - 1) := gz
  have wz : ∀ s, s < 2 ^ cnt W 6 → gJ dz (σ 86) s = Int64.ofNat (jyN (fitN W S nh) (losN W) q i s) := wz
  have Wz := cW_rd c cz
  simp only [b_X4_ownersOf_6, x_85_0 h, x_85_2 h, x_1_2 h, en_86 h]
  refine k_nhuts Wz ?_
  rw [z_le (by omega) (by omega)]
  refine ⟨fun hc => ?_, fun hc => ?_⟩
  · have : i = nh := by omega
    subst this
    rw [gz, z_nn (by omega), wz _ (by omega), j_32]
    exact ⟨vpi (by omega) (by decide), k dz cz⟩
  · obtain ⟨ls1, ls2⟩ := hu_lost hW (show i < cnt W 1 by omega)
    refine k_fitting Wz (C_rd C cz) ok (show i < nh by omega) ?_
    have u1 : Ch σ rdL dz (pI dz (σ 85) 4 (nI (losN W i))) := Ch_pI h (by decide) (by decide) (by decide)
    have g1 : gI (pI dz (σ 85) 4 (nI (losN W i))) (σ 85) 4 = nI (losN W i) := gI_pI _ _ _ _
    have g3 : gI (pI dz (σ 85) 4 (nI (losN W i))) (σ 85) 3 = nI (2 ^ cnt W 6 - 1) := by rw [gI_pI_k _ _ _ (by decide)]; exact gz
    have w3 : ∀ s, s < 2 ^ cnt W 6 → gJ (pI dz (σ 85) 4 (nI (losN W i))) (σ 86) s = Int64.ofNat (jyN (fitN W S nh) (losN W) q i s) := wz
    generalize pI dz (σ 85) 4 (nI (losN W i)) = db at u1 g1 g3 w3
    have nx : ∀ de, Ch σ [86] db de → (∀ s, s < 2 ^ cnt W 6 → gJ de (σ 86) s = Int64.ofNat (jyN (fitN W S nh) (losN W) q (i + 1) s)) → kk (nI i + 1, de) := fun de ue we => by
      rw [z_a1]
      exact hk (nI (i + 1), de) ⟨i + 1, by omega, rfl, Ch_tr cz (Ch_tr u1 (Ch_w ue (by decide))), (congrFun (Ch_I ue (by decide) (by decide)) 3).trans g3, we⟩ (by simp only [z_nn (show i + 1 < 2147483648 by omega), z_nn (show i < 2147483648 by omega)]; omega)
    have fl := fit_lt (W := W) (S := S) (nh := nh) (i := i)
    rw [g3]
    have st1 : ∀ s, jyN (fitN W S nh) (losN W) q (i + 1) s = jnW (jyN (fitN W S nh) (losN W) q i) (fitN W S nh i) (losN W i) i q s := fun s => rfl
    refine ⟨2 ^ cnt W 6 + 1, loopG (S := Int32 × Int32 × Int32 × Dy) (l := fun M z => l_X4_ownersOf_32 E (σ 85) (nI q) K (fun a b => kk (a, b)) M z.1 z.2.1 z.2.2.1 z.2.2.2) (b := fun k2 z => b_X4_ownersOf_32 E (σ 85) (nI q) K (fun a b => kk (a, b)) (fun a b c e => k2 (a, b, c, e)) z.1 z.2.1 z.2.2.1 z.2.2.2) (fun _ _ => rfl)
      (μ := fun z => z.2.2.1.toNatClampNeg) (P := fun z => nI i = z.1 ∧ nI (fitN W S nh i) = z.2.1 ∧ ∃ j, j < 2 ^ cnt W 6 ∧ nI j = z.2.2.1 ∧ Ch σ [86] db z.2.2.2 ∧ ∀ s, s < 2 ^ cnt W 6 → gJ z.2.2.2 (σ 86) s = Int64.ofNat (if s ≤ j then jyN (fitN W S nh) (losN W) q i s else jyN (fitN W S nh) (losN W) q (i + 1) s)) ?_ (2 ^ cnt W 6) (nI i, nI (fitN W S nh i), nI (2 ^ cnt W 6 - 1), db) ⟨rfl, rfl, 2 ^ cnt W 6 - 1, by omega, rfl, Ch_rf, fun s hs => by rw [if_pos (by omega)]; exact w3 s hs⟩ (by simp only [z_nn (show 2 ^ cnt W 6 - 1 < 2147483648 by omega)]; omega)⟩
    rintro k2 ⟨a1, a2, a3, dy⟩ ⟨e_1, e_2, j, hj, e_3, cy, wy⟩ hk2
    subst e_1 e_2 e_3
    have cy : Ch σ [86] db dy := cy
    have wy : ∀ s, s < 2 ^ cnt W 6 → gJ dy (σ 86) s = Int64.ofNat (if s ≤ j then jyN (fitN W S nh) (losN W) q i s else jyN (fitN W S nh) (losN W) q (i + 1) s) := wy
    simp only [b_X4_ownersOf_32, x_85_2 h, en_86 h, z_nn (show j < 2147483648 by omega)]
    rw [show (0 : Int32) = nI 0 from rfl, z_le (by omega) (by decide), z_eq (by omega) (by decide)]
    refine ⟨fun l1 => nx dy cy (fun s hs => ?_), fun l1 => ⟨fun l2 => nx dy cy (fun s hs => ?_), fun l2 => ?_⟩⟩
    · rw [wy s hs]
      by_cases e : s ≤ j
      · rw [if_pos e, show s = 0 by omega, st1, jn_0 (jy_lt _ _)]
      · rw [if_neg e]
    · rw [wy s hs]
      by_cases e : s ≤ j
      · rw [if_pos e, st1, l2, jn_none (jy_lt _ _)]
      · rw [if_neg e]
    · refine k_joinOver h hn hj fl ls2 (show i < 10 by omega) hq ((congrFun (Ch_I cy (by decide) (by decide)) 4).trans g1) (ar := jyN (fitN W S nh) (losN W) q i) (fun s => jy_lt i s) (fun s hs => by rw [wy s (by omega), if_pos hs]) ⟨vpi (by omega) (by decide), ?_⟩
      obtain ⟨j, rfl⟩ : ∃ q, j = q + 1 := ⟨j - 1, by omega⟩
      rw [z_am1]
      refine hk2 (nI i, nI (fitN W S nh i), nI j, _) ⟨rfl, rfl, j, by omega, rfl, Ch_tr cy (Ch_pJ h (by decide) (by decide)), fun s hs => ?_⟩ (by simp only [z_nn (show j + 1 < 2147483648 by omega), z_nn (show j < 2147483648 by omega)]; omega)
      rw [gJp]
      by_cases e : s = j + 1
      · rw [if_pos e, if_neg (by omega), e, st1]
      · rw [if_neg e, wy s hs]
        by_cases e2 : s ≤ j
        · rw [if_pos (by omega), if_pos e2]
        · rw [if_neg (by omega), if_neg e2]
theorem r_whose30 (h : Env σ E) (g : gW σ d W np nh) (R : refR σ np nh d S) (ok : rsOK np nh S) {q : Nat} (k : ∀ d', Ch σ [113, 114] d d' → K (nI (btN (fun i0 => decide (0 < wyN (mayN W S nh (nI q) (nI i0)) (losN W) nh (2 ^ cnt W 6 - 1))) nh)) d') : ∃ N, l_X11_whose_30 E (σ 87) (nI q) K N 0 0 d := by
  obtain ⟨eW, hW, tw, e0, e1, n0, n1, hnp, hnh⟩ := id g
  obtain ⟨w6, hn⟩ := w6_pl hW
  obtain ⟨q1, q2⟩ := p256 hn
  refine ⟨nh + 1, loopG (S := Int32 × Int32 × Dy) (l := fun N z => l_X11_whose_30 E (σ 87) (nI q) K N z.1 z.2.1 z.2.2) (b := fun kk z => b_X11_whose_30 E (σ 87) (nI q) K (fun a b c => kk (a, b, c)) z.1 z.2.1 z.2.2) (fun _ _ => rfl)
    (μ := fun z => nh - z.2.1.toNatClampNeg) (P := fun z => Ch σ [113, 114] d z.2.2 ∧ ∃ j, j ≤ nh ∧ nI j = z.2.1 ∧ mskN (fun i0 => decide (0 < wyN (mayN W S nh (nI q) (nI i0)) (losN W) nh (2 ^ cnt W 6 - 1))) nh j = z.1) ?_ nh (0, 0, d) ⟨Ch_rf, 0, by omega, rfl, msk_0.symm⟩ (Nat.sub_le _ _)⟩
  rintro kk ⟨a, v, dz⟩ ⟨cz, j, hj, e_1, e_2⟩ hk
  subst e_1 e_2
  have cz : Ch σ [113, 114] d dz := cz
  have gz := gW_ch g cz (by decide)
  refine r_huts h ?_
  rw [gz.1, e1, z_le (by omega) (by omega), z_a1 j]
  refine ⟨fun hc => ?_, fun hc => r_allWays h gz (refR_ch R cz (by decide)) ok (fun da ua => ?_)⟩
  · have e : j = nh := by omega
    have em : mskN (fun i0 => decide (0 < wyN (mayN W S nh (nI q) (nI i0)) (losN W) nh (2 ^ cnt W 6 - 1))) nh j = nI (btN (fun i0 => decide (0 < wyN (mayN W S nh (nI q) (nI i0)) (losN W) nh (2 ^ cnt W 6 - 1))) nh) := by
      unfold mskN
      congr 1
      exact bt_congr (fun q hq => by rw [show decide (q < j) = true by simp; omega, Bool.true_and])
    show K (mskN _ nh j) dz
    rw [em]; exact k dz cz
  · have hjn : j < nh := by omega
    have nx : ∀ x, x = mskN (fun i0 => decide (0 < wyN (mayN W S nh (nI q) (nI i0)) (losN W) nh (2 ^ cnt W 6 - 1))) nh (j + 1) → kk (x, nI (j + 1), da) := fun x ex =>
      hk (x, nI (j + 1), da) ⟨Ch_tr cz ua, j + 1, by omega, rfl, ex.symm⟩ (by simp only [z_nn (show j + 1 < 2147483648 by omega), z_nn (show j < 2147483648 by omega)]; omega)
    rw [lg_pos (wy_63 hnh hn (by omega))]
    refine ⟨fun l1 => nx _ (msk_f0 (by omega) ?_), fun l1 => nx _ (msk_t (by omega) hjn ?_)⟩
    · have l1 : wyN (mayN W S nh (nI q) (nI j)) (losN W) nh (2 ^ cnt W 6 - 1) = 0 := l1
      rw [decide_eq_false_iff_not]; omega
    · have l1 : ¬ wyN (mayN W S nh (nI q) (nI j)) (losN W) nh (2 ^ cnt W 6 - 1) = 0 := l1
      rw [decide_eq_true_eq]; omega
theorem p_whose (I : Inv σ E d) (k : ∀ E' d', Inv σ E' d' → kc E' d') (hK : ∀ v d2, w_X11_whose E (σ 87) p1 d2 (fun r d => cmpO σ E kc v r d) → K v d2) : w_L_whose E (σ 0) p1 (σ 115) d K := by
  have h := I.1
  have c := cW_I I
  have w6 := w6_pl (cW_gW c).2.1
  by_cases b1 : lx p1 (cnt (gA d (σ 88)) 6)
  · obtain ⟨q, hq, eq1⟩ := id b1
    simp only [w_L_whose, w_X10_whose, x_0_0 h, x_0_5 h, x_0_10 h, x_1_8 h]
    refine ⟨eo_0 h, eo_115 h, eo_0 h, k_npl c (ni1 b1 (by omega) (k_today c (fun d1 c1 C1 => ?_)))⟩
    rw [eq1] at hK b1 ⊢
    have w1 := cW_ch c rb50 c1
    have okR := rep_ok (cW_gW w1).2.1 (Y := cnt (gA d (σ 88)) 3) (kn := gA d (σ 88) 3)
    refine k_ownersOf w1 C1 okR hq (fun d2 c2 => ⟨v0_115 h, ?_⟩)
    have w2 := cW_rd w1 c2
    have g2 := cW_gW w2
    have cc : Ch σ scr d d2 := Ch_tr (Ch_w c1 (cL_scr rb50)) (Ch_w c2 rd_scr)
    refine hK _ _ ⟨eo_87 h, ro1 (c := 6) h (by decide) (by rw [gA_pI_x, gA_pJ_x, w2.2.1]; exact w6.1) (by omega) b1 (rt0 h ⟨fun _ => ?_, fun q => absurd rfl q⟩)⟩
    refine r_today h (d := pI (pJ d2 (σ 115) 0 _) (σ 87) 0 0) ⟨g2.1, g2.2⟩ (fun d3 c3 t3 R3 => ?_)
    refine r_whose30 h (gW_ch (d := pI (pJ d2 (σ 115) 0 _) (σ 87) 0 0) ⟨g2.1, g2.2⟩ c3 (by decide)) R3 okR (fun d4 c4 => ?_)
    rw [← whose_eq w6.2 hq g2.2.2.2.2.2.2.2.2]
    refine q_end I k cc (Ch_tr (ch_thr h) (Ch_tr (Ch_w c3 (by decide)) (Ch_w c4 (by decide)))) ?_
    exact (congrFun (Ch_I c4 (by decide) (by decide)) 0).trans (t3.trans (gI_pI _ _ _ _))
  · simp only [w_L_whose, w_X10_whose, x_0_0 h, x_1_8 h]
    exact ⟨eo_0 h, eo_115 h, eo_0 h, k_npl c (ni0 b1 (by omega) ⟨rfl, hK _ _ ⟨eo_87 h, ro0 (c := 6) h (by decide) (by rw [gA_pI_x]; exact w6.1) (by omega) b1 (rt1 h ⟨fun q => absurd q (by decide), fun _ => fail_O I (by decide) k⟩)⟩⟩)⟩
theorem c_whose (I : Inv σ E d) (hv : v5 v4 L) (k : ∀ E' d', Inv σ E' d' → kc E' d') : lw_2589 E (σ 0) (σ 87) (σ 115) v4 xs L kc d :=
  ⟨eo_0 I.1, eo_87 I.1, eo_115 I.1, hv.1, p_whose I k (fun v d2 hk => ⟨hv.1, hk⟩)⟩
end
