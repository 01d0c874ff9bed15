section
variable {σ : Nat → Nat} {E : En} {d d' d2 d3 : Dy} {W : Nat → Int32} {np nh L n : Nat} {S : RS} {K : Int32 → Dy → Prop} {K0 : Dy → Prop} {cl : Nat → Int32} {q : Nat → Nat} {tk : Nat → Bool} {kc : En → Dy → Prop}
theorem r_orders (h : Env σ E) (g : gW σ d W np nh) (hbit : ∀ p, p < np → W (16 + 3 * p) = 0 ∨ W (16 + 3 * p) = 1) (R : refR σ np nh d S) {Y : Nat} {kn : Int32} (hY1 : 1900 ≤ Y) (hY2 : Y ≤ 2099) (k : ∀ d', Ch σ orL d d' → gI d' (σ 87) 0 = gI d (σ 87) 0 → qR σ W (clm W S np (nI Y)) (nI Y) d' (quN W S (nI Y) kn (cnt W 4)) (quQ W S np (nI Y) kn (cnt W 4)) (fun _ => false) → K0 d') : w_X11_orders E (σ 87) (nI Y) kn d K0 := by
  obtain ⟨eW, hW, tw, e0, e1, n0, n1, hnp, hnh⟩ := id g
  have tw := tw 2 (by decide)
  have w4 : W 4 = nI (cnt W 4) ∧ cnt W 4 ≤ 10 := hW.1 3 (by decide) (by decide)
  have c0 : Ch σ orL d (pI d (σ 87) 29 0) := Ch_pI h (by decide) (by decide) (by decide)
  have g0 : gI (pI d (σ 87) 29 0) (σ 87) 29 = nI 0 := gI_pI _ _ _ _
  have th0 : gI (pI d (σ 87) 29 0) (σ 87) 0 = gI d (σ 87) 0 := gI_pI_k _ _ _ (by decide)
  refine ⟨eo_87 h, ?_⟩
  generalize pI d (σ 87) 29 0 = d0 at c0 g0 th0
  refine ⟨cnt W 4 + 1, loopG (S := Int32 × Dy) (l := fun N z => l_X11_orders_7 E (σ 87) (nI Y) kn K0 N z.1 z.2) (b := fun kk z => b_X11_orders_7 E (σ 87) (nI Y) kn K0 (fun a b => kk (a, b)) z.1 z.2) (fun _ _ => rfl)
    (μ := fun z => cnt W 4 - z.1.toNatClampNeg) (P := fun z => Ch σ orL d z.2 ∧ gI z.2 (σ 87) 0 = gI d (σ 87) 0 ∧ ∃ j, j ≤ cnt W 4 ∧ nI j = z.1 ∧ qR σ W (clm W S np (nI Y)) (nI Y) z.2 (quN W S (nI Y) kn j) (quQ W S np (nI Y) kn j) (fun _ => false)) ?_ (cnt W 4) (0, d0) ⟨c0, th0, 0, by omega, rfl, g0, fun j hj => absurd hj (Nat.not_lt_zero _)⟩ (Nat.sub_le _ _)⟩
  rintro kk ⟨v, dz⟩ ⟨cz, tz, j, hj, ej, qz⟩ hk
  have cz : Ch σ orL d dz := cz
  have tz : gI dz (σ 87) 0 = gI d (σ 87) 0 := tz
  have qz : qR σ W (clm W S np (nI Y)) (nI Y) dz (quN W S (nI Y) kn j) (quQ W S np (nI Y) kn j) (fun _ => false) := qz
  subst ej
  have gz := gW_ch g cz (by decide)
  have rz := refR_ch R cz (by decide)
  have x1 : (360 : Int32) + 3 * nI j = nI (360 + 3 * j) := by rw [show (3 : Int32) = nI 3 from rfl, z_mul]; exact z_add 360 _
  have x2 : nI (360 + 3 * j) + 1 = nI (361 + 3 * j) := by rw [show 361 + 3 * j = 360 + 3 * j + 1 by omega]; exact z_add _ 1
  have x3 : nI (360 + 3 * j) + 2 = nI (362 + 3 * j) := by rw [show 362 + 3 * j = 360 + 3 * j + 2 by omega]; exact z_add _ 2
  simp only [b_X11_orders_7, x_87_1 h, x_87_14 h, x_87_18 h, en_88 h, en_92 h, en_95 h, show (4 : Int32).toNatClampNeg = 4 from rfl, x1, x2, x3, z_nn (show 360 + 3 * j < 2147483648 by omega), z_nn (show 361 + 3 * j < 2147483648 by omega), z_nn (show 362 + 3 * j < 2147483648 by omega), gz.1, w4.1, z_a1 j]
  rw [z_le (by omega) (by omega)]
  refine ⟨vpi (k := 4) (by decide) (by decide), fun hc => ?_, fun hc => ⟨vpw (by omega), vpw (by omega), ?_⟩⟩
  · have : j = cnt W 4 := by omega
    subst this; exact k dz cz tz qz
  · have hjn : j < cnt W 4 := by omega
    obtain ⟨p, hp, ep⟩ := wt_p hW hjn
    have hpn : p < np := by omega
    have ec : cnt W (360 + 3 * j) = p := by unfold cnt; rw [ep, z_nn (by omega)]
    obtain ⟨s, hs1, hs2, es⟩ := wt_s hW hjn
    have nx : ∀ d4, Ch σ orL dz d4 → gI d4 (σ 87) 0 = gI dz (σ 87) 0 → qR σ W (clm W S np (nI Y)) (nI Y) d4 (quN W S (nI Y) kn (j + 1)) (quQ W S np (nI Y) kn (j + 1)) (fun _ => false) → kk (nI (j + 1), d4) := fun d4 c4 t4 q4 =>
      hk (nI (j + 1), d4) ⟨Ch_tr cz c4, t4.trans tz, j + 1, by omega, rfl, q4⟩ (by simp only [z_nn (show j + 1 < 2147483648 by omega), z_nn (show j < 2147483648 by omega)]; omega)
    have no : knW W S (nI Y) kn j = false → kk (nI (j + 1), dz) := fun e => nx dz Ch_rf rfl (by
      show qR σ W _ _ dz (if _ then _ else _) (if _ then _ else _) _
      rw [if_neg (by rw [e]; decide), if_neg (by rw [e]; decide)]; exact qz)
    have kw : knW W S (nI Y) kn j = (!decide (kn < W (362 + 3 * j)) && (!decide (nI Y < W (361 + 3 * j)) && rsL S p)) := by unfold knW; rw [ec]
    have its : (nI Y - W (361 + 3 * j) < 0) ↔ nI Y < W (361 + 3 * j) := by
      rw [es, Int32.lt_iff_toInt_lt, Int32.toInt_sub, z_int (by omega), z_int (by omega), bm32 (by omega) (by omega), z_lt (by omega) (by omega), show (0 : Int32).toInt = 0 from rfl]; omega
    rw [ep, z_nn (show p < 2147483648 by omega), (rz.1 p hpn).1]
    refine ⟨vpi (by omega) (by decide), fun l0 => no (by rw [b2i_0] at l0; rw [kw, l0]; simp), fun l0 => ⟨fun l1 => no (by rw [its] at l1; rw [kw]; simp [l1]), fun l1 => ⟨vpw (by omega), fun l2 => ⟨vpi (k := 7) (by decide) (by decide), ?_⟩, fun l2 => no (by rw [kw]; rw [Int32.not_le] at l2; simp [l2])⟩⟩⟩
    rw [b2i_1] at l0
    rw [its] at l1
    have yes : knW W S (nI Y) kn j = true := by rw [kw, l0]; simp [l1, Int32.not_lt.mpr l2]
    have kch : ∀ {d0 : Dy} {f : Nat} {x : Int32}, Ch σ [92, 93] d0 (pA d0 (σ 92) f x) := fun {d0 f x} => Ch_pA h (by decide) (by simp)
    have kg : ∀ {d0 : Dy} {f j : Nat} {x : Int32}, gA (pA d0 (σ 92) f x) (σ 92) j = if j = f then x else gA d0 (σ 92) j := fun {d0 f j x} => by rw [gA_pA_x, if_pos rfl]
    rw [show (7 : Int32).toNatClampNeg = 7 from rfl, show (1 : Int32).toNatClampNeg = 1 from rfl, show (2 : Int32).toNatClampNeg = 2 from rfl, show (3 : Int32).toNatClampNeg = 3 from rfl, show (8 : Int32).toNatClampNeg = 8 from rfl, show (12 : Int32).toNatClampNeg = 12 from rfl]
    have u1 : Ch σ [92, 93] dz (pA dz (σ 92) 7 (nI Y - W (361 + 3 * j))) := kch
    have f1 : ∀ i, gA (pA dz (σ 92) 7 (nI Y - W (361 + 3 * j))) (σ 92) i = if i = 7 then nI Y - W (361 + 3 * j) else gA dz (σ 92) i := fun i => kg
    generalize pA dz (σ 92) 7 (nI Y - W (361 + 3 * j)) = da at u1 f1
    refine ⟨eo_87 h, r_ofPerson (c := 0) h (by omega) (by decide) ⟨vpi (k := 1) (by decide) (by decide), ?_⟩⟩
    rw [(gW_ch gz u1 (by decide)).1, show (if 0 < nI Y - W (14 + 3 * p + 0) then nI Y - W (14 + 3 * p + 0) else 0) = ageS W p (nI Y) from rfl]
    have u2 : Ch σ [92, 93] dz (pA da (σ 92) 1 (ageS W p (nI Y))) := Ch_tr u1 kch
    have f2 : ∀ i, gA (pA da (σ 92) 1 (ageS W p (nI Y))) (σ 92) i = if i = 1 then ageS W p (nI Y) else gA da (σ 92) i := fun i => kg
    generalize pA da (σ 92) 1 (ageS W p (nI Y)) = db at u2 f2
    refine r_children h (gW_ch gz u2 (by decide)).1 e0 hnp (refR_ch rz u2 (by decide)) hpn ⟨vpi (k := 2) (by decide) (by decide), vpi (k := 3) (by decide) (by decide), r_ofPerson (c := 2) h (by omega) (by decide) ⟨vpi (k := 8) (by decide) (by decide), vpi (k := 12) (by decide) (by decide), ?_⟩⟩
    have u3 : Ch σ [92, 93] dz (pA (pA db (σ 92) 2 (nI (cntN (chS S p) np))) (σ 92) 3 (nI Y)) := Ch_tr u2 (Ch_tr kch kch)
    have f3 : ∀ i, gA (pA (pA db (σ 92) 2 (nI (cntN (chS S p) np))) (σ 92) 3 (nI Y)) (σ 92) i = if i = 3 then nI Y else if i = 2 then nI (cntN (chS S p) np) else gA db (σ 92) i := fun i => by rw [kg, kg]
    generalize pA (pA db (σ 92) 2 (nI (cntN (chS S p) np))) (σ 92) 3 (nI Y) = dc at u3 f3
    rw [(gW_ch gz u3 (by decide)).1, show 14 + 3 * p + 2 = 16 + 3 * p by omega]
    have u4 : Ch σ [92, 93] dz (pA dc (σ 92) 8 (W (16 + 3 * p))) := Ch_tr u3 kch
    have f4 : ∀ i, gA (pA dc (σ 92) 8 (W (16 + 3 * p))) (σ 92) i = if i = 8 then W (16 + 3 * p) else gA dc (σ 92) i := fun i => kg
    generalize pA dc (σ 92) 8 (W (16 + 3 * p)) = de at u4 f4
    have gl : ∀ f, f = 1 ∨ f = 2 ∨ f = 3 ∨ f = 7 ∨ f = 8 → gA de (σ 92) f = clF W S np p (nI Y) (W (361 + 3 * j)) f := fun f hf => by
      rw [f4, f3, f2, f1]
      rcases hf with rfl | rfl | rfl | rfl | rfl <;> simp [clF, pF]
    rw [(gW_ch gz u4 (by decide)).1]
    have put : ∀ df x, Ch σ [92, 93] dz df → x = clm W S np (nI Y) j → ∃ N, l_X11_orders_167 E (σ 87) (nI Y) kn K0 (fun a b => kk (a, b)) N (nI j) (nI p) (nI Y - W (361 + 3 * j)) x (gI df (σ 87) 29) df := fun df x u5 ex => by
      rw [ex, ← ep]
      have hq := quN_le (W := W) (S := S) (y := nI Y) (kn := kn) j
      refine r_put h hW hY2 hjn l1 (fun i hi => ?_) (by omega) (qR_ch qz u5 (by decide)) (fun d5 c5 t5 q5 => ?_)
      · obtain ⟨i1, i2⟩ := quQ_in (W := W) (S := S) (np := np) (y := nI Y) (kn := kn) j i hi
        refine ⟨by omega, ?_⟩
        unfold knW at i2
        simp only [Bool.and_eq_true, Bool.not_eq_true', decide_eq_false_iff_not] at i2
        exact i2.2.1
      · rw [z_a1]
        refine nx d5 (Ch_tr (Ch_w u5 (by decide)) c5) (t5.trans (congrFun (Ch_I u5 (by decide) (by decide)) 0)) ?_
        show qR σ W _ _ d5 (if _ then _ else _) (if _ then _ else _) _
        rw [if_pos yes, if_pos yes]; exact q5
    refine ⟨fun t0 => ?_, fun t0 => put de 0 u4 (by unfold clm; rw [if_pos t0])⟩
    obtain ⟨m, tw⟩ : ∃ m, TW W 2 m := tw.elim (fun q2 => absurd q2 t0) (fun q2 => q2.2)
    have hm10 := tw.2.1
    have en : cnt W 2298 = m := by have e : W 2298 = nI m := tw.1; unfold cnt; rw [e, z_nn (by omega)]
    have fa : fAg 2 (gA de (σ 92)) (clF W S np p (nI Y) (W (361 + 3 * j))) := ⟨fun f hf hb => gl f (by have := fs2 f hf hb; omega), fun _ => gl 8 (by omega)⟩
    refine r_summed (s := 2) h (Or.inr rfl) (gW_ch gz u4 (by decide)).1 tw (by rw [gl 8 (by omega)]; exact hbit p hpn) (fun d6 c6 => put d6 _ (Ch_tr u4 (Ch_w c6 (by decide))) ?_)
    rw [sum_congr (Or.inr rfl) tw fa m (Nat.le_refl m)]
    unfold clm; rw [if_neg t0, en, ec]
end
