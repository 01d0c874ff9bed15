section
variable {σ : Nat → Nat} {E : En} {d d' d2 d3 : Dy} {W : Nat → Int32} {np nh L n : Nat} {S : RS} {K : Int32 → Dy → Prop} {K0 : Dy → Prop} {X : String → Dy → Prop} {cl : Nat → Int32} {q : Nat → Nat} {tk : Nat → Bool} {kc : En → Dy → Prop} {v4 : Int32} {xs : Nat → Int32} {p1 p2 : Int32}
theorem r_income104 (h : Env σ E) (g : gW σ d W np nh) (hmon : ∀ p, p < np → ∃ m, m ≤ 9999 ∧ W (15 + 3 * p) = nI m) {y y2 p2 : Int32} (qz : qR σ W cl y d n q tk) (hn : n ≤ 10) (hq : ∀ j, j < n → q j < cnt W 4) {x : Nat} (hx : x < 2147483648) {v3 : Int64} {v5 v8 : Int32} {k69 : Int64 → Int32 → Dy → Prop}
    (ks : ¬ v8 = 0 → k69 (v3 + (nI x).toInt64) (v5 + 1) d) (k0 : v8 = 0 → fstN (payB W (nI x) q tk) n = none → k69 (v3 + 0) (v5 + 1) d) (k1 : ∀ j, v8 = 0 → fstN (payB W (nI x) q tk) n = some j → ∀ d', Ch σ [103] d d' → qR σ W cl y d' n q (upB tk j true) → k69 (v3 + (nI x).toInt64) (v5 + 1) d') : ∃ N, l_X11_income_104 E (σ 87) y2 p2 K k69 N v3 v5 (nI x).toInt64 v8 0 d := by
  obtain ⟨eW, hW, tw, e0, e1, n0, n1, hnp, hnh⟩ := id g
  by_cases v0 : v8 = 0
  · subst v0
    refine ⟨n + 1, loopG (S := Int64 × Int32 × Int64 × Int32 × Int32 × Dy) (l := fun N z => l_X11_income_104 E (σ 87) y2 p2 K k69 N z.1 z.2.1 z.2.2.1 z.2.2.2.1 z.2.2.2.2.1 z.2.2.2.2.2) (b := fun kk z => b_X11_income_104 E (σ 87) y2 p2 K k69 (fun a b c e f g => kk (a, b, c, e, f, g)) z.1 z.2.1 z.2.2.1 z.2.2.2.1 z.2.2.2.2.1 z.2.2.2.2.2) (fun _ _ => rfl)
      (μ := fun z => n - z.2.2.2.2.1.toNatClampNeg) (P := fun z => v3 = z.1 ∧ v5 = z.2.1 ∧ (nI x).toInt64 = z.2.2.1 ∧ ∃ j, j ≤ n ∧ nI j = z.2.2.2.2.1 ∧ ((0 = z.2.2.2.1 ∧ d = z.2.2.2.2.2 ∧ fstN (payB W (nI x) q tk) j = none) ∨ (1 = z.2.2.2.1 ∧ ∃ i, fstN (payB W (nI x) q tk) n = some i ∧ Ch σ [103] d z.2.2.2.2.2 ∧ qR σ W cl y z.2.2.2.2.2 n q (upB tk i true)))) ?_ n (v3, v5, (nI x).toInt64, 0, 0, d) ⟨rfl, rfl, rfl, 0, by omega, rfl, Or.inl ⟨rfl, rfl, rfl⟩⟩ (Nat.sub_le _ _)⟩
    rintro kk ⟨a1, a2, a3, a4, a5, dz⟩ ⟨e_1, e_2, e_3, j, hj, e_5, rr⟩ hk
    subst e_1 e_2 e_3 e_5
    have rr : (0 = a4 ∧ d = dz ∧ fstN (payB W (nI x) q tk) j = none) ∨ (1 = a4 ∧ ∃ i, fstN (payB W (nI x) q tk) n = some i ∧ Ch σ [103] d dz ∧ qR σ W cl y dz n q (upB tk i true)) := rr
    rcases rr with ⟨r1, r2, r3⟩ | ⟨r1, i, r2, r3, r4⟩
    · subst r1 r2
      simp only [b_X11_income_104, b_X11_income_167, x_87_26 h, en_103 h, z_nn (show j < 2147483648 by omega)]
      rw [qz.1, z_le (by omega) (by omega), z_a1 j]
      refine ⟨fun hc => ⟨fun _ => ?_, fun z => absurd trivial z⟩, fun hc => ⟨fun z => absurd trivial z, fun _ => ?_⟩⟩
      · have : j = n := by omega
        subst this; exact k0 rfl r3
      · have hjn : j < n := by omega
        obtain ⟨p, hp, ep⟩ := wt_p hW (hq j hjn)
        have hpn : p < np := by omega
        have ec : cnt W (360 + 3 * q j) = p := by unfold cnt; rw [ep, z_nn (by omega)]
        obtain ⟨m, hm, em⟩ := hmon p hpn
        have nx : ∀ b dd, Ch σ [103] d dd → ((0 = b ∧ d = dd ∧ fstN (payB W (nI x) q tk) (j + 1) = none) ∨ (1 = b ∧ ∃ i, fstN (payB W (nI x) q tk) n = some i ∧ Ch σ [103] d dd ∧ qR σ W cl y dd n q (upB tk i true))) → kk (v3, v5, (nI x).toInt64, b, nI (j + 1), dd) := fun b dd _ rr =>
          hk (v3, v5, (nI x).toInt64, b, nI (j + 1), dd) ⟨rfl, rfl, rfl, j + 1, by omega, rfl, rr⟩ (by simp only [z_nn (show j + 1 < 2147483648 by omega), z_nn (show j < 2147483648 by omega)]; omega)
        obtain ⟨q1, q2, q3⟩ := qz.2 j hjn
        refine ⟨vpi (by omega) (by decide), ?_⟩
        by_cases t0 : tk j = true
        · rw [q1, if_pos t0]
          exact ⟨fun _ => nx 0 d Ch_rf (Or.inl ⟨rfl, rfl, fst_f r3 (by unfold payB; simp [t0])⟩), fun z => absurd (by decide) z⟩
        · rw [q1, if_neg t0, ep]
          refine ⟨fun z => absurd z (z_pos (by omega)), fun _ => ⟨vpi (by omega) (by decide), r_ofPerson (c := 1) h (by omega) (by decide) ?_⟩⟩
          rw [eW, show 14 + 3 * p + 1 = 15 + 3 * p by omega, em, ← Int32.not_lt, lgc_lt, J_lt (by omega) hx, Classical.not_not]
          have pe : payB W (nI x) q tk j = !decide (m < x) := by
            unfold payB
            rw [ec, em, show tk j = false by simpa using t0, Bool.not_false, Bool.and_true]
            congr 2
            exact propext (z_lt (by omega) hx)
          refine ⟨fun l1 => ⟨vpi (by omega) (by decide), nx 1 _ (Ch_pA h (by decide) (by decide)) (Or.inr ⟨rfl, j, fst_t r3 hjn (by rw [pe]; simp only [Bool.not_eq_true', decide_eq_false_iff_not]; exact l1), Ch_pA h (by decide) (by decide), qz.1, fun i hi => ?_⟩)⟩, fun l1 => nx 0 d Ch_rf (Or.inl ⟨rfl, rfl, fst_f r3 (by rw [pe]; simp; omega)⟩)⟩
          simp only [gA_pA_x, gA_pI_x, gA_pJ_x, gA_sA_x, gA_pQ_x, gI_pA_x, gI_pI_x, gI_pJ_x, gI_sA_x, gI_pQ_x, gJ_pA_x, gJ_pI_x, gJ_pJ_x, gJ_sA_x, gJ_pQ_x, gQ_pA_x, gQ_pI_x, gQ_pJ_x, gQ_sA_x, gQ_pQ_x, gA_sJ_x, gI_sJ_x, gJ_sJ_x, gQ_sJ_x, sg h, Nat.reduceLT, Nat.reduceEqDiff, if_false, if_true]
          obtain ⟨i1, i2, i3⟩ := qz.2 i hi
          refine ⟨?_, i2, i3⟩
          unfold upB
          by_cases e : i = j
          · rw [if_pos e, if_pos e]; rfl
          · rw [if_neg e, if_neg e]; exact i1
    · subst r1
      have dn : k69 (v3 + (nI x).toInt64) (v5 + 1) dz := k1 i rfl r2 dz r3 r4
      have n10 : ¬ (1 : Int32) = 0 := by decide
      exact ⟨fun _ => ⟨fun z => absurd z n10, fun _ => dn⟩, fun _ => ⟨fun _ => ⟨fun z => absurd z n10, fun _ => dn⟩, fun z => absurd z n10⟩⟩
  · have dn : b_X11_income_167 E (σ 87) y2 p2 K k69 v3 v5 (nI x).toInt64 v8 d := ⟨fun z => absurd z v0, fun _ => ks v0⟩
    exact ⟨1, fun _ => dn, fun _ => ⟨fun _ => dn, fun z => absurd z v0⟩⟩
theorem r_income69 (h : Env σ E) (g : gW σ d W np nh) (hbit : ∀ p, p < np → W (16 + 3 * p) = 0 ∨ W (16 + 3 * p) = 1) (hmon : ∀ p, p < np → ∃ m, m ≤ 9999 ∧ W (15 + 3 * p) = nI m) (R : refR σ np nh d S) (ok : rsOK np nh S) {Y t : Nat} (ht : t ≤ 9) (hr : ∀ i, i < nh → ∃ r, r ≤ 209879010 ∧ rentS W S nh i (nI Y) = nI r)
    (qz : qR σ W cl (nI Y) d n q (fun _ => false)) (hn : n ≤ 10) (hq : ∀ j, j < n → q j < cnt W 4) (k : ∀ d', Ch σ [92, 93, 103] d d' → K (incT W S nh (nI Y) (nI t) n q nh).1 d') : ∃ N, l_X11_income_69 E (σ 87) (nI Y) (nI t) K N 0 0 d := by
  obtain ⟨eW, hW, tw, e0, e1, n0, n1, hnp, hnh⟩ := id g
  refine ⟨nh + 1, loopG (S := Int64 × Int32 × Dy) (l := fun N z => l_X11_income_69 E (σ 87) (nI Y) (nI t) K N z.1 z.2.1 z.2.2) (b := fun kk z => b_X11_income_69 E (σ 87) (nI Y) (nI t) K (fun a b c => kk (a, b, c)) z.1 z.2.1 z.2.2) (fun _ _ => rfl)
    (μ := fun z => nh - z.2.1.toNatClampNeg) (P := fun z => Ch σ [92, 93, 103] d z.2.2 ∧ ∃ j, j ≤ nh ∧ nI j = z.2.1 ∧ (incT W S nh (nI Y) (nI t) n q j).1 = z.1.toInt32 ∧ qR σ W cl (nI Y) z.2.2 n q (incT W S nh (nI Y) (nI t) n q j).2) ?_ nh (0, 0, d) ⟨Ch_rf, 0, by omega, rfl, rfl, qz⟩ (Nat.sub_le _ _)⟩
  rintro kk ⟨a, v, dz⟩ ⟨cz, j, hj, rfl, ea, qj⟩ hk
  have cz : Ch σ [92, 93, 103] d dz := cz
  have ea : (incT W S nh (nI Y) (nI t) n q j).1 = a.toInt32 := ea
  have qj : qR σ W cl (nI Y) dz n q (incT W S nh (nI Y) (nI t) n q j).2 := qj
  have gz := gW_ch g cz (by decide)
  have rz := refR_ch R cz (by decide)
  refine r_huts h ?_
  rw [gz.1, e1]
  rw [z_le (by omega) (by omega)]
  refine ⟨fun hc => ?_, fun hc => ?_⟩
  · have : j = nh := by omega
    subst this; rw [← ea]; exact k dz cz
  · have hjn : j < nh := by omega
    obtain ⟨r, hr1, hr2⟩ := hr j hjn
    have htr : t * r < 2147483648 := Nat.lt_of_le_of_lt (Nat.mul_le_mul ht hr1) (by decide)
    refine r_rentOf h gz hbit rz ok hjn (fun da ua => ?_)
    have ga := gW_ch gz ua (by decide)
    have ra := refR_ch rz ua (by decide)
    refine r_stays h ga hbit hmon ra ok hjn ht hr1 hr2 (fun db ub => ?_)
    have gb := gW_ch ga ub (by decide)
    have qb := qR_ch (qR_ch qj ua (by decide)) ub (by decide)
    rw [hr2, J_mul (by omega) (by omega) htr]
    have rt : rentS W S nh j (nI Y) * nI t = nI (t * r) := by rw [hr2, z_mul, Nat.mul_comm]
    have step : incT W S nh (nI Y) (nI t) n q (j + 1) = if stayB W S nh j (nI Y) (nI t) = true then ((incT W S nh (nI Y) (nI t) n q j).1 + rentS W S nh j (nI Y) * nI t, (incT W S nh (nI Y) (nI t) n q j).2) else match fstN (payB W (rentS W S nh j (nI Y) * nI t) q (incT W S nh (nI Y) (nI t) n q j).2) n with
      | none => incT W S nh (nI Y) (nI t) n q j
      | some i => ((incT W S nh (nI Y) (nI t) n q j).1 + rentS W S nh j (nI Y) * nI t, upB (incT W S nh (nI Y) (nI t) n q j).2 i true) := rfl
    rw [rt] at step
    have nx : ∀ dd x s tk, Ch σ [92, 93, 103] dz dd → incT W S nh (nI Y) (nI t) n q (j + 1) = (s, tk) → x.toInt32 = s → qR σ W cl (nI Y) dd n q tk → kk (x, nI j + 1, dd) := fun dd x s tk ud e ex qd => by
      rw [z_a1]
      exact hk (x, nI (j + 1), dd) ⟨Ch_tr cz ud, j + 1, by omega, rfl, by rw [e]; exact ex.symm, by rw [e]; exact qd⟩ (by simp only [z_nn (show j + 1 < 2147483648 by omega), z_nn (show j < 2147483648 by omega)]; omega)
    have sm : (a + (nI (t * r)).toInt64).toInt32 = (incT W S nh (nI Y) (nI t) n q j).1 + nI (t * r) := by rw [Int64.toInt32_add, Int32.toInt32_toInt64, ea]
    refine r_income104 h gb hmon qb hn hq htr (fun l1 => ?_) (fun l1 e => ?_) (fun i l1 e dd ud qd => ?_)
    · rw [b2i_1] at l1
      exact nx db _ _ _ (Ch_tr (Ch_w ua (by decide)) (Ch_w ub (by decide))) (by rw [step, if_pos l1]) sm qb
    · rw [b2i_0] at l1
      exact nx db _ _ _ (Ch_tr (Ch_w ua (by decide)) (Ch_w ub (by decide))) (by rw [step, if_neg (by rw [l1]; decide), e]) (by rw [Int64.add_zero, ea]) qb
    · rw [b2i_0] at l1
      exact nx dd _ _ _ (Ch_tr (Ch_tr (Ch_w ua (by decide)) (Ch_w ub (by decide))) (Ch_w ud (by decide))) (by rw [step, if_neg (by rw [l1]; decide), e]) sm qd
theorem p_income (I : Inv σ E d) (k : ∀ E' d', Inv σ E' d' → kc E' d') (hK : ∀ v d2, w_X11_income E (σ 87) p1 p2 d2 (fun r d => cmpO σ E kc v r d) → K v d2) : w_L_income E (σ 0) p1 p2 (σ 115) d K := by
  have h := I.1
  have c := cW_I I
  by_cases b1 : bw p1 1900 2099
  · by_cases b2 : bw p2 1 9
    · obtain ⟨Y, hY1, hY2, eY⟩ := bw_n (a := 1900) (b := 2099) b1 (by decide) (by decide)
      obtain ⟨t, ht1, ht2, et⟩ := bw_n (a := 1) (b := 9) b2 (by decide) (by decide)
      simp only [w_L_income, w_X10_income, x_0_0 h, x_0_5 h, x_0_7 h]
      refine ⟨eo_0 h, eo_115 h, eo_0 h, ny1 b1 (nb1 b2 ?_)⟩
      rw [td_3 I]
      refine k_begin c rb50 (fun d1 c1 s1 s3 C1 => ?_)
      rw [eY] at hK b1 ⊢
      rw [et] at hK b2 ⊢
      have w1 := cW_ch c rb50 c1
      refine k_goTo' w1 rb50 hY1 hY2 s1 s3 C1 (fun d2 c2 y2 s2 => ?_)
      have w2 := cW_ch w1 rb50 c2
      obtain ⟨kn2, -, -, -, -, C2⟩ := s2
      have g2 := cW_gW w2
      have okR := rep_ok g2.2.1 (Y := Y) (kn := gA d (σ 88) 3)
      have hle := quN_le (W := gA d (σ 88)) (S := repS (gA d (σ 88)) (cnt (gA d (σ 88)) 0) (cnt (gA d (σ 88)) 1) Y (gA d (σ 88) 3)) (y := nI Y) (kn := gA d (σ 88) 3) (cnt (gA d (σ 88)) 4)
      have hw4 := (wc_4 I).2
      have hq := fun j hj => (quQ_in (W := gA d (σ 88)) (S := repS (gA d (σ 88)) (cnt (gA d (σ 88)) 0) (cnt (gA d (σ 88)) 1) Y (gA d (σ 88) 3)) (np := cnt (gA d (σ 88)) 0) (y := nI Y) (kn := gA d (σ 88) 3) (cnt (gA d (σ 88)) 4) j hj).1
      refine k_lineUp w2 C2 y2 kn2 (fun d4 c4 qc => ?_)
      have w4 : cW σ E d4 _ _ _ := ⟨Inv_ch w2.1 (Ch_w c4 (by decide)), (Ch_A c4 (by decide) (by decide)).trans w2.2.1, w2.2.2⟩
      have C4 : clsR σ 50 _ _ d4 _ := clsR_ch C2 rb50 c4 (by decide)
      refine k_income45 w4 C4 okR ((congrFun (Ch_I c4 (by decide) (by decide)) 2).trans y2) qc (by omega) hq (fun d6 c6 => ⟨v0_115 h, ?_⟩)
      have w6 : cW σ E d6 _ _ _ := ⟨Inv_ch w4.1 (Ch_w c6 (by decide)), (Ch_A c6 (by decide) (by decide)).trans w4.2.1, w4.2.2⟩
      have cc : Ch σ scr d d6 := Ch_tr (Ch_w (Ch_tr c1 c2) (cL_scr rb50)) (Ch_tr (Ch_w c4 (by decide)) (Ch_w c6 (by decide)))
      refine hK _ _ ⟨eo_87 h, ry1 b1 (rt0 h ⟨fun q => absurd rfl q, fun _ => ri1 b2 ⟨fun _ => ⟨eo_87 h, rt0 h ⟨fun _ => ?_, fun q => absurd rfl q⟩⟩, fun q => absurd q (by decide)⟩⟩)⟩
      simp only [x_87_1 h, en_88 h, show (3 : Int32).toNatClampNeg = 3 from rfl, gA_pI_x, gA_pJ_x, w6.2.1]
      refine ⟨vpi (k := 3) (by decide) (by decide), q_goes2 I k cc (cW_gW w6) hY1 hY2 (fun d3 g3 R3 fin => ⟨vpi (k := 3) (by decide) (by decide), ?_⟩)⟩
      rw [g3.1]
      refine r_orders h g3 (fun p hp => k_bit2 c hp) R3 hY1 hY2 (fun d5 c5 t5 q5 => ?_)
      refine r_income69 h (gW_ch g3 c5 (by decide)) (fun p hp => k_bit2 c hp) (fun p hp => money c hp) (refR_ch R3 c5 (by decide)) okR ht2 (fun i hi => rent_n g2.2.1 g2.2.2.1 rfl hi (rep_f g2.2.1) (rp_spec okR hi).2 hY1 hY2) q5 (by omega) hq (fun d7 c7 => fin d7 (Ch_tr (Ch_w c5 orL_ref) (Ch_w c7 (by decide))) ((congrFun (Ch_I c7 (by decide) (by decide)) 0).trans t5))
    · exact ⟨eo_0 h, eo_115 h, eo_0 h, ny1 b1 (nb0 b2 (Or.inr ⟨rfl, hK _ _ ⟨eo_87 h, ry1 b1 (rt0 h ⟨fun q => absurd rfl q, fun _ => ri0 b2 ⟨fun q => absurd rfl q, fun _ => ⟨eo_87 h, rt1 h ⟨fun q => absurd q (by decide), fun _ => fail_O I (by decide) k⟩⟩⟩⟩)⟩⟩))⟩
  · exact ⟨eo_0 h, eo_115 h, eo_0 h, ny0 b1 (Or.inl ⟨rfl, hK _ _ ⟨eo_87 h, ry0 b1 (rt1 h ⟨fun _ => fail_O I (by decide) k, fun q => absurd q (by decide)⟩)⟩⟩)⟩
theorem c_income (I : Inv σ E d) (hv : v5 v4 L) (k : ∀ E' d', Inv σ E' d' → kc E' d') : lw_1291 E (σ 0) (σ 87) (σ 115) v4 xs L kc d :=
  ⟨eo_0 I.1, eo_87 I.1, eo_115 I.1, hv.1, hv.2.1, p_income I k (fun v d2 hk => ⟨hv.1, hv.2.1, hk⟩)⟩
end
