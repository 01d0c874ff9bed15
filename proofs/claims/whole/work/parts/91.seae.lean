section
variable {σ : Nat → Nat} {E : En} {d d' d2 d3 : Dy} {kc : En → Dy → Prop} {v4 : Int32} {xs : Nat → Int32} {L : Nat}
theorem Inv_shT (I : Inv σ E d) : shT σ d (gA d (σ 88)) (cnt (gA d (σ 88)) 5) (cnt (gA d (σ 88)) 1) := by
  refine ⟨td_4 I, td_14 I, fun q hq => ⟨tv_4 I hq (c := 3) (by decide), tv_4 I hq (c := 4) (by decide)⟩, fun q hq => ⟨tv_14 I hq (c := 2) (by decide), tv_14 I hq (c := 1) (by decide)⟩⟩
theorem shL_scr : ∀ i ∈ shL, i ∈ scr := by decide
theorem reL_ref : ∀ i ∈ reL, i ∈ refL := by decide
theorem pJ_88 {j0 : Int64} : gA (pI (pJ d2 (σ 115) 0 j0) (σ 87) 0 0) (σ 88) = gA d2 (σ 88) := rfl
theorem ref_end (I : Inv σ E d) (k : ∀ E' d', Inv σ E' d' → kc E' d') {rb : Int32} {P : List Nat} (c1 : Ch σ scr d d2) (hP : ∀ i ∈ P, i ∈ refL) (h87 : 87 ∉ P) (c2 : Ch σ P (pI (pJ d2 (σ 115) 0 rb.toInt64) (σ 87) 0 0) d3) : cmpO σ E kc 0 rb d3 := by
  refine q_end I k c1 (Ch_tr (ch_thr I.1) (Ch_w c2 hP)) ?_
  rw [congrFun (Ch_I c2 (i := 87) (by decide) h87) 0, gI_pI]
theorem p_sea (I : Inv σ E d) (s y q : Int32) (k : ∀ E' d', Inv σ E' d' → kc E' d') {K : Int32 → Dy → Prop} (hK : ∀ v d2, w_X11_sea E (σ 87) s y q d2 (fun r d => cmpO σ E kc v r d) → K v d2) : w_L_sea E (σ 0) s y q (σ 115) d K := by
  have h := I.1
  have t := Inv_shT I
  have w1 := I.2.2.1.1
  have wc := wc_5 I
  have wch := wc_1 I
  generalize hn : cnt (gA d (σ 88)) 5 = ns at t wc
  generalize hnh : cnt (gA d (σ 88)) 1 = nh at t wch
  have td := t.2.1
  by_cases b0 : lx s ns
  · by_cases b1 : bw y 1900 2099
    · have rf : ∀ {K1 d2}, gA d2 (σ 88) = gA d (σ 88) → b_X11_sea_27 E (σ 87) s y q K1 (σ 87) 0 (pI d2 (σ 87) 0 0) → w_X11_sea E (σ 87) s y q d2 K1 := fun e q1 => ⟨eo_87 h, ro1 (c := 5) h (by decide) ((congrFun e 5).trans wc.1) (by omega) b0 ⟨fun q => absurd rfl q, fun _ => ry1 b1 ⟨fun _ => q1, fun q => absurd rfl q⟩⟩⟩
      obtain ⟨i, hi, rfl⟩ := id b0
      simp only [w_L_sea, w_X10_sea, x_0_0 h, x_1_7 h, x_0_9 h]
      refine ⟨eo_0 h, eo_115 h, eo_0 h, T_size (te_14 h) td (ni1 b0 (by omega) (ny1 b1 (k_solves h t w1 hnh.symm (fun d1 c1 hr => ?_) (fun d1 S c1 hr A => ?_))))⟩
      · have e88 : gA d1 (σ 88) = gA d (σ 88) := Ch_A c1 (by decide) (by decide)
        refine ⟨fun _ => ⟨v0_115 h, hK _ _ (rf e88 ⟨eo_87 h, rt0 h ⟨fun _ => r_narrows h (W := gA d (σ 88)) e88 wch.1 wc.1 wc.2 wch.2 (fun d3 c3 _ => ⟨fun q => absurd rfl q, fun _ => ref_end I k (Ch_w c1 shL_scr) reL_ref (by decide) c3⟩) (fun d3 S3 c3 hr3 _ => ?_), fun q => absurd rfl q⟩⟩)⟩, fun q => absurd rfl q⟩
        rw [hr] at hr3; cases hr3
      · have e88 : gA d1 (σ 88) = gA d (σ 88) := Ch_A c1 (by decide) (by decide)
        have fin : ∀ x, x = (if q = 0 then S 2 i else S 3 i) → K 0 (pJ d1 (σ 115) ((0 : Int32)).toNatClampNeg x.toInt64) := fun x hx => by
          refine hK _ _ (rf e88 ⟨eo_87 h, rt0 h ⟨fun _ => r_narrows h (W := gA d (σ 88)) e88 wch.1 wc.1 wc.2 wch.2 (fun d3 c3 hr3 => ?_) (fun d3 S3 c3 hr3 A3 => ⟨fun _ => ?_, fun q => absurd q (by decide)⟩), fun q => absurd rfl q⟩⟩)
          · rw [hr] at hr3; cases hr3
          · rw [hr] at hr3; cases hr3
            simp only [x_87_36 h, x_87_37 h, en_111 h, en_112 h, z_nn (show i < 2147483648 by omega)]
            have en := ref_end (rb := x) I k (Ch_w c1 shL_scr) reL_ref (by decide) c3
            refine ⟨fun hq => ⟨vpi (by omega) (by decide), ?_⟩, fun hq => ⟨vpi (by omega) (by decide), ?_⟩⟩
            · rw [if_pos hq] at hx; rw [(A3.2 i hi).1, ← hx]; exact en
            · rw [if_neg hq] at hx; rw [(A3.2 i hi).2, ← hx]; exact en
        refine ⟨fun q => absurd q (by decide), fun _ => ⟨eo_80 h, fun q => absurd q (z_pos (by omega)), fun _ => ⟨fun _ => ?_, fun q => absurd ((z_lt (b := 10) (by omega) (by decide)).mpr (by omega)) q⟩⟩⟩
        simp only [x_80_3 h, x_80_4 h, en_83 h, en_84 h, z_nn (show i < 2147483648 by omega)]
        refine ⟨fun hq => ⟨vpi (by omega) (by decide), v0_115 h, ?_⟩, fun hq => ⟨vpi (by omega) (by decide), v0_115 h, ?_⟩⟩
        · exact fin _ (by rw [(A.2 i hi).1, if_pos hq])
        · exact fin _ (by rw [(A.2 i hi).2, if_neg hq])
    · simp only [w_L_sea, w_X10_sea, x_0_0 h, x_1_7 h]
      exact ⟨eo_0 h, eo_115 h, eo_0 h, T_size (te_14 h) td (ni1 b0 (by omega) (ny0 b1 ⟨rfl, hK _ _ ⟨eo_87 h, ro1 (c := 5) h (by decide) wc.1 (by omega) b0 ⟨fun q => absurd rfl q, fun _ => ry0 b1 ⟨fun q => absurd q (by decide), fun _ => ⟨eo_87 h, eo_87 h, rt1 h ⟨fun q => absurd q (by decide), fun _ => fail_O I (by decide) k⟩⟩⟩⟩⟩⟩))⟩
  · simp only [w_L_sea, w_X10_sea, x_0_0 h, x_1_7 h]
    exact ⟨eo_0 h, eo_115 h, eo_0 h, T_size (te_14 h) td (ni0 b0 (by omega) ⟨rfl, hK _ _ ⟨eo_87 h, ro0 (c := 5) h (by decide) wc.1 (by omega) b0 ⟨fun _ => ⟨eo_87 h, eo_87 h, rt1 h ⟨fun q => absurd q (by decide), fun _ => fail_O I (by decide) k⟩⟩, fun q => absurd q (by decide)⟩⟩⟩)⟩
theorem c_sea (I : Inv σ E d) (hv : v5 v4 L) (k : ∀ E' d', Inv σ E' d' → kc E' d') : lw_2147 E (σ 0) (σ 87) (σ 115) v4 xs L kc d := by
  have h := I.1
  obtain ⟨h1, h2, h3, -⟩ := hv
  refine ⟨eo_0 h, eo_87 h, eo_115 h, h1, h2, h3, fun q => ⟨eo_0 h, ?_⟩, fun q => ⟨eo_0 h, ?_⟩⟩
  · exact p_sea I _ _ _ k (fun v d2 hk => ⟨h1, h2, h3, fun _ => ⟨eo_87 h, hk⟩, fun n => absurd q n⟩)
  · exact p_sea I _ _ _ k (fun v d2 hk => ⟨h1, h2, h3, fun n => absurd n q, fun _ => ⟨eo_87 h, hk⟩⟩)
theorem p_level (I : Inv σ E d) (s y q : Int32) (k : ∀ E' d', Inv σ E' d' → kc E' d') {K : Int32 → Dy → Prop} (hK : ∀ v d2, w_X11_level E (σ 87) s y q d2 (fun r d => cmpO σ E kc v r d) → K v d2) : w_L_level E (σ 0) s y q (σ 115) d K := by
  have h := I.1
  have t := Inv_shT I
  have w1 := I.2.2.1.1
  have wc := wc_5 I
  have wch := wc_1 I
  generalize hn : cnt (gA d (σ 88)) 5 = ns at t wc
  generalize hnh : cnt (gA d (σ 88)) 1 = nh at t wch
  have td := t.1
  have f1 : b_X11_level_21 E (σ 87) s y q (fun r d => cmpO σ E kc 1 r d) (σ 87) (pI d (σ 87) 0 0) := ⟨eo_87 h, eo_87 h, rt1 h ⟨fun q => absurd q (by decide), fun _ => fail_O I (by decide) k⟩⟩
  by_cases b0 : lx s nh
  · by_cases b1 : bw y 1900 2099
    · have rf : ∀ {K1 d2}, gA d2 (σ 88) = gA d (σ 88) → b_X11_level_26 E (σ 87) s y q K1 (σ 87) 0 (pI d2 (σ 87) 0 0) → w_X11_level E (σ 87) s y q d2 K1 := fun e q1 => ⟨eo_87 h, rhn1 h ((congrFun e 1).trans wch.1) (by omega) b0 ⟨fun q => absurd rfl q, fun _ => ry1 b1 ⟨fun _ => q1, fun q => absurd rfl q⟩⟩⟩
      obtain ⟨i, hi, rfl⟩ := id b0
      simp only [w_L_level, w_X10_level, x_0_9 h]
      refine ⟨eo_0 h, eo_115 h, eo_0 h, nh1 h td b0 (ny1 b1 (k_solves h t w1 hnh.symm (fun d1 c1 hr => ?_) (fun d1 S c1 hr A => ?_)))⟩
      · have e88 : gA d1 (σ 88) = gA d (σ 88) := Ch_A c1 (by decide) (by decide)
        refine ⟨fun _ => ⟨v0_115 h, hK _ _ (rf e88 ⟨eo_87 h, rt0 h ⟨fun _ => r_narrows h (W := gA d (σ 88)) e88 wch.1 wc.1 wc.2 wch.2 (fun d3 c3 _ => ⟨fun q => absurd rfl q, fun _ => ref_end I k (Ch_w c1 shL_scr) reL_ref (by decide) c3⟩) (fun d3 S3 c3 hr3 _ => ?_), fun q => absurd rfl q⟩⟩)⟩, fun q => absurd rfl q⟩
        rw [hr] at hr3; cases hr3
      · have e88 : gA d1 (σ 88) = gA d (σ 88) := Ch_A c1 (by decide) (by decide)
        have fin : ∀ x, x = (if q = 0 then S 0 i else S 1 i) → K 0 (pJ d1 (σ 115) ((0 : Int32)).toNatClampNeg x.toInt64) := fun x hx => by
          refine hK _ _ (rf e88 ⟨eo_87 h, rt0 h ⟨fun _ => r_narrows h (W := gA d (σ 88)) e88 wch.1 wc.1 wc.2 wch.2 (fun d3 c3 hr3 => ?_) (fun d3 S3 c3 hr3 A3 => ⟨fun _ => ?_, fun q => absurd q (by decide)⟩), fun q => absurd rfl q⟩⟩)
          · rw [hr] at hr3; cases hr3
          · rw [hr] at hr3; cases hr3
            simp only [x_87_34 h, x_87_35 h, en_109 h, en_110 h, z_nn (show i < 2147483648 by omega)]
            have en := ref_end (rb := x) I k (Ch_w c1 shL_scr) reL_ref (by decide) c3
            refine ⟨fun hq => ⟨vpi (by omega) (by decide), ?_⟩, fun hq => ⟨vpi (by omega) (by decide), ?_⟩⟩
            · rw [if_pos hq] at hx; rw [(A3.1 i hi).1, ← hx]; exact en
            · rw [if_neg hq] at hx; rw [(A3.1 i hi).2, ← hx]; exact en
        refine ⟨fun q => absurd q (by decide), fun _ => ⟨eo_80 h, fun q => absurd q (z_pos (by omega)), fun _ => ⟨fun _ => ?_, fun q => absurd ((z_lt (b := 10) (by omega) (by decide)).mpr (by omega)) q⟩⟩⟩
        simp only [x_80_1 h, x_80_2 h, en_81 h, en_82 h, z_nn (show i < 2147483648 by omega)]
        refine ⟨fun hq => ⟨vpi (by omega) (by decide), v0_115 h, ?_⟩, fun hq => ⟨vpi (by omega) (by decide), v0_115 h, ?_⟩⟩
        · exact fin _ (by rw [(A.1 i hi).1, if_pos hq])
        · exact fin _ (by rw [(A.1 i hi).2, if_neg hq])
    · exact ⟨eo_0 h, eo_115 h, eo_0 h, nh1 h td b0 (ny0 b1 ⟨rfl, hK _ _ ⟨eo_87 h, rhn1 h wch.1 (by omega) b0 ⟨fun q => absurd rfl q, fun _ => ry0 b1 ⟨fun q => absurd q (by decide), fun _ => f1⟩⟩⟩⟩)⟩
  · exact ⟨eo_0 h, eo_115 h, eo_0 h, nh0 h td b0 ⟨rfl, hK _ _ ⟨eo_87 h, rhn0 h wch.1 (by omega) b0 ⟨fun _ => f1, fun q => absurd q (by decide)⟩⟩⟩⟩
theorem c_level (I : Inv σ E d) (hv : v5 v4 L) (k : ∀ E' d', Inv σ E' d' → kc E' d') : lw_2243 E (σ 0) (σ 87) (σ 115) v4 xs L kc d := by
  have h := I.1
  obtain ⟨h1, h2, h3, -⟩ := hv
  refine ⟨eo_0 h, eo_87 h, eo_115 h, h1, h2, h3, fun q => ⟨eo_0 h, ?_⟩, fun q => ⟨eo_0 h, ?_⟩⟩
  · exact p_level I _ _ _ k (fun v d2 hk => ⟨h1, h2, h3, fun _ => ⟨eo_87 h, hk⟩, fun n => absurd q n⟩)
  · exact p_level I _ _ _ k (fun v d2 hk => ⟨h1, h2, h3, fun n => absurd n q, fun _ => ⟨eo_87 h, hk⟩⟩)
/-- bits of those of the first n for which a word holds -/
def btF (f : Nat → Bool) : Nat → Int32
  | 0 => 0
  | n + 1 => if f n = true then btF f n ||| ((1 : Int32) <<< (nI n &&& 31)) else btF f n
theorem p_flood (I : Inv σ E d) (s y q : Int32) (k : ∀ E' d', Inv σ E' d' → kc E' d') {K : Int32 → Dy → Prop} (hK : ∀ v d2, w_X11_flood E (σ 87) s y q d2 (fun r d => cmpO σ E kc v r d) → K v d2) : w_L_flood E (σ 0) s y q (σ 115) d K := by
  have h := I.1
  have t := Inv_shT I
  have w1 := I.2.2.1.1
  have wc := wc_5 I
  have wch := wc_1 I
  generalize hn : cnt (gA d (σ 88)) 5 = ns at t wc
  generalize hnh : cnt (gA d (σ 88)) 1 = nh at t wch
  by_cases b1 : bw y 1900 2099
  · by_cases b0 : bw s 0 100
    · have rf : ∀ {K1 d2}, b_X11_flood_33 E (σ 87) s y q K1 (σ 87) 0 (pI d2 (σ 87) 0 0) → w_X11_flood E (σ 87) s y q d2 K1 := fun q1 => ⟨eo_87 h, ry1 b1 (rt0 h ⟨fun q => absurd rfl q, fun _ => ri1 b0 ⟨fun _ => q1, fun q => absurd q (by decide)⟩⟩)⟩
      simp only [w_L_flood, w_X10_flood, x_0_9 h]
      refine ⟨eo_0 h, eo_115 h, eo_0 h, ny1 b1 (nb1 b0 (k_solves h t w1 hnh.symm (fun d1 c1 hr => ?_) (fun d1 S c1 hr A => ⟨fun _ => ?_, fun q => absurd q (by decide)⟩)))⟩
      · have e88 : gA d1 (σ 88) = gA d (σ 88) := Ch_A c1 (by decide) (by decide)
        refine ⟨fun q => absurd rfl q, fun _ => ⟨v0_115 h, hK _ _ (rf ⟨eo_87 h, rt0 h ⟨fun _ => r_narrows h (W := gA d (σ 88)) e88 wch.1 wc.1 wc.2 wch.2 (fun d3 c3 _ => ⟨fun q => absurd rfl q, fun _ => ref_end I k (Ch_w c1 shL_scr) reL_ref (by decide) c3⟩) (fun d3 S3 c3 hr3 _ => ?_), fun q => absurd rfl q⟩⟩)⟩⟩
        rw [hr] at hr3; cases hr3
      · have e88 : gA d1 (σ 88) = gA d (σ 88) := Ch_A c1 (by decide) (by decide)
        obtain ⟨F, hF⟩ : ∃ F : Nat → Bool, F = fun i => decide (¬ s ≤ (if q = 0 then S 1 i else S 0 i)) := ⟨_, rfl⟩
        have t1 := (shT_ch t c1).1
        have fin : K 0 (pJ d1 (σ 115) ((0 : Int32)).toNatClampNeg (btF F nh).toInt64) := by
          refine hK _ _ (rf ⟨eo_87 h, rt0 h ⟨fun _ => r_narrows h (W := gA d (σ 88)) e88 wch.1 wc.1 wc.2 wch.2 (fun d3 c3 hr3 => ?_) (fun d3 S3 c3 hr3 A3 => ⟨fun _ => ?_, fun q => absurd q (by decide)⟩), fun q => absurd rfl q⟩⟩)
          · rw [hr] at hr3; cases hr3
          · rw [hr] at hr3; cases hr3
            have en := ref_end (rb := btF F nh) I k (Ch_w c1 shL_scr) reL_ref (by decide) c3
            have e3 : gA d3 (σ 88) = gA d (σ 88) := (reL_88 c3).trans e88
            refine ⟨nh + 1, loopG (S := Int32 × Int32 × Dy) (l := fun N z => l_X11_flood_58 E (σ 87) s y q _ N z.1 z.2.1 z.2.2) (b := fun kk z => b_X11_flood_58 E (σ 87) s y q _ (fun a b c => kk (a, b, c)) z.1 z.2.1 z.2.2) (fun _ _ => rfl)
              (μ := fun z => nh - z.2.1.toNatClampNeg) (P := fun z => d3 = z.2.2 ∧ ∃ i, i ≤ nh ∧ nI i = z.2.1 ∧ btF F i = z.1) ?_ nh (0, 0, d3) ⟨rfl, 0, by omega, rfl, rfl⟩ (Nat.sub_le _ _)⟩
            rintro kk ⟨a, v, d4⟩ ⟨rfl, i, hi, rfl, rfl⟩ hk
            refine r_huts h ?_
            rw [e3, wch.1]
            refine ⟨fun hc => ?_, fun hc => ?_⟩
            · rw [z_le (by omega) (by omega)] at hc
              have : i = nh := by omega
              subst this
              exact en
            · rw [z_le (by omega) (by omega)] at hc
              have nx : ∀ x, x = btF F (i + 1) → kk (x, nI i + 1, d3) := fun x hx => by
                rw [z_a1]; exact hk (x, nI (i + 1), d3) ⟨rfl, i + 1, by omega, rfl, hx.symm⟩ (by simp only [z_nn (show i + 1 < 2147483648 by omega), z_nn (show i < 2147483648 by omega)]; omega)
              have stp : ∀ z, z = (if q = 0 then S 1 i else S 0 i) → b_X11_flood_91 E (σ 87) s y q (fun r d => cmpO σ E kc 0 r d) (fun a b c => kk (a, b, c)) (nI i) (btF F i) s z d3 := fun z hz => by
                refine ⟨fun q1 => nx _ ?_, fun q1 => nx _ ?_⟩
                · have : F i = false := by rw [hF]; simp only [decide_eq_false_iff_not]; rw [← hz]; exact fun q2 => q2 q1
                  rw [btF, if_neg (by rw [this]; decide), Int32.or_zero]
                · have : F i = true := by rw [hF]; simp only [decide_eq_true_eq]; rw [← hz]; exact q1
                  rw [btF, if_pos this]
              simp only [x_87_34 h, x_87_35 h, en_109 h, en_110 h, z_nn (show i < 2147483648 by omega)]
              refine ⟨fun hq => ⟨vpi (by omega) (by decide), stp _ ?_⟩, fun hq => ⟨vpi (by omega) (by decide), stp _ ?_⟩⟩
              · rw [(A3.1 i (by omega)).2, if_pos hq]
              · rw [(A3.1 i (by omega)).1, if_neg hq]
        refine ⟨nh + 1, loopG (S := Int32 × Int32 × Dy) (l := fun N z => l_X10_flood_30 E (σ 0) s y q _ _ N z.1 z.2.1 z.2.2) (b := fun kk z => b_X10_flood_30 E (σ 0) s y q _ _ (fun a b c => kk (a, b, c)) z.1 z.2.1 z.2.2) (fun _ _ => rfl)
          (μ := fun z => nh - z.2.1.toNatClampNeg) (P := fun z => d1 = z.2.2 ∧ ∃ i, i ≤ nh ∧ nI i = z.2.1 ∧ btF F i = z.1) ?_ nh (0, 0, d1) ⟨rfl, 0, by omega, rfl, rfl⟩ (Nat.sub_le _ _)⟩
        rintro kk ⟨a, v, d4⟩ ⟨rfl, i, hi, rfl, rfl⟩ hk
        simp only [b_X10_flood_30, x_0_0 h, x_1_2 h, x_0_9 h]
        refine T_size (te_4 h) t1 ⟨fun hc => ?_, fun hc => ?_⟩
        · rw [z_le (by omega) (by omega)] at hc
          have : i = nh := by omega
          subst this
          exact ⟨v0_115 h, fin⟩
        · rw [z_le (by omega) (by omega)] at hc
          have nx : ∀ x, x = btF F (i + 1) → kk (x, nI i + 1, d1) := fun x hx => by
            rw [z_a1]; exact hk (x, nI (i + 1), d1) ⟨rfl, i + 1, by omega, rfl, hx.symm⟩ (by simp only [z_nn (show i + 1 < 2147483648 by omega), z_nn (show i < 2147483648 by omega)]; omega)
          have stp : ∀ z, z = (if q = 0 then S 1 i else S 0 i) → ((s ≤ z → kk (btF F i, nI i + 1, d1)) ∧ (¬ s ≤ z → kk (btF F i ||| ((1 : Int32) <<< (nI i &&& 31)), nI i + 1, d1))) := fun z hz => by
            refine ⟨fun q1 => nx _ ?_, fun q1 => nx _ ?_⟩
            · have : F i = false := by rw [hF]; simp only [decide_eq_false_iff_not]; rw [← hz]; exact fun q2 => q2 q1
              rw [btF, if_neg (by rw [this]; decide)]
            · have : F i = true := by rw [hF]; simp only [decide_eq_true_eq]; rw [← hz]; exact q1
              rw [btF, if_pos this]
          have hi10 : nI i < 10 := (z_lt (b := 10) (by omega) (by decide)).mpr (by omega)
          refine ⟨fun hq => ⟨eo_80 h, eo_80 h, fun q => absurd q (z_pos (by omega)), fun _ => ⟨fun _ => ⟨fun _ => ?_, fun q => absurd rfl q⟩, fun q => absurd hi10 q⟩⟩, fun hq => ⟨eo_80 h, eo_80 h, fun q => absurd q (z_pos (by omega)), fun _ => ⟨fun _ => ⟨fun q => absurd q (by decide), fun _ => ?_⟩, fun q => absurd hi10 q⟩⟩⟩
          · simp only [x_80_1 h, en_81 h, z_nn (show i < 2147483648 by omega)]
            exact ⟨vpi (by omega) (by decide), stp _ (by rw [(A.1 i (by omega)).1, if_neg hq])⟩
          · simp only [x_80_2 h, en_82 h, z_nn (show i < 2147483648 by omega)]
            exact ⟨vpi (by omega) (by decide), stp _ (by rw [(A.1 i (by omega)).2, if_pos hq])⟩
    · exact ⟨eo_0 h, eo_115 h, eo_0 h, ny1 b1 (nb0 b0 (Or.inr ⟨rfl, hK _ _ ⟨eo_87 h, ry1 b1 (rt0 h ⟨fun q => absurd rfl q, fun _ => ri0 b0 ⟨fun q => absurd rfl q, fun _ => ⟨eo_87 h, rt1 h ⟨fun q => absurd q (by decide), fun _ => fail_O I (by decide) k⟩⟩⟩⟩)⟩⟩))⟩
  · exact ⟨eo_0 h, eo_115 h, eo_0 h, ny0 b1 (Or.inl ⟨rfl, hK _ _ ⟨eo_87 h, ry0 b1 (rt1 h ⟨fun _ => fail_O I (by decide) k, fun q => absurd q (by decide)⟩)⟩⟩)⟩
theorem c_flood (I : Inv σ E d) (hv : v5 v4 L) (k : ∀ E' d', Inv σ E' d' → kc E' d') : lw_2339 E (σ 0) (σ 87) (σ 115) v4 xs L kc d := by
  have h := I.1
  obtain ⟨h1, h2, h3, -⟩ := hv
  refine ⟨eo_0 h, eo_87 h, eo_115 h, h1, h2, h3, fun q => ⟨eo_0 h, ?_⟩, fun q => ⟨eo_0 h, ?_⟩⟩
  · exact p_flood I _ _ _ k (fun v d2 hk => ⟨h1, h2, h3, fun _ => ⟨eo_87 h, hk⟩, fun n => absurd q n⟩)
  · exact p_flood I _ _ _ k (fun v d2 hk => ⟨h1, h2, h3, fun n => absurd n q, fun _ => ⟨eo_87 h, hk⟩⟩)
end
