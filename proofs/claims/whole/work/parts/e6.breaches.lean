def phE (W : Nat → Int32) (np nh i : Nat) (e : Nat) : Int32 := if W (444 + 3 * e) = nI i then 1 - ((allS W (repS W np nh (cnt W (445 + 3 * e)) (W 3)) nh i (nI (cnt W (445 + 3 * e))) >>> (W (446 + 3 * e) &&& 31)) &&& 1) else 0
theorem ph_yr {W : Nat → Int32} (hW : WI W) {e : Nat} (he : e < cnt W 7) : W (445 + 3 * e) = nI (cnt W (445 + 3 * e)) ∧ 1900 ≤ cnt W (445 + 3 * e) ∧ cnt W (445 + 3 * e) ≤ 2099 := by
  have o : bw (W (444 + 3 * e + 1)) 1900 2099 := (hW.2.2 8 (by decide) e he).2.1
  rw [show 444 + 3 * e + 1 = 445 + 3 * e by omega] at o
  obtain ⟨m, h1, h2, em⟩ := bw_n (a := 1900) (b := 2099) o (by decide) (by decide)
  unfold cnt; rw [em, z_nn (by omega)]; exact ⟨rfl, h1, h2⟩
section
variable {σ : Nat → Nat} {E : En} {d d' d2 d3 : Dy} {W : Nat → Int32} {np nh L n : Nat} {S : RS} {K : Int32 → Dy → Prop} {K0 : Dy → Prop} {X : String → Dy → Prop} {kc : En → Dy → Prop} {v4 : Int32} {xs : Nat → Int32} {p1 p2 : Int32}
theorem ro8_lt {j : Nat} (hj : j < cnt W 7) : roI W 8 j < cnt W 7 := ro_lt (i := 8) hj
theorem k_pho (c : cW σ E d W np nh) {j cc m : Nat} (hj : j < cnt W 7) (hc : cc < 3) (hm : cmI 8 cc = m) (hm2 : m < 3) (k : K (W (444 + 3 * roI W 8 j + cc)) d) : w_X6_get E (σ 18) (nI j) (nI m) d K := by
  have hr2 : j < cnt (gA d (σ 88)) 7 := by rw [c.2.1]; exact hj
  refine T_get (te_18 c.1.1) (td_18 c.1) hr2 hm2 ?_
  have tv : gA d (σ 19) (j * 3 + cmI 8 cc) = gA d (σ 88) (444 + 3 * roI (gA d (σ 88)) 8 j + cc) := (c.1.2.2.1.2.1.2 8 (by decide)).2 j hr2 cc hc
  rw [hm, c.2.1] at tv
  rw [tv]; exact k
theorem k_nph (c : cW σ E d W np nh) (k : K (nI (cnt W 7)) d) : w_X6_size E (σ 18) d K := by
  have t := td_18 c.1
  rw [c.2.1] at t
  exact T_size (te_18 c.1.1) t k
theorem ro8_srt (hW : WI W) {i j : Nat} (hij : i ≤ j) (hj : j < cnt W 7) : cnt W (445 + 3 * roI W 8 i) ≤ cnt W (445 + 3 * roI W 8 j) := by
  by_cases e : i = j
  · subst e; exact Nat.le_refl _
  · have hl := ordr_len (kyI W 8) (cnt W 7)
    have pw := List.pairwise_iff_getElem.mp (ordr_nat (y := kyI W 8) (n := cnt W 7) (fun e he => by
      have e2 : kyI W 8 e = nI (cnt W (445 + 3 * e)) := by show W (444 + 3 * e + 1) = _; rw [show 444 + 3 * e + 1 = 445 + 3 * e by omega]; exact (ph_yr hW he).1
      have := ph_yr hW he
      rw [e2]; exact z_pos (by omega)))
    have := pw i j (by omega) (by omega) (by omega)
    have hi2 : roI W 8 i = (ordr (kyI W 8) (cnt W 7)).getD i 0 := rfl
    have hj2 : roI W 8 j = (ordr (kyI W 8) (cnt W 7)).getD j 0 := rfl
    rw [hi2, hj2, getD_lt (by omega), getD_lt (by omega)]
    have u : ∀ x, ((kyI W 8) x).toNatClampNeg = cnt W (445 + 3 * x) := fun x => by show (W (444 + 3 * x + 1)).toNatClampNeg = _; rw [show 444 + 3 * x + 1 = 445 + 3 * x by omega]; rfl
    rw [u, u] at this
    omega
theorem take_ro8 {j : Nat} (hj : j < cnt W 7) : (ordr (kyI W 8) (cnt W 7)).take (j + 1) = (ordr (kyI W 8) (cnt W 7)).take j ++ [roI W 8 j] := by
  have hl : j < (ordr (kyI W 8) (cnt W 7)).length := by rw [ordr_len]; exact hj
  have hro : roI W 8 j = (ordr (kyI W 8) (cnt W 7)).getD j 0 := rfl
  rw [List.take_succ, hro, List.getD_eq_getElem?_getD, List.getElem?_eq_getElem hl]; rfl
theorem k_breaches23 (c : cW σ E d W np nh) {i : Nat} (hi : i < nh) (s : cst σ 50 d W np nh (W 3) 1899) (k : ∀ d', Ch σ (cL 50) d d' → K (sumL (phE W np nh i) (List.range (cnt W 7)) 0) d') : ∃ N, l_X10_breaches_23 E (σ 0) (nI i) K X N 0 0 d := by
  have h := c.1.1
  have g := cW_gW c
  have n20 : cnt W 7 ≤ 20 := (g.2.1.1 8 (by decide) (by decide)).2
  refine ⟨cnt W 7 + 1, loopG (S := Int32 × Int32 × Dy) (l := fun N z => l_X10_breaches_23 E (σ 0) (nI i) K X N z.1 z.2.1 z.2.2) (b := fun kk z => b_X10_breaches_23 E (σ 0) (nI i) K X (fun a b c => kk (a, b, c)) z.1 z.2.1 z.2.2) (fun _ _ => rfl)
    (μ := fun z => cnt W 7 - z.2.1.toNatClampNeg) (P := fun z => Ch σ (cL 50) d z.2.2 ∧ ∃ j, j ≤ cnt W 7 ∧ nI j = z.2.1 ∧ sumL (phE W np nh i) ((ordr (kyI W 8) (cnt W 7)).take j) 0 = z.1 ∧ ∃ Y0, cst σ 50 z.2.2 W np nh (W 3) Y0 ∧ ∀ i, j ≤ i → i < cnt W 7 → Y0 ≤ cnt W (445 + 3 * roI W 8 i)) ?_ (cnt W 7) (0, 0, d) ⟨Ch_rf, 0, by omega, rfl, rfl, 1899, s, fun i _ hi => by have := (ph_yr g.2.1 (ro8_lt hi)).2.1; omega⟩ (Nat.sub_le _ _)⟩
  rintro kk ⟨a, v, dz⟩ ⟨cz, j, hj, rfl, ea, Y0, sb, hY0⟩ hk
  have cz : Ch σ (cL 50) d dz := cz
  have ea : sumL (phE W np nh i) ((ordr (kyI W 8) (cnt W 7)).take j) 0 = a := ea
  have sb : cst σ 50 dz W np nh (W 3) Y0 := sb
  have wz := cW_ch c rb50 cz
  simp only [b_X10_breaches_23, x_0_0 h, x_1_9 h, x_0_5 h]
  refine k_nph wz ?_
  rw [z_le (by omega) (by omega), z_a1 j]
  refine ⟨fun hc => ?_, fun hc => ?_⟩
  · have : j = cnt W 7 := by omega
    subst this
    rw [List.take_of_length_le (by rw [ordr_len]; exact Nat.le_refl _), sum_perm (ordr_perm _ _)] at ea
    rw [← ea]; exact k dz cz
  · have hjn : j < cnt W 7 := by omega
    obtain ⟨y1, y2, y3⟩ := ph_yr g.2.1 (ro8_lt hjn)
    have nx : ∀ de b Y1, Ch σ (cL 50) dz de → cst σ 50 de W np nh (W 3) Y1 → Y1 ≤ cnt W (445 + 3 * roI W 8 j) → b = a + phE W np nh i (roI W 8 j) → kk (b, nI (j + 1), de) := fun de b Y1 ue se hy eb =>
      hk (b, nI (j + 1), de) ⟨Ch_tr cz ue, j + 1, by omega, rfl, by rw [take_ro8 hjn, sum_app, ea, eb], Y1, se, fun i hi1 hi2 => by have := ro8_srt g.2.1 (i := j) (j := i) (by omega) hi2; omega⟩ (by simp only [z_nn (show j + 1 < 2147483648 by omega), z_nn (show j < 2147483648 by omega)]; omega)
    refine k_pho (cc := 0) (m := 1) wz hjn (by decide) rfl (by decide) ?_
    rw [show 444 + 3 * roI W 8 j + 0 = 444 + 3 * roI W 8 j by omega]
    refine ⟨fun l1 => nx dz _ Y0 Ch_rf sb (hY0 j (Nat.le_refl _) hjn) ?_, fun l1 => k_pho (cc := 1) (m := 0) wz hjn (by decide) rfl (by decide) ?_⟩
    · unfold phE; rw [if_neg l1, Int32.add_zero]
    · rw [show 444 + 3 * roI W 8 j + 1 = 445 + 3 * roI W 8 j by omega, y1]
      refine k_goTo wz rb50 sb (hY0 j (Nat.le_refl _) hjn) y3 (fun da ua ya sa => ?_)
      have wa := cW_ch wz rb50 ua
      have okR : rsOK np nh (repS W np nh (cnt W (445 + 3 * roI W 8 j)) (W 3)) := by rw [c.2.2.1, c.2.2.2.1]; exact rep_ok g.2.1
      refine k_coloursOf wa sa.2.choose_spec.2.2.2 okR hi ya (fun db ub => ?_)
      have wb := c789 wa ub
      refine k_pho (cc := 2) (m := 2) wb hjn (by decide) rfl (by decide) (nx db _ _ (Ch_tr ua (Ch_w ub (by decide))) (cst_ch rb50 sa ub (by decide)) (Nat.le_refl _) ?_)
      unfold phE; rw [if_pos l1, show 444 + 3 * roI W 8 j + 2 = 446 + 3 * roI W 8 j by omega]
theorem r_breaches24 (h : Env σ E) (g : gW σ d W np nh) {i : Nat} (hi : i < nh) (k : ∀ d', Ch σ goL d d' → gI d' (σ 87) 0 = gI d (σ 87) 0 → K (sumL (phE W np nh i) (List.range (cnt W 7)) 0) d') : ∃ N, l_X11_breaches_24 E (σ 87) (nI i) K N 0 0 d := by
  obtain ⟨eW, hW, tw, e0, e1, n0, n1, hnp, hnh⟩ := id g
  have w7 : W 7 = nI (cnt W 7) ∧ cnt W 7 ≤ 20 := hW.1 8 (by decide) (by decide)
  refine ⟨cnt W 7 + 1, loopG (S := Int32 × Int32 × Dy) (l := fun N z => l_X11_breaches_24 E (σ 87) (nI i) K N z.1 z.2.1 z.2.2) (b := fun kk z => b_X11_breaches_24 E (σ 87) (nI i) K (fun a b c => kk (a, b, c)) z.1 z.2.1 z.2.2) (fun _ _ => rfl)
    (μ := fun z => cnt W 7 - z.2.1.toNatClampNeg) (P := fun z => Ch σ goL d z.2.2 ∧ gI z.2.2 (σ 87) 0 = gI d (σ 87) 0 ∧ ∃ j, j ≤ cnt W 7 ∧ nI j = z.2.1 ∧ sumL (phE W np nh i) (List.range j) 0 = z.1) ?_ (cnt W 7) (0, 0, d) ⟨Ch_rf, rfl, 0, by omega, rfl, rfl⟩ (Nat.sub_le _ _)⟩
  rintro kk ⟨a, v, dz⟩ ⟨cz, tz, j, hj, rfl, ea⟩ hk
  have cz : Ch σ goL d dz := cz
  have tz : gI dz (σ 87) 0 = gI d (σ 87) 0 := tz
  have ea : sumL (phE W np nh i) (List.range j) 0 = a := ea
  have gz := gW_ch g cz (by decide)
  have x1 : (444 : Int32) + 3 * nI j = nI (444 + 3 * j) := by rw [show (3 : Int32) = nI 3 from rfl, z_mul]; exact z_add 444 _
  have x2 : nI (444 + 3 * j) + 1 = nI (445 + 3 * j) := by rw [show 445 + 3 * j = 444 + 3 * j + 1 by omega]; exact z_add _ 1
  have x3 : nI (444 + 3 * j) + 2 = nI (446 + 3 * j) := by rw [show 446 + 3 * j = 444 + 3 * j + 2 by omega]; exact z_add _ 2
  simp only [b_X11_breaches_24, x_87_1 h, en_88 h, show (7 : Int32).toNatClampNeg = 7 from rfl, x1, x2, x3, z_nn (show 444 + 3 * j < 2147483648 by omega), z_nn (show 445 + 3 * j < 2147483648 by omega), z_nn (show 446 + 3 * j < 2147483648 by omega), gz.1, w7.1, z_a1 j]
  rw [z_le (by omega) (by omega)]
  refine ⟨vpi (k := 7) (by decide) (by decide), fun hc => ?_, fun hc => ⟨vpw (by omega), fun l1 => ?_, fun l1 => ⟨vpw (by omega), ?_⟩⟩⟩
  · have : j = cnt W 7 := by omega
    subst this; rw [← ea]; exact k dz cz tz
  · refine hk (a, nI (j + 1), dz) ⟨cz, tz, j + 1, by omega, rfl, ?_⟩ (by simp only [z_nn (show j + 1 < 2147483648 by omega), z_nn (show j < 2147483648 by omega)]; omega)
    rw [List.range_succ, sum_app, ea]; unfold phE; rw [if_neg l1, Int32.add_zero]
  · have hjn : j < cnt W 7 := by omega
    obtain ⟨y1, y2, y3⟩ := ph_yr hW hjn
    rw [y1]
    refine r_allowedIn h gz hi y2 y3 (fun da ua ta => ⟨vpw (by omega), ?_⟩)
    rw [(gW_ch gz ua (by decide)).1]
    refine hk (_, nI (j + 1), da) ⟨Ch_tr cz ua, ta.trans tz, j + 1, by omega, rfl, ?_⟩ (by simp only [z_nn (show j + 1 < 2147483648 by omega), z_nn (show j < 2147483648 by omega)]; omega)
    rw [List.range_succ, sum_app, ea]; unfold phE; rw [if_pos l1]
theorem p_breaches (I : Inv σ E d) (k : ∀ E' d', Inv σ E' d' → kc E' d') (hK : ∀ v d2, w_X11_breaches E (σ 87) p1 d2 (fun r d => cmpO σ E kc v r d) → K v d2) : w_L_breaches E (σ 0) p1 (σ 115) d K := by
  have h := I.1
  have c := cW_I I
  have wc := wc_1 I
  by_cases b1 : lx p1 (cnt (gA d (σ 88)) 1)
  · obtain ⟨i, hi, ei⟩ := id b1
    simp only [w_L_breaches, w_X10_breaches, x_0_0 h, x_0_5 h]
    refine ⟨eo_0 h, eo_115 h, eo_0 h, nh1 h (td_4 I) b1 ?_⟩
    rw [td_3 I]
    refine k_begin c rb50 (fun d1 c1 s1 s3 C1 => ?_)
    rw [ei] at hK b1 ⊢
    have w1 := cW_ch c rb50 c1
    refine k_breaches23 w1 hi (cst_begin (cW_gW w1).2.1 s1 s3 C1) (fun d4 c4 => ⟨v0_115 h, ?_⟩)
    have w4 := cW_ch w1 rb50 c4
    have cc : Ch σ scr d d4 := Ch_w (Ch_tr c1 c4) (cL_scr rb50)
    have g4 := cW_gW w4
    refine hK _ _ ⟨eo_87 h, rhn1 h (by rw [gA_pI_x, gA_pJ_x, w4.2.1]; exact wc.1) (by omega) b1 (rt0 h ⟨fun _ => ?_, fun q => absurd rfl q⟩)⟩
    exact r_breaches24 h (d := pI (pJ d4 (σ 115) 0 _) (σ 87) 0 0) ⟨g4.1, g4.2⟩ hi (fun d5 c5 t5 => q_end I k cc (Ch_tr (ch_thr h) (Ch_w c5 (by decide))) (t5.trans (gI_pI _ _ _ _)))
  · exact ⟨eo_0 h, eo_115 h, eo_0 h, nh0 h (td_4 I) b1 ⟨rfl, hK _ _ ⟨eo_87 h, rhn0 h (by rw [gA_pI_x]; exact wc.1) (by omega) b1 (rt1 h ⟨fun q => absurd q (by decide), fun _ => fail_O I (by decide) k⟩)⟩⟩⟩
theorem c_breaches (I : Inv σ E d) (hv : v5 v4 L) (k : ∀ E' d', Inv σ E' d' → kc E' d') : lw_2793 E (σ 0) (σ 87) (σ 115) v4 xs L kc d :=
  ⟨eo_0 I.1, eo_87 I.1, eo_115 I.1, hv.1, p_breaches I k (fun v d2 hk => ⟨hv.1, hk⟩)⟩
end
