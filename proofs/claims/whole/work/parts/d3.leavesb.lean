section
variable {σ : Nat → Nat} {E : En} {d d' d2 d3 : Dy} {W : Nat → Int32} {np nh L : Nat} {S : RS} {K : Int32 → Dy → Prop} {K0 : Dy → Prop} {X : String → Dy → Prop} {kc : En → Dy → Prop} {v4 : Int32} {xs : Nat → Int32} {p1 p2 : Int32}
theorem k_nhuts (c : cW σ E d W np nh) (k : K (nI nh) d) : w_X6_size E (σ 4) d K := by
  have t := td_4 c.1
  rw [c.2.1, ← c.2.2.2.1] at t
  exact T_size (te_4 c.1.1) t k
theorem c789 (c : cW σ E d W np nh) (h : Ch σ [57, 58, 59] d d') : cW σ E d' W np nh := cW_ch c rb50 (Ch_w h (by decide))
theorem C789 (C : clsR σ 50 np nh d S) (h : Ch σ [57, 58, 59] d d') : clsR σ 50 np nh d' S := clsR_ch C rb50 h (by decide)
theorem k_leaves38 (c : cW σ E d W np nh) (C : clsR σ 50 np nh d S) (ok : rsOK np nh S) {y q : Int32} (hy : gI d (σ 50) 2 = y) (k : ∀ d', Ch σ [57, 58, 59] d d' → K (mskN (leavB W S nh y q) nh nh) d') : ∃ N, l_X10_leaves_38 E (σ 0) p1 q K X N 0 0 d := by
  have h := c.1.1
  have h12 := c.2.2.2.2.1
  have h10 := c.2.2.2.2.2
  refine ⟨nh + 1, loopG (S := Int32 × Int32 × Dy) (l := fun N z => l_X10_leaves_38 E (σ 0) p1 q K X N z.1 z.2.1 z.2.2) (b := fun kk z => b_X10_leaves_38 E (σ 0) p1 q K X (fun a b c => kk (a, b, c)) z.1 z.2.1 z.2.2) (fun _ _ => rfl)
    (μ := fun z => nh - z.2.1.toNatClampNeg) (P := fun z => Ch σ [57, 58, 59] d z.2.2 ∧ ∃ j, j ≤ nh ∧ nI j = z.2.1 ∧ mskN (leavB W S nh y q) nh j = z.1) ?_ nh (0, 0, d) ⟨Ch_rf, 0, by omega, rfl, msk_0.symm⟩ (Nat.sub_le _ _)⟩
  rintro kk ⟨a, v, d3⟩ ⟨c3, j, hj, rfl, rfl⟩ hk
  have w3 := c789 c c3
  have C3 := C789 C c3
  have c3 : Ch σ [57, 58, 59] d d3 := c3
  simp only [b_X10_leaves_38, w_X3_holderOf, x_0_0 h, x_1_2 h, x_0_5 h, x_50_6 h]
  refine k_nhuts w3 ?_
  rw [z_le (by omega) (by omega)]
  refine ⟨fun hc => ?_, fun hc => ⟨eo_50 h, k_gH (j := 0) w3 rb50 C3 (by omega) (by decide) ?_⟩⟩
  · have : j = nh := by omega
    subst this; exact k d3 c3
  · have hjn : j < nh := by omega
    rw [(C3.2.2.2 j hjn).1, enc_m1 (ok.2.1 j hjn) (by omega), z_a1 j]
    have nx : ∀ d4 x, Ch σ [57, 58, 59] d3 d4 → x = mskN (leavB W S nh y q) nh (j + 1) → kk (x, nI (j + 1), d4) := fun d4 x c4 hx =>
      hk (x, nI (j + 1), d4) ⟨Ch_tr c3 c4, j + 1, by omega, rfl, hx.symm⟩ (by simp only [z_nn (show j + 1 < 2147483648 by omega), z_nn (show j < 2147483648 by omega)]; omega)
    refine ⟨fun v => nx d3 _ Ch_rf (msk_f (by unfold leavB; simp [v])), fun v => ?_⟩
    refine k_rentOf w3 rb50 C3 ok hjn ((congrFun (Ch_I c3 (by decide) (by decide)) 2).trans hy) (fun d4 c4 => ?_)
    refine k_stays (c789 w3 c4) (C789 C3 c4) ok hjn ⟨fun v2 => nx d4 _ c4 (msk_f ?_), fun v2 => nx d4 _ c4 (msk_t (by omega) hjn ?_)⟩
    · rw [b2i_1] at v2; unfold leavB; simp [v2]
    · rw [b2i_0] at v2; unfold leavB; simp [v, v2]
theorem r_leaves58 (h : Env σ E) (g : gW σ d W np nh) (hbit : ∀ p, p < np → W (16 + 3 * p) = 0 ∨ W (16 + 3 * p) = 1) (hmon : ∀ p, p < np → ∃ m, m ≤ 9999 ∧ W (15 + 3 * p) = nI m) (R : refR σ np nh d S) (ok : rsOK np nh S) {Y t : Nat} (ht : t ≤ 9) (hr : ∀ i, i < nh → ∃ r, r ≤ 209879010 ∧ rentS W S nh i (nI Y) = nI r) (k : ∀ d', Ch σ [92, 93] d d' → K (mskN (leavB W S nh (nI Y) (nI t)) nh nh) d') : ∃ N, l_X11_leaves_58 E (σ 87) (nI Y) (nI t) K N 0 0 d := by
  obtain ⟨eW, hW, tw, e0, e1, n0, n1, hnp, hnh⟩ := id g
  refine ⟨nh + 1, loopG (S := Int32 × Int32 × Dy) (l := fun N z => l_X11_leaves_58 E (σ 87) (nI Y) (nI t) K N z.1 z.2.1 z.2.2) (b := fun kk z => b_X11_leaves_58 E (σ 87) (nI Y) (nI t) K (fun a b c => kk (a, b, c)) z.1 z.2.1 z.2.2) (fun _ _ => rfl)
    (μ := fun z => nh - z.2.1.toNatClampNeg) (P := fun z => Ch σ [92, 93] d z.2.2 ∧ ∃ j, j ≤ nh ∧ nI j = z.2.1 ∧ mskN (leavB W S nh (nI Y) (nI t)) nh j = z.1) ?_ nh (0, 0, d) ⟨Ch_rf, 0, by omega, rfl, msk_0.symm⟩ (Nat.sub_le _ _)⟩
  rintro kk ⟨a, v, d3⟩ ⟨c3, j, hj, rfl, rfl⟩ hk
  have c3 : Ch σ [92, 93] d d3 := c3
  have g3 := gW_ch g c3 (by decide)
  have R3 := refR_ch R c3 (by decide)
  refine r_huts h ?_
  rw [g3.1, e1]
  simp only [x_87_21 h, en_98 h, z_nn (show j < 2147483648 by omega)]
  rw [z_le (by omega) (by omega)]
  refine ⟨fun hc => ?_, fun hc => ⟨vpi (by omega) (by decide), ?_⟩⟩
  · have : j = nh := by omega
    subst this; exact k d3 c3
  · have hjn : j < nh := by omega
    rw [(R3.2.2.1 j hjn).1, enc_lt (ok.2.1 j hjn) (by omega), z_a1 j]
    have nx : ∀ d4 x, Ch σ [92, 93] d3 d4 → x = mskN (leavB W S nh (nI Y) (nI t)) nh (j + 1) → kk (x, nI (j + 1), d4) := fun d4 x c4 hx =>
      hk (x, nI (j + 1), d4) ⟨Ch_tr c3 c4, j + 1, by omega, rfl, hx.symm⟩ (by simp only [z_nn (show j + 1 < 2147483648 by omega), z_nn (show j < 2147483648 by omega)]; omega)
    obtain ⟨r, hr1, hr2⟩ := hr j hjn
    refine ⟨fun v => nx d3 _ Ch_rf (msk_f0 (by omega) (by unfold leavB; simp [v])), fun v => r_stays h g3 hbit hmon R3 ok hjn ht hr1 hr2 (fun d4 c4 => ⟨fun v2 => nx d4 _ c4 (msk_f0 (by omega) ?_), fun v2 => nx d4 _ c4 (msk_t (by omega) hjn ?_)⟩)⟩
    · rw [b2i_1] at v2; unfold leavB; simp [v2]
    · rw [b2i_0] at v2; unfold leavB; simp [v, v2]
theorem p_leaves (I : Inv σ E d) (k : ∀ E' d', Inv σ E' d' → kc E' d') (hK : ∀ v d2, w_X11_leaves E (σ 87) p1 p2 d2 (fun r d => cmpO σ E kc v r d) → K v d2) : w_L_leaves E (σ 0) p1 p2 (σ 115) d K := by
  have h := I.1
  have c := cW_I I
  by_cases b1 : bw p1 1900 2099
  · by_cases b2 : bw p2 1 9
    · obtain ⟨Y, hY1, hY2, eY⟩ := bw_n (a := 1900) (b := 2099) b1 (by decide) (by decide)
      obtain ⟨t, ht1, ht2, et⟩ := bw_n (a := 1) (b := 9) b2 (by decide) (by decide)
      simp only [w_L_leaves, w_X10_leaves, x_0_0 h, x_0_5 h]
      refine ⟨eo_0 h, eo_115 h, eo_0 h, ny1 b1 (nb1 b2 ?_)⟩
      rw [td_3 I]
      refine k_begin c rb50 (fun d1 c1 s1 s3 C1 => ?_)
      rw [eY] at hK b1 ⊢
      rw [et] at hK b2 ⊢
      have w1 := cW_ch c rb50 c1
      refine k_goTo' w1 rb50 hY1 hY2 s1 s3 C1 (fun d2 c2 y2 s2 => ?_)
      have w2 := cW_ch w1 rb50 c2
      obtain ⟨-, -, -, -, -, C2⟩ := s2
      have g2 := cW_gW w2
      have okR := rep_ok g2.2.1 (Y := Y) (kn := gA d (σ 88) 3)
      refine k_leaves38 w2 C2 okR y2 (fun d4 c4 => ⟨v0_115 h, ?_⟩)
      have w4 := c789 w2 c4
      have cc : Ch σ scr d d4 := Ch_w (Ch_tr c1 (Ch_tr c2 (Ch_w c4 (by decide)))) (cL_scr rb50)
      refine hK _ _ ⟨eo_87 h, ry1 b1 (rt0 h ⟨fun q => absurd rfl q, fun _ => ri1 b2 ⟨fun _ => ⟨eo_87 h, rt0 h ⟨fun _ => ?_, fun q => absurd rfl q⟩⟩, fun q => absurd q (by decide)⟩⟩)⟩
      simp only [x_87_1 h, en_88 h, show (3 : Int32).toNatClampNeg = 3 from rfl, gA_pI_x, gA_pJ_x, w4.2.1]
      refine ⟨vpi (k := 3) (by decide) (by decide), q_goes I k cc (cW_gW w4) hY1 hY2 (fun d3 g3 R3 fin => ?_)⟩
      exact r_leaves58 h g3 (fun p hp => k_bit2 c hp) (fun p hp => money c hp) R3 okR ht2 (fun i hi => rent_n g2.2.1 g2.2.2.1 rfl hi (rep_f g2.2.1) (rp_spec okR hi).2 hY1 hY2) (fun d5 c5 => fin [92, 93] d5 (by decide) (by decide) c5)
    · exact ⟨eo_0 h, eo_115 h, eo_0 h, ny1 b1 (nb0 b2 (Or.inr ⟨rfl, hK _ _ ⟨eo_87 h, ry1 b1 (rt0 h ⟨fun q => absurd rfl q, fun _ => ri0 b2 ⟨fun q => absurd rfl q, fun _ => ⟨eo_87 h, rt1 h ⟨fun q => absurd q (by decide), fun _ => fail_O I (by decide) k⟩⟩⟩⟩)⟩⟩))⟩
  · exact ⟨eo_0 h, eo_115 h, eo_0 h, ny0 b1 (Or.inl ⟨rfl, hK _ _ ⟨eo_87 h, ry0 b1 (rt1 h ⟨fun _ => fail_O I (by decide) k, fun q => absurd q (by decide)⟩)⟩⟩)⟩
theorem c_leaves (I : Inv σ E d) (hv : v5 v4 L) (k : ∀ E' d', Inv σ E' d' → kc E' d') : lw_1223 E (σ 0) (σ 87) (σ 115) v4 xs L kc d :=
  ⟨eo_0 I.1, eo_87 I.1, eo_115 I.1, hv.1, hv.2.1, p_leaves I k (fun v d2 hk => ⟨hv.1, hv.2.1, hk⟩)⟩
end
