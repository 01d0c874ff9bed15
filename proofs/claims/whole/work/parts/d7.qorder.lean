section
variable {σ : Nat → Nat} {E : En} {d d' d2 d3 : Dy} {W : Nat → Int32} {np nh L n : Nat} {S : RS} {K : Int32 → Dy → Prop} {K0 : Dy → Prop} {kc : En → Dy → Prop} {v4 : Int32} {xs : Nat → Int32} {p1 p2 p3 : Int32}
/-- as q_goes; what follows may change the reference's fields, but not what it throws -/
theorem q_goes2 (I : Inv σ E d) (k : ∀ E' d', Inv σ E' d' → kc E' d') (c1 : Ch σ scr d d2) (g : gW σ d2 W np nh) {rb : Int32} {Y : Nat} {kn : Int32} (hY1 : 1900 ≤ Y) (hY2 : Y ≤ 2099)
    (kr : ∀ d3, gW σ d3 W np nh → refR σ np nh d3 (repS W np nh Y kn) → (∀ d4, Ch σ refL d3 d4 → gI d4 (σ 87) 0 = gI d3 (σ 87) 0 → cmpO σ E kc 0 rb d4) → K0 d3) : w_X11_goes E (σ 87) (nI Y) kn (pI (pJ d2 (σ 115) 0 rb.toInt64) (σ 87) 0 0) K0 := by
  have h := I.1
  have g' : gW σ (pI (pJ d2 (σ 115) 0 rb.toInt64) (σ 87) 0 0) W np nh := ⟨g.1, g.2⟩
  refine r_goes h g' hY1 hY2 (fun d3 c3 s3 R3 => kr d3 (gW_ch g' c3 (by decide)) R3 (fun d4 c4 t4 => ?_))
  refine q_end I k c1 (Ch_tr (ch_thr h) (Ch_tr (Ch_w c3 (by decide)) c4)) ?_
  rw [t4, s3 0 (by decide)]
  exact gI_pI _ _ _ _
theorem orL_ref : ∀ i ∈ orL, i ∈ refL := by decide
theorem p_order (I : Inv σ E d) (k : ∀ E' d', Inv σ E' d' → kc E' d') (hK : ∀ v d2, w_X11_order E (σ 87) p1 p2 p3 d2 (fun r d => cmpO σ E kc v r d) → K v d2) : w_L_order E (σ 0) p1 p2 p3 (σ 115) d K := by
  have h := I.1
  have c := cW_I I
  by_cases hb : bw p2 1900 2099 ∧ bw p3 1900 2099
  · obtain ⟨b2, b3⟩ := hb
    obtain ⟨Y, hY1, hY2, eY⟩ := bw_n (a := 1900) (b := 2099) b2 (by decide) (by decide)
    simp only [w_L_order, w_X10_order, x_0_5 h, x_0_7 h]
    refine ⟨eo_0 h, eo_115 h, eo_0 h, ny1 b2 (ny1 b3 (k_begin c rb50 (fun d1 c1 s1 s3 C1 => ?_)))⟩
    rw [eY] at hK b2 ⊢
    have w1 := cW_ch c rb50 c1
    refine k_goTo' w1 rb50 hY1 hY2 s1 s3 C1 (fun d2 c2 y2 s2 => ?_)
    have w2 := cW_ch w1 rb50 c2
    obtain ⟨kn2, -, -, -, -, C2⟩ := s2
    have g2 := cW_gW w2
    refine k_lineUp w2 C2 y2 kn2 (fun d4 c4 qc => ?_)
    have w4 : cW σ E d4 _ _ _ := ⟨Inv_ch w2.1 (Ch_w c4 (by decide)), (Ch_A c4 (by decide) (by decide)).trans w2.2.1, w2.2.2⟩
    have cc : Ch σ scr d d4 := Ch_tr (Ch_w (Ch_tr c1 c2) (cL_scr rb50)) (Ch_w c4 (by decide))
    have hle := quN_le (W := gA d (σ 88)) (S := repS (gA d (σ 88)) (cnt (gA d (σ 88)) 0) (cnt (gA d (σ 88)) 1) Y p3) (y := nI Y) (kn := p3) (cnt (gA d (σ 88)) 4)
    have hw4 := (wc_4 I).2
    have ans : ∀ rb, (∀ m, p1 = nI (m + 1) → m < quN (gA d (σ 88)) (repS (gA d (σ 88)) (cnt (gA d (σ 88)) 0) (cnt (gA d (σ 88)) 1) Y p3) (nI Y) p3 (cnt (gA d (σ 88)) 4) → rb = gA d (σ 88) (360 + 3 * quQ (gA d (σ 88)) (repS (gA d (σ 88)) (cnt (gA d (σ 88)) 0) (cnt (gA d (σ 88)) 1) Y p3) (cnt (gA d (σ 88)) 0) (nI Y) p3 (cnt (gA d (σ 88)) 4) m))
        → ((¬ ∃ m, p1 = nI (m + 1) ∧ m < quN (gA d (σ 88)) (repS (gA d (σ 88)) (cnt (gA d (σ 88)) 0) (cnt (gA d (σ 88)) 1) Y p3) (nI Y) p3 (cnt (gA d (σ 88)) 4)) → rb = -1) → K 0 (pJ d4 (σ 115) 0 rb.toInt64) := fun rb a1 a2 => by
      refine hK _ _ ⟨eo_87 h, rtm1 h b2 b3 (rt0 h ⟨fun _ => ?_, fun q => absurd rfl q⟩)⟩
      refine q_goes2 I k cc (cW_gW w4) hY1 hY2 (fun d3 g3 R3 fin => ?_)
      refine r_orders h g3 (fun p hp => k_bit2 c hp) R3 hY1 hY2 (fun d5 c5 t5 q5 => ?_)
      have fin5 := fin d5 (Ch_w c5 orL_ref) t5
      rw [q5.1]
      generalize hn : quN (gA d (σ 88)) (repS (gA d (σ 88)) (cnt (gA d (σ 88)) 0) (cnt (gA d (σ 88)) 1) Y p3) (nI Y) p3 (cnt (gA d (σ 88)) 4) = n at *
      by_cases b1 : bw p1 1 (nI n)
      · obtain ⟨m, hm1, hm2, em⟩ := bw_n (a := 1) (b := n) b1 (by omega) (by decide)
        obtain ⟨m, rfl⟩ : ∃ m', m = m' + 1 := ⟨m - 1, by omega⟩
        simp only [x_87_26 h, en_103 h]
        refine ri1 b1 ⟨fun q => absurd q (by decide), fun _ => ?_⟩
        rw [em, z_m1, z_nn (by omega)]
        refine ⟨vpi (by omega) (by decide), ?_⟩
        rw [(q5.2 m (by omega)).1, if_neg (by simp), ← a1 m em (by omega)]
        exact fin5
      · refine ri0 b1 ⟨fun _ => ?_, fun q => absurd rfl q⟩
        rw [a2 (fun ⟨m, e, hm⟩ => b1 ?_)] at fin5
        · exact fin5
        · rw [e]; exact ⟨by rw [show (1 : Int32) = nI 1 from rfl, z_lt (by omega) (by decide)]; omega, by rw [z_lt (by omega) (by omega)]; omega⟩
    have td := ts_71 w4.1.2.1 qc.1 (by omega)
    refine ⟨fun q => ?_, fun q => ⟨v0_115 h, ans _ (fun m e hm => absurd ?_ q) (fun _ => rfl)⟩⟩
    · obtain ⟨m, hm, em⟩ := z_ex (x := p1) (Int32.not_lt.mpr (Int32.le_trans (by decide) q))
      rw [em, show (1 : Int32) = nI 1 from rfl, z_le (by decide) hm] at q
      obtain ⟨m, rfl⟩ : ∃ m', m = m' + 1 := ⟨m - 1, by omega⟩
      simp only [w_X1_personAt, x_70_2 h]
      rw [em, z_m1]
      refine ⟨eo_70 h, T_size (te_71 h) td ?_⟩
      rw [z_le (by omega) (by omega)]
      refine ⟨fun q2 => ⟨v0_115 h, ans _ (fun m' e hm' => ?_) (fun _ => rfl)⟩, fun q2 => T_get (c := 2) (te_71 h) td (by omega) (by decide) ⟨v0_115 h, ans _ (fun m' e hm' => ?_) (fun nn => absurd ⟨m, em, by omega⟩ nn)⟩⟩
      · rw [em, z_eq (by omega) (by omega)] at e; omega
      · rw [em, z_eq (by omega) (by omega)] at e
        obtain rfl : m = m' := by omega
        exact (qc.2 m hm').2.2.1
    · rw [e, show (1 : Int32) = nI 1 from rfl, z_le (by decide) (by omega)]; omega
  · have bad : w_X11_order E (σ 87) p1 p2 p3 d (fun r d => cmpO σ E kc 1 r d) := ⟨eo_87 h, rtm0 h hb (rt1 h ⟨fun q => absurd q (by decide), fun _ => fail_O I (by decide) k⟩)⟩
    refine ⟨eo_0 h, eo_115 h, eo_0 h, ?_⟩
    by_cases b2 : bw p2 1900 2099
    · exact ny1 b2 (ny0 (fun b3 => hb ⟨b2, b3⟩) ⟨rfl, hK _ _ bad⟩)
    · exact ny0 b2 ⟨rfl, hK _ _ bad⟩
theorem c_order (I : Inv σ E d) (hv : v5 v4 L) (k : ∀ E' d', Inv σ E' d' → kc E' d') : lw_1427 E (σ 0) (σ 87) (σ 115) v4 xs L kc d :=
  ⟨eo_0 I.1, eo_87 I.1, eo_115 I.1, hv.1, hv.2.1, hv.2.2.1, p_order I k (fun v d2 hk => ⟨hv.1, hv.2.1, hv.2.2.1, hk⟩)⟩
end
