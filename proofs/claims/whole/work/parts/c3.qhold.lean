section
variable {σ : Nat → Nat} {E : En} {d d' d2 d3 : Dy} {W : Nat → Int32} {np nh L : Nat} {S : RS} {K : Int32 → Dy → Prop} {K0 : Dy → Prop} {X : String → Dy → Prop} {kc : En → Dy → Prop} {v4 : Int32} {xs : Nat → Int32} {p1 p2 p3 : Int32}
theorem rb50 : RB 50 := Or.inl rfl
theorem rb60 : RB 60 := Or.inr rfl
theorem cW_I (I : Inv σ E d) : cW σ E d (gA d (σ 88)) (cnt (gA d (σ 88)) 0) (cnt (gA d (σ 88)) 1) := ⟨I, rfl, rfl, rfl, (wc_0 I).2, (wc_1 I).2⟩
theorem rtm1 (h : Env σ E) {K1 : Int32 → Dy → Prop} (h2 : bw p2 1900 2099) (h3 : bw p3 1900 2099) (k : K1 0 d) : w_X11_noTimes E (σ 87) p2 p3 d K1 := ⟨eo_87 h, ry1 h2 ⟨fun q => absurd rfl q, fun _ => ry1 h3 ⟨fun _ => k, fun q => absurd rfl q⟩⟩⟩
theorem rtm0 (h : Env σ E) {K1 : Int32 → Dy → Prop} (hb : ¬ (bw p2 1900 2099 ∧ bw p3 1900 2099)) (k : K1 1 d) : w_X11_noTimes E (σ 87) p2 p3 d K1 := by
  by_cases h2 : bw p2 1900 2099
  · exact ⟨eo_87 h, ry1 h2 ⟨fun q => absurd rfl q, fun _ => ry0 (fun h3 => hb ⟨h2, h3⟩) ⟨fun q => absurd q (by decide), fun _ => k⟩⟩⟩
  · exact ⟨eo_87 h, ry0 h2 ⟨fun _ => k, fun q => absurd q (by decide)⟩⟩
theorem nhy1 (h : Env σ E) (I : Inv σ E d) (h1 : lx p1 (cnt (gA d (σ 88)) 1)) (h2 : bw p2 1900 2099) (h3 : bw p3 1900 2099) (k : K0 d) : w_X10_needHutInYears E (σ 0) p1 p2 p3 d K0 X := ⟨eo_0 h, nh1 h (td_4 I) h1 (ny1 h2 (ny1 h3 k))⟩
theorem nhy0 (h : Env σ E) (I : Inv σ E d) (hb : ¬ (lx p1 (cnt (gA d (σ 88)) 1) ∧ bw p2 1900 2099 ∧ bw p3 1900 2099)) (x : X "java/lang/IndexOutOfBoundsException" d) : w_X10_needHutInYears E (σ 0) p1 p2 p3 d K0 X := by
  by_cases h1 : lx p1 (cnt (gA d (σ 88)) 1)
  · by_cases h2 : bw p2 1900 2099
    · exact ⟨eo_0 h, nh1 h (td_4 I) h1 (ny1 h2 (ny0 (fun h3 => hb ⟨h1, h2, h3⟩) x))⟩
    · exact ⟨eo_0 h, nh1 h (td_4 I) h1 (ny0 h2 x)⟩
  · exact ⟨eo_0 h, nh0 h (td_4 I) h1 x⟩
theorem k_goTo' (c : cW σ E d W np nh) {B : Nat} (hB : RB B) {kn : Int32} {Y : Nat} (hY1 : 1900 ≤ Y) (hY2 : Y ≤ 2099) (h1 : gI d (σ B) 1 = kn) (h3 : gI d (σ B) 3 = nI 0) (C : clsR σ B np nh d (rs0 W)) (k : ∀ d', Ch σ (cL B) d d' → gI d' (σ B) 2 = nI Y → cst σ B d' W np nh kn Y → K0 d') : w_X3_goTo E (σ B) (nI Y) d K0 :=
  k_goTo c hB (cst_begin (cW_gW c).2.1 h1 h3 C) (by omega) hY2 k
/-- the reference replays for an answer -/
theorem q_goes (I : Inv σ E d) (k : ∀ E' d', Inv σ E' d' → kc E' d') (c1 : Ch σ scr d d2) (g : gW σ d2 W np nh) {rb : Int32} {Y : Nat} {kn : Int32} (hY1 : 1900 ≤ Y) (hY2 : Y ≤ 2099)
    (kr : ∀ d3, gW σ d3 W np nh → refR σ np nh d3 (repS W np nh Y kn) → (∀ (P : List Nat) d4, (∀ i ∈ P, i ∈ refL) → 87 ∉ P → Ch σ P d3 d4 → cmpO σ E kc 0 rb d4) → K0 d3) : w_X11_goes E (σ 87) (nI Y) kn (pI (pJ d2 (σ 115) 0 rb.toInt64) (σ 87) 0 0) K0 := by
  have h := I.1
  have g' : gW σ (pI (pJ d2 (σ 115) 0 rb.toInt64) (σ 87) 0 0) W np nh := ⟨g.1, g.2⟩
  refine r_goes h g' hY1 hY2 (fun d3 c3 s3 R3 => kr d3 (gW_ch g' c3 (by decide)) R3 (fun P d4 hP h87 c4 => ?_))
  refine q_end I k c1 (Ch_tr (ch_thr h) (Ch_tr (Ch_w c3 (by decide)) (Ch_w c4 hP))) ?_
  rw [Ch_I c4 (by decide) h87, s3 0 (by decide)]
  exact gI_pI _ _ _ _
theorem p_holder (I : Inv σ E d) (k : ∀ E' d', Inv σ E' d' → kc E' d') (hK : ∀ v d2, w_X11_holder E (σ 87) p1 p2 p3 d2 (fun r d => cmpO σ E kc v r d) → K v d2) : w_L_holder E (σ 0) p1 p2 p3 (σ 115) d K := by
  have h := I.1
  have c := cW_I I
  have wc := wc_1 I
  by_cases hb : lx p1 (cnt (gA d (σ 88)) 1) ∧ bw p2 1900 2099 ∧ bw p3 1900 2099
  · obtain ⟨b1, b2, b3⟩ := hb
    obtain ⟨Y, hY1, hY2, eY⟩ := bw_n (a := 1900) (b := 2099) b2 (by decide) (by decide)
    obtain ⟨i, hi, ei⟩ := id b1
    simp only [w_L_holder, w_X10_holder, w_X3_holderOf, x_0_5 h, x_50_6 h]
    refine ⟨eo_0 h, eo_115 h, eo_0 h, nhy1 h I b1 b2 b3 (k_begin c rb50 (fun d1 c1 s1 s3 C1 => ?_))⟩
    rw [eY] at hK b2 ⊢
    rw [ei] at hK b1 ⊢
    have w1 := cW_ch c rb50 c1
    refine k_goTo' w1 rb50 hY1 hY2 s1 s3 C1 (fun d2 c2 y2 s2 => ?_)
    have w2 := cW_ch w1 rb50 c2
    have cc : Ch σ scr d d2 := Ch_w (Ch_tr c1 c2) (cL_scr rb50)
    obtain ⟨-, -, -, -, -, C2⟩ := s2
    refine ⟨eo_50 h, k_gH (j := 0) w2 rb50 C2 hi (by decide) ⟨v0_115 h, ?_⟩⟩
    rw [(C2.2.2.2 i hi).1]
    refine hK _ _ ⟨eo_87 h, rhn1 h (by rw [gA_pI_x, gA_pJ_x, w2.2.1]; exact wc.1) (by omega) b1 ⟨fun q => absurd rfl q, fun _ => rtm1 h b2 b3 ⟨fun _ => ⟨eo_87 h, rt0 h ⟨fun _ => ?_, fun q => absurd rfl q⟩⟩, fun q => absurd rfl q⟩⟩⟩
    refine q_goes I k cc (cW_gW w2) hY1 hY2 (fun d3 g3 R3 fin => ?_)
    simp only [x_87_21 h, en_98 h, z_nn (show i < 2147483648 by omega)]
    refine ⟨vpi (by omega) (by decide), ?_⟩
    rw [(R3.2.2.1 i hi).1]
    exact fin [] d3 (by decide) (by decide) Ch_rf
  · have bad : ∀ s, b_X11_holder_23 E (σ 87) p1 p2 p3 (fun r d => cmpO σ E kc 1 r d) s (pI d (σ 87) 0 0) ∨ s ≠ σ 87 := fun s => by
      by_cases e : s = σ 87
      · subst e; exact Or.inl ⟨eo_87 h, eo_87 h, rt1 h ⟨fun q => absurd q (by decide), fun _ => fail_O I (by decide) k⟩⟩
      · exact Or.inr e
    have bad := (bad (σ 87)).resolve_right (fun q => q rfl)
    refine ⟨eo_0 h, eo_115 h, eo_0 h, nhy0 h I hb ⟨rfl, hK _ _ ⟨eo_87 h, ?_⟩⟩⟩
    by_cases b1 : lx p1 (cnt (gA d (σ 88)) 1)
    · exact rhn1 h (by rw [gA_pI_x]; exact wc.1) (by omega) b1 ⟨fun q => absurd rfl q, fun _ => rtm0 h (fun q => hb ⟨b1, q⟩) ⟨fun q => absurd q (by decide), fun _ => bad⟩⟩
    · exact rhn0 h (by rw [gA_pI_x]; exact wc.1) (by omega) b1 ⟨fun _ => bad, fun q => absurd q (by decide)⟩
theorem c_holder (I : Inv σ E d) (hv : v5 v4 L) (k : ∀ E' d', Inv σ E' d' → kc E' d') : lw_811 E (σ 0) (σ 87) (σ 115) v4 xs L kc d :=
  ⟨eo_0 I.1, eo_87 I.1, eo_115 I.1, hv.1, hv.2.1, hv.2.2.1, p_holder I k (fun v d2 hk => ⟨hv.1, hv.2.1, hv.2.2.1, hk⟩)⟩
theorem p_since (I : Inv σ E d) (k : ∀ E' d', Inv σ E' d' → kc E' d') (hK : ∀ v d2, w_X11_since E (σ 87) p1 p2 p3 d2 (fun r d => cmpO σ E kc v r d) → K v d2) : w_L_since E (σ 0) p1 p2 p3 (σ 115) d K := by
  have h := I.1
  have c := cW_I I
  have wc := wc_1 I
  have wp := wc_0 I
  by_cases hb : lx p1 (cnt (gA d (σ 88)) 1) ∧ bw p2 1900 2099 ∧ bw p3 1900 2099
  · obtain ⟨b1, b2, b3⟩ := hb
    obtain ⟨Y, hY1, hY2, eY⟩ := bw_n (a := 1900) (b := 2099) b2 (by decide) (by decide)
    obtain ⟨i, hi, ei⟩ := id b1
    simp only [w_L_since, w_X10_since, w_X3_holderOf, w_X3_sinceOf, x_0_5 h, x_50_6 h]
    refine ⟨eo_0 h, eo_115 h, eo_0 h, nhy1 h I b1 b2 b3 (k_begin c rb50 (fun d1 c1 s1 s3 C1 => ?_))⟩
    rw [eY] at hK b2 ⊢
    rw [ei] at hK b1 ⊢
    have w1 := cW_ch c rb50 c1
    refine k_goTo' w1 rb50 hY1 hY2 s1 s3 C1 (fun d2 c2 y2 s2 => ?_)
    have w2 := cW_ch w1 rb50 c2
    have cc : Ch σ scr d d2 := Ch_w (Ch_tr c1 c2) (cL_scr rb50)
    obtain ⟨-, -, -, -, -, C2⟩ := s2
    have okR := rep_ok (cW_gW w2).2.1 (Y := Y) (kn := p3)
    have ansr : ∀ rb, rb = (if rsH (repS (gA d (σ 88)) (cnt (gA d (σ 88)) 0) (cnt (gA d (σ 88)) 1) Y p3) i = none then -1 else rsF (repS (gA d (σ 88)) (cnt (gA d (σ 88)) 0) (cnt (gA d (σ 88)) 1) Y p3) i) → K 0 (pJ d2 (σ 115) 0 rb.toInt64) := fun rb hrb => by
      refine hK _ _ ⟨eo_87 h, rhn1 h (by rw [gA_pI_x, gA_pJ_x, w2.2.1]; exact wc.1) (by omega) b1 ⟨fun q => absurd rfl q, fun _ => rtm1 h b2 b3 ⟨fun _ => ⟨eo_87 h, rt0 h ⟨fun _ => ?_, fun q => absurd rfl q⟩⟩, fun q => absurd rfl q⟩⟩⟩
      refine q_goes I k cc (cW_gW w2) hY1 hY2 (fun d3 g3 R3 fin => ?_)
      simp only [x_87_21 h, x_87_22 h, en_98 h, en_99 h, z_nn (show i < 2147483648 by omega)]
      refine ⟨vpi (by omega) (by decide), ?_⟩
      rw [(R3.2.2.1 i hi).1, (R3.2.2.1 i hi).2.1, ← Int32.not_lt, enc_lt (okR.2.1 i hi) (by omega), Classical.not_not]
      have fin := fin [] d3 (by decide) (by decide) Ch_rf
      refine ⟨fun q => ⟨vpi (by omega) (by decide), ?_⟩, fun q => ?_⟩
      · rw [if_neg q] at hrb; rw [hrb] at fin; exact fin
      · rw [if_pos q] at hrb; rw [hrb] at fin; exact fin
    refine ⟨eo_50 h, k_gH (j := 0) w2 rb50 C2 hi (by decide) ?_⟩
    rw [(C2.2.2.2 i hi).1, enc_m1 (okR.2.1 i hi) (by omega)]
    refine ⟨fun q => ⟨eo_50 h, k_gH (j := 1) w2 rb50 C2 hi (by decide) ⟨v0_115 h, ?_⟩⟩, fun q => ⟨v0_115 h, ansr _ (by rw [if_pos q])⟩⟩
    rw [(C2.2.2.2 i hi).2.1 q]
    exact ansr _ (by rw [if_neg q])
  · have bad : b_X11_since_23 E (σ 87) p1 p2 p3 (fun r d => cmpO σ E kc 1 r d) (σ 87) (pI d (σ 87) 0 0) := ⟨eo_87 h, eo_87 h, rt1 h ⟨fun q => absurd q (by decide), fun _ => fail_O I (by decide) k⟩⟩
    refine ⟨eo_0 h, eo_115 h, eo_0 h, nhy0 h I hb ⟨rfl, hK _ _ ⟨eo_87 h, ?_⟩⟩⟩
    by_cases b1 : lx p1 (cnt (gA d (σ 88)) 1)
    · exact rhn1 h (by rw [gA_pI_x]; exact wc.1) (by omega) b1 ⟨fun q => absurd rfl q, fun _ => rtm0 h (fun q => hb ⟨b1, q⟩) ⟨fun q => absurd q (by decide), fun _ => bad⟩⟩
    · exact rhn0 h (by rw [gA_pI_x]; exact wc.1) (by omega) b1 ⟨fun _ => bad, fun q => absurd q (by decide)⟩
theorem c_since (I : Inv σ E d) (hv : v5 v4 L) (k : ∀ E' d', Inv σ E' d' → kc E' d') : lw_891 E (σ 0) (σ 87) (σ 115) v4 xs L kc d :=
  ⟨eo_0 I.1, eo_87 I.1, eo_115 I.1, hv.1, hv.2.1, hv.2.2.1, p_since I k (fun v d2 hk => ⟨hv.1, hv.2.1, hv.2.2.1, hk⟩)⟩
theorem p_place (I : Inv σ E d) (k : ∀ E' d', Inv σ E' d' → kc E' d') (hK : ∀ v d2, w_X11_place E (σ 87) p1 p2 p3 d2 (fun r d => cmpO σ E kc v r d) → K v d2) : w_L_place E (σ 0) p1 p2 p3 (σ 115) d K := by
  have h := I.1
  have c := cW_I I
  have wc := wc_1 I
  by_cases hb : lx p1 (cnt (gA d (σ 88)) 1) ∧ bw p2 1900 2099 ∧ bw p3 1900 2099
  · obtain ⟨b1, b2, b3⟩ := hb
    obtain ⟨Y, hY1, hY2, eY⟩ := bw_n (a := 1900) (b := 2099) b2 (by decide) (by decide)
    obtain ⟨i, hi, ei⟩ := id b1
    simp only [w_L_place, w_X10_place, x_0_5 h]
    refine ⟨eo_0 h, eo_115 h, eo_0 h, nhy1 h I b1 b2 b3 (k_begin c rb50 (fun d1 c1 s1 s3 C1 => ?_))⟩
    rw [eY] at hK b2 ⊢
    rw [ei] at hK b1 ⊢
    have w1 := cW_ch c rb50 c1
    refine k_goTo' w1 rb50 hY1 hY2 s1 s3 C1 (fun d2 c2 y2 s2 => ?_)
    have w2 := cW_ch w1 rb50 c2
    have cc : Ch σ scr d d2 := Ch_w (Ch_tr c1 c2) (cL_scr rb50)
    obtain ⟨-, -, -, -, -, C2⟩ := s2
    have okR := rep_ok (cW_gW w2).2.1 (Y := Y) (kn := p3)
    refine k_placeOf w2 rb50 C2 okR hi ⟨v0_115 h, ?_⟩
    refine hK _ _ ⟨eo_87 h, rhn1 h (by rw [gA_pI_x, gA_pJ_x, w2.2.1]; exact wc.1) (by omega) b1 ⟨fun q => absurd rfl q, fun _ => rtm1 h b2 b3 ⟨fun _ => ⟨eo_87 h, rt0 h ⟨fun _ => ?_, fun q => absurd rfl q⟩⟩, fun q => absurd rfl q⟩⟩⟩
    refine q_goes I k cc (cW_gW w2) hY1 hY2 (fun d3 g3 R3 fin => ?_)
    exact r_rowPlace h wc.2 R3 okR hi (fin [] d3 (by decide) (by decide) Ch_rf)
  · have bad : b_X11_place_23 E (σ 87) p1 p2 p3 (fun r d => cmpO σ E kc 1 r d) (σ 87) (pI d (σ 87) 0 0) := ⟨eo_87 h, eo_87 h, rt1 h ⟨fun q => absurd q (by decide), fun _ => fail_O I (by decide) k⟩⟩
    refine ⟨eo_0 h, eo_115 h, eo_0 h, nhy0 h I hb ⟨rfl, hK _ _ ⟨eo_87 h, ?_⟩⟩⟩
    by_cases b1 : lx p1 (cnt (gA d (σ 88)) 1)
    · exact rhn1 h (by rw [gA_pI_x]; exact wc.1) (by omega) b1 ⟨fun q => absurd rfl q, fun _ => rtm0 h (fun q => hb ⟨b1, q⟩) ⟨fun q => absurd q (by decide), fun _ => bad⟩⟩
    · exact rhn0 h (by rw [gA_pI_x]; exact wc.1) (by omega) b1 ⟨fun _ => bad, fun q => absurd q (by decide)⟩
theorem c_place (I : Inv σ E d) (hv : v5 v4 L) (k : ∀ E' d', Inv σ E' d' → kc E' d') : lw_971 E (σ 0) (σ 87) (σ 115) v4 xs L kc d :=
  ⟨eo_0 I.1, eo_87 I.1, eo_115 I.1, hv.1, hv.2.1, hv.2.2.1, p_place I k (fun v d2 hk => ⟨hv.1, hv.2.1, hv.2.2.1, hk⟩)⟩
end
