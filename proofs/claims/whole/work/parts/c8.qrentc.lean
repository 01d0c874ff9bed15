section
variable {σ : Nat → Nat} {E : En} {d d' d2 d3 : Dy} {W : Nat → Int32} {B np nh L : Nat} {S : RS} {K : Int32 → Dy → Prop} {K0 : Dy → Prop} {kc : En → Dy → Prop} {v4 : Int32} {xs : Nat → Int32} {p1 p2 p3 : Int32}
theorem p_rent (I : Inv σ E d) (k : ∀ E' d', Inv σ E' d' → kc E' d') (hK : ∀ v d2, w_X11_rent E (σ 87) p1 p2 p3 d2 (fun r d => cmpO σ E kc v r d) → K v d2) : w_L_rent E (σ 0) p1 p2 p3 (σ 115) d K := by
  have h := I.1
  have c := cW_I I
  have wc := wc_1 I
  by_cases hb : lx p1 (cnt (gA d (σ 88)) 1) ∧ bw p2 1900 2099 ∧ bw p3 1900 2099
  · obtain ⟨b1, b2, b3⟩ := hb
    obtain ⟨Y, hY1, hY2, eY⟩ := bw_n (a := 1900) (b := 2099) b2 (by decide) (by decide)
    obtain ⟨i, hi, ei⟩ := id b1
    simp only [w_L_rent, w_X10_rent, x_0_5 h]
    refine ⟨eo_0 h, eo_115 h, eo_0 h, nhy1 h I b1 b2 b3 (k_begin c rb50 (fun d1 c1 s1 s3 C1 => ?_))⟩
    rw [eY] at hK b2 ⊢
    rw [ei] at hK b1 ⊢
    have w1 := cW_ch c rb50 c1
    refine k_goTo' w1 rb50 hY1 hY2 s1 s3 C1 (fun d2 c2 y2 s2 => ?_)
    have w2 := cW_ch w1 rb50 c2
    obtain ⟨-, -, -, -, -, C2⟩ := s2
    have okR := rep_ok (cW_gW w2).2.1 (Y := Y) (kn := p3)
    refine k_rentOf w2 rb50 C2 okR hi y2 (fun d4 c4 => ⟨v0_115 h, ?_⟩)
    have w4 := cW_ch w2 rb50 (Ch_w c4 cL_789)
    have cc : Ch σ scr d d4 := Ch_w (Ch_tr c1 (Ch_tr c2 (Ch_w c4 cL_789))) (cL_scr rb50)
    refine hK _ _ ⟨eo_87 h, rhn1 h (by rw [gA_pI_x, gA_pJ_x, w4.2.1]; exact wc.1) (by omega) b1 ⟨fun q => absurd rfl q, fun _ => rtm1 h b2 b3 ⟨fun _ => ⟨eo_87 h, rt0 h ⟨fun _ => ?_, fun q => absurd rfl q⟩⟩, fun q => absurd rfl q⟩⟩⟩
    refine q_goes I k cc (cW_gW w4) hY1 hY2 (fun d3 g3 R3 fin => ?_)
    exact r_rentOf h g3 (fun p hp => k_bit2 c hp) R3 okR hi (fun d5 c5 => fin [92, 93] d5 (by decide) (by decide) c5)
  · have bad : b_X11_rent_23 E (σ 87) p1 p2 p3 (fun r d => cmpO σ E kc 1 r d) (σ 87) (pI d (σ 87) 0 0) := ⟨eo_87 h, eo_87 h, rt1 h ⟨fun q => absurd q (by decide), fun _ => fail_O I (by decide) k⟩⟩
    refine ⟨eo_0 h, eo_115 h, eo_0 h, nhy0 h I hb ⟨rfl, hK _ _ ⟨eo_87 h, ?_⟩⟩⟩
    by_cases b1 : lx p1 (cnt (gA d (σ 88)) 1)
    · exact rhn1 h (by rw [gA_pI_x]; exact wc.1) (by omega) b1 ⟨fun q => absurd rfl q, fun _ => rtm0 h (fun q => hb ⟨b1, q⟩) ⟨fun q => absurd q (by decide), fun _ => bad⟩⟩
    · exact rhn0 h (by rw [gA_pI_x]; exact wc.1) (by omega) b1 ⟨fun _ => bad, fun q => absurd q (by decide)⟩
theorem c_rent (I : Inv σ E d) (hv : v5 v4 L) (k : ∀ E' d', Inv σ E' d' → kc E' d') : lw_1143 E (σ 0) (σ 87) (σ 115) v4 xs L kc d :=
  ⟨eo_0 I.1, eo_87 I.1, eo_115 I.1, hv.1, hv.2.1, hv.2.2.1, p_rent I k (fun v d2 hk => ⟨hv.1, hv.2.1, hv.2.2.1, hk⟩)⟩
end
