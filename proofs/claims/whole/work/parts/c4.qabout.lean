def huS (S : RS) (nh p : Nat) : Int32 := nI (btN (fun i => decide (rsH S i = some p)) nh)
def abS (W : Nat → Int32) (S : RS) (np nh p : Nat) (q : Int32) : Int32 := if q = 0 then b2i (rsL S p) else if q = 1 then encO (spS S p) else if q = 2 then nI (cntN (chS S p) np) else if q = 3 then encO (elS W S np p) else if q = 4 then encO (paS S np p) else if q = 5 then encO (brS W S np p) else huS S nh p
theorem hu_step {S : RS} {nh p j : Nat} (h12 : nh ≤ 12) (hj : j < nh) : (¬ rsH S j = some p → nI (btN (fun i => decide (i < j) && decide (rsH S i = some p)) nh) ||| 0 = nI (btN (fun i => decide (i < j + 1) && decide (rsH S i = some p)) nh))
    ∧ (rsH S j = some p → nI (btN (fun i => decide (i < j) && decide (rsH S i = some p)) nh) ||| ((1 : Int32) <<< (nI j &&& 31)) = nI (btN (fun i => decide (i < j + 1) && decide (rsH S i = some p)) nh)) := by
  have p2 : 2 ^ j < 2147483648 := Nat.lt_of_le_of_lt (Nat.pow_le_pow_right (by decide) (show j ≤ 11 by omega)) (by decide)
  refine ⟨fun q => ?_, fun q => ?_⟩
  · rw [show (0 : Int32) = nI 0 from rfl, b_or (bt_31 h12) (by decide), Nat.or_zero]
    congr 1
    refine bt_congr (fun i hi => ?_)
    by_cases e : i = j
    · subst e; simp [q]
    · have : decide (i < j) = decide (i < j + 1) := by congr 1; apply propext; omega
      rw [this]
  · rw [b_shl (by omega), b_or (bt_31 h12) p2, or_bt1 hj]
    congr 1
    refine bt_congr (fun i hi => ?_)
    by_cases e : i = j
    · subst e; simp [q]
    · have : decide (i < j) = decide (i < j + 1) := by congr 1; apply propext; omega
      rw [this]
      simp [show ¬ j = i from fun q => e q.symm]
theorem hu_0 {S : RS} {nh p : Nat} : (0 : Int32) = nI (btN (fun i => decide (i < 0) && decide (rsH S i = some p)) nh) := by
  rw [show (0 : Int32) = nI 0 from rfl]
  congr 1
  exact bt_eq (m := 0) (Nat.two_pow_pos nh) (fun i hi => by rw [Nat.zero_testBit]; simp)
theorem hu_n {S : RS} {nh p : Nat} : nI (btN (fun i => decide (i < nh) && decide (rsH S i = some p)) nh) = huS S nh p := by
  unfold huS
  congr 1
  exact bt_congr (fun i hi => by simp [hi])
section
variable {σ : Nat → Nat} {E : En} {d d' d2 d3 : Dy} {W : Nat → Int32} {B np nh L : Nat} {S : RS} {K : Int32 → Dy → Prop} {K0 : Dy → Prop} {X : String → Dy → Prop} {kc : En → Dy → Prop} {v4 : Int32} {xs : Nat → Int32} {p1 p2 p3 p4 : Int32}
theorem k_hutsOf (c : cW σ E d W np nh) (hB : RB B) (C : clsR σ B np nh d S) (ok : rsOK np nh S) {p : Nat} (hp : p < np) (k : K (huS S nh p) d) : w_X3_hutsOf E (σ B) (nI p) d K := by
  have h := c.1.1
  have h10 := c.2.2.2.2.2
  have h12 := c.2.2.2.2.1
  refine ⟨y_o h hB, nh + 1, loopG (S := Int32 × Int32 × Dy) (l := fun N z => l_X3_hutsOf_4 E (σ B) (nI p) K N z.1 z.2.1 z.2.2) (b := fun kk z => b_X3_hutsOf_4 E (σ B) (nI p) K (fun a b c => kk (a, b, c)) z.1 z.2.1 z.2.2) (fun _ _ => rfl)
    (μ := fun z => nh - z.2.1.toNatClampNeg) (P := fun z => d = z.2.2 ∧ ∃ j, j ≤ nh ∧ nI j = z.2.1 ∧ nI (btN (fun i => decide (i < j) && decide (rsH S i = some p)) nh) = z.1) ?_ nh (0, 0, d) ⟨rfl, 0, by omega, rfl, hu_0.symm⟩ (Nat.sub_le _ _)⟩
  rintro kk ⟨a, v, d3⟩ ⟨rfl, j, hj, rfl, rfl⟩ hk
  simp only [b_X3_hutsOf_4, w_X3_holderOf, y_6 h hB]
  refine T_size (ye_3 h hB) (ys_3 c.1.2.1 hB C.2.1.2.1 h10) ?_
  rw [z_le (by omega) (by omega)]
  refine ⟨fun hc => ?_, fun hc => ⟨y_o h hB, k_gH (j := 0) c hB C (by omega) (by decide) ?_⟩⟩
  · have : j = nh := by omega
    subst this
    rw [hu_n]; exact k
  · have hjn : j < nh := by omega
    rw [(C.2.2.2 j hjn).1, enc_eq (ok.2.1 j hjn) (by omega) hp, z_a1]
    have nx : ∀ x, x = nI (btN (fun i => decide (i < j + 1) && decide (rsH S i = some p)) nh) → kk (x, nI (j + 1), d) := fun x hx =>
      hk (x, nI (j + 1), d) ⟨rfl, j + 1, by omega, rfl, hx.symm⟩ (by simp only [z_nn (show j + 1 < 2147483648 by omega), z_nn (show j < 2147483648 by omega)]; omega)
    exact ⟨fun q => nx _ ((hu_step (by omega) hjn).1 q), fun q => nx _ ((hu_step (by omega) hjn).2 q)⟩
theorem r_about (h : Env σ E) (g : gW σ d W np nh) (R : refR σ np nh d S) (ok : rsOK np nh S) {p : Nat} (hp : p < np) (k : K (abS W S np nh p p4) d) : ∃ N, l_X11_about_73 E (σ 87) (nI p) p2 p3 p4 K N 0 0 d := by
  obtain ⟨eW, hW, tw, e0, e1, n0, n1, hnp, hnh⟩ := id g
  refine ⟨nh + 1, loopG (S := Int32 × Int32 × Dy) (l := fun N z => l_X11_about_73 E (σ 87) (nI p) p2 p3 p4 K N z.1 z.2.1 z.2.2) (b := fun kk z => b_X11_about_73 E (σ 87) (nI p) p2 p3 p4 K (fun a b c => kk (a, b, c)) z.1 z.2.1 z.2.2) (fun _ _ => rfl)
    (μ := fun z => nh - z.2.1.toNatClampNeg) (P := fun z => d = z.2.2 ∧ ∃ j, j ≤ nh ∧ nI j = z.2.1 ∧ nI (btN (fun i => decide (i < j) && decide (rsH S i = some p)) nh) = z.1) ?_ nh (0, 0, d) ⟨rfl, 0, by omega, rfl, hu_0.symm⟩ (Nat.sub_le _ _)⟩
  rintro kk ⟨a, v, d3⟩ ⟨rfl, j, hj, rfl, rfl⟩ hk
  refine r_huts h ?_
  rw [eW, e1]
  simp only [x_87_18 h, x_87_21 h, en_95 h, en_98 h, z_nn (show p < 2147483648 by omega), z_nn (show j < 2147483648 by omega)]
  rw [z_le (by omega) (by omega)]
  refine ⟨fun hc => ?_, fun hc => ?_⟩
  · have : j = nh := by omega
    subst this
    rw [hu_n]
    unfold abS at k
    refine ⟨fun q => ⟨vpi (by omega) (by decide), ?_⟩, fun q => ?_, fun q => ?_, fun q => ?_, fun q => ?_, fun q => ?_, fun q0 q1 q2 q3 q4 q5 => ?_⟩
    · rw [if_pos q] at k
      rw [(R.1 p hp).1, b2i_0]
      refine ⟨fun v => ?_, fun v => ?_⟩
      · rw [v] at k; exact k
      · rw [Bool.not_eq_false] at v; rw [v] at k; exact k
    · rw [q, if_neg (by decide), if_pos rfl] at k; exact r_spouse h hnp R ok hp k
    · rw [q, if_neg (by decide), if_neg (by decide), if_pos rfl] at k; exact r_children h eW e0 hnp R hp k
    · rw [q, if_neg (by decide), if_neg (by decide), if_neg (by decide), if_pos rfl] at k; exact r_eldest h eW e0 hnp R hp k
    · rw [q, if_neg (by decide), if_neg (by decide), if_neg (by decide), if_neg (by decide), if_pos rfl] at k; exact r_parent h eW e0 hnp R hp k
    · rw [q, if_neg (by decide), if_neg (by decide), if_neg (by decide), if_neg (by decide), if_neg (by decide), if_pos rfl] at k; exact r_brother h eW e0 hnp R hp k
    · rw [if_neg q0, if_neg q1, if_neg q2, if_neg q3, if_neg q4, if_neg q5] at k; exact k
  · have hjn : j < nh := by omega
    rw [(R.2.2.1 j hjn).1, enc_eq (ok.2.1 j hjn) (by omega) hp, z_a1]
    have nx : ∀ x, x = nI (btN (fun i => decide (i < j + 1) && decide (rsH S i = some p)) nh) → kk (x, nI (j + 1), d) := fun x hx =>
      hk (x, nI (j + 1), d) ⟨rfl, j + 1, by omega, rfl, hx.symm⟩ (by simp only [z_nn (show j + 1 < 2147483648 by omega), z_nn (show j < 2147483648 by omega)]; omega)
    exact ⟨vpi (by omega) (by decide), fun q => nx _ ((hu_step (by omega) hjn).1 q), fun q => nx _ ((hu_step (by omega) hjn).2 q)⟩
theorem p_about (I : Inv σ E d) (k : ∀ E' d', Inv σ E' d' → kc E' d') (hK : ∀ v d2, w_X11_about E (σ 87) p1 p2 p3 p4 d2 (fun r d => cmpO σ E kc v r d) → K v d2) : w_L_about E (σ 0) p1 p2 p3 p4 (σ 115) d K := by
  have h := I.1
  have c := cW_I I
  have wc := wc_0 I
  by_cases b1 : lx p1 (cnt (gA d (σ 88)) 0)
  · by_cases hb : bw p2 1900 2099 ∧ bw p3 1900 2099
    · obtain ⟨b2, b3⟩ := hb
      obtain ⟨Y, hY1, hY2, eY⟩ := bw_n (a := 1900) (b := 2099) b2 (by decide) (by decide)
      obtain ⟨p, hp, ep⟩ := id b1
      simp only [w_L_about, w_X10_about, x_0_5 h]
      refine ⟨eo_0 h, eo_115 h, eo_0 h, np1 h (td_2 I) b1 (ny1 b2 (ny1 b3 (k_begin c rb50 (fun d1 c1 s1 s3 C1 => ?_))))⟩
      rw [eY] at hK b2 ⊢
      rw [ep] at hK b1 ⊢
      have w1 := cW_ch c rb50 c1
      refine k_goTo' w1 rb50 hY1 hY2 s1 s3 C1 (fun d2 c2 y2 s2 => ?_)
      have w2 := cW_ch w1 rb50 c2
      have cc : Ch σ scr d d2 := Ch_w (Ch_tr c1 c2) (cL_scr rb50)
      obtain ⟨-, -, -, -, -, C2⟩ := s2
      have okR := rep_ok (cW_gW w2).2.1 (Y := Y) (kn := p3)
      have ansr : ∀ rb, bw p4 0 6 → rb = abS (gA d (σ 88)) (repS (gA d (σ 88)) (cnt (gA d (σ 88)) 0) (cnt (gA d (σ 88)) 1) Y p3) (cnt (gA d (σ 88)) 0) (cnt (gA d (σ 88)) 1) p p4 → vp_in 0 (eN E (σ 115)) ∧ K 0 (pJ d2 (σ 115) ((0 : Int32)).toNatClampNeg rb.toInt64) := fun rb b4 hrb => ⟨v0_115 h, by
        refine hK _ _ ⟨eo_87 h, rpn1 h (by rw [gA_pI_x, gA_pJ_x, w2.2.1]; exact wc.1) (by omega) b1 ⟨fun q => absurd rfl q, fun _ => rtm1 h b2 b3 ⟨fun _ => ⟨eo_87 h, rt0 h ⟨fun q => absurd rfl q, fun _ => ri1 b4 ⟨fun _ => ⟨eo_87 h, rt0 h ⟨fun _ => ?_, fun q => absurd rfl q⟩⟩, fun q => absurd q (by decide)⟩⟩⟩, fun q => absurd rfl q⟩⟩⟩
        refine q_goes I k cc (cW_gW w2) hY1 hY2 (fun d3 g3 R3 fin => r_about h g3 R3 okR hp ?_)
        rw [← hrb]
        exact fin [] d3 (by decide) (by decide) Ch_rf⟩
      have b4 : ∀ m : Nat, m ≤ 6 → p4 = nI m → bw p4 0 6 := fun m hm e => by rw [e]; exact ⟨z_pos (by omega), by rw [show (6 : Int32) = nI 6 from rfl, z_lt (by decide) (by omega)]; omega⟩
      unfold abS at ansr
      refine ⟨fun q => ?_, fun q => ?_, fun q => ?_, fun q => ?_, fun q => ?_, fun q => ?_, fun q => ?_, fun q0 q1 q2 q3 q4 q5 q6 => ?_⟩
      · refine k_lives w2 rb50 C2 hp ?_
        rw [b2i_0]
        refine ⟨fun v => ansr 0 (b4 0 (by decide) q) ?_, fun v => ansr 1 (b4 0 (by decide) q) ?_⟩
        · rw [if_pos q, v]; rfl
        · rw [Bool.not_eq_false] at v; rw [if_pos q, v]; rfl
      · exact k_spouse w2 rb50 C2 okR hp (ansr _ (b4 1 (by decide) q) (by rw [q, if_neg (by decide), if_pos rfl]))
      · refine k_children w2 rb50 C2 hp (k_bc ?_)
        rw [bt_cnt wc.2]
        exact ansr _ (b4 2 (by decide) q) (by rw [q, if_neg (by decide), if_neg (by decide), if_pos rfl])
      · exact k_children w2 rb50 C2 hp (k_eldest w2 rb50 C2 (ansr _ (b4 3 (by decide) q) (by rw [q, if_neg (by decide), if_neg (by decide), if_neg (by decide), if_pos rfl]; rfl)))
      · exact k_parent w2 rb50 C2 hp (ansr _ (b4 4 (by decide) q) (by rw [q, if_neg (by decide), if_neg (by decide), if_neg (by decide), if_neg (by decide), if_pos rfl]))
      · exact k_siblings w2 rb50 C2 hp (k_eldest w2 rb50 C2 (ansr _ (b4 5 (by decide) q) (by rw [q, if_neg (by decide), if_neg (by decide), if_neg (by decide), if_neg (by decide), if_neg (by decide), if_pos rfl]; rfl)))
      · exact k_hutsOf w2 rb50 C2 okR hp (ansr _ (b4 6 (by decide) q) (by rw [q, if_neg (by decide), if_neg (by decide), if_neg (by decide), if_neg (by decide), if_neg (by decide), if_neg (by decide)]))
      · have nb : ¬ bw p4 0 6 := fun hb => by
          obtain ⟨m, -, hm, em⟩ := bw_n (a := 0) (b := 6) hb (by decide) (by decide)
          have h7 : m = 0 ∨ m = 1 ∨ m = 2 ∨ m = 3 ∨ m = 4 ∨ m = 5 ∨ m = 6 := by omega
          rcases h7 with rfl | rfl | rfl | rfl | rfl | rfl | rfl
          · exact q0 em
          · exact q1 em
          · exact q2 em
          · exact q3 em
          · exact q4 em
          · exact q5 em
          · exact q6 em
        refine Or.inr ⟨trivial, hK _ _ ⟨eo_87 h, rpn1 h (by rw [gA_pI_x, w2.2.1]; exact wc.1) (by omega) b1 ⟨fun q => absurd rfl q, fun _ => rtm1 h b2 b3 ⟨fun _ => ⟨eo_87 h, rt0 h ⟨fun q => absurd rfl q, fun _ => ri0 nb ⟨fun q => absurd rfl q, fun _ => ⟨eo_87 h, rt1 h ⟨fun q => absurd q (by decide), fun _ => fail_O' I cc (by decide) k⟩⟩⟩⟩⟩, fun q => absurd rfl q⟩⟩⟩⟩
    · have bad : b_X11_about_23 E (σ 87) p1 p2 p3 p4 (fun r d => cmpO σ E kc 1 r d) (σ 87) (pI d (σ 87) 0 0) := ⟨eo_87 h, eo_87 h, rt1 h ⟨fun _ => fail_O I (by decide) k, fun q => absurd q (by decide)⟩⟩
      have rr : K 1 d := hK _ _ ⟨eo_87 h, rpn1 h (by rw [gA_pI_x]; exact wc.1) (by omega) b1 ⟨fun q => absurd rfl q, fun _ => rtm0 h hb ⟨fun q => absurd q (by decide), fun _ => bad⟩⟩⟩
      refine ⟨eo_0 h, eo_115 h, eo_0 h, np1 h (td_2 I) b1 ?_⟩
      by_cases b2 : bw p2 1900 2099
      · exact ny1 b2 (ny0 (fun b3 => hb ⟨b2, b3⟩) (Or.inl ⟨rfl, rr⟩))
      · exact ny0 b2 (Or.inl ⟨rfl, rr⟩)
  · have bad : b_X11_about_23 E (σ 87) p1 p2 p3 p4 (fun r d => cmpO σ E kc 1 r d) (σ 87) (pI d (σ 87) 0 0) := ⟨eo_87 h, eo_87 h, rt1 h ⟨fun _ => fail_O I (by decide) k, fun q => absurd q (by decide)⟩⟩
    exact ⟨eo_0 h, eo_115 h, eo_0 h, np0 h (td_2 I) b1 (Or.inl ⟨rfl, hK _ _ ⟨eo_87 h, rpn0 h (by rw [gA_pI_x]; exact wc.1) (by omega) b1 ⟨fun _ => bad, fun q => absurd q (by decide)⟩⟩⟩)⟩
theorem c_about (I : Inv σ E d) (hv : v5 v4 L) (k : ∀ E' d', Inv σ E' d' → kc E' d') : lw_1051 E (σ 0) (σ 87) (σ 115) v4 xs L kc d :=
  ⟨eo_0 I.1, eo_87 I.1, eo_115 I.1, hv.1, hv.2.1, hv.2.2.1, hv.2.2.2.1, p_about I k (fun v d2 hk => ⟨hv.1, hv.2.1, hv.2.2.1, hv.2.2.2.1, hk⟩)⟩
end
