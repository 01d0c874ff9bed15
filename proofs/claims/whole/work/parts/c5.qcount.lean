theorem cnt_not {f : Nat → Bool} : ∀ n, cntN (fun i => !f i) n + cntN f n = n
  | 0 => rfl
  | n + 1 => by
    have := cnt_not (f := f) n
    show cntN (fun i => !f i) n + (if (!f n) = true then 1 else 0) + (cntN f n + (if f n = true then 1 else 0)) = n + 1
    cases f n <;> simp <;> omega
section
variable {σ : Nat → Nat} {E : En} {d d' d2 d3 : Dy} {W : Nat → Int32} {B np nh L : Nat} {S : RS} {K : Int32 → Dy → Prop} {K0 : Dy → Prop} {kc : En → Dy → Prop} {v4 : Int32} {xs : Nat → Int32} {p1 : Int32}
theorem k_livingMany (c : cW σ E d W np nh) (hB : RB B) (C : clsR σ B np nh d S) (k : K (nI (cntN (rsL S) np)) d) : w_X3_livingMany E (σ B) d K := by
  have h := c.1.1
  have h12 := c.2.2.2.2.1
  simp only [w_X3_livingMany, y_5 h hB]
  refine ⟨y_o h hB, T_size (ye_1 h hB) (ys_1 c.1.2.1 hB C.2.1.1 h12) (k_bc ?_)⟩
  have e := cnt_not (f := rsL S) np
  rw [C.1, bt_cnt h12, z_sub (by omega), show np - cntN (fun p => !rsL S p) np = cntN (rsL S) np by omega]
  exact k
theorem k_heldMany (c : cW σ E d W np nh) (hB : RB B) (C : clsR σ B np nh d S) (ok : rsOK np nh S) (k : K (nI (cntN (fun i => decide (rsH S i ≠ none)) nh)) d) : w_X3_heldMany E (σ B) d K := by
  have h := c.1.1
  have h10 := c.2.2.2.2.2
  have h12 := c.2.2.2.2.1
  refine ⟨y_o h hB, nh + 1, loopG (S := Int32 × Int32 × Dy) (l := fun N z => l_X3_heldMany_4 E (σ B) K N z.1 z.2.1 z.2.2) (b := fun kk z => b_X3_heldMany_4 E (σ B) K (fun a b c => kk (a, b, c)) z.1 z.2.1 z.2.2) (fun _ _ => rfl)
    (μ := fun z => nh - z.2.1.toNatClampNeg) (P := fun z => d = z.2.2 ∧ ∃ j, j ≤ nh ∧ nI j = z.2.1 ∧ nI (cntN (fun i => decide (rsH S i ≠ none)) j) = z.1) ?_ nh (0, 0, d) ⟨rfl, 0, by omega, rfl, rfl⟩ (Nat.sub_le _ _)⟩
  rintro kk ⟨a, v, d3⟩ ⟨rfl, j, hj, rfl, rfl⟩ hk
  simp only [b_X3_heldMany_4, w_X3_holderOf, y_6 h hB]
  refine T_size (ye_3 h hB) (ys_3 c.1.2.1 hB C.2.1.2.1 h10) ?_
  rw [z_le (by omega) (by omega)]
  refine ⟨fun hc => ?_, fun hc => ⟨y_o h hB, k_gH (j := 0) c hB C (by omega) (by decide) ?_⟩⟩
  · have : j = nh := by omega
    subst this; exact k
  · have hjn : j < nh := by omega
    rw [(C.2.2.2 j hjn).1, enc_m1 (ok.2.1 j hjn) (by omega), z_a1 j]
    have nx : ∀ x, x = nI (cntN (fun i => decide (rsH S i ≠ none)) (j + 1)) → kk (x, nI (j + 1), d) := fun x hx =>
      hk (x, nI (j + 1), d) ⟨rfl, j + 1, by omega, rfl, hx.symm⟩ (by simp only [z_nn (show j + 1 < 2147483648 by omega), z_nn (show j < 2147483648 by omega)]; omega)
    refine ⟨fun q => nx _ ?_, fun q => nx _ ?_⟩
    · rw [z_a1]
      show _ = nI (_ + (if decide (rsH S j ≠ none) = true then 1 else 0))
      rw [if_pos (by simpa using q)]
    · rw [show (0 : Int32) = nI 0 from rfl, z_add]
      show _ = nI (_ + (if decide (rsH S j ≠ none) = true then 1 else 0))
      rw [if_neg (by simpa using q)]
theorem r_count82 (h : Env σ E) (g : gW σ d W np nh) (R : refR σ np nh d S) (ok : rsOK np nh S) {x : Int32} (k8 : ¬ p1 = 9 → K x d) (k9 : p1 = 9 → x = 0 ∧ K (nI (cntN (fun i => decide (rsH S i ≠ none)) nh)) d) : ∃ N, l_X11_count_82 E (σ 87) p1 K N x 0 d := by
  obtain ⟨eW, hW, tw, e0, e1, n0, n1, hnp, hnh⟩ := id g
  refine ⟨nh + 1, loopG (S := Int32 × Int32 × Dy) (l := fun N z => l_X11_count_82 E (σ 87) p1 K N z.1 z.2.1 z.2.2) (b := fun kk z => b_X11_count_82 E (σ 87) p1 K (fun a b c => kk (a, b, c)) z.1 z.2.1 z.2.2) (fun _ _ => rfl)
    (μ := fun z => nh - z.2.1.toNatClampNeg) (P := fun z => d = z.2.2 ∧ ∃ j, j ≤ nh ∧ nI j = z.2.1 ∧ (¬ p1 = 9 → x = z.1) ∧ (p1 = 9 → nI (cntN (fun i => decide (rsH S i ≠ none)) j) = z.1)) ?_ nh (x, 0, d) ⟨rfl, 0, by omega, rfl, fun _ => rfl, fun q => (k9 q).1.symm⟩ (Nat.sub_le _ _)⟩
  rintro kk ⟨a, v, d3⟩ ⟨rfl, j, hj, rfl, h8, h9⟩ hk
  have h8 : ¬ p1 = 9 → x = a := h8
  have h9 : p1 = 9 → nI (cntN (fun i => decide (rsH S i ≠ none)) j) = a := h9
  refine r_huts h ?_
  rw [eW, e1]
  simp only [x_87_21 h, en_98 h, z_nn (show j < 2147483648 by omega)]
  rw [z_le (by omega) (by omega)]
  refine ⟨fun hc => ?_, fun hc => ⟨fun q => ?_, fun q => ⟨vpi (by omega) (by decide), ?_⟩⟩⟩
  · have : j = nh := by omega
    subst this
    by_cases q : p1 = 9
    · rw [← h9 q]; exact (k9 q).2
    · rw [← h8 q]; exact k8 q
  · rw [← h8 q]; exact k8 q
  · have hjn : j < nh := by omega
    have h9 : nI (cntN (fun i => decide (rsH S i ≠ none)) j) = a := h9 q
    rw [← h9, (R.2.2.1 j hjn).1, enc_lt (ok.2.1 j hjn) (by omega), z_a1 j]
    have nx : ∀ x, x = nI (cntN (fun i => decide (rsH S i ≠ none)) (j + 1)) → kk (x, nI (j + 1), d) := fun x hx =>
      hk (x, nI (j + 1), d) ⟨rfl, j + 1, by omega, rfl, fun q2 => absurd q q2, fun _ => hx.symm⟩ (by simp only [z_nn (show j + 1 < 2147483648 by omega), z_nn (show j < 2147483648 by omega)]; omega)
    refine ⟨fun q => nx _ ?_, fun q => nx _ ?_⟩
    · rw [show (0 : Int32) = nI 0 from rfl, z_add]
      show _ = nI (_ + (if decide (rsH S j ≠ none) = true then 1 else 0))
      rw [if_neg (by simpa using q)]
    · rw [z_a1]
      show _ = nI (_ + (if decide (rsH S j ≠ none) = true then 1 else 0))
      rw [if_pos (by simpa using q)]
theorem r_count43 (h : Env σ E) (g : gW σ d W np nh) (R : refR σ np nh d S) (ok : rsOK np nh S) (k8 : p1 = 8 → K (nI (cntN (rsL S) np)) d) (k9 : p1 = 9 → K (nI (cntN (fun i => decide (rsH S i ≠ none)) nh)) d) (hp : p1 = 8 ∨ p1 = 9) : ∃ N, l_X11_count_43 E (σ 87) p1 K N 0 0 d := by
  obtain ⟨eW, hW, tw, e0, e1, n0, n1, hnp, hnh⟩ := id g
  refine ⟨np + 1, loopG (S := Int32 × Int32 × Dy) (l := fun N z => l_X11_count_43 E (σ 87) p1 K N z.1 z.2.1 z.2.2) (b := fun kk z => b_X11_count_43 E (σ 87) p1 K (fun a b c => kk (a, b, c)) z.1 z.2.1 z.2.2) (fun _ _ => rfl)
    (μ := fun z => np - z.2.1.toNatClampNeg) (P := fun z => d = z.2.2 ∧ ∃ j, j ≤ np ∧ nI j = z.2.1 ∧ (p1 = 9 → 0 = z.1) ∧ (p1 = 8 → nI (cntN (rsL S) j) = z.1)) ?_ np (0, 0, d) ⟨rfl, 0, by omega, rfl, fun _ => rfl, fun _ => rfl⟩ (Nat.sub_le _ _)⟩
  rintro kk ⟨a, v, d3⟩ ⟨rfl, j, hj, rfl, h9, h8⟩ hk
  have h9 : p1 = 9 → 0 = a := h9
  have h8 : p1 = 8 → nI (cntN (rsL S) j) = a := h8
  refine r_persons h ?_
  rw [eW, e0]
  simp only [x_87_18 h, en_95 h, z_nn (show j < 2147483648 by omega)]
  rw [z_le (by omega) (by omega)]
  refine ⟨fun hc => ?_, fun hc => ⟨fun q => ?_, fun q => ⟨vpi (by omega) (by decide), ?_⟩⟩⟩
  · have : j = np := by omega
    subst this
    refine r_count82 h g R ok (fun q => ?_) (fun q => ⟨(h9 q).symm, k9 q⟩)
    have q8 := hp.resolve_right q
    rw [← h8 q8]; exact k8 q8
  · have q9 := hp.resolve_left q
    exact r_count82 h g R ok (fun q => absurd q9 q) (fun q => ⟨(h9 q).symm, k9 q⟩)
  · have hjn : j < np := by omega
    rw [← h8 q, (R.1 j hjn).1, b2i_0, z_a1 j]
    have nx : ∀ x, x = nI (cntN (rsL S) (j + 1)) → kk (x, nI (j + 1), d) := fun x hx =>
      hk (x, nI (j + 1), d) ⟨rfl, j + 1, by omega, rfl, fun q2 => absurd (q.symm.trans q2) (by decide), fun _ => hx.symm⟩ (by simp only [z_nn (show j + 1 < 2147483648 by omega), z_nn (show j < 2147483648 by omega)]; omega)
    refine ⟨fun q => nx _ ?_, fun q => nx _ ?_⟩
    · rw [show (0 : Int32) = nI 0 from rfl, z_add]
      show _ = nI (_ + (if rsL S j = true then 1 else 0))
      rw [if_neg (by rw [q]; decide)]
    · rw [z_a1]
      rw [Bool.not_eq_false] at q
      show _ = nI (_ + (if rsL S j = true then 1 else 0))
      rw [if_pos q]
theorem c_count (I : Inv σ E d) (hv : v5 v4 L) (k : ∀ E' d', Inv σ E' d' → kc E' d') : lw_3026 E (σ 0) (σ 87) (σ 115) v4 xs L kc d := by
  have h := I.1
  have c := cW_I I
  have g := cW_gW c
  refine ⟨eo_0 h, eo_87 h, eo_115 h, hv.1, ?_⟩
  generalize xs (v4 + 1).toNatClampNeg = p
  have thr : ∀ d2, Ch σ scr d d2 → Ch σ scr d (pI d2 (σ 87) 0 0) := fun d2 c2 => Ch_tr c2 (Ch_w (ch_thr h) (by decide))
  have low : ∀ m : Nat, m ≤ 7 → p = nI m → ∀ x, x = gA d (σ 88) m → vp_in (v4 + 1) L ∧ w_X11_count E (σ 87) p d (fun r_6 d_5 => ((x = r_6 → kc E d_5) ∧ (¬ x = r_6 → False))) := fun m hm e x hx => ⟨hv.1, by
    have b : bw p 0 7 := by rw [e]; exact ⟨z_pos (by omega), by rw [show (7 : Int32) = nI 7 from rfl, z_lt (by decide) (by omega)]; omega⟩
    simp only [w_X11_count, x_87_1 h, en_88 h]
    refine ⟨eo_87 h, ri1 b ⟨fun q => absurd q (by decide), fun _ => ?_⟩⟩
    rw [e, z_nn (by omega)]
    exact ⟨vpw (by omega), fun _ => k _ _ (Inv_ch I (thr d Ch_rf)), fun q => q hx⟩⟩
  have high : ∀ (d2 : Dy) (x : Int32), Ch σ scr d d2 → gA d2 (σ 88) = gA d (σ 88) → (p = 8 ∨ p = 9) → (p = 8 → x = nI (cntN (rsL (repS (gA d (σ 88)) (cnt (gA d (σ 88)) 0) (cnt (gA d (σ 88)) 1) (cnt (gA d (σ 88)) 3) (gA d (σ 88) 3))) (cnt (gA d (σ 88)) 0)))
      → (p = 9 → x = nI (cntN (fun i => decide (rsH (repS (gA d (σ 88)) (cnt (gA d (σ 88)) 0) (cnt (gA d (σ 88)) 1) (cnt (gA d (σ 88)) 3) (gA d (σ 88) 3)) i ≠ none)) (cnt (gA d (σ 88)) 1))) → vp_in (v4 + 1) L ∧ w_X11_count E (σ 87) p d2 (fun r_6 d_5 => ((x = r_6 → kc E d_5) ∧ (¬ x = r_6 → False))) := fun d2 x c2 e2 hp h8 h9 => ⟨hv.1, by
    have nb : ¬ bw p 0 7 := by rcases hp with rfl | rfl <;> exact fun q => q.2 (by decide)
    have b : bw p 8 9 := by rcases hp with rfl | rfl <;> exact ⟨by decide, by decide⟩
    obtain ⟨t1, t2, t3⟩ := g.2.1.2.1
    have eW2 : gA (pI d2 (σ 87) 0 0) (σ 88) = gA d (σ 88) := e2
    have g' : gW σ (pI d2 (σ 87) 0 0) (gA d (σ 88)) (cnt (gA d (σ 88)) 0) (cnt (gA d (σ 88)) 1) := ⟨eW2, g.2⟩
    refine ⟨eo_87 h, ri0 nb ⟨fun _ => ri1 b ⟨fun _ => ?_, fun q => absurd q (by decide)⟩, fun q => absurd rfl q⟩⟩
    simp only [w_X11_goesToday, x_87_1 h, en_88 h, eW2, show (3 : Int32).toNatClampNeg = 3 from rfl]
    refine ⟨eo_87 h, vpi (k := 3) (by decide) (by decide), vpi (k := 3) (by decide) (by decide), ?_⟩
    have go := r_goes h g' (kn := gA d (σ 88) 3) (Y := cnt (gA d (σ 88)) 3) (K0 := fun d_9 => ∃ n_29, l_X11_count_43 E (σ 87) p (fun r_6 d_5 => ((x = r_6 → kc E d_5) ∧ (¬ x = r_6 → False))) n_29 0 0 d_9) (by omega) t3 (fun d3 c3 s3 R3 => by
      have fin : kc E d3 := k _ _ (Inv_ch I (Ch_tr (thr d2 c2) (Ch_w c3 (by decide))))
      exact r_count43 h (gW_ch g' c3 (by decide)) R3 (rep_ok g.2.1) (fun q => ⟨fun _ => fin, fun q2 => q2 (h8 q)⟩) (fun q => ⟨fun _ => fin, fun q2 => q2 (h9 q)⟩) hp)
    rw [← t1] at go
    exact go⟩
  have today : gI d (σ 1) 0 = gA d (σ 88) 3 := td_3 I
  have nB : 1 ∉ cL 50 := by decide
  simp only [w_X10_count, x_0_0 h, x_0_5 h, x_1_1 h, x_1_2 h, x_1_3 h, x_1_4 h, x_1_7 h, x_1_8 h, x_1_9 h]
  refine ⟨eo_0 h, fun q => ?_, fun q => ?_, fun q => ?_, fun q => ?_, fun q => ?_, fun q => ?_, fun q => ?_, fun q => ?_, fun q => ?_, fun q => ?_, fun q0 q1 q2 q3 q4 q5 q6 q7 q8 q9 => ?_⟩
  · exact T_size (te_2 h) (td_2 I) (low 0 (by decide) q _ (wc_0 I).1.symm)
  · exact T_size (te_4 h) (td_4 I) (low 1 (by decide) q _ (wc_1 I).1.symm)
  · exact T_size (te_6 h) (td_6 I) (low 2 (by decide) q _ (wc_2 I).1.symm)
  · exact low 3 (by decide) q _ today
  · exact T_size (te_8 h) (td_8 I) (low 4 (by decide) q _ (wc_4 I).1.symm)
  · exact T_size (te_14 h) (td_14 I) (low 5 (by decide) q _ (wc_5 I).1.symm)
  · exact T_size (te_16 h) (td_16 I) (low 6 (by decide) q _ (wc_6 I).1.symm)
  · exact T_size (te_18 h) (td_18 I) (low 7 (by decide) q _ (wc_7 I).1.symm)
  all_goals
    try
      obtain ⟨t1, t2, t3⟩ := g.2.1.2.1
      rw [today]
      refine k_begin c rb50 (fun d1 c1 s1 s3 C1 => ?_)
      have w1 := cW_ch c rb50 c1
      rw [Ch_I c1 (by decide) nB, today]
      have gt : ∀ K0 : Dy → Prop, w_X3_goTo E (σ 50) (nI (cnt (gA d (σ 88)) 3)) d1 K0 → w_X3_goTo E (σ 50) (gA d (σ 88) 3) d1 K0 := fun K0 hh => by rw [t1]; exact hh
      refine gt _ (k_goTo' w1 rb50 (by omega) t3 s1 s3 C1 (fun d2 c2 y2 s2 => ?_))
      have w2 := cW_ch w1 rb50 c2
      have cc : Ch σ scr d d2 := Ch_w (Ch_tr c1 c2) (cL_scr rb50)
      obtain ⟨-, -, -, -, -, C2⟩ := s2
  · exact k_livingMany w2 rb50 C2 (high d2 _ cc w2.2.1 (Or.inl q) (fun _ => rfl) (fun q2 => absurd (q.symm.trans q2) (by decide)))
  · exact k_heldMany w2 rb50 C2 (rep_ok g.2.1) (high d2 _ cc w2.2.1 (Or.inr q) (fun q2 => absurd (q.symm.trans q2) (by decide)) (fun _ => rfl))
  · refine ⟨hv.1, eo_87 h, ri0 (fun hb => ?_) ⟨fun _ => ri0 (fun hb => ?_) ⟨fun q => absurd rfl q, fun _ => ⟨fun _ => k _ _ (Inv_ch I (thr d Ch_rf)), fun q => q rfl⟩⟩, fun q => absurd rfl q⟩⟩
    · obtain ⟨m, -, hm, em⟩ := bw_n (a := 0) (b := 7) hb (by decide) (by decide)
      have h7 : m = 0 ∨ m = 1 ∨ m = 2 ∨ m = 3 ∨ m = 4 ∨ m = 5 ∨ m = 6 ∨ m = 7 := by omega
      rcases h7 with rfl | rfl | rfl | rfl | rfl | rfl | rfl | rfl
      · exact q0 em
      · exact q1 em
      · exact q2 em
      · exact q3 em
      · exact q4 em
      · exact q5 em
      · exact q6 em
      · exact q7 em
    · obtain ⟨m, hm0, hm, em⟩ := bw_n (a := 8) (b := 9) hb (by decide) (by decide)
      have h7 : m = 8 ∨ m = 9 := by omega
      rcases h7 with rfl | rfl
      · exact q8 em
      · exact q9 em
end
