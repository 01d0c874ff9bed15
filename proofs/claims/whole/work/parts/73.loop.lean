/-! loops: an invariant and a measure -/
theorem loopG {S : Type} {l : Nat → S → Prop} {b : (S → Prop) → S → Prop} (hl : ∀ j s, l (j + 1) s = b (l j) s) {μ : S → Nat} {P : S → Prop} (st : ∀ (kk : S → Prop) s, P s → (∀ s', P s' → μ s' < μ s → kk s') → b kk s) :
    ∀ j s, P s → μ s ≤ j → l (j + 1) s := by
  intro j
  induction j with
  | zero => intro s hP hm; rw [hl]; exact st _ s hP (fun s' _ h => by omega)
  | succ j ih => intro s hP hm; rw [hl]; exact st _ s hP (fun s' h1 h2 => ih s' h1 (by omega))
theorem z_nne {k n : Nat} (hk : k < n) (hn : n < 2147483648) : (nI n ≤ nI k) = False := eq_false (by rw [z_le hn (by omega)]; omega)
theorem z_nnt {n : Nat} : (nI n ≤ nI n) = True := eq_true (Int32.le_refl _)
section
variable {σ : Nat → Nat} {E : En} {d d' : Dy} {kc : En → Dy → Prop} {v4 : Int32} {xs : Nat → Int32} {L : Nat}
theorem p_waits (I : Inv σ E d) (p y : Int32) (k : ∀ E' d', Inv σ E' d' → kc E' d') {K : Int32 → Dy → Prop} (hK : ∀ v d2, w_X11_waits E (σ 87) p y d2 (fun r d => cmpO σ E kc v r d) → K v d2) : w_L_waits E (σ 0) p y (σ 115) d K := by
  have h := I.1
  have td := td_8 I
  have tdp := td_2 I
  have wc := wc_4 I
  have wcp := wc_0 I
  have w3 := td_3 I
  have tv : ∀ r, r < cnt (gA d (σ 88)) 4 → gA d (σ 9) (r * 3 + 0) = gA d (σ 88) (360 + 3 * r) := fun r hr => tv_8 I hr (c := 0) (by decide)
  generalize hn : cnt (gA d (σ 88)) 4 = n at td wc tv
  generalize hnp : cnt (gA d (σ 88)) 0 = np at tdp wcp
  have ht := tdp.2.2.1
  have t1 := td.2.1
  have t3 := td.2.2.1
  have hn10 := td.2.2.2
  have hnpb := tdp.2.2.2
  /- the reference's look at those who wait -/
  have had : ∀ (d2 : Dy) (K2 : Int32 → Dy → Prop), gA d2 (σ 88) = gA d (σ 88) → (w_X11_throwsIf E (σ 87) (if ∃ r, r < n ∧ gA d (σ 88) (360 + 3 * r) = p then 1 else 0) 2 d2 (fun r_16 d_15 => ((¬ r_16 = 0 → K2 0 d_15) ∧ (r_16 = 0 → vp_in 4 4851 ∧ ((¬ (gA d_15 (σ 88) 4) = 10 → b_X11_waits_110 E (σ 87) p y K2 (σ 87) 0 d_15) ∧ ((gA d_15 (σ 88) 4) = 10 → b_X11_waits_110 E (σ 87) p y K2 (σ 87) 1 d_15)))))) →
      ∃ N, l_X11_waits_40 E (σ 87) p y K2 N 0 0 d2 := by
    intro d2 K2 e2 fin
    refine ⟨n + 1, loopG (S := Int32 × Int32 × Dy) (l := fun N s => l_X11_waits_40 E (σ 87) p y K2 N s.1 s.2.1 s.2.2) (b := fun kk s => b_X11_waits_40 E (σ 87) p y K2 (fun a b c => kk (a, b, c)) s.1 s.2.1 s.2.2) (fun _ _ => rfl)
      (μ := fun s => n - s.2.1.toNatClampNeg) (P := fun s => d2 = s.2.2 ∧ ∃ i, i ≤ n ∧ nI i = s.2.1 ∧ s.1 = if ∃ r, r < i ∧ gA d (σ 88) (360 + 3 * r) = p then 1 else 0) ?_ n (0, 0, d2) ⟨rfl, 0, by omega, rfl, by simp⟩ (by simp)⟩
    rintro kk ⟨a, v, d3⟩ ⟨rfl, i, hi, rfl, rfl⟩ hk
    simp only [b_X11_waits_40, x_87_1 h, en_88 h, qn_4, e2, wc.1]
    refine ⟨vpi (k := 4) (by decide) (by decide), fun hc => ?_, fun hc => ?_⟩
    · rw [z_le (by omega) (by omega)] at hc
      have : i = n := by omega
      subst this
      exact fin
    · rw [z_le (by omega) (by omega)] at hc
      have e1 : (360 : Int32) + 3 * nI i = nI (360 + 3 * i) := by rw [show (3 : Int32) = nI 3 from rfl, z_mul]; exact z_add 360 _
      have nx : ∀ x : Int32, x = (if ∃ r, r < i + 1 ∧ gA d (σ 88) (360 + 3 * r) = p then 1 else 0) → kk (x, nI i + 1, d2) := fun x hx => by
        rw [z_a1]; exact hk (x, nI (i + 1), d2) ⟨rfl, i + 1, by omega, rfl, hx⟩ (by simp only [z_nn (show i + 1 < 2147483648 by omega), z_nn (show i < 2147483648 by omega)]; omega)
      by_cases hex : ∃ r, r < i ∧ gA d (σ 88) (360 + 3 * r) = p
      · rw [if_pos hex]
        refine ⟨fun _ => nx 1 (by rw [if_pos]; obtain ⟨r, h1, h2⟩ := hex; exact ⟨r, by omega, h2⟩), fun q => absurd q (by decide)⟩
      · rw [if_neg hex]
        refine ⟨fun q => absurd rfl q, fun _ => ⟨by rw [e1]; exact vpi (by omega) (by decide), fun hq => ?_, fun hq => ?_⟩⟩
        · rw [e1, z_nn (by omega)] at hq
          refine nx 0 ?_
          rw [if_neg]
          rintro ⟨r, h1, h2⟩
          by_cases hr : r = i
          · subst hr; exact hq h2
          · exact hex ⟨r, by omega, h2⟩
        · rw [e1, z_nn (by omega)] at hq
          refine nx 1 ?_
          rw [if_pos ⟨i, by omega, hq⟩]
  by_cases b1 : lx p np
  · by_cases b2 : bw y 1900 2099
    · refine ⟨eo_0 h, eo_115 h, eo_0 h, np1 h tdp b1 (ny1 b2 ?_)⟩
      refine ⟨n + 1, loopG (S := Int32 × Dy) (l := fun N s => l_X10_waits_11 E (σ 0) p y _ _ N s.1 s.2) (b := fun kk s => b_X10_waits_11 E (σ 0) p y _ _ (fun a b => kk (a, b)) s.1 s.2) (fun _ _ => rfl)
        (μ := fun s => n - s.1.toNatClampNeg) (P := fun s => d = s.2 ∧ ∃ i, i ≤ n ∧ nI i = s.1 ∧ ∀ r, r < i → ¬ gA d (σ 88) (360 + 3 * r) = p) ?_ n (0, d) ⟨rfl, 0, by omega, rfl, by simp⟩ (by simp)⟩
      rintro kk ⟨v, d3⟩ ⟨rfl, i, hi, rfl, hno⟩ hk
      simp only [b_X10_waits_11, x_0_0 h, x_1_4 h]
      refine T_size (te_8 h) td ⟨fun hc => ?_, fun hc => ?_⟩
      · rw [z_le (by omega) (by omega)] at hc
        have : i = n := by omega
        subst this
        have hno2 : ¬ ∃ r, r < i ∧ gA d (σ 88) (360 + 3 * r) = p := fun ⟨r, h1, h2⟩ => hno r h1 h2
        rw [if_neg hno2] at had
        rcases Nat.lt_or_eq_of_le wc.2 with hm | hm
        · have td2 : TD (pI (sA d (σ 9) (opn (gA d (σ 9)) 3 i i)) (σ 8) 3 (nI (i + 1))) (σ 8) 3 10 (i + 1) := TD_pI3 (TD_sA td _ _) hm
          have e0 : gI (pA (pA (pI (sA d (σ 9) (opn (gA d (σ 9)) 3 i i)) (σ 8) 3 (nI (i + 1))) (σ 9) (i * 3 + 0) p) (σ 9) (i * 3 + 1) y) (σ 1) 0 = gA d (σ 88) 3 := by
            simp only [gA_pA_x, gA_pI_x, gA_pJ_x, gA_sA_x, gA_pQ_x, gI_pA_x, gI_pI_x, gI_pJ_x, gI_sA_x, gI_pQ_x, gJ_pA_x, gJ_pI_x, gJ_pJ_x, gJ_sA_x, gJ_pQ_x, gQ_pA_x, gQ_pI_x, gQ_pJ_x, gQ_sA_x, gQ_pQ_x, gA_sJ_x, gI_sJ_x, gJ_sJ_x, gQ_sJ_x, sg h, Nat.reduceLT, Nat.reduceEqDiff, if_false]; exact w3
          refine nr1 (te_8 h) td (by decide) hm (T_open (te_8 h) td hm (T_set (r := i) (c := 0) (te_8 h) td2 (by omega) (by decide) (T_set (r := i) (c := 1) (te_8 h) (TD_pA td2) (by omega) (by decide) ?_)))
          rw [e0]
          refine T_set (r := i) (c := 2) (te_8 h) (TD_pA (TD_pA td2)) (by omega) (by decide) (T_size (te_8 h) (TD_pA (TD_pA (TD_pA td2))) ⟨v0_115 h, hK _ _ ?_⟩)
          have e88 := row3_88 (d := d) (n := i) (x := p) (y := y) (z := gA d (σ 88) 3) h (i := 3) (by decide)
          have hcn : ∀ f, cnt (appW (gA d (σ 88)) 3 i f) 0 = np := fun f => by rw [← hnp]; unfold cnt; rw [app_lo (by decide) (by decide) (by decide)]
          have key := app3_end (rb := nI (i + 1)) I k (i := 3) (x := p) (y := y) (z := gA d (σ 88) 3) (x' := p) (y' := y) (z' := gA d (σ 88) 3) (by decide) (by decide) rfl (by decide) hm hn (fun c hc => ⟨hc, rfl⟩) (by
            rw [hcn]; exact ⟨b1, b2⟩)
          have g4 : gA (row3 d (σ 8) (σ 9) i p y (gA d (σ 88) 3)) (σ 88) 4 = nI i := (congrFun e88 4).trans wc.1
          have g0 : gA (row3 d (σ 8) (σ 9) i p y (gA d (σ 88) 3)) (σ 88) 0 = nI np := (congrFun e88 0).trans wcp.1
          have g3 : gA (row3 d (σ 8) (σ 9) i p y (gA d (σ 88) 3)) (σ 88) 3 = gA d (σ 88) 3 := congrFun e88 3
          have n10 : (nI i = 10) = False := eq_false (nlit (m := 10) hm (by decide))
          show w_X11_waits E (σ 87) p y (pJ (row3 d (σ 8) (σ 9) i p y (gA d (σ 88) 3)) (σ 115) 0 (nI (i + 1)).toInt64) _
          refine ⟨eo_87 h, rpn1 h g0 (by omega) b1 ⟨fun q => absurd rfl q, fun _ => ry1 b2 ⟨fun _ => ⟨eo_87 h, rt0 h ⟨fun _ => had _ _ e88 ?_, fun q => absurd rfl q⟩⟩, fun q => absurd rfl q⟩⟩⟩
          refine rt0 h ⟨fun q => absurd rfl q, fun _ => ⟨vpi (k := 4) (by decide) (by decide), fun _ => ?_, fun q => absurd (g4.symm.trans q) (nlit (m := 10) hm (by decide))⟩⟩
          simp only [b_X11_waits_110, w_X11_in, w_X11_none, w_X11_noPerson, w_X11_noHut, w_X11_noYear, w_X11_noDay, w_X11_noTimes, w_X11_throwsIf, w_X11_persons, w_X11_huts, eo_87 h, x_87_1 h, en_88 h, x_87_2 h, en_89 h, x_87_4 h, en_90 h, x_87_11 h, en_91 h, x_87_14 h, en_92 h, x_87_15 h, en_93 h, x_87_16 h, en_94 h, x_87_18 h, en_95 h, x_87_19 h, en_96 h, x_87_20 h, en_97 h, x_87_21 h, en_98 h, x_87_22 h, en_99 h, x_87_23 h, en_100 h, x_87_24 h, en_101 h, x_87_25 h, en_102 h, x_87_26 h, en_103 h, x_87_27 h, en_104 h, x_87_28 h, en_105 h, x_87_30 h, en_106 h, x_87_31 h, en_107 h, x_87_32 h, en_108 h, x_87_34 h, en_109 h, x_87_35 h, en_110 h, x_87_36 h, en_111 h, x_87_37 h, en_112 h, x_87_38 h, en_113 h, x_87_39 h, en_114 h, qn_0, qv_0, qn_1, qv_1, qn_2, qv_2, qn_3, qv_3, qn_4, qv_4, qn_5, qv_5, qn_6, qv_6, qn_7, qv_7, qn_8, qv_8, qn_9, qv_9, qn_10, qv_10, qn_11, qv_11, qn_12, qv_12, qn_13, qv_13, eo_115 h, not_true_eq_false, not_false_eq_true, true_implies, false_implies, implies_true, forall_const, and_true, true_and, and_false, false_and, or_true, true_or, or_false, false_or, if_true, if_false, ite_true, ite_false, z10, z20, z30, z12, z13, z23, eq_self, sx_0_1, sx_0_2, sx_0_3, sx_1_0, sx_1_2, sx_1_3, sx_2_0, sx_2_1, sx_2_3, sx_3_0, sx_3_1, sx_3_2, gA_pI_x, gA_pJ_x, g3]
          exact r_puts h (c := 4) (o := 360) (by decide) (by decide) g4 (by omega) key
        · refine nr0 (te_8 h) td (by decide) hm (Or.inr (Or.inr ⟨rfl, hK _ _ ?_⟩))
          refine ⟨eo_87 h, rpn1 h wcp.1 (by omega) b1 ⟨fun q => absurd rfl q, fun _ => ry1 b2 ⟨fun _ => ⟨eo_87 h, rt0 h ⟨fun _ => had _ _ rfl ?_, fun q => absurd rfl q⟩⟩, fun q => absurd rfl q⟩⟩⟩
          refine rt0 h ⟨fun q => absurd rfl q, fun _ => ⟨vpi (k := 4) (by decide) (by decide), fun q => absurd (wc.1.trans (by rw [hm]; rfl)) q, fun _ => ⟨eo_87 h, rt1 h ⟨fun q => absurd q (by decide), fun _ => fail_O I (by decide) k⟩⟩⟩⟩
      · rw [z_le (by omega) (by omega)] at hc
        refine T_get (c := 0) (te_8 h) td (by omega) (by decide) ⟨fun hq => ⟨fun q => absurd rfl q, fun _ => Or.inr (Or.inl ⟨rfl, hK _ _ ?_⟩)⟩, fun hq => ?_⟩
        · rw [tv i (by omega)] at hq
          have hyes : ∃ r, r < n ∧ gA d (σ 88) (360 + 3 * r) = p := ⟨i, by omega, hq⟩
          rw [if_pos hyes] at had
          refine ⟨eo_87 h, rpn1 h wcp.1 (by omega) b1 ⟨fun q => absurd rfl q, fun _ => ry1 b2 ⟨fun _ => ⟨eo_87 h, rt0 h ⟨fun _ => had _ _ rfl ?_, fun q => absurd rfl q⟩⟩, fun q => absurd rfl q⟩⟩⟩
          exact rt1 h ⟨fun _ => fail_O I (by decide) k, fun q => absurd q (by decide)⟩
        · rw [tv i (by omega)] at hq
          rw [z_a1]
          refine hk (nI (i + 1), d) ⟨rfl, i + 1, by omega, rfl, fun r hr => ?_⟩ (by simp only [z_nn (show i + 1 < 2147483648 by omega), z_nn (show i < 2147483648 by omega)]; omega)
          by_cases hri : r = i
          · subst hri; exact hq
          · exact hno r (by omega)
    · exact ⟨eo_0 h, eo_115 h, eo_0 h, np1 h tdp b1 (ny0 b2 (Or.inl ⟨rfl, hK _ _ ⟨eo_87 h, rpn1 h wcp.1 (by omega) b1 ⟨fun q => absurd rfl q, fun _ => ry0 b2 ⟨fun q => absurd q (by decide), fun _ => ⟨eo_87 h, eo_87 h, rt1 h ⟨fun q => absurd q (by decide), fun _ => fail_O I (by decide) k⟩⟩⟩⟩⟩⟩))⟩
  · exact ⟨eo_0 h, eo_115 h, eo_0 h, np0 h tdp b1 (Or.inl ⟨rfl, hK _ _ ⟨eo_87 h, rpn0 h wcp.1 (by omega) b1 ⟨fun _ => ⟨eo_87 h, eo_87 h, rt1 h ⟨fun q => absurd q (by decide), fun _ => fail_O I (by decide) k⟩⟩, fun q => absurd q (by decide)⟩⟩⟩)⟩
theorem c_waits (I : Inv σ E d) (hv : v5 v4 L) (k : ∀ E' d', Inv σ E' d' → kc E' d') : lw_1359 E (σ 0) (σ 87) (σ 115) v4 xs L kc d :=
  ⟨eo_0 I.1, eo_87 I.1, eo_115 I.1, hv.1, hv.2.1, p_waits I _ _ k (fun v d2 hk => ⟨hv.1, hv.2.1, hk⟩)⟩
end
