theorem zl_0_1 : ((0 : Int32) = 1) = False := by decide
theorem zl_0_2 : ((0 : Int32) = 2) = False := by decide
theorem zl_0_3 : ((0 : Int32) = 3) = False := by decide
theorem zl_0_4 : ((0 : Int32) = 4) = False := by decide
theorem zl_0_5 : ((0 : Int32) = 5) = False := by decide
theorem zl_0_6 : ((0 : Int32) = 6) = False := by decide
theorem zl_0_7 : ((0 : Int32) = 7) = False := by decide
theorem zl_1_0 : ((1 : Int32) = 0) = False := by decide
theorem zl_1_2 : ((1 : Int32) = 2) = False := by decide
theorem zl_1_3 : ((1 : Int32) = 3) = False := by decide
theorem zl_1_4 : ((1 : Int32) = 4) = False := by decide
theorem zl_1_5 : ((1 : Int32) = 5) = False := by decide
theorem zl_1_6 : ((1 : Int32) = 6) = False := by decide
theorem zl_1_7 : ((1 : Int32) = 7) = False := by decide
theorem zl_2_0 : ((2 : Int32) = 0) = False := by decide
theorem zl_2_1 : ((2 : Int32) = 1) = False := by decide
theorem zl_2_3 : ((2 : Int32) = 3) = False := by decide
theorem zl_2_4 : ((2 : Int32) = 4) = False := by decide
theorem zl_2_5 : ((2 : Int32) = 5) = False := by decide
theorem zl_2_6 : ((2 : Int32) = 6) = False := by decide
theorem zl_2_7 : ((2 : Int32) = 7) = False := by decide
theorem zl_3_0 : ((3 : Int32) = 0) = False := by decide
theorem zl_3_1 : ((3 : Int32) = 1) = False := by decide
theorem zl_3_2 : ((3 : Int32) = 2) = False := by decide
theorem zl_3_4 : ((3 : Int32) = 4) = False := by decide
theorem zl_3_5 : ((3 : Int32) = 5) = False := by decide
theorem zl_3_6 : ((3 : Int32) = 6) = False := by decide
theorem zl_3_7 : ((3 : Int32) = 7) = False := by decide
theorem zl_4_0 : ((4 : Int32) = 0) = False := by decide
theorem zl_4_1 : ((4 : Int32) = 1) = False := by decide
theorem zl_4_2 : ((4 : Int32) = 2) = False := by decide
theorem zl_4_3 : ((4 : Int32) = 3) = False := by decide
theorem zl_4_5 : ((4 : Int32) = 5) = False := by decide
theorem zl_4_6 : ((4 : Int32) = 6) = False := by decide
theorem zl_4_7 : ((4 : Int32) = 7) = False := by decide
theorem zl_5_0 : ((5 : Int32) = 0) = False := by decide
theorem zl_5_1 : ((5 : Int32) = 1) = False := by decide
theorem zl_5_2 : ((5 : Int32) = 2) = False := by decide
theorem zl_5_3 : ((5 : Int32) = 3) = False := by decide
theorem zl_5_4 : ((5 : Int32) = 4) = False := by decide
theorem zl_5_6 : ((5 : Int32) = 6) = False := by decide
theorem zl_5_7 : ((5 : Int32) = 7) = False := by decide
theorem zl_6_0 : ((6 : Int32) = 0) = False := by decide
theorem zl_6_1 : ((6 : Int32) = 1) = False := by decide
theorem zl_6_2 : ((6 : Int32) = 2) = False := by decide
theorem zl_6_3 : ((6 : Int32) = 3) = False := by decide
theorem zl_6_4 : ((6 : Int32) = 4) = False := by decide
theorem zl_6_5 : ((6 : Int32) = 5) = False := by decide
theorem zl_6_7 : ((6 : Int32) = 7) = False := by decide
theorem zl_7_0 : ((7 : Int32) = 0) = False := by decide
theorem zl_7_1 : ((7 : Int32) = 1) = False := by decide
theorem zl_7_2 : ((7 : Int32) = 2) = False := by decide
theorem zl_7_3 : ((7 : Int32) = 3) = False := by decide
theorem zl_7_4 : ((7 : Int32) = 4) = False := by decide
theorem zl_7_5 : ((7 : Int32) = 5) = False := by decide
theorem zl_7_6 : ((7 : Int32) = 6) = False := by decide
section
variable {σ : Nat → Nat} {E : En} {d d' : Dy} {kc : En → Dy → Prop} {v4 : Int32} {xs : Nat → Int32} {L : Nat}
set_option maxHeartbeats 1000000 in
theorem p_event (I : Inv σ E d) (y kd a b : Int32) (k : ∀ E' d', Inv σ E' d' → kc E' d') {K : Int32 → Dy → Prop} (hK : ∀ v d2, w_X11_event E (σ 87) y kd a b d2 (fun r d => cmpO σ E kc v r d) → K v d2) : w_L_event E (σ 0) y kd a b (σ 115) d K := by
  have h := I.1
  have tdh := td_4 I
  have tdp := td_2 I
  have wc := wc_2 I
  have wch := wc_1 I
  have wcp := wc_0 I
  generalize hnh : cnt (gA d (σ 88)) 1 = nh at tdh wch
  generalize hnp : cnt (gA d (σ 88)) 0 = np at tdp wcp
  generalize hn : cnt (gA d (σ 88)) 2 = n at wc
  have hnpb := tdp.2.2.2
  have hnhb := tdh.2.2.2
  by_cases b1 : bw y 1900 2099
  · refine ⟨eo_0 h, eo_115 h, eo_0 h, ny1 b1 ?_⟩
    have f1 : ∀ d2 : Dy, d2 = d → b_X11_event_147 E (σ 87) y kd a b (fun r d => cmpO σ E kc 1 r d) 0 1 (pI d2 (σ 87) 0 0) := fun d2 e => by
      subst e; exact rt1 h ⟨fun _ => fail_O I (by decide) k, fun q => absurd q (by decide)⟩
    have f1' : b_X11_event_147 E (σ 87) y kd a b (fun r d => cmpO σ E kc 1 r d) 1 1 (pI d (σ 87) 0 0) := rt1 h ⟨fun _ => fail_O I (by decide) k, fun q => absurd q (by decide)⟩
    have f2 : b_X11_event_186 E (σ 87) y kd a b (fun r d => cmpO σ E kc 2 r d) (σ 87) (pI d (σ 87) 0 0) := ⟨eo_87 h, eo_87 h, rt1 h ⟨fun _ => fail_O I (by decide) k, fun q => absurd q (by decide)⟩⟩
    have ry : ∀ {K1 d2}, ((kd = 1 → b_X11_event_34 E (σ 87) y kd a b K1 (pI d2 (σ 87) 0 0)) ∧ (¬ kd = 1 → ((kd = 2 → b_X11_event_34 E (σ 87) y kd a b K1 (pI d2 (σ 87) 0 0)) ∧ (¬ kd = 2 → ((¬ kd = 3 → b_X11_event_39 E (σ 87) y kd a b K1 0 (pI d2 (σ 87) 0 0)) ∧ (kd = 3 → b_X11_event_34 E (σ 87) y kd a b K1 (pI d2 (σ 87) 0 0))))))) → w_X11_event E (σ 87) y kd a b d2 K1 := fun q => ⟨eo_87 h, ry1 b1 (rt0 h ⟨fun _ => q, fun q => absurd rfl q⟩)⟩
    have fin : okR 2 np nh (vE y (gA d (σ 88) 3) kd a b 0) → (∀ d2 K2, gA d2 (σ 88) = gA d (σ 88) → b_X11_event_190 E (σ 87) y kd a b K2 (σ 87) (pI d2 (σ 87) 0 0) → w_X11_event E (σ 87) y kd a b d2 K2) →
        b_X10_event_125 E (σ 0) y kd a b (fun r_2 d_1 => vp_in 0 (eN E (σ 115)) ∧ K 0 (pJ d_1 (σ 115) ((0 : Int32)).toNatClampNeg r_2.toInt64)) (fun Ex d_3 => (Ex = "java/lang/IndexOutOfBoundsException" ∧ K 1 d_3) ∨ (Ex = "java/lang/IllegalArgumentException" ∧ K 2 d_3) ∨ (Ex = "java/lang/UnsupportedOperationException" ∧ K 3 d_3)) d := by
      intro ok rg
      rcases Nat.lt_or_eq_of_le wc.2 with hm | hm
      · refine k_addEvent I hn hm ⟨v0_115 h, hK _ _ (rg _ _ ?_ ?_)⟩
        · simp only [rowE, gA_pA_x, gA_pI_x, gA_pJ_x, gA_sA_x, gA_pQ_x, gI_pA_x, gI_pI_x, gI_pJ_x, gI_sA_x, gI_pQ_x, gJ_pA_x, gJ_pI_x, gJ_pJ_x, gJ_sA_x, gJ_pQ_x, gQ_pA_x, gQ_pI_x, gQ_pJ_x, gQ_sA_x, gQ_pQ_x, gA_sJ_x, gI_sJ_x, gJ_sJ_x, gQ_sJ_x, sg h, Nat.reduceLT, Nat.reduceEqDiff, if_false]
        · generalize hrr : yp (gA d (σ 7)) 6 y n = rr
          have e88 : gA (rowE d (σ 6) (σ 7) n rr y (gA d (σ 88) 3) kd a b 0) (σ 88) = gA d (σ 88) := by simp only [rowE, gA_pA_x, gA_pI_x, gA_pJ_x, gA_sA_x, gA_pQ_x, gI_pA_x, gI_pI_x, gI_pJ_x, gI_sA_x, gI_pQ_x, gJ_pA_x, gJ_pI_x, gJ_pJ_x, gJ_sA_x, gJ_pQ_x, gQ_pA_x, gQ_pI_x, gQ_pJ_x, gQ_sA_x, gQ_pQ_x, gA_sJ_x, gI_sJ_x, gJ_sJ_x, gQ_sJ_x, sg h, Nat.reduceLT, Nat.reduceEqDiff, if_false]
          have g2 : gA (rowE d (σ 6) (σ 7) n rr y (gA d (σ 88) 3) kd a b 0) (σ 88) 2 = nI n := (congrFun e88 2).trans wc.1
          have n40 : ¬ nI n = 40 := nlit (m := 40) hm (by decide)
          refine ⟨eo_87 h, eo_87 h, rt0 h ⟨fun q => absurd rfl q, fun _ => ?_⟩⟩
          simp only [x_87_1 h, en_88 h]
          refine ⟨vpi (k := 2) (by decide) (by decide), fun _ => ⟨eo_87 h, rt0 h ⟨fun _ => r_tells h g2 (congrFun e88 3) hm ?_, fun q => absurd rfl q⟩⟩, fun q => absurd (g2.symm.trans q) n40⟩
          refine tl_out (rb := nI (n + 1)) h ?_ (fun _ => ?_) (k _ _ ?_)
          · simp only [putE, gA_pA_x, gA_pI_x, gA_pJ_x, gA_sA_x, gA_pQ_x, gI_pA_x, gI_pI_x, gI_pJ_x, gI_sA_x, gI_pQ_x, gJ_pA_x, gJ_pI_x, gJ_pJ_x, gJ_sA_x, gJ_pQ_x, gQ_pA_x, gQ_pI_x, gQ_pJ_x, gQ_sA_x, gQ_pQ_x, gA_sJ_x, gI_sJ_x, gJ_sJ_x, gQ_sJ_x, if_true]
          · simp only [putE, gA_pA_x, gA_pI_x, gA_pJ_x, gA_sA_x, gA_pQ_x, gI_pA_x, gI_pI_x, gI_pJ_x, gI_sA_x, gI_pQ_x, gJ_pA_x, gJ_pI_x, gJ_pJ_x, gJ_sA_x, gJ_pQ_x, gQ_pA_x, gQ_pI_x, gQ_pJ_x, gQ_sA_x, gQ_pQ_x, gA_sJ_x, gI_sJ_x, gJ_sJ_x, gQ_sJ_x, if_true]; rfl
          · have := Inv_appE I (jv := (nI (n + 1)).toInt64) (y := y) (kd := kd) (p := a) (q := b) (pr := 0) hm hn (by rw [hnp, hnh]; exact ok)
            rw [hrr] at this; exact this
      · refine k_addEvent0 I (hn.trans hm) (Or.inr (Or.inr ⟨rfl, hK _ _ (rg _ _ rfl ?_)⟩))
        refine ⟨eo_87 h, eo_87 h, rt0 h ⟨fun q => absurd rfl q, fun _ => ?_⟩⟩
        simp only [x_87_1 h, en_88 h]
        exact ⟨vpi (k := 2) (by decide) (by decide), fun q => absurd (wc.1.trans (by rw [hm]; rfl)) q, fun _ => ⟨eo_87 h, rt1 h ⟨fun q => absurd q (by decide), fun _ => fail_O I (by decide) k⟩⟩⟩
    have by1 : bw y 1900 2099 := b1
    have w0 : bw 0 0 9999 := ⟨by decide, by decide⟩
    by_cases k0 : kd = 0
    · subst k0
      simp only [zl_0_1, zl_0_2, zl_0_3, zl_0_4, zl_0_5, zl_0_6, zl_0_7, zl_1_0, zl_1_2, zl_1_3, zl_1_4, zl_1_5, zl_1_6, zl_1_7, zl_2_0, zl_2_1, zl_2_3, zl_2_4, zl_2_5, zl_2_6, zl_2_7, zl_3_0, zl_3_1, zl_3_2, zl_3_4, zl_3_5, zl_3_6, zl_3_7, zl_4_0, zl_4_1, zl_4_2, zl_4_3, zl_4_5, zl_4_6, zl_4_7, zl_5_0, zl_5_1, zl_5_2, zl_5_3, zl_5_4, zl_5_6, zl_5_7, zl_6_0, zl_6_1, zl_6_2, zl_6_3, zl_6_4, zl_6_5, zl_6_7, zl_7_0, zl_7_1, zl_7_2, zl_7_3, zl_7_4, zl_7_5, zl_7_6, not_true_eq_false, not_false_eq_true, true_implies, false_implies, implies_true, forall_const, and_true, true_and, and_false, false_and, or_true, true_or, or_false, false_or, if_true, if_false, ite_true, ite_false, z10, z20, z30, z12, z13, z23, eq_self, sx_0_1, sx_0_2, sx_0_3, sx_1_0, sx_1_2, sx_1_3, sx_2_0, sx_2_1, sx_2_3, sx_3_0, sx_3_1, sx_3_2]
      simp only [zl_0_1, zl_0_2, zl_0_3, zl_0_4, zl_0_5, zl_0_6, zl_0_7, zl_1_0, zl_1_2, zl_1_3, zl_1_4, zl_1_5, zl_1_6, zl_1_7, zl_2_0, zl_2_1, zl_2_3, zl_2_4, zl_2_5, zl_2_6, zl_2_7, zl_3_0, zl_3_1, zl_3_2, zl_3_4, zl_3_5, zl_3_6, zl_3_7, zl_4_0, zl_4_1, zl_4_2, zl_4_3, zl_4_5, zl_4_6, zl_4_7, zl_5_0, zl_5_1, zl_5_2, zl_5_3, zl_5_4, zl_5_6, zl_5_7, zl_6_0, zl_6_1, zl_6_2, zl_6_3, zl_6_4, zl_6_5, zl_6_7, zl_7_0, zl_7_1, zl_7_2, zl_7_3, zl_7_4, zl_7_5, zl_7_6, not_true_eq_false, not_false_eq_true, true_implies, false_implies, implies_true, forall_const, and_true, true_and, and_false, false_and, or_true, true_or, or_false, false_or, if_true, if_false, ite_true, ite_false, z10, z20, z30, z12, z13, z23, eq_self, sx_0_1, sx_0_2, sx_0_3, sx_1_0, sx_1_2, sx_1_3, sx_2_0, sx_2_1, sx_2_3, sx_3_0, sx_3_1, sx_3_2] at ry
      by_cases ha : lx a np
      · refine np1 h tdp ha (fin ⟨by1, ⟨by show ¬ (0 : Int32) < 0; decide, by show ¬ (6 : Int32) < 0; decide⟩, w0, Or.inl ⟨Or.inl rfl, ha⟩, Or.inl rfl⟩ (fun d2 K2 e q => ry ?_))
        exact ⟨fun q => absurd rfl q, fun _ => rpn1 h ((congrFun e 0).trans wcp.1) (by omega) ha (rt0 h ⟨fun q => absurd rfl q, fun _ => ri1 ⟨by decide, by decide⟩ ⟨fun q => absurd q (by decide), fun _ => ⟨fun q => absurd q (by decide), fun _ => ⟨fun _ => q, fun q => absurd rfl q⟩⟩⟩⟩)⟩
      · exact np0 h tdp ha (Or.inl ⟨rfl, hK _ _ (ry ⟨fun q => absurd rfl q, fun _ => rpn0 h wcp.1 (by omega) ha (f1 d rfl)⟩)⟩)
    · by_cases k5 : kd = 5
      · subst k5
        simp only [zl_0_1, zl_0_2, zl_0_3, zl_0_4, zl_0_5, zl_0_6, zl_0_7, zl_1_0, zl_1_2, zl_1_3, zl_1_4, zl_1_5, zl_1_6, zl_1_7, zl_2_0, zl_2_1, zl_2_3, zl_2_4, zl_2_5, zl_2_6, zl_2_7, zl_3_0, zl_3_1, zl_3_2, zl_3_4, zl_3_5, zl_3_6, zl_3_7, zl_4_0, zl_4_1, zl_4_2, zl_4_3, zl_4_5, zl_4_6, zl_4_7, zl_5_0, zl_5_1, zl_5_2, zl_5_3, zl_5_4, zl_5_6, zl_5_7, zl_6_0, zl_6_1, zl_6_2, zl_6_3, zl_6_4, zl_6_5, zl_6_7, zl_7_0, zl_7_1, zl_7_2, zl_7_3, zl_7_4, zl_7_5, zl_7_6, not_true_eq_false, not_false_eq_true, true_implies, false_implies, implies_true, forall_const, and_true, true_and, and_false, false_and, or_true, true_or, or_false, false_or, if_true, if_false, ite_true, ite_false, z10, z20, z30, z12, z13, z23, eq_self, sx_0_1, sx_0_2, sx_0_3, sx_1_0, sx_1_2, sx_1_3, sx_2_0, sx_2_1, sx_2_3, sx_3_0, sx_3_1, sx_3_2]
        simp only [zl_0_1, zl_0_2, zl_0_3, zl_0_4, zl_0_5, zl_0_6, zl_0_7, zl_1_0, zl_1_2, zl_1_3, zl_1_4, zl_1_5, zl_1_6, zl_1_7, zl_2_0, zl_2_1, zl_2_3, zl_2_4, zl_2_5, zl_2_6, zl_2_7, zl_3_0, zl_3_1, zl_3_2, zl_3_4, zl_3_5, zl_3_6, zl_3_7, zl_4_0, zl_4_1, zl_4_2, zl_4_3, zl_4_5, zl_4_6, zl_4_7, zl_5_0, zl_5_1, zl_5_2, zl_5_3, zl_5_4, zl_5_6, zl_5_7, zl_6_0, zl_6_1, zl_6_2, zl_6_3, zl_6_4, zl_6_5, zl_6_7, zl_7_0, zl_7_1, zl_7_2, zl_7_3, zl_7_4, zl_7_5, zl_7_6, not_true_eq_false, not_false_eq_true, true_implies, false_implies, implies_true, forall_const, and_true, true_and, and_false, false_and, or_true, true_or, or_false, false_or, if_true, if_false, ite_true, ite_false, z10, z20, z30, z12, z13, z23, eq_self, sx_0_1, sx_0_2, sx_0_3, sx_1_0, sx_1_2, sx_1_3, sx_2_0, sx_2_1, sx_2_3, sx_3_0, sx_3_1, sx_3_2] at ry
        by_cases ha : lx a nh
        · by_cases hb : lx b np
          · refine nh1 h tdh ha (np1 h tdp hb (fin ⟨by1, ⟨by show ¬ (5 : Int32) < 0; decide, by show ¬ (6 : Int32) < 5; decide⟩, w0, Or.inr ⟨Or.inr (Or.inl rfl), ha⟩, Or.inr (Or.inr ⟨Or.inr (Or.inr (Or.inr (Or.inr rfl))), hb⟩)⟩ (fun d2 K2 e q => ry ?_)))
            exact ⟨fun _ => ⟨fun _ => ⟨fun q => absurd rfl q, fun _ => rhn1 h ((congrFun e 1).trans wch.1) (by omega) ha ⟨fun q => absurd rfl q, fun _ => rpn1 h ((congrFun e 0).trans wcp.1) (by omega) hb ⟨fun _ => rt0 h ⟨fun q => absurd rfl q, fun _ => ri1 ⟨by decide, by decide⟩ ⟨fun q => absurd q (by decide), fun _ => ⟨fun q => absurd q (by decide), fun _ => ⟨fun _ => q, fun q => absurd rfl q⟩⟩⟩⟩, fun q => absurd rfl q⟩⟩⟩, fun q => absurd rfl q⟩, fun q => absurd q (by decide)⟩
          · exact nh1 h tdh ha (np0 h tdp hb (Or.inl ⟨rfl, hK _ _ (ry ⟨fun _ => ⟨fun _ => ⟨fun q => absurd rfl q, fun _ => rhn1 h wch.1 (by omega) ha ⟨fun q => absurd rfl q, fun _ => rpn0 h wcp.1 (by omega) hb ⟨fun q => absurd q (by decide), fun _ => f1 d rfl⟩⟩⟩, fun q => absurd rfl q⟩, fun q => absurd q (by decide)⟩)⟩))
        · exact nh0 h tdh ha (Or.inl ⟨rfl, hK _ _ (ry ⟨fun _ => ⟨fun _ => ⟨fun q => absurd rfl q, fun _ => rhn0 h wch.1 (by omega) ha ⟨fun _ => f1 d rfl, fun q => absurd q (by decide)⟩⟩, fun q => absurd rfl q⟩, fun q => absurd q (by decide)⟩)⟩)
      · by_cases k6 : kd = 6
        · subst k6
          simp only [zl_0_1, zl_0_2, zl_0_3, zl_0_4, zl_0_5, zl_0_6, zl_0_7, zl_1_0, zl_1_2, zl_1_3, zl_1_4, zl_1_5, zl_1_6, zl_1_7, zl_2_0, zl_2_1, zl_2_3, zl_2_4, zl_2_5, zl_2_6, zl_2_7, zl_3_0, zl_3_1, zl_3_2, zl_3_4, zl_3_5, zl_3_6, zl_3_7, zl_4_0, zl_4_1, zl_4_2, zl_4_3, zl_4_5, zl_4_6, zl_4_7, zl_5_0, zl_5_1, zl_5_2, zl_5_3, zl_5_4, zl_5_6, zl_5_7, zl_6_0, zl_6_1, zl_6_2, zl_6_3, zl_6_4, zl_6_5, zl_6_7, zl_7_0, zl_7_1, zl_7_2, zl_7_3, zl_7_4, zl_7_5, zl_7_6, not_true_eq_false, not_false_eq_true, true_implies, false_implies, implies_true, forall_const, and_true, true_and, and_false, false_and, or_true, true_or, or_false, false_or, if_true, if_false, ite_true, ite_false, z10, z20, z30, z12, z13, z23, eq_self, sx_0_1, sx_0_2, sx_0_3, sx_1_0, sx_1_2, sx_1_3, sx_2_0, sx_2_1, sx_2_3, sx_3_0, sx_3_1, sx_3_2, x_0_0 h, x_1_2 h]
          simp only [zl_0_1, zl_0_2, zl_0_3, zl_0_4, zl_0_5, zl_0_6, zl_0_7, zl_1_0, zl_1_2, zl_1_3, zl_1_4, zl_1_5, zl_1_6, zl_1_7, zl_2_0, zl_2_1, zl_2_3, zl_2_4, zl_2_5, zl_2_6, zl_2_7, zl_3_0, zl_3_1, zl_3_2, zl_3_4, zl_3_5, zl_3_6, zl_3_7, zl_4_0, zl_4_1, zl_4_2, zl_4_3, zl_4_5, zl_4_6, zl_4_7, zl_5_0, zl_5_1, zl_5_2, zl_5_3, zl_5_4, zl_5_6, zl_5_7, zl_6_0, zl_6_1, zl_6_2, zl_6_3, zl_6_4, zl_6_5, zl_6_7, zl_7_0, zl_7_1, zl_7_2, zl_7_3, zl_7_4, zl_7_5, zl_7_6, not_true_eq_false, not_false_eq_true, true_implies, false_implies, implies_true, forall_const, and_true, true_and, and_false, false_and, or_true, true_or, or_false, false_or, if_true, if_false, ite_true, ite_false, z10, z20, z30, z12, z13, z23, eq_self, sx_0_1, sx_0_2, sx_0_3, sx_1_0, sx_1_2, sx_1_3, sx_2_0, sx_2_1, sx_2_3, sx_3_0, sx_3_1, sx_3_2] at ry
          by_cases ha : lx a nh
          · by_cases hb : lx b nh
            · refine nh1 h tdh ha (T_size (te_4 h) tdh (ni1 hb (by omega) (fin ⟨by1, ⟨by show ¬ (6 : Int32) < 0; decide, by show ¬ (6 : Int32) < 6; decide⟩, w0, Or.inr ⟨Or.inr (Or.inr rfl), ha⟩, Or.inr (Or.inl ⟨rfl, hb⟩)⟩ (fun d2 K2 e q => ry ?_))))
              refine ⟨fun _ => ⟨fun _ => ⟨fun _ => ⟨fun q => absurd rfl q, fun _ => rhn1 h ((congrFun e 1).trans wch.1) (by omega) ha ⟨fun q => absurd rfl q, fun _ => r_huts h ?_⟩⟩, fun q => absurd q (by decide)⟩, fun q => absurd rfl q⟩, fun q => absurd q (by decide)⟩
              have e1 : gA (pI d2 (σ 87) 0 0) (σ 88) 1 = nI nh := (congrFun e 1).trans wch.1
              rw [e1]
              exact ri1 ((bw_lx (by omega)).mpr hb) ⟨fun _ => show b_X11_event_147 E (σ 87) y 6 a b K2 0 0 _ from rt0 h ⟨fun q => absurd rfl q, fun _ => ri1 ⟨by decide, by decide⟩ ⟨fun q => absurd q (by decide), fun _ => ⟨fun q => absurd q (by decide), fun _ => ⟨fun _ => q, fun q => absurd rfl q⟩⟩⟩⟩, fun q => absurd q (by decide)⟩
            · refine nh1 h tdh ha (T_size (te_4 h) tdh (ni0 hb (by omega) (Or.inl ⟨rfl, hK _ _ (ry ?_)⟩)))
              refine ⟨fun _ => ⟨fun _ => ⟨fun _ => ⟨fun q => absurd rfl q, fun _ => rhn1 h wch.1 (by omega) ha ⟨fun q => absurd rfl q, fun _ => r_huts h ?_⟩⟩, fun q => absurd q (by decide)⟩, fun q => absurd rfl q⟩, fun q => absurd q (by decide)⟩
              have e1 : gA (pI d (σ 87) 0 0) (σ 88) 1 = nI nh := wch.1
              rw [e1]
              exact ri0 (fun q => hb ((bw_lx (by omega)).mp q)) ⟨fun q => absurd rfl q, fun _ => f1 d rfl⟩
          · exact nh0 h tdh ha (Or.inl ⟨rfl, hK _ _ (ry ⟨fun _ => ⟨fun _ => ⟨fun _ => ⟨fun q => absurd rfl q, fun _ => rhn0 h wch.1 (by omega) ha ⟨fun _ => f1 d rfl, fun q => absurd q (by decide)⟩⟩, fun q => absurd q (by decide)⟩, fun q => absurd rfl q⟩, fun q => absurd q (by decide)⟩)⟩)
        · by_cases k123 : kd = 1 ∨ kd = 2 ∨ kd = 3
          · have k4 : ¬ kd = 4 := by rcases k123 with rfl | rfl | rfl <;> decide
            have kb : bw kd 0 6 := by rcases k123 with rfl | rfl | rfl <;> exact ⟨by decide, by decide⟩
            have ry2 : ∀ {K1 d2}, b_X11_event_34 E (σ 87) y kd a b K1 (pI d2 (σ 87) 0 0) → w_X11_event E (σ 87) y kd a b d2 K1 := fun q => ry ⟨fun _ => q, fun n1 => ⟨fun _ => q, fun n2 => ⟨fun n3 => absurd k123 (by simp [n1, n2, n3]), fun _ => q⟩⟩⟩
            suffices hs : b_X10_event_56 E (σ 0) y kd a b _ _ d from ⟨fun q => absurd q k0, fun _ => hs, fun _ => hs, fun _ => hs, fun q => absurd q k4, fun q => absurd q k5, fun q => absurd q k6, fun _ n1 n2 n3 _ _ _ => absurd k123 (by simp [n1, n2, n3])⟩
            by_cases ha : lx a np
            · by_cases hb : lx b np
              · by_cases hab : a = b
                · refine np1 h tdp ha (np1 h tdp hb ⟨fun _ => ⟨fun q => absurd rfl q, fun _ => Or.inr (Or.inl ⟨rfl, hK _ _ (ry2 ?_)⟩)⟩, fun q => absurd hab q⟩)
                  exact ⟨fun _ => ⟨fun q => absurd q (by decide), fun _ => rpn1 h wcp.1 (by omega) ha ⟨fun q => absurd rfl q, fun _ => rpn1 h wcp.1 (by omega) hb ⟨fun _ => rt0 h ⟨fun q => absurd rfl q, fun _ => ri1 kb ⟨fun q => absurd q (by decide), fun _ => ⟨fun q => absurd q k4, fun _ => ⟨fun q => absurd q (by decide), fun _ => ⟨fun q => absurd hab q, fun _ => f2⟩⟩⟩⟩⟩, fun q => absurd rfl q⟩⟩⟩, fun q => absurd q k0⟩
                · refine np1 h tdp ha (np1 h tdp hb ⟨fun q => absurd q hab, fun _ => ⟨fun _ => fin ⟨by1, kb, w0, Or.inl ⟨Or.inr k123, ha⟩, Or.inr (Or.inr ⟨by show kd = 1 ∨ kd = 2 ∨ kd = 3 ∨ kd = 4 ∨ kd = 5; exact k123.elim Or.inl (fun q => q.elim (fun q => Or.inr (Or.inl q)) (fun q => Or.inr (Or.inr (Or.inl q)))), hb⟩)⟩ (fun d2 K2 e q => ry2 ?_), fun q => absurd q (by decide)⟩⟩)
                  exact ⟨fun _ => ⟨fun q => absurd q (by decide), fun _ => rpn1 h ((congrFun e 0).trans wcp.1) (by omega) ha ⟨fun q => absurd rfl q, fun _ => rpn1 h ((congrFun e 0).trans wcp.1) (by omega) hb ⟨fun _ => rt0 h ⟨fun q => absurd rfl q, fun _ => ri1 kb ⟨fun q => absurd q (by decide), fun _ => ⟨fun q => absurd q k4, fun _ => ⟨fun q => absurd q (by decide), fun _ => ⟨fun _ => q, fun q => absurd q hab⟩⟩⟩⟩⟩, fun q => absurd rfl q⟩⟩⟩, fun q => absurd q k0⟩
              · refine np1 h tdp ha (np0 h tdp hb (Or.inl ⟨rfl, hK _ _ (ry2 ?_)⟩))
                exact ⟨fun _ => ⟨fun q => absurd q (by decide), fun _ => rpn1 h wcp.1 (by omega) ha ⟨fun q => absurd rfl q, fun _ => rpn0 h wcp.1 (by omega) hb ⟨fun q => absurd q (by decide), fun _ => f1'⟩⟩⟩, fun q => absurd q k0⟩
            · refine np0 h tdp ha (Or.inl ⟨rfl, hK _ _ (ry2 ?_)⟩)
              exact ⟨fun _ => ⟨fun q => absurd q (by decide), fun _ => rpn0 h wcp.1 (by omega) ha ⟨fun _ => f1', fun q => absurd q (by decide)⟩⟩, fun q => absurd q k0⟩
          · have k1 : ¬ kd = 1 := fun q => k123 (Or.inl q)
            have k2 : ¬ kd = 2 := fun q => k123 (Or.inr (Or.inl q))
            have k3 : ¬ kd = 3 := fun q => k123 (Or.inr (Or.inr q))
            have ref : w_X11_event E (σ 87) y kd a b d (fun r d => cmpO σ E kc 2 r d) := by
              refine ry ⟨fun q => absurd q k1, fun _ => ⟨fun q => absurd q k2, fun _ => ⟨fun _ => ⟨fun _ => ⟨fun _ => ⟨fun _ => ⟨fun _ => (show b_X11_event_147 E (σ 87) y kd a b _ 0 0 _ from rt0 h ⟨fun q => absurd rfl q, fun _ => ?_⟩), fun q => absurd q k6⟩, fun q => absurd q k5⟩, fun q => absurd rfl q⟩, fun q => absurd q k0⟩, fun q => absurd q k3⟩⟩⟩
              by_cases kb : bw kd 0 6
              · refine ri1 kb ⟨fun q => absurd q (by decide), fun _ => ⟨fun _ => f2, fun k4 => ?_⟩⟩
                obtain ⟨m, hm1, hm2, rfl⟩ := bw_n (a := 0) (b := 6) kb (by decide) (by decide)
                exact absurd (show m = 0 ∨ m = 1 ∨ m = 2 ∨ m = 3 ∨ m = 4 ∨ m = 5 ∨ m = 6 by omega) (fun q => by
                  rcases q with rfl | rfl | rfl | rfl | rfl | rfl | rfl
                  · exact k0 rfl
                  · exact k1 rfl
                  · exact k2 rfl
                  · exact k3 rfl
                  · exact k4 rfl
                  · exact k5 rfl
                  · exact k6 rfl)
              · exact ri0 kb ⟨fun _ => f2, fun q => absurd rfl q⟩
            have c121 : b_X10_event_121 E (σ 0) y kd a b (fun r_2 d_1 => vp_in 0 (eN E (σ 115)) ∧ K 0 (pJ d_1 (σ 115) ((0 : Int32)).toNatClampNeg r_2.toInt64)) (fun Ex d_3 => (Ex = "java/lang/IndexOutOfBoundsException" ∧ K 1 d_3) ∨ (Ex = "java/lang/IllegalArgumentException" ∧ K 2 d_3) ∨ (Ex = "java/lang/UnsupportedOperationException" ∧ K 3 d_3)) d :=
              ⟨fun q => absurd rfl q, fun _ => Or.inr (Or.inl ⟨rfl, hK _ _ ref⟩)⟩
            exact ⟨fun q => absurd q k0, fun q => absurd q k1, fun q => absurd q k2, fun q => absurd q k3, fun _ => c121, fun q => absurd q k5, fun q => absurd q k6, fun _ _ _ _ _ _ _ => c121⟩
  · exact ⟨eo_0 h, eo_115 h, eo_0 h, ny0 b1 (Or.inl ⟨rfl, hK _ _ ⟨eo_87 h, ry0 b1 (rt1 h ⟨fun q => absurd q (by decide), fun _ => fail_O I (by decide) k⟩)⟩⟩)⟩
theorem c_event (I : Inv σ E d) (hv : v5 v4 L) (k : ∀ E' d', Inv σ E' d' → kc E' d') : lw_627 E (σ 0) (σ 87) (σ 115) v4 xs L kc d :=
  ⟨eo_0 I.1, eo_87 I.1, eo_115 I.1, hv.1, hv.2.1, hv.2.2.1, hv.2.2.2.1, p_event I _ _ _ _ k (fun v d2 hk => ⟨hv.1, hv.2.1, hv.2.2.1, hv.2.2.2.1, hk⟩)⟩
theorem p_sale (I : Inv σ E d) (y a b pr : Int32) (k : ∀ E' d', Inv σ E' d' → kc E' d') {K : Int32 → Dy → Prop} (hK : ∀ v d2, w_X11_sale E (σ 87) y a b pr d2 (fun r d => cmpO σ E kc v r d) → K v d2) : w_L_sale E (σ 0) y a b pr (σ 115) d K := by
  have h := I.1
  have tdh := td_4 I
  have tdp := td_2 I
  have wc := wc_2 I
  have wch := wc_1 I
  have wcp := wc_0 I
  generalize hnh : cnt (gA d (σ 88)) 1 = nh at tdh wch
  generalize hnp : cnt (gA d (σ 88)) 0 = np at tdp wcp
  generalize hn : cnt (gA d (σ 88)) 2 = n at wc
  have hnpb := tdp.2.2.2
  have hnhb := tdh.2.2.2
  have f1 : b_X11_sale_29 E (σ 87) y a b pr (fun r d => cmpO σ E kc 1 r d) (σ 87) (pI d (σ 87) 0 0) := ⟨eo_87 h, eo_87 h, rt1 h ⟨fun _ => fail_O I (by decide) k, fun q => absurd q (by decide)⟩⟩
  by_cases b1 : bw y 1900 2099
  · by_cases ha : lx a nh
    · by_cases hb : lx b np
      · have rf : ∀ {K1 d2}, gA d2 (σ 88) = gA d (σ 88) → b_X11_sale_34 E (σ 87) y a b pr K1 (σ 87) 0 (pI d2 (σ 87) 0 0) → w_X11_sale E (σ 87) y a b pr d2 K1 := fun e q =>
          ⟨eo_87 h, ry1 b1 ⟨fun q => absurd rfl q, fun _ => rhn1 h ((congrFun e 1).trans wch.1) (by omega) ha ⟨fun q => absurd rfl q, fun _ => rpn1 h ((congrFun e 0).trans wcp.1) (by omega) hb ⟨fun _ => q, fun q => absurd rfl q⟩⟩⟩⟩
        by_cases b2 : bw pr 0 9999
        · refine ⟨eo_0 h, eo_115 h, eo_0 h, ny1 b1 (nh1 h tdh ha (np1 h tdp hb (nb1 b2 ?_)))⟩
          rcases Nat.lt_or_eq_of_le wc.2 with hm | hm
          · refine k_addEvent I hn hm ⟨v0_115 h, hK _ _ ?_⟩
            generalize hrr : yp (gA d (σ 7)) 6 y n = rr
            have e88 : gA (rowE d (σ 6) (σ 7) n rr y (gA d (σ 88) 3) 4 a b pr) (σ 88) = gA d (σ 88) := by simp only [rowE, gA_pA_x, gA_pI_x, gA_pJ_x, gA_sA_x, gA_pQ_x, gI_pA_x, gI_pI_x, gI_pJ_x, gI_sA_x, gI_pQ_x, gJ_pA_x, gJ_pI_x, gJ_pJ_x, gJ_sA_x, gJ_pQ_x, gQ_pA_x, gQ_pI_x, gQ_pJ_x, gQ_sA_x, gQ_pQ_x, gA_sJ_x, gI_sJ_x, gJ_sJ_x, gQ_sJ_x, sg h, Nat.reduceLT, Nat.reduceEqDiff, if_false]
            have g2 : gA (rowE d (σ 6) (σ 7) n rr y (gA d (σ 88) 3) 4 a b pr) (σ 88) 2 = nI n := (congrFun e88 2).trans wc.1
            have n40 : ¬ nI n = 40 := nlit (m := 40) hm (by decide)
            refine rf e88 ⟨eo_87 h, rt0 h ⟨fun q => absurd rfl q, fun _ => ri1 b2 ⟨fun _ => ⟨eo_87 h, rt0 h ⟨fun q => absurd rfl q, fun _ => ?_⟩⟩, fun q => absurd q (by decide)⟩⟩⟩
            simp only [x_87_1 h, en_88 h]
            refine ⟨vpi (k := 2) (by decide) (by decide), fun _ => ⟨eo_87 h, rt0 h ⟨fun _ => r_tells h g2 (congrFun e88 3) hm ?_, fun q => absurd rfl q⟩⟩, fun q => absurd (g2.symm.trans q) n40⟩
            refine tl_out (rb := nI (n + 1)) h ?_ (fun _ => ?_) (k _ _ ?_)
            · simp only [putE, gA_pA_x, gA_pI_x, gA_pJ_x, gA_sA_x, gA_pQ_x, gI_pA_x, gI_pI_x, gI_pJ_x, gI_sA_x, gI_pQ_x, gJ_pA_x, gJ_pI_x, gJ_pJ_x, gJ_sA_x, gJ_pQ_x, gQ_pA_x, gQ_pI_x, gQ_pJ_x, gQ_sA_x, gQ_pQ_x, gA_sJ_x, gI_sJ_x, gJ_sJ_x, gQ_sJ_x, if_true]
            · simp only [putE, gA_pA_x, gA_pI_x, gA_pJ_x, gA_sA_x, gA_pQ_x, gI_pA_x, gI_pI_x, gI_pJ_x, gI_sA_x, gI_pQ_x, gJ_pA_x, gJ_pI_x, gJ_pJ_x, gJ_sA_x, gJ_pQ_x, gQ_pA_x, gQ_pI_x, gQ_pJ_x, gQ_sA_x, gQ_pQ_x, gA_sJ_x, gI_sJ_x, gJ_sJ_x, gQ_sJ_x, if_true]; rfl
            · have := Inv_appE I (jv := (nI (n + 1)).toInt64) (y := y) (kd := 4) (p := a) (q := b) (pr := pr) hm hn (by
                rw [hnp, hnh]; exact ⟨b1, ⟨by show ¬ (4 : Int32) < 0; decide, by show ¬ (6 : Int32) < 4; decide⟩, b2, Or.inr ⟨Or.inl rfl, ha⟩, Or.inr (Or.inr ⟨Or.inr (Or.inr (Or.inr (Or.inl rfl))), hb⟩)⟩)
              rw [hrr] at this; exact this
          · refine k_addEvent0 I (hn.trans hm) (Or.inr (Or.inr ⟨rfl, hK _ _ (rf rfl ?_)⟩))
            refine ⟨eo_87 h, rt0 h ⟨fun q => absurd rfl q, fun _ => ri1 b2 ⟨fun _ => ⟨eo_87 h, rt0 h ⟨fun q => absurd rfl q, fun _ => ?_⟩⟩, fun q => absurd q (by decide)⟩⟩⟩
            simp only [x_87_1 h, en_88 h]
            exact ⟨vpi (k := 2) (by decide) (by decide), fun q => absurd (wc.1.trans (by rw [hm]; rfl)) q, fun _ => ⟨eo_87 h, rt1 h ⟨fun q => absurd q (by decide), fun _ => fail_O I (by decide) k⟩⟩⟩
        · exact ⟨eo_0 h, eo_115 h, eo_0 h, ny1 b1 (nh1 h tdh ha (np1 h tdp hb (nb0 b2 (Or.inr (Or.inl ⟨rfl, hK _ _ (rf rfl ⟨eo_87 h, rt0 h ⟨fun q => absurd rfl q, fun _ => ri0 b2 ⟨fun q => absurd rfl q, fun _ => ⟨eo_87 h, rt1 h ⟨fun _ => fail_O I (by decide) k, fun q => absurd q (by decide)⟩⟩⟩⟩⟩)⟩)))))⟩
      · exact ⟨eo_0 h, eo_115 h, eo_0 h, ny1 b1 (nh1 h tdh ha (np0 h tdp hb (Or.inl ⟨rfl, hK _ _ ⟨eo_87 h, ry1 b1 ⟨fun q => absurd rfl q, fun _ => rhn1 h wch.1 (by omega) ha ⟨fun q => absurd rfl q, fun _ => rpn0 h wcp.1 (by omega) hb ⟨fun q => absurd q (by decide), fun _ => f1⟩⟩⟩⟩⟩)))⟩
    · exact ⟨eo_0 h, eo_115 h, eo_0 h, ny1 b1 (nh0 h tdh ha (Or.inl ⟨rfl, hK _ _ ⟨eo_87 h, ry1 b1 ⟨fun q => absurd rfl q, fun _ => rhn0 h wch.1 (by omega) ha ⟨fun _ => f1, fun q => absurd q (by decide)⟩⟩⟩⟩))⟩
  · exact ⟨eo_0 h, eo_115 h, eo_0 h, ny0 b1 (Or.inl ⟨rfl, hK _ _ ⟨eo_87 h, ry0 b1 ⟨fun _ => f1, fun q => absurd q (by decide)⟩⟩⟩)⟩
theorem c_sale (I : Inv σ E d) (hv : v5 v4 L) (k : ∀ E' d', Inv σ E' d' → kc E' d') : lw_719 E (σ 0) (σ 87) (σ 115) v4 xs L kc d :=
  ⟨eo_0 I.1, eo_87 I.1, eo_115 I.1, hv.1, hv.2.1, hv.2.2.1, hv.2.2.2.1, p_sale I _ _ _ _ k (fun v d2 hk => ⟨hv.1, hv.2.1, hv.2.2.1, hv.2.2.2.1, hk⟩)⟩
end
