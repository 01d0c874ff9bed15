section
variable {σ : Nat → Nat} {E : En} {d d' : Dy} {kc : En → Dy → Prop} {v4 : Int32} {xs : Nat → Int32} {L : Nat}
theorem v0_115 (h : Env σ E) : vp_in 0 (eN E (σ 115)) := by rw [en_115 h]; exact vpi (by decide) (by decide)
theorem row3_88 (h : Env σ E) {i n : Nat} {x y z : Int32} (hi : i < 10) : gA (row3 d (σ (2 + 2 * i)) (σ (3 + 2 * i)) n x y z) (σ 88) = gA d (σ 88) := by
  have hne : σ 88 ≠ σ (3 + 2 * i) := Env_ne h (by decide) (by omega) (by omega)
  simp only [row3, gA_pA_x, gA_pI_x, gA_pJ_x, gA_sA_x, gA_pQ_x, gI_pA_x, gI_pI_x, gI_pJ_x, gI_sA_x, gI_pQ_x, gJ_pA_x, gJ_pI_x, gJ_pJ_x, gJ_sA_x, gJ_pQ_x, gQ_pA_x, gQ_pI_x, gQ_pJ_x, gQ_sA_x, gQ_pQ_x, gA_sJ_x, gI_sJ_x, gJ_sJ_x, gQ_sJ_x, if_neg hne]
theorem row1_88 (h : Env σ E) {i n : Nat} {x : Int32} (hi : i < 10) : gA (row1 d (σ (2 + 2 * i)) (σ (3 + 2 * i)) n x) (σ 88) = gA d (σ 88) := by
  have hne : σ 88 ≠ σ (3 + 2 * i) := Env_ne h (by decide) (by omega) (by omega)
  simp only [row1, gA_pA_x, gA_pI_x, gA_pJ_x, gA_sA_x, gA_pQ_x, gI_pA_x, gI_pI_x, gI_pJ_x, gI_sA_x, gI_pQ_x, gJ_pA_x, gJ_pI_x, gJ_pJ_x, gJ_sA_x, gJ_pQ_x, gQ_pA_x, gQ_pI_x, gQ_pJ_x, gQ_sA_x, gQ_pQ_x, gA_sJ_x, gI_sJ_x, gJ_sJ_x, gQ_sJ_x, if_neg hne]
theorem nlit {n m : Nat} (hn : n < m) (hm : m < 2147483648) : ¬ nI n = nI m := by rw [z_eq (by omega) hm]; omega
theorem tll {n m : Nat} (hn : n < m) (hm : m < 2147483648) : (nI n < nI m) = True := eq_true ((z_lt (by omega) hm).mpr hn)
theorem tlf {m : Nat} : (nI m < nI m) = False := by simp
/-- a new row of three: the end of the call -/
theorem app3_end (I : Inv σ E d) (k : ∀ E' d', Inv σ E' d' → kc E' d') {i n : Nat} (hi : i < 10) (h5 : i ≠ 5) (hw : wI i = 3) (h8 : i ≠ 8) (hn : n < mI i) (hnW : nR (gA d (σ 88)) i = n) {x y z x' y' z' : Int32} {rb : Int32}
    (hc : ∀ c, c < 3 → cmI i c < 3 ∧ c3 x' y' z' (cmI i c) = c3 x y z c) (hv : okR i (cnt (appW (gA d (σ 88)) i n (c3 x y z)) 0) (cnt (appW (gA d (σ 88)) i n (c3 x y z)) 1) (c3 x y z)) :
    cmpO σ E kc 0 rb (put3 (pI (pJ (row3 d (σ (2 + 2 * i)) (σ (3 + 2 * i)) n x' y' z') (σ 115) 0 rb.toInt64) (σ 87) 0 0) (σ 88) (cI i) (oI i) n x y z) := by
  refine tl_out I.1 ?_ (fun _ => ?_) (k _ _ (Inv_app3 I hi h5 hw h8 hn hnW.symm hc hv))
  · simp only [put3, gA_pA_x, gA_pI_x, gA_pJ_x, gA_sA_x, gA_pQ_x, gI_pA_x, gI_pI_x, gI_pJ_x, gI_sA_x, gI_pQ_x, gJ_pA_x, gJ_pI_x, gJ_pJ_x, gJ_sA_x, gJ_pQ_x, gQ_pA_x, gQ_pI_x, gQ_pJ_x, gQ_sA_x, gQ_pQ_x, gA_sJ_x, gI_sJ_x, gJ_sJ_x, gQ_sJ_x, if_true]
  · simp only [put3, gA_pA_x, gA_pI_x, gA_pJ_x, gA_sA_x, gA_pQ_x, gI_pA_x, gI_pI_x, gI_pJ_x, gI_sA_x, gI_pQ_x, gJ_pA_x, gJ_pI_x, gJ_pJ_x, gJ_sA_x, gJ_pQ_x, gQ_pA_x, gQ_pI_x, gQ_pJ_x, gQ_sA_x, gQ_pQ_x, gA_sJ_x, gI_sJ_x, gJ_sJ_x, gQ_sJ_x, if_true]
theorem p_storm (I : Inv σ E d) (y m : Int32) (k : ∀ E' d', Inv σ E' d' → kc E' d') {K : Int32 → Dy → Prop} (hK : ∀ v d2, w_X11_storm E (σ 87) y m d2 (fun r d => cmpO σ E kc v r d) → K v d2) : w_L_storm E (σ 0) y m (σ 115) d K := by
  have h := I.1
  have td := td_14 I
  have tdh := td_4 I
  have wc := wc_5 I
  have wch := wc_1 I
  have w3 := td_3 I
  generalize hn : cnt (gA d (σ 88)) 5 = n at td wc
  generalize hnh : cnt (gA d (σ 88)) 1 = nh at tdh wch
  have ht := tdh.2.2.1
  have t1 := td.2.1
  have t3 := td.2.2.1
  by_cases b1 : bw y 1900 2099
  · by_cases b2 : (m &&& ((((1 : Int32) <<< (nI nh &&& 31)) - 1) ^^^ (-1))) = 0
    · rcases Nat.lt_or_eq_of_le wc.2 with hm | hm
      · simp only [w_L_storm, w_X10_storm, b_X10_storm_23, w_X8_hutBits, eo_115 h, w_X10_needBetween, w_X10_need, w_X10_needYear, w_X10_needIndex, w_X10_needPerson, w_X10_needHut, w_X10_needHutInYears, w_X10_needRoom, w_X6_isFull, w_X6_size, eo_0 h, x_0_0 h, x_0_1 h, x_0_3 h, x_0_5 h, x_0_6 h, x_0_7 h, x_0_8 h, x_0_9 h, x_0_10 h, eo_1 h, x_1_1 h, x_1_2 h, x_1_3 h, x_1_4 h, x_1_5 h, x_1_6 h, x_1_7 h, x_1_8 h, x_1_9 h, x_1_10 h, x_1_11 h, en_22 h, eo_2 h, eo_4 h, eo_6 h, eo_8 h, eo_10 h, eo_12 h, eo_14 h, eo_16 h, eo_18 h, eo_20 h, not_true_eq_false, not_false_eq_true, true_implies, false_implies, implies_true, forall_const, and_true, true_and, and_false, false_and, or_true, true_or, or_false, false_or, if_true, if_false, ite_true, ite_false, z10, z20, z30, z12, z13, z23, eq_self, sx_0_1, sx_0_2, sx_0_3, sx_1_0, sx_1_2, sx_1_3, sx_2_0, sx_2_1, sx_2_3, sx_3_0, sx_3_1, sx_3_2, bw_1 b1, bw_3 b1, ht, b2, t1, t3, tll hm (by decide)]
        refine T_open (te_14 h) td hm ?_
        have td2 : TD (pI (sA d (σ 15) (opn (gA d (σ 15)) 3 n n)) (σ 14) 3 (nI (n + 1))) (σ 14) 3 10 (n + 1) := TD_pI3 (TD_sA td _ _) hm
        refine T_set (r := n) (c := 0) (te_14 h) td2 (by omega) (by decide) (T_set (r := n) (c := 1) (te_14 h) (TD_pA td2) (by omega) (by decide) (T_set (r := n) (c := 2) (te_14 h) (TD_pA (TD_pA td2)) (by omega) (by decide) ⟨v0_115 h, hK _ _ ?_⟩))
        have e0 : gI (pA (pI (sA d (σ 15) (opn (gA d (σ 15)) 3 n n)) (σ 14) 3 (nI (n + 1))) (σ 15) (n * 3 + 0) y) (σ 1) 0 = gA d (σ 88) 3 := by
          simp only [gA_pA_x, gA_pI_x, gA_pJ_x, gA_sA_x, gA_pQ_x, gI_pA_x, gI_pI_x, gI_pJ_x, gI_sA_x, gI_pQ_x, gJ_pA_x, gJ_pI_x, gJ_pJ_x, gJ_sA_x, gJ_pQ_x, gQ_pA_x, gQ_pI_x, gQ_pJ_x, gQ_sA_x, gQ_pQ_x, gA_sJ_x, gI_sJ_x, gJ_sJ_x, gQ_sJ_x, sg h, Nat.reduceLT, Nat.reduceEqDiff, if_false]; exact w3
        rw [e0]
        have e88 := row3_88 (d := d) (n := n) (x := y) (y := gA d (σ 88) 3) (z := m) h (i := 6) (by decide)
        have key := app3_end (rb := nI n) I k (i := 6) (x := y) (y := m) (z := gA d (σ 88) 3) (x' := y) (y' := gA d (σ 88) 3) (z' := m) (by decide) (by decide) rfl (by decide) hm hn (fun c hc => by rcases (show c = 0 ∨ c = 1 ∨ c = 2 by omega) with rfl | rfl | rfl <;> exact ⟨by decide, rfl⟩) b1
        have g5 : gA (row3 d (σ 14) (σ 15) n y (gA d (σ 88) 3) m) (σ 88) 5 = nI n := (congrFun e88 5).trans wc.1
        have g1 : gA (row3 d (σ 14) (σ 15) n y (gA d (σ 88) 3) m) (σ 88) 1 = nI nh := (congrFun e88 1).trans wch.1
        have g3 : gA (row3 d (σ 14) (σ 15) n y (gA d (σ 88) 3) m) (σ 88) 3 = gA d (σ 88) 3 := congrFun e88 3
        have n10 : (nI n = 10) = False := eq_false (nlit (m := 10) hm (by decide))
        show w_X11_storm E (σ 87) y m (pJ (row3 d (σ 14) (σ 15) n y (gA d (σ 88) 3) m) (σ 115) 0 (nI n).toInt64) _
        simp only [w_X11_storm, b_X11_storm_38, b_X11_storm_62, w_X11_in, w_X11_none, w_X11_noPerson, w_X11_noHut, w_X11_noYear, w_X11_noDay, w_X11_noTimes, w_X11_throwsIf, w_X11_persons, w_X11_huts, eo_87 h, x_87_1 h, en_88 h, x_87_2 h, en_89 h, x_87_4 h, en_90 h, x_87_11 h, en_91 h, x_87_14 h, en_92 h, x_87_15 h, en_93 h, x_87_16 h, en_94 h, x_87_18 h, en_95 h, x_87_19 h, en_96 h, x_87_20 h, en_97 h, x_87_21 h, en_98 h, x_87_22 h, en_99 h, x_87_23 h, en_100 h, x_87_24 h, en_101 h, x_87_25 h, en_102 h, x_87_26 h, en_103 h, x_87_27 h, en_104 h, x_87_28 h, en_105 h, x_87_30 h, en_106 h, x_87_31 h, en_107 h, x_87_32 h, en_108 h, x_87_34 h, en_109 h, x_87_35 h, en_110 h, x_87_36 h, en_111 h, x_87_37 h, en_112 h, x_87_38 h, en_113 h, x_87_39 h, en_114 h, qn_0, qv_0, qn_1, qv_1, qn_2, qv_2, qn_3, qv_3, qn_4, qv_4, qn_5, qv_5, qn_6, qv_6, qn_7, qv_7, qn_8, qv_8, qn_9, qv_9, qn_10, qv_10, qn_11, qv_11, qn_12, qv_12, qn_13, qv_13, eo_115 h, not_true_eq_false, not_false_eq_true, true_implies, false_implies, implies_true, forall_const, and_true, true_and, and_false, false_and, or_true, true_or, or_false, false_or, if_true, if_false, ite_true, ite_false, z10, z20, z30, z12, z13, z23, eq_self, sx_0_1, sx_0_2, sx_0_3, sx_1_0, sx_1_2, sx_1_3, sx_2_0, sx_2_1, sx_2_3, sx_3_0, sx_3_1, sx_3_2, gA_pI_x, gA_pJ_x, g1, g5, g3, bw_1 b1, bw_2 b1, b2, n10]
        refine r_puts h (c := 5) (o := 390) (by decide) (by decide) g5 (by omega) ?_
        rw [z_m1]
        exact key
      · simp only [w_L_storm, w_X10_storm, b_X10_storm_23, w_X8_hutBits, eo_115 h, w_X10_needBetween, w_X10_need, w_X10_needYear, w_X10_needIndex, w_X10_needPerson, w_X10_needHut, w_X10_needHutInYears, w_X10_needRoom, w_X6_isFull, w_X6_size, eo_0 h, x_0_0 h, x_0_1 h, x_0_3 h, x_0_5 h, x_0_6 h, x_0_7 h, x_0_8 h, x_0_9 h, x_0_10 h, eo_1 h, x_1_1 h, x_1_2 h, x_1_3 h, x_1_4 h, x_1_5 h, x_1_6 h, x_1_7 h, x_1_8 h, x_1_9 h, x_1_10 h, x_1_11 h, en_22 h, eo_2 h, eo_4 h, eo_6 h, eo_8 h, eo_10 h, eo_12 h, eo_14 h, eo_16 h, eo_18 h, eo_20 h, not_true_eq_false, not_false_eq_true, true_implies, false_implies, implies_true, forall_const, and_true, true_and, and_false, false_and, or_true, true_or, or_false, false_or, if_true, if_false, ite_true, ite_false, z10, z20, z30, z12, z13, z23, eq_self, sx_0_1, sx_0_2, sx_0_3, sx_1_0, sx_1_2, sx_1_3, sx_2_0, sx_2_1, sx_2_3, sx_3_0, sx_3_1, sx_3_2, bw_1 b1, bw_3 b1, ht, b2, t1, t3, hm, tlf]
        refine hK _ _ ?_
        have n10 : (nI 10 = 10) = True := eq_true rfl
        simp only [w_X11_storm, b_X11_storm_38, b_X11_storm_62, w_X11_in, w_X11_none, w_X11_noPerson, w_X11_noHut, w_X11_noYear, w_X11_noDay, w_X11_noTimes, w_X11_throwsIf, w_X11_persons, w_X11_huts, eo_87 h, x_87_1 h, en_88 h, x_87_2 h, en_89 h, x_87_4 h, en_90 h, x_87_11 h, en_91 h, x_87_14 h, en_92 h, x_87_15 h, en_93 h, x_87_16 h, en_94 h, x_87_18 h, en_95 h, x_87_19 h, en_96 h, x_87_20 h, en_97 h, x_87_21 h, en_98 h, x_87_22 h, en_99 h, x_87_23 h, en_100 h, x_87_24 h, en_101 h, x_87_25 h, en_102 h, x_87_26 h, en_103 h, x_87_27 h, en_104 h, x_87_28 h, en_105 h, x_87_30 h, en_106 h, x_87_31 h, en_107 h, x_87_32 h, en_108 h, x_87_34 h, en_109 h, x_87_35 h, en_110 h, x_87_36 h, en_111 h, x_87_37 h, en_112 h, x_87_38 h, en_113 h, x_87_39 h, en_114 h, qn_0, qv_0, qn_1, qv_1, qn_2, qv_2, qn_3, qv_3, qn_4, qv_4, qn_5, qv_5, qn_6, qv_6, qn_7, qv_7, qn_8, qv_8, qn_9, qv_9, qn_10, qv_10, qn_11, qv_11, qn_12, qv_12, qn_13, qv_13, eo_115 h, not_true_eq_false, not_false_eq_true, true_implies, false_implies, implies_true, forall_const, and_true, true_and, and_false, false_and, or_true, true_or, or_false, false_or, if_true, if_false, ite_true, ite_false, z10, z20, z30, z12, z13, z23, eq_self, sx_0_1, sx_0_2, sx_0_3, sx_1_0, sx_1_2, sx_1_3, sx_2_0, sx_2_1, sx_2_3, sx_3_0, sx_3_1, sx_3_2, gA_pI_x, wch.1, wc.1, hm, n10, bw_1 b1, bw_2 b1, b2]
        exact fail_O I (by decide) k
    · simp only [w_L_storm, w_X10_storm, b_X10_storm_23, w_X8_hutBits, eo_115 h, w_X10_needBetween, w_X10_need, w_X10_needYear, w_X10_needIndex, w_X10_needPerson, w_X10_needHut, w_X10_needHutInYears, w_X10_needRoom, w_X6_isFull, w_X6_size, eo_0 h, x_0_0 h, x_0_1 h, x_0_3 h, x_0_5 h, x_0_6 h, x_0_7 h, x_0_8 h, x_0_9 h, x_0_10 h, eo_1 h, x_1_1 h, x_1_2 h, x_1_3 h, x_1_4 h, x_1_5 h, x_1_6 h, x_1_7 h, x_1_8 h, x_1_9 h, x_1_10 h, x_1_11 h, en_22 h, eo_2 h, eo_4 h, eo_6 h, eo_8 h, eo_10 h, eo_12 h, eo_14 h, eo_16 h, eo_18 h, eo_20 h, not_true_eq_false, not_false_eq_true, true_implies, false_implies, implies_true, forall_const, and_true, true_and, and_false, false_and, or_true, true_or, or_false, false_or, if_true, if_false, ite_true, ite_false, z10, z20, z30, z12, z13, z23, eq_self, sx_0_1, sx_0_2, sx_0_3, sx_1_0, sx_1_2, sx_1_3, sx_2_0, sx_2_1, sx_2_3, sx_3_0, sx_3_1, sx_3_2, bw_1 b1, bw_3 b1, ht, b2]
      refine hK _ _ ?_
      simp only [w_X11_storm, b_X11_storm_38, b_X11_storm_62, w_X11_in, w_X11_none, w_X11_noPerson, w_X11_noHut, w_X11_noYear, w_X11_noDay, w_X11_noTimes, w_X11_throwsIf, w_X11_persons, w_X11_huts, eo_87 h, x_87_1 h, en_88 h, x_87_2 h, en_89 h, x_87_4 h, en_90 h, x_87_11 h, en_91 h, x_87_14 h, en_92 h, x_87_15 h, en_93 h, x_87_16 h, en_94 h, x_87_18 h, en_95 h, x_87_19 h, en_96 h, x_87_20 h, en_97 h, x_87_21 h, en_98 h, x_87_22 h, en_99 h, x_87_23 h, en_100 h, x_87_24 h, en_101 h, x_87_25 h, en_102 h, x_87_26 h, en_103 h, x_87_27 h, en_104 h, x_87_28 h, en_105 h, x_87_30 h, en_106 h, x_87_31 h, en_107 h, x_87_32 h, en_108 h, x_87_34 h, en_109 h, x_87_35 h, en_110 h, x_87_36 h, en_111 h, x_87_37 h, en_112 h, x_87_38 h, en_113 h, x_87_39 h, en_114 h, qn_0, qv_0, qn_1, qv_1, qn_2, qv_2, qn_3, qv_3, qn_4, qv_4, qn_5, qv_5, qn_6, qv_6, qn_7, qv_7, qn_8, qv_8, qn_9, qv_9, qn_10, qv_10, qn_11, qv_11, qn_12, qv_12, qn_13, qv_13, eo_115 h, not_true_eq_false, not_false_eq_true, true_implies, false_implies, implies_true, forall_const, and_true, true_and, and_false, false_and, or_true, true_or, or_false, false_or, if_true, if_false, ite_true, ite_false, z10, z20, z30, z12, z13, z23, eq_self, sx_0_1, sx_0_2, sx_0_3, sx_1_0, sx_1_2, sx_1_3, sx_2_0, sx_2_1, sx_2_3, sx_3_0, sx_3_1, sx_3_2, gA_pI_x, wch.1, bw_1 b1, bw_2 b1, b2]
      exact fail_O I (by decide) k
  · refine ⟨eo_0 h, eo_115 h, eo_0 h, ny0 b1 (Or.inl ⟨rfl, hK _ _ ⟨eo_87 h, ry0 b1 (rt1 h ⟨fun _ => fail_O I (by decide) k, fun q => absurd q (by decide)⟩)⟩⟩)⟩
theorem c_storm (I : Inv σ E d) (hv : v5 v4 L) (k : ∀ E' d', Inv σ E' d' → kc E' d') : lw_2079 E (σ 0) (σ 87) (σ 115) v4 xs L kc d :=
  ⟨eo_0 I.1, eo_87 I.1, eo_115 I.1, hv.1, hv.2.1, p_storm I _ _ k (fun v d2 hk => ⟨hv.1, hv.2.1, hk⟩)⟩
end
