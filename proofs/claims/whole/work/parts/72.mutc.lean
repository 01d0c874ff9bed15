/-! one number put behind a table -/
def put1 (d : Dy) (a c o n : Nat) (x : Int32) : Dy := pA (pA d a (o + n) x) a c (nI (n + 1))
section
variable {σ : Nat → Nat} {E : En} {d d' : Dy} {kc : En → Dy → Prop} {v4 : Int32} {xs : Nat → Int32} {L : Nat}
theorem put1_W (d : Dy) (a i n : Nat) (x : Int32) (hi : i < 10) (h5 : i ≠ 5) (hw : wI i = 1) : gA (put1 d a (cI i) (oI i) n x) a = appW (gA d a) i n (fun _ => x) := by
  have := cI_lt hi h5
  have := reg_lo hi
  funext k
  simp only [put1, gA_pA_x, if_true, appW, hw]
  by_cases h1 : k = cI i
  · simp only [if_pos h1]
  · simp only [if_neg h1]
    by_cases h2 : k = oI i + n
    · rw [if_pos h2, if_pos (by omega)]
    · rw [if_neg h2, if_neg (by omega)]
theorem Inv_app1 (I : Inv σ E d) {i n : Nat} (hi : i < 10) (h5 : i ≠ 5) (hw : wI i = 1) (hn : n < mI i) (hnW : n = nR (gA d (σ 88)) i) {x : Int32} {jv : Int64}
    (hv : okR i (cnt (appW (gA d (σ 88)) i n (fun _ => x)) 0) (cnt (appW (gA d (σ 88)) i n (fun _ => x)) 1) (fun _ => x)) :
    Inv σ E (put1 (pI (pJ (row1 d (σ (2 + 2 * i)) (σ (3 + 2 * i)) n x) (σ 115) 0 jv) (σ 87) 0 0) (σ 88) (cI i) (oI i) n x) := by
  have h := I.1
  have hwt := wor_tab hi
  have h2 : i ≠ 2 := by intro e; subst e; revert hw; decide
  have h8 : i ≠ 8 := by intro e; subst e; revert hw; decide
  have c1 : Ch σ wor d (row1 d (σ (2 + 2 * i)) (σ (3 + 2 * i)) n x) :=
    Ch_tr (Ch_tr (Ch_sA h (by omega) hwt.2.1) (Ch_pI h (by omega) hwt.2.2 hwt.1)) (Ch_pA h (by omega) hwt.2.1)
  have c2 : Ch σ wor d (put1 (pI (pJ (row1 d (σ (2 + 2 * i)) (σ (3 + 2 * i)) n x) (σ 115) 0 jv) (σ 87) 0 0) (σ 88) (cI i) (oI i) n x) :=
    Ch_tr (Ch_tr (Ch_tr c1 (Ch_pJ h (by decide) (by decide))) (Ch_pI h (i := 87) (by decide) (by decide) (by decide))) (Ch_tr (Ch_pA h (by decide) (by decide)) (Ch_pA h (by decide) (by decide)))
  have e88 : gA (pI (pJ (row1 d (σ (2 + 2 * i)) (σ (3 + 2 * i)) n x) (σ 115) 0 jv) (σ 87) 0 0) (σ 88) = gA d (σ 88) := by
    have hne : σ 88 ≠ σ (3 + 2 * i) := Env_ne h (by decide) (by omega) (by omega)
    simp only [row1, gA_pA_x, gA_pI_x, gA_pJ_x, gA_sA_x, gA_pQ_x, gI_pA_x, gI_pI_x, gI_pJ_x, gI_sA_x, gI_pQ_x, gJ_pA_x, gJ_pI_x, gJ_pJ_x, gJ_sA_x, gJ_pQ_x, gQ_pA_x, gQ_pI_x, gQ_pJ_x, gQ_sA_x, gQ_pQ_x, gA_sJ_x, gI_sJ_x, gJ_sJ_x, gQ_sJ_x, if_neg hne]
  have hA : ∀ j, j < 10 → gA (put1 (pI (pJ (row1 d (σ (2 + 2 * i)) (σ (3 + 2 * i)) n x) (σ 115) 0 jv) (σ 87) 0 0) (σ 88) (cI i) (oI i) n x) (σ (3 + 2 * j)) = gA (row1 d (σ (2 + 2 * i)) (σ (3 + 2 * i)) n x) (σ (3 + 2 * j)) := fun j hj => by
    have hne : σ (3 + 2 * j) ≠ σ 88 := Env_ne h (by omega) (by decide) (by omega)
    simp only [put1, gA_pA_x, gA_pI_x, gA_pJ_x, gA_sA_x, gA_pQ_x, gI_pA_x, gI_pI_x, gI_pJ_x, gI_sA_x, gI_pQ_x, gJ_pA_x, gJ_pI_x, gJ_pJ_x, gJ_sA_x, gJ_pQ_x, gQ_pA_x, gQ_pI_x, gQ_pJ_x, gQ_sA_x, gQ_pQ_x, gA_sJ_x, gI_sJ_x, gJ_sJ_x, gQ_sJ_x, if_neg hne]
  have hI : ∀ j, j < 22 → gI (put1 (pI (pJ (row1 d (σ (2 + 2 * i)) (σ (3 + 2 * i)) n x) (σ 115) 0 jv) (σ 87) 0 0) (σ 88) (cI i) (oI i) n x) (σ j) = gI (row1 d (σ (2 + 2 * i)) (σ (3 + 2 * i)) n x) (σ j) := fun j hj => by
    have hne : σ j ≠ σ 87 := Env_ne h (by omega) (by decide) (by omega)
    simp only [put1, gA_pA_x, gA_pI_x, gA_pJ_x, gA_sA_x, gA_pQ_x, gI_pA_x, gI_pI_x, gI_pJ_x, gI_sA_x, gI_pQ_x, gJ_pA_x, gJ_pI_x, gJ_pJ_x, gJ_sA_x, gJ_pQ_x, gQ_pA_x, gQ_pI_x, gQ_pJ_x, gQ_sA_x, gQ_pQ_x, gA_sJ_x, gI_sJ_x, gJ_sJ_x, gQ_sJ_x, if_neg hne]
  refine Inv_app I c2 (r := n) hi h5 hn hnW hv ?_ ?_ (Nat.le_refl n) (fun j hj => ?_) (fun j hj => ?_) (fun j hj c hcw => ?_) (fun j hj hji => ⟨?_, ?_⟩) ?_
  · rw [put1_W _ _ _ _ _ hi h5 hw, e88]
  · rw [hI _ (by omega)]; simp only [row1, gA_pA_x, gA_pI_x, gA_pJ_x, gA_sA_x, gA_pQ_x, gI_pA_x, gI_pI_x, gI_pJ_x, gI_sA_x, gI_pQ_x, gJ_pA_x, gJ_pI_x, gJ_pJ_x, gJ_sA_x, gJ_pQ_x, gQ_pA_x, gQ_pI_x, gQ_pJ_x, gQ_sA_x, gQ_pQ_x, gA_sJ_x, gI_sJ_x, gJ_sJ_x, gQ_sJ_x, if_true]
  · rw [roI_id h2 h8, roI_id h2 h8]
    by_cases e : j = n
    · rw [if_pos e]; exact e
    · rw [if_neg e, if_pos (by omega)]
  · rw [roI_id h2 h8]; exact hj
  · rw [hA i hi, hw]
    rw [hw] at hcw
    have hc0 : c = 0 := by omega
    subst hc0
    have hcm : cmI i 0 = 0 := by
      have : ∀ i, i < 10 → wI i = 1 → cmI i 0 = 0 := by decide
      exact this i hi hw
    rw [hcm, row1_A _ _ _ _ _ hj]
    by_cases e : j = n
    · rw [if_pos e, if_pos e]
    · rw [if_neg e, if_neg e, if_pos (by omega)]
  · rw [hI _ (by omega)]
    have hne : σ (2 + 2 * j) ≠ σ (2 + 2 * i) := Env_ne h (by omega) (by omega) (by omega)
    simp only [row1, gA_pA_x, gA_pI_x, gA_pJ_x, gA_sA_x, gA_pQ_x, gI_pA_x, gI_pI_x, gI_pJ_x, gI_sA_x, gI_pQ_x, gJ_pA_x, gJ_pI_x, gJ_pJ_x, gJ_sA_x, gJ_pQ_x, gQ_pA_x, gQ_pI_x, gQ_pJ_x, gQ_sA_x, gQ_pQ_x, gA_sJ_x, gI_sJ_x, gJ_sJ_x, gQ_sJ_x, if_neg hne]
  · rw [hA j hj]
    have hne : σ (3 + 2 * j) ≠ σ (3 + 2 * i) := Env_ne h (by omega) (by omega) (by omega)
    simp only [row1, gA_pA_x, gA_pI_x, gA_pJ_x, gA_sA_x, gA_pQ_x, gI_pA_x, gI_pI_x, gI_pJ_x, gI_sA_x, gI_pQ_x, gJ_pA_x, gJ_pI_x, gJ_pJ_x, gJ_sA_x, gJ_pQ_x, gQ_pA_x, gQ_pI_x, gQ_pJ_x, gQ_sA_x, gQ_pQ_x, gA_sJ_x, gI_sJ_x, gJ_sJ_x, gQ_sJ_x, if_neg hne]
  · rw [hI _ (by omega)]
    have hne : σ 1 ≠ σ (2 + 2 * i) := Env_ne h (by omega) (by omega) (by omega)
    simp only [row1, gA_pA_x, gA_pI_x, gA_pJ_x, gA_sA_x, gA_pQ_x, gI_pA_x, gI_pI_x, gI_pJ_x, gI_sA_x, gI_pQ_x, gJ_pA_x, gJ_pI_x, gJ_pJ_x, gJ_sA_x, gJ_pQ_x, gQ_pA_x, gQ_pI_x, gQ_pJ_x, gQ_sA_x, gQ_pQ_x, gA_sJ_x, gI_sJ_x, gJ_sJ_x, gQ_sJ_x, if_neg hne]
theorem app1_end (I : Inv σ E d) (k : ∀ E' d', Inv σ E' d' → kc E' d') {i n : Nat} (hi : i < 10) (h5 : i ≠ 5) (hw : wI i = 1) (hn : n < mI i) (hnW : nR (gA d (σ 88)) i = n) {x : Int32} {rb : Int32}
    (hv : okR i (cnt (appW (gA d (σ 88)) i n (fun _ => x)) 0) (cnt (appW (gA d (σ 88)) i n (fun _ => x)) 1) (fun _ => x)) :
    cmpO σ E kc 0 rb (put1 (pI (pJ (row1 d (σ (2 + 2 * i)) (σ (3 + 2 * i)) n x) (σ 115) 0 rb.toInt64) (σ 87) 0 0) (σ 88) (cI i) (oI i) n x) := by
  refine tl_out I.1 ?_ (fun _ => ?_) (k _ _ (Inv_app1 I hi h5 hw hn hnW.symm hv))
  · simp only [put1, gA_pA_x, gA_pI_x, gA_pJ_x, gA_sA_x, gA_pQ_x, gI_pA_x, gI_pI_x, gI_pJ_x, gI_sA_x, gI_pQ_x, gJ_pA_x, gJ_pI_x, gJ_pJ_x, gJ_sA_x, gJ_pQ_x, gQ_pA_x, gQ_pI_x, gQ_pJ_x, gQ_sA_x, gQ_pQ_x, gA_sJ_x, gI_sJ_x, gJ_sJ_x, gQ_sJ_x, if_true]
  · simp only [put1, gA_pA_x, gA_pI_x, gA_pJ_x, gA_sA_x, gA_pQ_x, gI_pA_x, gI_pI_x, gI_pJ_x, gI_sA_x, gI_pQ_x, gJ_pA_x, gJ_pI_x, gJ_pJ_x, gJ_sA_x, gJ_pQ_x, gQ_pA_x, gQ_pI_x, gQ_pJ_x, gQ_sA_x, gQ_pQ_x, gA_sJ_x, gI_sJ_x, gJ_sJ_x, gQ_sJ_x, if_true]
theorem p_freed (I : Inv σ E d) (x : Int32) (k : ∀ E' d', Inv σ E' d' → kc E' d') {K : Int32 → Dy → Prop} (hK : ∀ v d2, w_X11_freed E (σ 87) x d2 (fun r d => cmpO σ E kc v r d) → K v d2) : w_L_freed E (σ 0) x (σ 115) d K := by
  have h := I.1
  have td := td_10 I
  have wc := wc_8 I
  generalize hn : cnt (gA d (σ 88)) 8 = n at td wc
  have t1 := td.2.1
  have t3 := td.2.2.1
  by_cases b1 : bw x 0 9
  · rcases Nat.lt_or_eq_of_le wc.2 with hm | hm
    · have e88 := row1_88 (d := d) (n := n) (x := x) h (i := 4) (by decide)
      have td2 : TD (pI (sA d (σ 11) (opn (gA d (σ 11)) 1 n n)) (σ 10) 3 (nI (n + 1))) (σ 10) 1 20 (n + 1) := TD_pI3 (TD_sA td _ _) hm
      have key := app1_end (rb := nI (n + 1)) I k (i := 4) (x := x) (by decide) (by decide) rfl hm hn b1
      have g8 : gA (row1 d (σ 10) (σ 11) n x) (σ 88) 8 = nI n := (congrFun e88 8).trans wc.1
      have n20 : (nI n = 20) = False := eq_false (nlit (m := 20) hm (by decide))
      simp only [w_L_freed, w_X10_freed, w_X10_needBetween, w_X10_need, w_X10_needRoom, w_X6_isFull, eo_10 h, eo_115 h, x_0_0 h, x_1_5 h, eo_0 h, not_true_eq_false, not_false_eq_true, true_implies, false_implies, implies_true, forall_const, and_true, true_and, and_false, false_and, or_true, true_or, or_false, false_or, if_true, if_false, ite_true, ite_false, z10, z20, z30, z12, z13, z23, eq_self, sx_0_1, sx_0_2, sx_0_3, sx_1_0, sx_1_2, sx_1_3, sx_2_0, sx_2_1, sx_2_3, sx_3_0, sx_3_1, sx_3_2, bw_1 b1, bw_2 b1, t1, t3, tll hm (by decide)]
      refine T_open (te_10 h) td hm (T_set (r := n) (c := 0) (te_10 h) td2 (by omega) (by decide) (T_size (te_10 h) (TD_pA td2) ⟨v0_115 h, hK _ _ ?_⟩))
      show w_X11_freed E (σ 87) x (pJ (row1 d (σ 10) (σ 11) n x) (σ 115) 0 (nI (n + 1)).toInt64) _
      have e1 : (504 : Int32) + nI n = nI (504 + n) := z_add 504 n
      have q8 : ¬ 8 = 504 + n := by omega
      simp only [w_X11_freed, b_X11_freed_21, b_X11_freed_46, w_X11_in, w_X11_none, w_X11_noPerson, w_X11_noHut, w_X11_noYear, w_X11_noDay, w_X11_noTimes, w_X11_throwsIf, w_X11_persons, w_X11_huts, eo_87 h, x_87_1 h, en_88 h, x_87_2 h, en_89 h, x_87_4 h, en_90 h, x_87_11 h, en_91 h, x_87_14 h, en_92 h, x_87_15 h, en_93 h, x_87_16 h, en_94 h, x_87_18 h, en_95 h, x_87_19 h, en_96 h, x_87_20 h, en_97 h, x_87_21 h, en_98 h, x_87_22 h, en_99 h, x_87_23 h, en_100 h, x_87_24 h, en_101 h, x_87_25 h, en_102 h, x_87_26 h, en_103 h, x_87_27 h, en_104 h, x_87_28 h, en_105 h, x_87_30 h, en_106 h, x_87_31 h, en_107 h, x_87_32 h, en_108 h, x_87_34 h, en_109 h, x_87_35 h, en_110 h, x_87_36 h, en_111 h, x_87_37 h, en_112 h, x_87_38 h, en_113 h, x_87_39 h, en_114 h, qn_0, qv_0, qn_1, qv_1, qn_2, qv_2, qn_3, qv_3, qn_4, qv_4, qn_5, qv_5, qn_6, qv_6, qn_7, qv_7, qn_8, qv_8, qn_9, qv_9, qn_10, qv_10, qn_11, qv_11, qn_12, qv_12, qn_13, qv_13, eo_115 h, not_true_eq_false, not_false_eq_true, true_implies, false_implies, implies_true, forall_const, and_true, true_and, and_false, false_and, or_true, true_or, or_false, false_or, if_true, if_false, ite_true, ite_false, z10, z20, z30, z12, z13, z23, eq_self, sx_0_1, sx_0_2, sx_0_3, sx_1_0, sx_1_2, sx_1_3, sx_2_0, sx_2_1, sx_2_3, sx_3_0, sx_3_1, sx_3_2, gA_pI_x, gA_pJ_x, g8, bw_1 b1, bw_2 b1, n20, e1, gA_pA_x, if_neg q8, z_a1, z_nn (show 504 + n < 2147483648 by omega)]
      exact ⟨vpi (by omega) (by decide), key⟩
    · simp only [w_L_freed, w_X10_freed, eo_115 h, w_X10_needBetween, w_X10_need, w_X10_needYear, w_X10_needIndex, w_X10_needPerson, w_X10_needHut, w_X10_needHutInYears, w_X10_needRoom, w_X6_isFull, w_X6_size, eo_0 h, x_0_0 h, x_0_1 h, x_0_3 h, x_0_5 h, x_0_6 h, x_0_7 h, x_0_8 h, x_0_9 h, x_0_10 h, eo_1 h, x_1_1 h, x_1_2 h, x_1_3 h, x_1_4 h, x_1_5 h, x_1_6 h, x_1_7 h, x_1_8 h, x_1_9 h, x_1_10 h, x_1_11 h, en_22 h, eo_2 h, eo_4 h, eo_6 h, eo_8 h, eo_10 h, eo_12 h, eo_14 h, eo_16 h, eo_18 h, eo_20 h, not_true_eq_false, not_false_eq_true, true_implies, false_implies, implies_true, forall_const, and_true, true_and, and_false, false_and, or_true, true_or, or_false, false_or, if_true, if_false, ite_true, ite_false, z10, z20, z30, z12, z13, z23, eq_self, sx_0_1, sx_0_2, sx_0_3, sx_1_0, sx_1_2, sx_1_3, sx_2_0, sx_2_1, sx_2_3, sx_3_0, sx_3_1, sx_3_2, bw_1 b1, bw_2 b1, t1, t3, hm, tlf]
      refine hK _ _ ?_
      have n20 : (nI 20 = 20) = True := eq_true rfl
      simp only [w_X11_freed, b_X11_freed_21, b_X11_freed_46, w_X11_in, w_X11_none, w_X11_noPerson, w_X11_noHut, w_X11_noYear, w_X11_noDay, w_X11_noTimes, w_X11_throwsIf, w_X11_persons, w_X11_huts, eo_87 h, x_87_1 h, en_88 h, x_87_2 h, en_89 h, x_87_4 h, en_90 h, x_87_11 h, en_91 h, x_87_14 h, en_92 h, x_87_15 h, en_93 h, x_87_16 h, en_94 h, x_87_18 h, en_95 h, x_87_19 h, en_96 h, x_87_20 h, en_97 h, x_87_21 h, en_98 h, x_87_22 h, en_99 h, x_87_23 h, en_100 h, x_87_24 h, en_101 h, x_87_25 h, en_102 h, x_87_26 h, en_103 h, x_87_27 h, en_104 h, x_87_28 h, en_105 h, x_87_30 h, en_106 h, x_87_31 h, en_107 h, x_87_32 h, en_108 h, x_87_34 h, en_109 h, x_87_35 h, en_110 h, x_87_36 h, en_111 h, x_87_37 h, en_112 h, x_87_38 h, en_113 h, x_87_39 h, en_114 h, qn_0, qv_0, qn_1, qv_1, qn_2, qv_2, qn_3, qv_3, qn_4, qv_4, qn_5, qv_5, qn_6, qv_6, qn_7, qv_7, qn_8, qv_8, qn_9, qv_9, qn_10, qv_10, qn_11, qv_11, qn_12, qv_12, qn_13, qv_13, eo_115 h, not_true_eq_false, not_false_eq_true, true_implies, false_implies, implies_true, forall_const, and_true, true_and, and_false, false_and, or_true, true_or, or_false, false_or, if_true, if_false, ite_true, ite_false, z10, z20, z30, z12, z13, z23, eq_self, sx_0_1, sx_0_2, sx_0_3, sx_1_0, sx_1_2, sx_1_3, sx_2_0, sx_2_1, sx_2_3, sx_3_0, sx_3_1, sx_3_2, gA_pI_x, wc.1, hm, n20, bw_1 b1, bw_2 b1]
      exact fail_O I (by decide) k
  · exact ⟨eo_0 h, eo_115 h, eo_0 h, nb0 b1 (Or.inl ⟨rfl, hK _ _ ⟨eo_87 h, ri0 b1 ⟨fun q => absurd rfl q, fun _ => ⟨eo_87 h, rt1 h ⟨fun _ => fail_O I (by decide) k, fun q => absurd q (by decide)⟩⟩⟩⟩⟩)⟩
theorem c_freed (I : Inv σ E d) (hv : v5 v4 L) (k : ∀ E' d', Inv σ E' d' → kc E' d') : lw_1507 E (σ 0) (σ 87) (σ 115) v4 xs L kc d :=
  ⟨eo_0 I.1, eo_87 I.1, eo_115 I.1, hv.1, p_freed I _ k (fun v d2 hk => ⟨hv.1, hk⟩)⟩
theorem p_thief (I : Inv σ E d) (x : Int32) (k : ∀ E' d', Inv σ E' d' → kc E' d') {K : Int32 → Dy → Prop} (hK : ∀ v d2, w_X11_thief E (σ 87) x d2 (fun r d => cmpO σ E kc v r d) → K v d2) : w_L_thief E (σ 0) x (σ 115) d K := by
  have h := I.1
  have td := td_20 I
  have wc := wc_9 I
  generalize hn : cnt (gA d (σ 88)) 9 = n at td wc
  have t1 := td.2.1
  have t3 := td.2.2.1
  by_cases b1 : bw x 0 365
  · rcases Nat.lt_or_eq_of_le wc.2 with hm | hm
    · have e88 := row1_88 (d := d) (n := n) (x := x) h (i := 9) (by decide)
      have td2 : TD (pI (sA d (σ 21) (opn (gA d (σ 21)) 1 n n)) (σ 20) 3 (nI (n + 1))) (σ 20) 1 12 (n + 1) := TD_pI3 (TD_sA td _ _) hm
      have key := app1_end (rb := nI (n + 1)) I k (i := 9) (x := x) (by decide) (by decide) rfl hm hn b1
      have g9 : gA (row1 d (σ 20) (σ 21) n x) (σ 88) 9 = nI n := (congrFun e88 9).trans wc.1
      have n12 : (nI n = 12) = False := eq_false (nlit (m := 12) hm (by decide))
      simp only [w_L_thief, w_X10_thief, w_X10_needBetween, w_X10_need, w_X10_needRoom, w_X6_isFull, eo_20 h, eo_115 h, x_0_0 h, x_1_10 h, eo_0 h, not_true_eq_false, not_false_eq_true, true_implies, false_implies, implies_true, forall_const, and_true, true_and, and_false, false_and, or_true, true_or, or_false, false_or, if_true, if_false, ite_true, ite_false, z10, z20, z30, z12, z13, z23, eq_self, sx_0_1, sx_0_2, sx_0_3, sx_1_0, sx_1_2, sx_1_3, sx_2_0, sx_2_1, sx_2_3, sx_3_0, sx_3_1, sx_3_2, bw_1 b1, bw_2 b1, t1, t3, tll hm (by decide)]
      refine T_open (te_20 h) td hm (T_set (r := n) (c := 0) (te_20 h) td2 (by omega) (by decide) (T_size (te_20 h) (TD_pA td2) ⟨v0_115 h, hK _ _ ?_⟩))
      show w_X11_thief E (σ 87) x (pJ (row1 d (σ 20) (σ 21) n x) (σ 115) 0 (nI (n + 1)).toInt64) _
      have e1 : (524 : Int32) + nI n = nI (524 + n) := z_add 524 n
      have q9 : ¬ 9 = 524 + n := by omega
      simp only [w_X11_thief, b_X11_thief_22, b_X11_thief_47, w_X11_in, w_X11_none, w_X11_noPerson, w_X11_noHut, w_X11_noYear, w_X11_noDay, w_X11_noTimes, w_X11_throwsIf, w_X11_persons, w_X11_huts, eo_87 h, x_87_1 h, en_88 h, x_87_2 h, en_89 h, x_87_4 h, en_90 h, x_87_11 h, en_91 h, x_87_14 h, en_92 h, x_87_15 h, en_93 h, x_87_16 h, en_94 h, x_87_18 h, en_95 h, x_87_19 h, en_96 h, x_87_20 h, en_97 h, x_87_21 h, en_98 h, x_87_22 h, en_99 h, x_87_23 h, en_100 h, x_87_24 h, en_101 h, x_87_25 h, en_102 h, x_87_26 h, en_103 h, x_87_27 h, en_104 h, x_87_28 h, en_105 h, x_87_30 h, en_106 h, x_87_31 h, en_107 h, x_87_32 h, en_108 h, x_87_34 h, en_109 h, x_87_35 h, en_110 h, x_87_36 h, en_111 h, x_87_37 h, en_112 h, x_87_38 h, en_113 h, x_87_39 h, en_114 h, qn_0, qv_0, qn_1, qv_1, qn_2, qv_2, qn_3, qv_3, qn_4, qv_4, qn_5, qv_5, qn_6, qv_6, qn_7, qv_7, qn_8, qv_8, qn_9, qv_9, qn_10, qv_10, qn_11, qv_11, qn_12, qv_12, qn_13, qv_13, eo_115 h, not_true_eq_false, not_false_eq_true, true_implies, false_implies, implies_true, forall_const, and_true, true_and, and_false, false_and, or_true, true_or, or_false, false_or, if_true, if_false, ite_true, ite_false, z10, z20, z30, z12, z13, z23, eq_self, sx_0_1, sx_0_2, sx_0_3, sx_1_0, sx_1_2, sx_1_3, sx_2_0, sx_2_1, sx_2_3, sx_3_0, sx_3_1, sx_3_2, gA_pI_x, gA_pJ_x, g9, bw_1 b1, bw_2 b1, n12, e1, gA_pA_x, if_neg q9, z_a1, z_nn (show 524 + n < 2147483648 by omega)]
      exact ⟨vpi (by omega) (by decide), key⟩
    · simp only [w_L_thief, w_X10_thief, eo_115 h, w_X10_needBetween, w_X10_need, w_X10_needYear, w_X10_needIndex, w_X10_needPerson, w_X10_needHut, w_X10_needHutInYears, w_X10_needRoom, w_X6_isFull, w_X6_size, eo_0 h, x_0_0 h, x_0_1 h, x_0_3 h, x_0_5 h, x_0_6 h, x_0_7 h, x_0_8 h, x_0_9 h, x_0_10 h, eo_1 h, x_1_1 h, x_1_2 h, x_1_3 h, x_1_4 h, x_1_5 h, x_1_6 h, x_1_7 h, x_1_8 h, x_1_9 h, x_1_10 h, x_1_11 h, en_22 h, eo_2 h, eo_4 h, eo_6 h, eo_8 h, eo_10 h, eo_12 h, eo_14 h, eo_16 h, eo_18 h, eo_20 h, not_true_eq_false, not_false_eq_true, true_implies, false_implies, implies_true, forall_const, and_true, true_and, and_false, false_and, or_true, true_or, or_false, false_or, if_true, if_false, ite_true, ite_false, z10, z20, z30, z12, z13, z23, eq_self, sx_0_1, sx_0_2, sx_0_3, sx_1_0, sx_1_2, sx_1_3, sx_2_0, sx_2_1, sx_2_3, sx_3_0, sx_3_1, sx_3_2, bw_1 b1, bw_2 b1, t1, t3, hm, tlf]
      refine hK _ _ ?_
      have n12 : (nI 12 = 12) = True := eq_true rfl
      simp only [w_X11_thief, b_X11_thief_22, b_X11_thief_47, w_X11_in, w_X11_none, w_X11_noPerson, w_X11_noHut, w_X11_noYear, w_X11_noDay, w_X11_noTimes, w_X11_throwsIf, w_X11_persons, w_X11_huts, eo_87 h, x_87_1 h, en_88 h, x_87_2 h, en_89 h, x_87_4 h, en_90 h, x_87_11 h, en_91 h, x_87_14 h, en_92 h, x_87_15 h, en_93 h, x_87_16 h, en_94 h, x_87_18 h, en_95 h, x_87_19 h, en_96 h, x_87_20 h, en_97 h, x_87_21 h, en_98 h, x_87_22 h, en_99 h, x_87_23 h, en_100 h, x_87_24 h, en_101 h, x_87_25 h, en_102 h, x_87_26 h, en_103 h, x_87_27 h, en_104 h, x_87_28 h, en_105 h, x_87_30 h, en_106 h, x_87_31 h, en_107 h, x_87_32 h, en_108 h, x_87_34 h, en_109 h, x_87_35 h, en_110 h, x_87_36 h, en_111 h, x_87_37 h, en_112 h, x_87_38 h, en_113 h, x_87_39 h, en_114 h, qn_0, qv_0, qn_1, qv_1, qn_2, qv_2, qn_3, qv_3, qn_4, qv_4, qn_5, qv_5, qn_6, qv_6, qn_7, qv_7, qn_8, qv_8, qn_9, qv_9, qn_10, qv_10, qn_11, qv_11, qn_12, qv_12, qn_13, qv_13, eo_115 h, not_true_eq_false, not_false_eq_true, true_implies, false_implies, implies_true, forall_const, and_true, true_and, and_false, false_and, or_true, true_or, or_false, false_or, if_true, if_false, ite_true, ite_false, z10, z20, z30, z12, z13, z23, eq_self, sx_0_1, sx_0_2, sx_0_3, sx_1_0, sx_1_2, sx_1_3, sx_2_0, sx_2_1, sx_2_3, sx_3_0, sx_3_1, sx_3_2, gA_pI_x, wc.1, hm, n12, bw_1 b1, bw_2 b1]
      exact fail_O I (by decide) k
  · exact ⟨eo_0 h, eo_115 h, eo_0 h, nb0 b1 (Or.inl ⟨rfl, hK _ _ ⟨eo_87 h, ri0 b1 ⟨fun q => absurd rfl q, fun _ => ⟨eo_87 h, rt1 h ⟨fun _ => fail_O I (by decide) k, fun q => absurd q (by decide)⟩⟩⟩⟩⟩)⟩
theorem c_thief (I : Inv σ E d) (hv : v5 v4 L) (k : ∀ E' d', Inv σ E' d' → kc E' d') : lw_2905 E (σ 0) (σ 87) (σ 115) v4 xs L kc d :=
  ⟨eo_0 I.1, eo_87 I.1, eo_115 I.1, hv.1, p_thief I _ k (fun v d2 hk => ⟨hv.1, hk⟩)⟩
end
