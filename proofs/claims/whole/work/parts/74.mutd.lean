section
variable {σ : Nat → Nat} {E : En} {d d' : Dy} {kc : En → Dy → Prop} {v4 : Int32} {xs : Nat → Int32} {L : Nat}
theorem p_plank (I : Inv σ E d) (a p f : Int32) (k : ∀ E' d', Inv σ E' d' → kc E' d') {K : Int32 → Dy → Prop} (hK : ∀ v d2, w_X11_plank E (σ 87) a p f d2 (fun r d => cmpO σ E kc v r d) → K v d2) : w_L_plank E (σ 0) a p f (σ 115) d K := by
  have h := I.1
  have td := td_16 I
  have wc := wc_6 I
  generalize hn : cnt (gA d (σ 88)) 6 = n at td wc
  have t1 := td.2.1
  have t3 := td.2.2.1
  by_cases b0 : lx p 10
  · have b0' : bw p 0 9 := (bw_lx (n := 10) (by decide)).mpr b0
    by_cases b1 : bw a 1 255
    · by_cases b2 : bw f 0 9
      · rcases Nat.lt_or_eq_of_le wc.2 with hm | hm
        · have td2 : TD (pI (sA d (σ 17) (opn (gA d (σ 17)) 3 n n)) (σ 16) 3 (nI (n + 1))) (σ 16) 3 8 (n + 1) := TD_pI3 (TD_sA td _ _) hm
          have e88 := row3_88 (d := d) (n := n) (x := a) (y := p) (z := f) h (i := 7) (by decide)
          have key := app3_end (rb := nI n) I k (i := 7) (x := a) (y := p) (z := f) (x' := a) (y' := p) (z' := f) (by decide) (by decide) rfl (by decide) hm hn (fun c hc => ⟨hc, rfl⟩) ⟨b1, b0', b2⟩
          have g6 : gA (row3 d (σ 16) (σ 17) n a p f) (σ 88) 6 = nI n := (congrFun e88 6).trans wc.1
          have n8 : (nI n = 8) = False := eq_false (nlit (m := 8) hm (by decide))
          refine ⟨eo_0 h, eo_115 h, eo_0 h, ni1 (n := 10) b0 (by decide) (nb1 b1 (nb1 b2 ?_))⟩
          simp only [x_0_0 h, x_1_8 h]
          refine nr1 (te_16 h) td (by decide) hm (T_open (te_16 h) td hm (T_set (r := n) (c := 0) (te_16 h) td2 (by omega) (by decide) (T_set (r := n) (c := 1) (te_16 h) (TD_pA td2) (by omega) (by decide) (T_set (r := n) (c := 2) (te_16 h) (TD_pA (TD_pA td2)) (by omega) (by decide) ⟨v0_115 h, hK _ _ ?_⟩))))
          show w_X11_plank E (σ 87) a p f (pJ (row3 d (σ 16) (σ 17) n a p f) (σ 115) 0 (nI n).toInt64) _
          simp only [w_X11_plank, b_X11_plank_21, b_X11_plank_50, b_X11_plank_55, b_X11_plank_80, w_X11_in, w_X11_none, w_X11_noPerson, w_X11_noHut, w_X11_noYear, w_X11_noDay, w_X11_noTimes, w_X11_throwsIf, w_X11_persons, w_X11_huts, eo_87 h, x_87_1 h, en_88 h, x_87_2 h, en_89 h, x_87_4 h, en_90 h, x_87_11 h, en_91 h, x_87_14 h, en_92 h, x_87_15 h, en_93 h, x_87_16 h, en_94 h, x_87_18 h, en_95 h, x_87_19 h, en_96 h, x_87_20 h, en_97 h, x_87_21 h, en_98 h, x_87_22 h, en_99 h, x_87_23 h, en_100 h, x_87_24 h, en_101 h, x_87_25 h, en_102 h, x_87_26 h, en_103 h, x_87_27 h, en_104 h, x_87_28 h, en_105 h, x_87_30 h, en_106 h, x_87_31 h, en_107 h, x_87_32 h, en_108 h, x_87_34 h, en_109 h, x_87_35 h, en_110 h, x_87_36 h, en_111 h, x_87_37 h, en_112 h, x_87_38 h, en_113 h, x_87_39 h, en_114 h, qn_0, qv_0, qn_1, qv_1, qn_2, qv_2, qn_3, qv_3, qn_4, qv_4, qn_5, qv_5, qn_6, qv_6, qn_7, qv_7, qn_8, qv_8, qn_9, qv_9, qn_10, qv_10, qn_11, qv_11, qn_12, qv_12, qn_13, qv_13, eo_115 h, not_true_eq_false, not_false_eq_true, true_implies, false_implies, implies_true, forall_const, and_true, true_and, and_false, false_and, or_true, true_or, or_false, false_or, if_true, if_false, ite_true, ite_false, z10, z20, z30, z12, z13, z23, eq_self, sx_0_1, sx_0_2, sx_0_3, sx_1_0, sx_1_2, sx_1_3, sx_2_0, sx_2_1, sx_2_3, sx_3_0, sx_3_1, sx_3_2, gA_pI_x, gA_pJ_x, g6, bw_1 b0', bw_2 b0', bw_1 b1, bw_2 b1, bw_1 b2, bw_2 b2, n8]
          refine r_puts h (c := 6) (o := 420) (by decide) (by decide) g6 (by omega) ?_
          rw [z_m1]; exact key
        · refine ⟨eo_0 h, eo_115 h, eo_0 h, ni1 (n := 10) b0 (by decide) (nb1 b1 (nb1 b2 ?_))⟩
          simp only [x_0_0 h, x_1_8 h]
          refine nr0 (te_16 h) td (by decide) hm (Or.inr (Or.inr ⟨rfl, hK _ _ ?_⟩))
          have n8 : (nI 8 = 8) = True := eq_true rfl
          simp only [w_X11_plank, b_X11_plank_21, b_X11_plank_50, b_X11_plank_55, b_X11_plank_80, w_X11_in, w_X11_none, w_X11_noPerson, w_X11_noHut, w_X11_noYear, w_X11_noDay, w_X11_noTimes, w_X11_throwsIf, w_X11_persons, w_X11_huts, eo_87 h, x_87_1 h, en_88 h, x_87_2 h, en_89 h, x_87_4 h, en_90 h, x_87_11 h, en_91 h, x_87_14 h, en_92 h, x_87_15 h, en_93 h, x_87_16 h, en_94 h, x_87_18 h, en_95 h, x_87_19 h, en_96 h, x_87_20 h, en_97 h, x_87_21 h, en_98 h, x_87_22 h, en_99 h, x_87_23 h, en_100 h, x_87_24 h, en_101 h, x_87_25 h, en_102 h, x_87_26 h, en_103 h, x_87_27 h, en_104 h, x_87_28 h, en_105 h, x_87_30 h, en_106 h, x_87_31 h, en_107 h, x_87_32 h, en_108 h, x_87_34 h, en_109 h, x_87_35 h, en_110 h, x_87_36 h, en_111 h, x_87_37 h, en_112 h, x_87_38 h, en_113 h, x_87_39 h, en_114 h, qn_0, qv_0, qn_1, qv_1, qn_2, qv_2, qn_3, qv_3, qn_4, qv_4, qn_5, qv_5, qn_6, qv_6, qn_7, qv_7, qn_8, qv_8, qn_9, qv_9, qn_10, qv_10, qn_11, qv_11, qn_12, qv_12, qn_13, qv_13, eo_115 h, not_true_eq_false, not_false_eq_true, true_implies, false_implies, implies_true, forall_const, and_true, true_and, and_false, false_and, or_true, true_or, or_false, false_or, if_true, if_false, ite_true, ite_false, z10, z20, z30, z12, z13, z23, eq_self, sx_0_1, sx_0_2, sx_0_3, sx_1_0, sx_1_2, sx_1_3, sx_2_0, sx_2_1, sx_2_3, sx_3_0, sx_3_1, sx_3_2, gA_pI_x, wc.1, hm, n8, bw_1 b0', bw_2 b0', bw_1 b1, bw_2 b1, bw_1 b2, bw_2 b2]
          exact fail_O I (by decide) k
      · exact ⟨eo_0 h, eo_115 h, eo_0 h, ni1 (n := 10) b0 (by decide) (nb1 b1 (nb0 b2 (Or.inr (Or.inl ⟨rfl, hK _ _ ⟨eo_87 h, ri1 b0' ⟨fun _ => ⟨eo_87 h, rt0 h ⟨fun q => absurd rfl q, fun _ => ri1 b1 ⟨fun q => absurd q (by decide), fun _ => ri0 b2 ⟨fun q => absurd rfl q, fun _ => ⟨eo_87 h, eo_87 h, rt1 h ⟨fun _ => fail_O I (by decide) k, fun q => absurd q (by decide)⟩⟩⟩⟩⟩⟩, fun q => absurd q (by decide)⟩⟩⟩))))⟩
    · exact ⟨eo_0 h, eo_115 h, eo_0 h, ni1 (n := 10) b0 (by decide) (nb0 b1 (Or.inr (Or.inl ⟨rfl, hK _ _ ⟨eo_87 h, ri1 b0' ⟨fun _ => ⟨eo_87 h, rt0 h ⟨fun q => absurd rfl q, fun _ => ri0 b1 ⟨fun _ => ⟨eo_87 h, eo_87 h, rt1 h ⟨fun _ => fail_O I (by decide) k, fun q => absurd q (by decide)⟩⟩, fun q => absurd rfl q⟩⟩⟩, fun q => absurd q (by decide)⟩⟩⟩)))⟩
  · have b0' : ¬ bw p 0 9 := fun q => b0 ((bw_lx (n := 10) (by decide)).mp q)
    exact ⟨eo_0 h, eo_115 h, eo_0 h, ni0 (n := 10) b0 (by decide) (Or.inl ⟨rfl, hK _ _ ⟨eo_87 h, ri0 b0' ⟨fun q => absurd rfl q, fun _ => ⟨eo_87 h, rt1 h ⟨fun _ => fail_O I (by decide) k, fun q => absurd q (by decide)⟩⟩⟩⟩⟩)⟩
theorem c_plank (I : Inv σ E d) (hv : v5 v4 L) (k : ∀ E' d', Inv σ E' d' → kc E' d') : lw_2495 E (σ 0) (σ 87) (σ 115) v4 xs L kc d :=
  ⟨eo_0 I.1, eo_87 I.1, eo_115 I.1, hv.1, hv.2.1, hv.2.2.1, p_plank I _ _ _ k (fun v d2 hk => ⟨hv.1, hv.2.1, hv.2.2.1, hk⟩)⟩
/-! a new hut -/
def rowH (d : Dy) (t b n : Nat) (s p w : Int32) : Dy := pA (pA (pA (pA (pI (sA d b (opn (gA d b) 7 n n)) t 3 (nI (n + 1))) b (n * 7 + 0) s) b (n * 7 + 1) p) b (n * 7 + 2) w) b (n * 7 + 4) 99
def cH (s p w : Int32) : Nat → Int32 := fun c => if c = 0 then s else if c = 1 then p else if c = 2 then w else if c = 4 then 99 else 0
def putH (d : Dy) (a n : Nat) (s p w : Int32) : Dy := pA (pA (pA (pA (pA (pA (pA (pA d a (50 + 7 * n) s) a (50 + 7 * n + 1) p) a (50 + 7 * n + 2) w) a (50 + 7 * n + 3) 0) a (50 + 7 * n + 4) 99) a (50 + 7 * n + 5) 0) a (50 + 7 * n + 6) 0) a 1 (nI (n + 1))
theorem rowH_A (d : Dy) (t b n : Nat) (s p w : Int32) {j c : Nat} (hj : j ≤ n) (hc : c < 7) : gA (rowH d t b n s p w) b (j * 7 + c) = if j = n then cH s p w c else gA d b (j * 7 + c) := by
  simp only [rowH, gA_pA_x, gA_pI_x, gA_sA_x, if_true]
  by_cases e : j = n
  · subst e
    rw [if_pos rfl]
    rcases (show c = 0 ∨ c = 1 ∨ c = 2 ∨ c = 3 ∨ c = 4 ∨ c = 5 ∨ c = 6 by omega) with rfl | rfl | rfl | rfl | rfl | rfl | rfl <;> simp [cH, opn] <;> omega
  · rw [if_neg e, if_neg (by omega), if_neg (by omega), if_neg (by omega), if_neg (by omega), opn_end _ _ _ _ (by omega)]
theorem putH_W (d : Dy) (a n : Nat) (s p w : Int32) : gA (putH d a n s p w) a = appW (gA d a) 1 n (cH s p w) := by
  funext k
  simp only [putH, gA_pA_x, if_true, appW, show cI 1 = 1 from rfl, show oI 1 = 50 from rfl, show wI 1 = 7 from rfl]
  by_cases h1 : k = 1
  · simp only [if_pos h1]
  · simp only [if_neg h1]
    by_cases h0 : 50 + 7 * n ≤ k ∧ k < 50 + 7 * n + 7
    · rw [if_pos h0]
      obtain ⟨c, rfl⟩ : ∃ c, k = 50 + 7 * n + c := ⟨k - (50 + 7 * n), by omega⟩
      rw [show 50 + 7 * n + c - (50 + 7 * n) = c by omega]
      rcases (show c = 0 ∨ c = 1 ∨ c = 2 ∨ c = 3 ∨ c = 4 ∨ c = 5 ∨ c = 6 by omega) with rfl | rfl | rfl | rfl | rfl | rfl | rfl <;> simp [cH]
    · rw [if_neg h0, if_neg (by omega), if_neg (by omega), if_neg (by omega), if_neg (by omega), if_neg (by omega), if_neg (by omega), if_neg (by omega)]
theorem Inv_appH (I : Inv σ E d) {n : Nat} (hn : n < 10) (hnW : cnt (gA d (σ 88)) 1 = n) {s p w : Int32} {jv : Int64} (hv : okR 1 (cnt (gA d (σ 88)) 0) (cnt (appW (gA d (σ 88)) 1 n (cH s p w)) 1) (cH s p w)) :
    Inv σ E (putH (pI (pJ (rowH d (σ 4) (σ 5) n s p w) (σ 115) 0 jv) (σ 87) 0 0) (σ 88) n s p w) := by
  have h := I.1
  have c1 : Ch σ wor d (rowH d (σ 4) (σ 5) n s p w) :=
    Ch_tr (Ch_tr (Ch_tr (Ch_tr (Ch_tr (Ch_sA h (by decide) (by decide)) (Ch_pI h (by decide) (by decide) (by decide))) (Ch_pA h (by decide) (by decide))) (Ch_pA h (by decide) (by decide))) (Ch_pA h (by decide) (by decide))) (Ch_pA h (by decide) (by decide))
  have c2 : Ch σ wor d (putH (pI (pJ (rowH d (σ 4) (σ 5) n s p w) (σ 115) 0 jv) (σ 87) 0 0) (σ 88) n s p w) :=
    Ch_tr (Ch_tr (Ch_tr c1 (Ch_pJ h (by decide) (by decide))) (Ch_pI h (i := 87) (by decide) (by decide) (by decide))) (Ch_tr (Ch_tr (Ch_tr (Ch_tr (Ch_tr (Ch_tr (Ch_tr (Ch_pA h (by decide) (by decide)) (Ch_pA h (by decide) (by decide))) (Ch_pA h (by decide) (by decide))) (Ch_pA h (by decide) (by decide))) (Ch_pA h (by decide) (by decide))) (Ch_pA h (by decide) (by decide))) (Ch_pA h (by decide) (by decide))) (Ch_pA h (by decide) (by decide)))
  have e88 : gA (pI (pJ (rowH d (σ 4) (σ 5) n s p w) (σ 115) 0 jv) (σ 87) 0 0) (σ 88) = gA d (σ 88) := by
    simp only [rowH, gA_pA_x, gA_pI_x, gA_pJ_x, gA_sA_x, gA_pQ_x, gI_pA_x, gI_pI_x, gI_pJ_x, gI_sA_x, gI_pQ_x, gJ_pA_x, gJ_pI_x, gJ_pJ_x, gJ_sA_x, gJ_pQ_x, gQ_pA_x, gQ_pI_x, gQ_pJ_x, gQ_sA_x, gQ_pQ_x, gA_sJ_x, gI_sJ_x, gJ_sJ_x, gQ_sJ_x, sg h, Nat.reduceLT, Nat.reduceEqDiff, if_false]
  have hA : ∀ j, j < 10 → gA (putH (pI (pJ (rowH d (σ 4) (σ 5) n s p w) (σ 115) 0 jv) (σ 87) 0 0) (σ 88) n s p w) (σ (3 + 2 * j)) = gA (rowH d (σ 4) (σ 5) n s p w) (σ (3 + 2 * j)) := fun j hj => by
    have hne : σ (3 + 2 * j) ≠ σ 88 := Env_ne h (by omega) (by decide) (by omega)
    simp only [putH, gA_pA_x, gA_pI_x, gA_pJ_x, gA_sA_x, gA_pQ_x, gI_pA_x, gI_pI_x, gI_pJ_x, gI_sA_x, gI_pQ_x, gJ_pA_x, gJ_pI_x, gJ_pJ_x, gJ_sA_x, gJ_pQ_x, gQ_pA_x, gQ_pI_x, gQ_pJ_x, gQ_sA_x, gQ_pQ_x, gA_sJ_x, gI_sJ_x, gJ_sJ_x, gQ_sJ_x, if_neg hne]
  have hI : ∀ j, j < 22 → gI (putH (pI (pJ (rowH d (σ 4) (σ 5) n s p w) (σ 115) 0 jv) (σ 87) 0 0) (σ 88) n s p w) (σ j) = gI (rowH d (σ 4) (σ 5) n s p w) (σ j) := fun j hj => by
    have hne : σ j ≠ σ 87 := Env_ne h (by omega) (by decide) (by omega)
    simp only [putH, gA_pA_x, gA_pI_x, gA_pJ_x, gA_sA_x, gA_pQ_x, gI_pA_x, gI_pI_x, gI_pJ_x, gI_sA_x, gI_pQ_x, gJ_pA_x, gJ_pI_x, gJ_pJ_x, gJ_sA_x, gJ_pQ_x, gQ_pA_x, gQ_pI_x, gQ_pJ_x, gQ_sA_x, gQ_pQ_x, gA_sJ_x, gI_sJ_x, gJ_sJ_x, gQ_sJ_x, if_neg hne]
  have hnp : cnt (appW (gA d (σ 88)) 1 n (cH s p w)) 0 = cnt (gA d (σ 88)) 0 := by unfold cnt; rw [app_lo (by decide) (by decide) (by decide)]
  refine Inv_app I c2 (r := n) (i := 1) (by decide) (by decide) hn hnW.symm (by rw [hnp]; exact hv) ?_ ?_ (Nat.le_refl n) (fun j hj => ?_) (fun j hj => ?_) (fun j hj c hcw => ?_) (fun j hj hji => ⟨?_, ?_⟩) ?_
  · rw [putH_W, e88]
  · rw [hI _ (by omega)]; simp only [rowH, gA_pA_x, gA_pI_x, gA_pJ_x, gA_sA_x, gA_pQ_x, gI_pA_x, gI_pI_x, gI_pJ_x, gI_sA_x, gI_pQ_x, gJ_pA_x, gJ_pI_x, gJ_pJ_x, gJ_sA_x, gJ_pQ_x, gQ_pA_x, gQ_pI_x, gQ_pJ_x, gQ_sA_x, gQ_pQ_x, gA_sJ_x, gI_sJ_x, gJ_sJ_x, gQ_sJ_x, if_true]
  · rw [roI_id (by decide) (by decide), roI_id (by decide) (by decide)]
    by_cases e : j = n
    · rw [if_pos e]; exact e
    · rw [if_neg e, if_pos (by omega)]
  · rw [roI_id (by decide) (by decide)]; exact hj
  · rw [hA 1 (by decide)]
    show gA (rowH d (σ 4) (σ 5) n s p w) (σ 5) (j * 7 + c) = _
    rw [rowH_A _ _ _ _ _ _ _ hj hcw]
    by_cases e : j = n
    · rw [if_pos e, if_pos e]
    · rw [if_neg e, if_neg e, if_pos (by omega)]; rfl
  · rw [hI _ (by omega)]
    have hne : σ (2 + 2 * j) ≠ σ 4 := Env_ne h (by omega) (by omega) (by omega)
    simp only [rowH, gA_pA_x, gA_pI_x, gA_pJ_x, gA_sA_x, gA_pQ_x, gI_pA_x, gI_pI_x, gI_pJ_x, gI_sA_x, gI_pQ_x, gJ_pA_x, gJ_pI_x, gJ_pJ_x, gJ_sA_x, gJ_pQ_x, gQ_pA_x, gQ_pI_x, gQ_pJ_x, gQ_sA_x, gQ_pQ_x, gA_sJ_x, gI_sJ_x, gJ_sJ_x, gQ_sJ_x, if_neg hne]
  · rw [hA j hj]
    have hne : σ (3 + 2 * j) ≠ σ 5 := Env_ne h (by omega) (by omega) (by omega)
    simp only [rowH, gA_pA_x, gA_pI_x, gA_pJ_x, gA_sA_x, gA_pQ_x, gI_pA_x, gI_pI_x, gI_pJ_x, gI_sA_x, gI_pQ_x, gJ_pA_x, gJ_pI_x, gJ_pJ_x, gJ_sA_x, gJ_pQ_x, gQ_pA_x, gQ_pI_x, gQ_pJ_x, gQ_sA_x, gQ_pQ_x, gA_sJ_x, gI_sJ_x, gJ_sJ_x, gQ_sJ_x, if_neg hne]
  · rw [hI _ (by omega)]
    simp only [rowH, gA_pA_x, gA_pI_x, gA_pJ_x, gA_sA_x, gA_pQ_x, gI_pA_x, gI_pI_x, gI_pJ_x, gI_sA_x, gI_pQ_x, gJ_pA_x, gJ_pI_x, gJ_pJ_x, gJ_sA_x, gJ_pQ_x, gQ_pA_x, gQ_pI_x, gQ_pJ_x, gQ_sA_x, gQ_pQ_x, gA_sJ_x, gI_sJ_x, gJ_sJ_x, gQ_sJ_x, sg h, Nat.reduceLT, Nat.reduceEqDiff, if_false]
theorem p_hut (I : Inv σ E d) (s p w : Int32) (k : ∀ E' d', Inv σ E' d' → kc E' d') {K : Int32 → Dy → Prop} (hK : ∀ v d2, w_X11_hut E (σ 87) s p w d2 (fun r d => cmpO σ E kc v r d) → K v d2) : w_L_hut E (σ 0) s p w (σ 115) d K := by
  have h := I.1
  have td := td_4 I
  have tdp := td_2 I
  have wc := wc_1 I
  have wcp := wc_0 I
  generalize hn : cnt (gA d (σ 88)) 1 = n at td wc
  generalize hnp : cnt (gA d (σ 88)) 0 = np at tdp wcp
  have hnpb := tdp.2.2.2
  have b23 : ∀ d2 K2, b_X11_hut_24 E (σ 87) s p w K2 (σ 87) 0 d2 → b_X11_hut_23 E (σ 87) s p w K2 (σ 87) d2 := fun d2 K2 q => ⟨eo_87 h, q⟩
  by_cases b0 : p = -1 ∨ lx p np
  · have cl : ∀ {K1 X}, b_X10_hut_10 E (σ 0) s p w K1 X d → w_X10_hut E (σ 0) s p w d K1 X := fun q => by
      rcases b0 with rfl | b0
      · exact ⟨eo_0 h, fun _ => q, fun hq => absurd rfl hq⟩
      · exact ⟨eo_0 h, fun _ => q, fun _ => np1 h tdp b0 q⟩
    have rf : ∀ {K1 d2}, gA d2 (σ 88) 0 = nI np → b_X11_hut_24 E (σ 87) s p w K1 (σ 87) 0 (pI d2 (σ 87) 0 0) → w_X11_hut E (σ 87) s p w d2 K1 := fun e q => by
      rcases b0 with rfl | b0
      · exact ⟨eo_87 h, fun _ => b23 _ _ q, fun hq => absurd rfl hq⟩
      · exact ⟨eo_87 h, fun _ => b23 _ _ q, fun _ => rpn1 h e (by omega) b0 ⟨fun _ => b23 _ _ q, fun q => absurd rfl q⟩⟩
    by_cases b1 : bw s 1 9
    · by_cases b2 : bw w 0 20
      · rcases Nat.lt_or_eq_of_le wc.2 with hm | hm
        · have td2 : TD (pI (sA d (σ 5) (opn (gA d (σ 5)) 7 n n)) (σ 4) 3 (nI (n + 1))) (σ 4) 7 10 (n + 1) := TD_pI3 (TD_sA td _ _) hm
          have e88 : gA (rowH d (σ 4) (σ 5) n s p w) (σ 88) = gA d (σ 88) := by simp only [rowH, gA_pA_x, gA_pI_x, gA_pJ_x, gA_sA_x, gA_pQ_x, gI_pA_x, gI_pI_x, gI_pJ_x, gI_sA_x, gI_pQ_x, gJ_pA_x, gJ_pI_x, gJ_pJ_x, gJ_sA_x, gJ_pQ_x, gQ_pA_x, gQ_pI_x, gQ_pJ_x, gQ_sA_x, gQ_pQ_x, gA_sJ_x, gI_sJ_x, gJ_sJ_x, gQ_sJ_x, sg h, Nat.reduceLT, Nat.reduceEqDiff, if_false]
          have g1 : gA (rowH d (σ 4) (σ 5) n s p w) (σ 88) 1 = nI n := (congrFun e88 1).trans wc.1
          have g0 : gA (rowH d (σ 4) (σ 5) n s p w) (σ 88) 0 = nI np := (congrFun e88 0).trans wcp.1
          have n10 : (nI n = 10) = False := eq_false (nlit (m := 10) hm (by decide))
          refine ⟨eo_0 h, eo_115 h, cl (nb1 b1 (nb1 b2 ?_))⟩
          simp only [x_0_0 h, x_1_2 h]
          refine nr1 (te_4 h) td (by decide) hm (T_open (te_4 h) td hm (T_set (r := n) (c := 0) (te_4 h) td2 (by omega) (by decide) (T_set (r := n) (c := 1) (te_4 h) (TD_pA td2) (by omega) (by decide) (T_set (r := n) (c := 2) (te_4 h) (TD_pA (TD_pA td2)) (by omega) (by decide) (T_set (r := n) (c := 4) (te_4 h) (TD_pA (TD_pA (TD_pA td2))) (by omega) (by decide) ⟨v0_115 h, hK _ _ ?_⟩)))))
          show w_X11_hut E (σ 87) s p w (pJ (rowH d (σ 4) (σ 5) n s p w) (σ 115) 0 (nI n).toInt64) _
          refine rf g0 ?_
          have e1 : (50 : Int32) + 7 * nI n = nI (50 + 7 * n) := by rw [show (7 : Int32) = nI 7 from rfl, z_mul]; exact z_add 50 _
          have a1 : nI (50 + 7 * n) + 1 = nI (50 + 7 * n + 1) := z_add _ 1
          have a2 : nI (50 + 7 * n) + 2 = nI (50 + 7 * n + 2) := z_add _ 2
          have a3 : nI (50 + 7 * n) + 3 = nI (50 + 7 * n + 3) := z_add _ 3
          have a4 : nI (50 + 7 * n) + 4 = nI (50 + 7 * n + 4) := z_add _ 4
          have a5 : nI (50 + 7 * n) + 5 = nI (50 + 7 * n + 5) := z_add _ 5
          have a6 : nI (50 + 7 * n) + 6 = nI (50 + 7 * n + 6) := z_add _ 6
          have q0 : ¬ 1 = 50 + 7 * n := by omega
          have q1 : ¬ 1 = 50 + 7 * n + 1 := by omega
          have q2 : ¬ 1 = 50 + 7 * n + 2 := by omega
          have q3 : ¬ 1 = 50 + 7 * n + 3 := by omega
          have q4 : ¬ 1 = 50 + 7 * n + 4 := by omega
          have q5 : ¬ 1 = 50 + 7 * n + 5 := by omega
          have q6 : ¬ 1 = 50 + 7 * n + 6 := by omega
          have an : nI n + 1 = nI (n + 1) := z_a1 n
          simp only [b_X11_hut_24, b_X11_hut_57, b_X11_hut_79, b_X11_hut_52, w_X11_in, w_X11_none, w_X11_noPerson, w_X11_noHut, w_X11_noYear, w_X11_noDay, w_X11_noTimes, w_X11_throwsIf, w_X11_persons, w_X11_huts, eo_87 h, x_87_1 h, en_88 h, x_87_2 h, en_89 h, x_87_4 h, en_90 h, x_87_11 h, en_91 h, x_87_14 h, en_92 h, x_87_15 h, en_93 h, x_87_16 h, en_94 h, x_87_18 h, en_95 h, x_87_19 h, en_96 h, x_87_20 h, en_97 h, x_87_21 h, en_98 h, x_87_22 h, en_99 h, x_87_23 h, en_100 h, x_87_24 h, en_101 h, x_87_25 h, en_102 h, x_87_26 h, en_103 h, x_87_27 h, en_104 h, x_87_28 h, en_105 h, x_87_30 h, en_106 h, x_87_31 h, en_107 h, x_87_32 h, en_108 h, x_87_34 h, en_109 h, x_87_35 h, en_110 h, x_87_36 h, en_111 h, x_87_37 h, en_112 h, x_87_38 h, en_113 h, x_87_39 h, en_114 h, qn_0, qv_0, qn_1, qv_1, qn_2, qv_2, qn_3, qv_3, qn_4, qv_4, qn_5, qv_5, qn_6, qv_6, qn_7, qv_7, qn_8, qv_8, qn_9, qv_9, qn_10, qv_10, qn_11, qv_11, qn_12, qv_12, qn_13, qv_13, eo_115 h, not_true_eq_false, not_false_eq_true, true_implies, false_implies, implies_true, forall_const, and_true, true_and, and_false, false_and, or_true, true_or, or_false, false_or, if_true, if_false, ite_true, ite_false, z10, z20, z30, z12, z13, z23, eq_self, sx_0_1, sx_0_2, sx_0_3, sx_1_0, sx_1_2, sx_1_3, sx_2_0, sx_2_1, sx_2_3, sx_3_0, sx_3_1, sx_3_2, gA_pI_x, gA_pJ_x, g1, bw_1 b1, bw_2 b1, bw_1 b2, bw_2 b2, n10, e1, a1, a2, a3, a4, a5, a6, gA_pA_x, if_neg q0, if_neg q1, if_neg q2, if_neg q3, if_neg q4, if_neg q5, if_neg q6, an, z_nn (show 50 + 7 * n < 2147483648 by omega), z_nn (show 50 + 7 * n + 1 < 2147483648 by omega), z_nn (show 50 + 7 * n + 2 < 2147483648 by omega), z_nn (show 50 + 7 * n + 3 < 2147483648 by omega), z_nn (show 50 + 7 * n + 4 < 2147483648 by omega), z_nn (show 50 + 7 * n + 5 < 2147483648 by omega), z_nn (show 50 + 7 * n + 6 < 2147483648 by omega)]
          refine ⟨vpi (by omega) (by decide), vpi (by omega) (by decide), vpi (by omega) (by decide), vpi (by omega) (by decide), vpi (by omega) (by decide), vpi (by omega) (by decide), vpi (by omega) (by decide), ?_⟩
          refine tl_out (rb := nI n) h ?_ (fun _ => ?_) (k _ _ (Inv_appH I (jv := (nI n).toInt64) hm hn ⟨b1, ?_, b2, ?_⟩))
          · simp only [gA_pA_x, gA_pI_x, gA_pJ_x, gA_sA_x, gA_pQ_x, gI_pA_x, gI_pI_x, gI_pJ_x, gI_sA_x, gI_pQ_x, gJ_pA_x, gJ_pI_x, gJ_pJ_x, gJ_sA_x, gJ_pQ_x, gQ_pA_x, gQ_pI_x, gQ_pJ_x, gQ_sA_x, gQ_pQ_x, gA_sJ_x, gI_sJ_x, gJ_sJ_x, gQ_sJ_x, if_true]
          · simp only [gA_pA_x, gA_pI_x, gA_pJ_x, gA_sA_x, gA_pQ_x, gI_pA_x, gI_pI_x, gI_pJ_x, gI_sA_x, gI_pQ_x, gJ_pA_x, gJ_pI_x, gJ_pJ_x, gJ_sA_x, gJ_pQ_x, gQ_pA_x, gQ_pI_x, gQ_pJ_x, gQ_sA_x, gQ_pQ_x, gA_sJ_x, gI_sJ_x, gJ_sJ_x, gQ_sJ_x, if_true]
          · rw [hnp]; exact b0
          · exact ⟨⟨by show ¬ (0 : Int32) < 0; decide, by show ¬ (99 : Int32) < 0; decide⟩, ⟨by show ¬ (99 : Int32) < 0; decide, by show ¬ (99 : Int32) < 99; decide⟩, ⟨by show ¬ (0 : Int32) < 0; decide, by show ¬ (4 : Int32) < 0; decide⟩, ⟨by show ¬ (0 : Int32) < 0; decide, by show ¬ (7 : Int32) < 0; decide⟩⟩
        · refine ⟨eo_0 h, eo_115 h, cl (nb1 b1 (nb1 b2 ?_))⟩
          simp only [x_0_0 h, x_1_2 h]
          refine nr0 (te_4 h) td (by decide) hm (Or.inr (Or.inr ⟨rfl, hK _ _ (rf wcp.1 ?_)⟩))
          have n10 : (nI 10 = 10) = True := eq_true rfl
          simp only [b_X11_hut_24, b_X11_hut_57, b_X11_hut_79, b_X11_hut_52, w_X11_in, w_X11_none, w_X11_noPerson, w_X11_noHut, w_X11_noYear, w_X11_noDay, w_X11_noTimes, w_X11_throwsIf, w_X11_persons, w_X11_huts, eo_87 h, x_87_1 h, en_88 h, x_87_2 h, en_89 h, x_87_4 h, en_90 h, x_87_11 h, en_91 h, x_87_14 h, en_92 h, x_87_15 h, en_93 h, x_87_16 h, en_94 h, x_87_18 h, en_95 h, x_87_19 h, en_96 h, x_87_20 h, en_97 h, x_87_21 h, en_98 h, x_87_22 h, en_99 h, x_87_23 h, en_100 h, x_87_24 h, en_101 h, x_87_25 h, en_102 h, x_87_26 h, en_103 h, x_87_27 h, en_104 h, x_87_28 h, en_105 h, x_87_30 h, en_106 h, x_87_31 h, en_107 h, x_87_32 h, en_108 h, x_87_34 h, en_109 h, x_87_35 h, en_110 h, x_87_36 h, en_111 h, x_87_37 h, en_112 h, x_87_38 h, en_113 h, x_87_39 h, en_114 h, qn_0, qv_0, qn_1, qv_1, qn_2, qv_2, qn_3, qv_3, qn_4, qv_4, qn_5, qv_5, qn_6, qv_6, qn_7, qv_7, qn_8, qv_8, qn_9, qv_9, qn_10, qv_10, qn_11, qv_11, qn_12, qv_12, qn_13, qv_13, eo_115 h, not_true_eq_false, not_false_eq_true, true_implies, false_implies, implies_true, forall_const, and_true, true_and, and_false, false_and, or_true, true_or, or_false, false_or, if_true, if_false, ite_true, ite_false, z10, z20, z30, z12, z13, z23, eq_self, sx_0_1, sx_0_2, sx_0_3, sx_1_0, sx_1_2, sx_1_3, sx_2_0, sx_2_1, sx_2_3, sx_3_0, sx_3_1, sx_3_2, gA_pI_x, gA_pJ_x, wc.1, hm, bw_1 b1, bw_2 b1, bw_1 b2, bw_2 b2, n10]
          exact fail_O I (by decide) k
      · refine ⟨eo_0 h, eo_115 h, cl (nb1 b1 (nb0 b2 (Or.inr (Or.inl ⟨rfl, hK _ _ (rf wcp.1 ?_)⟩))))⟩
        exact ⟨eo_87 h, rt0 h ⟨fun q => absurd rfl q, fun _ => ri1 b1 ⟨fun q => absurd q (by decide), fun _ => ri0 b2 ⟨fun q => absurd rfl q, fun _ => ⟨eo_87 h, eo_87 h, rt1 h ⟨fun _ => fail_O I (by decide) k, fun q => absurd q (by decide)⟩⟩⟩⟩⟩⟩
    · refine ⟨eo_0 h, eo_115 h, cl (nb0 b1 (Or.inr (Or.inl ⟨rfl, hK _ _ (rf wcp.1 ?_)⟩)))⟩
      exact ⟨eo_87 h, rt0 h ⟨fun q => absurd rfl q, fun _ => ri0 b1 ⟨fun _ => ⟨eo_87 h, eo_87 h, rt1 h ⟨fun _ => fail_O I (by decide) k, fun q => absurd q (by decide)⟩⟩, fun q => absurd rfl q⟩⟩⟩
  · have b0a : ¬ p = -1 := fun q => b0 (Or.inl q)
    have b0b : ¬ lx p np := fun q => b0 (Or.inr q)
    exact ⟨eo_0 h, eo_115 h, eo_0 h, fun q => absurd q b0a, fun _ => np0 h tdp b0b (Or.inl ⟨rfl, hK _ _ ⟨eo_87 h, fun q => absurd q b0a, fun _ => rpn0 h wcp.1 (by omega) b0b ⟨fun q => absurd q (by decide), fun _ => ⟨eo_87 h, rt1 h ⟨fun _ => fail_O I (by decide) k, fun q => absurd q (by decide)⟩⟩⟩⟩⟩)⟩
theorem c_hut (I : Inv σ E d) (hv : v5 v4 L) (k : ∀ E' d', Inv σ E' d' → kc E' d') : lw_547 E (σ 0) (σ 87) (σ 115) v4 xs L kc d :=
  ⟨eo_0 I.1, eo_87 I.1, eo_115 I.1, hv.1, hv.2.1, hv.2.2.1, p_hut I _ _ _ k (fun v d2 hk => ⟨hv.1, hv.2.1, hv.2.2.1, hk⟩)⟩
end
