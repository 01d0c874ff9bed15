section
variable {σ : Nat → Nat} {E : En} {d d' : Dy} {kc : En → Dy → Prop} {v4 : Int32} {xs : Nat → Int32} {L : Nat}
/-! photographs -/
def rowP (d : Dy) (t b n r : Nat) (y p q : Int32) : Dy := pA (pA (pA (pI (sA d b (opn (gA d b) 3 n r)) t 3 (nI (n + 1))) b (r * 3) y) b (r * 3 + 1) p) b (r * 3 + 2) q
theorem rowP_A (d : Dy) (t b n r : Nat) (y p q : Int32) {j c : Nat} (hj : j ≤ n) (hc : c < 3) : gA (rowP d t b n r y p q) b (j * 3 + c) = if j = r then c3 y p q c else if j < r then gA d b (j * 3 + c) else gA d b ((j - 1) * 3 + c) := by
  simp only [rowP, gA_pA_x, gA_pI_x, gA_sA_x, if_true]
  by_cases e : j = r
  · subst e
    rw [if_pos rfl]
    rcases (show c = 0 ∨ c = 1 ∨ c = 2 by omega) with rfl | rfl | rfl <;> simp [c3]
  · rw [if_neg (by omega), if_neg (by omega), if_neg (by omega), opn_get _ hj hc, if_neg e, if_neg e]
theorem Inv_appP (I : Inv σ E d) {n : Nat} (hn : n < 20) (hnW : cnt (gA d (σ 88)) 7 = n) {y p q : Int32} {jv : Int64} (hv : okR 8 (cnt (gA d (σ 88)) 0) (cnt (gA d (σ 88)) 1) (c3 p y q)) :
    Inv σ E (put3 (pI (pJ (rowP d (σ 18) (σ 19) n (yp (gA d (σ 19)) 3 y n) y p q) (σ 115) 0 jv) (σ 87) 0 0) (σ 88) 7 444 n p y q) := by
  have h := I.1
  generalize hr : yp (gA d (σ 19)) 3 y n = r
  have c1 : Ch σ wor d (rowP d (σ 18) (σ 19) n r y p q) :=
    Ch_tr (Ch_tr (Ch_tr (Ch_tr (Ch_sA h (by decide) (by decide)) (Ch_pI h (by decide) (by decide) (by decide))) (Ch_pA h (by decide) (by decide))) (Ch_pA h (by decide) (by decide))) (Ch_pA h (by decide) (by decide))
  have c2 : Ch σ wor d (put3 (pI (pJ (rowP d (σ 18) (σ 19) n r y p q) (σ 115) 0 jv) (σ 87) 0 0) (σ 88) 7 444 n p y q) :=
    Ch_tr (Ch_tr (Ch_tr c1 (Ch_pJ h (by decide) (by decide))) (Ch_pI h (i := 87) (by decide) (by decide) (by decide))) (Ch_tr (Ch_tr (Ch_tr (Ch_pA h (by decide) (by decide)) (Ch_pA h (by decide) (by decide))) (Ch_pA h (by decide) (by decide))) (Ch_pA h (by decide) (by decide)))
  have e88 : gA (pI (pJ (rowP d (σ 18) (σ 19) n r y p q) (σ 115) 0 jv) (σ 87) 0 0) (σ 88) = gA d (σ 88) := by
    simp only [rowP, gA_pA_x, gA_pI_x, gA_pJ_x, gA_sA_x, gA_pQ_x, gI_pA_x, gI_pI_x, gI_pJ_x, gI_sA_x, gI_pQ_x, gJ_pA_x, gJ_pI_x, gJ_pJ_x, gJ_sA_x, gJ_pQ_x, gQ_pA_x, gQ_pI_x, gQ_pJ_x, gQ_sA_x, gQ_pQ_x, gA_sJ_x, gI_sJ_x, gJ_sJ_x, gQ_sJ_x, sg h, Nat.reduceLT, Nat.reduceEqDiff, if_false]
  have hA : ∀ j, j < 10 → gA (put3 (pI (pJ (rowP d (σ 18) (σ 19) n r y p q) (σ 115) 0 jv) (σ 87) 0 0) (σ 88) 7 444 n p y q) (σ (3 + 2 * j)) = gA (rowP d (σ 18) (σ 19) n r y p q) (σ (3 + 2 * j)) := fun j hj => by
    have hne : σ (3 + 2 * j) ≠ σ 88 := Env_ne h (by omega) (by decide) (by omega)
    simp only [put3, gA_pA_x, gA_pI_x, gA_pJ_x, gA_sA_x, gA_pQ_x, gI_pA_x, gI_pI_x, gI_pJ_x, gI_sA_x, gI_pQ_x, gJ_pA_x, gJ_pI_x, gJ_pJ_x, gJ_sA_x, gJ_pQ_x, gQ_pA_x, gQ_pI_x, gQ_pJ_x, gQ_sA_x, gQ_pQ_x, gA_sJ_x, gI_sJ_x, gJ_sJ_x, gQ_sJ_x, if_neg hne]
  have hI : ∀ j, j < 22 → gI (put3 (pI (pJ (rowP d (σ 18) (σ 19) n r y p q) (σ 115) 0 jv) (σ 87) 0 0) (σ 88) 7 444 n p y q) (σ j) = gI (rowP d (σ 18) (σ 19) n r y p q) (σ j) := fun j hj => by
    have hne : σ j ≠ σ 87 := Env_ne h (by omega) (by decide) (by omega)
    simp only [put3, gA_pA_x, gA_pI_x, gA_pJ_x, gA_sA_x, gA_pQ_x, gI_pA_x, gI_pI_x, gI_pJ_x, gI_sA_x, gI_pQ_x, gJ_pA_x, gJ_pI_x, gJ_pJ_x, gJ_sA_x, gJ_pQ_x, gQ_pA_x, gQ_pI_x, gQ_pJ_x, gQ_sA_x, gQ_pQ_x, gA_sJ_x, gI_sJ_x, gJ_sJ_x, gQ_sJ_x, if_neg hne]
  have hc0 : ∀ j, j < 2 → cnt (appW (gA d (σ 88)) 8 n (c3 p y q)) j = cnt (gA d (σ 88)) j := fun j hj => by unfold cnt; rw [app_lo (by decide) (by show j ≠ 7; omega) (by omega)]
  refine Inv_appS I c2 (r := r) (i := 8) (v := c3 p y q) (u := c3 y p q) (Or.inr rfl) hn hnW.symm (by rw [hc0 0 (by decide), hc0 1 (by decide)]; exact hv) ?_ ?_ hr (fun j hj c hc => ?_) (fun c hc => ?_) (fun j hj hji => ⟨?_, ?_⟩) ?_
  · rw [← e88]; exact put3_W _ _ 8 _ _ _ _ (by decide) (by decide) rfl
  · rw [hI _ (by omega)]; simp only [rowP, gA_pA_x, gA_pI_x, gA_pJ_x, gA_sA_x, gA_pQ_x, gI_pA_x, gI_pI_x, gI_pJ_x, gI_sA_x, gI_pQ_x, gJ_pA_x, gJ_pI_x, gJ_pJ_x, gJ_sA_x, gJ_pQ_x, gQ_pA_x, gQ_pI_x, gQ_pJ_x, gQ_sA_x, gQ_pQ_x, gA_sJ_x, gI_sJ_x, gJ_sJ_x, gQ_sJ_x, if_true]
  · rw [hA 8 (by decide)]; exact rowP_A _ _ _ _ _ _ _ _ hj hc
  · have hc : c < 3 := hc
    rcases (show c = 0 ∨ c = 1 ∨ c = 2 by omega) with rfl | rfl | rfl <;> exact ⟨by decide, rfl⟩
  · rw [hI _ (by omega)]
    have hne : σ (2 + 2 * j) ≠ σ 18 := Env_ne h (by omega) (by omega) (by omega)
    simp only [rowP, gA_pA_x, gA_pI_x, gA_pJ_x, gA_sA_x, gA_pQ_x, gI_pA_x, gI_pI_x, gI_pJ_x, gI_sA_x, gI_pQ_x, gJ_pA_x, gJ_pI_x, gJ_pJ_x, gJ_sA_x, gJ_pQ_x, gQ_pA_x, gQ_pI_x, gQ_pJ_x, gQ_sA_x, gQ_pQ_x, gA_sJ_x, gI_sJ_x, gJ_sJ_x, gQ_sJ_x, if_neg hne]
  · rw [hA j hj]
    have hne : σ (3 + 2 * j) ≠ σ 19 := Env_ne h (by omega) (by omega) (by omega)
    simp only [rowP, gA_pA_x, gA_pI_x, gA_pJ_x, gA_sA_x, gA_pQ_x, gI_pA_x, gI_pI_x, gI_pJ_x, gI_sA_x, gI_pQ_x, gJ_pA_x, gJ_pI_x, gJ_pJ_x, gJ_sA_x, gJ_pQ_x, gQ_pA_x, gQ_pI_x, gQ_pJ_x, gQ_sA_x, gQ_pQ_x, gA_sJ_x, gI_sJ_x, gJ_sJ_x, gQ_sJ_x, if_neg hne]
  · rw [hI _ (by omega)]
    simp only [rowP, gA_pA_x, gA_pI_x, gA_pJ_x, gA_sA_x, gA_pQ_x, gI_pA_x, gI_pI_x, gI_pJ_x, gI_sA_x, gI_pQ_x, gJ_pA_x, gJ_pI_x, gJ_pJ_x, gJ_sA_x, gJ_pQ_x, gQ_pA_x, gQ_pI_x, gQ_pJ_x, gQ_sA_x, gQ_pQ_x, gA_sJ_x, gI_sJ_x, gJ_sJ_x, gQ_sJ_x, sg h, Nat.reduceLT, Nat.reduceEqDiff, if_false]
theorem p_photo (I : Inv σ E d) (p y q : Int32) (k : ∀ E' d', Inv σ E' d' → kc E' d') {K : Int32 → Dy → Prop} (hK : ∀ v d2, w_X11_photo E (σ 87) p y q d2 (fun r d => cmpO σ E kc v r d) → K v d2) : w_L_photo E (σ 0) p y q (σ 115) d K := by
  have h := I.1
  have tdh := td_4 I
  have td := td_18 I
  have wc := wc_7 I
  have wch := wc_1 I
  generalize hnh : cnt (gA d (σ 88)) 1 = nh at tdh wch
  generalize hn : cnt (gA d (σ 88)) 7 = n at wc td
  have hnhb := tdh.2.2.2
  have f1 : b_X11_photo_21 E (σ 87) p y q (fun r d => cmpO σ E kc 1 r d) (σ 87) (pI d (σ 87) 0 0) := ⟨eo_87 h, eo_87 h, rt1 h ⟨fun _ => fail_O I (by decide) k, fun q => absurd q (by decide)⟩⟩
  by_cases ha : lx p nh
  · by_cases b1 : bw y 1900 2099
    · have rf : ∀ {K1 d2}, gA d2 (σ 88) = gA d (σ 88) → b_X11_photo_26 E (σ 87) p y q K1 (σ 87) 0 (pI d2 (σ 87) 0 0) → w_X11_photo E (σ 87) p y q d2 K1 := fun e q =>
        ⟨eo_87 h, rhn1 h ((congrFun e 1).trans wch.1) (by omega) ha ⟨fun q => absurd rfl q, fun _ => ry1 b1 ⟨fun _ => q, fun q => absurd rfl q⟩⟩⟩
      by_cases b2 : bw q 0 7
      · refine ⟨eo_0 h, eo_115 h, eo_0 h, nh1 h tdh ha (ny1 b1 (nb1 b2 ?_))⟩
        simp only [x_0_0 h, x_1_9 h]
        rcases Nat.lt_or_eq_of_le wc.2 with hm | hm
        · refine nr1 (te_18 h) td (by decide) hm (T_openByYear (te_18 h) td hm ?_)
          have hle := yp_le (gA d (σ 19)) 3 y n
          generalize hrr : yp (gA d (σ 19)) 3 y n = r at hle
          have td2 : TD (pI (sA d (σ 19) (opn (gA d (σ 19)) 3 n r)) (σ 18) 3 (nI (n + 1))) (σ 18) 3 20 (n + 1) := TD_pI3 (TD_sA td _ _) hm
          refine T_set (r := r) (c := 1) (te_18 h) (TD_pA td2) (by omega) (by decide) (T_set (r := r) (c := 2) (te_18 h) (TD_pA (TD_pA td2)) (by omega) (by decide) (T_size (te_18 h) (TD_pA (TD_pA (TD_pA td2))) ⟨v0_115 h, hK _ _ ?_⟩))
          have e88 : gA (rowP d (σ 18) (σ 19) n r y p q) (σ 88) = gA d (σ 88) := by simp only [rowP, gA_pA_x, gA_pI_x, gA_pJ_x, gA_sA_x, gA_pQ_x, gI_pA_x, gI_pI_x, gI_pJ_x, gI_sA_x, gI_pQ_x, gJ_pA_x, gJ_pI_x, gJ_pJ_x, gJ_sA_x, gJ_pQ_x, gQ_pA_x, gQ_pI_x, gQ_pJ_x, gQ_sA_x, gQ_pQ_x, gA_sJ_x, gI_sJ_x, gJ_sJ_x, gQ_sJ_x, sg h, Nat.reduceLT, Nat.reduceEqDiff, if_false]
          have g7 : gA (rowP d (σ 18) (σ 19) n r y p q) (σ 88) 7 = nI n := (congrFun e88 7).trans wc.1
          have n20 : ¬ nI n = 20 := nlit (m := 20) hm (by decide)
          refine rf e88 ⟨eo_87 h, rt0 h ⟨fun q => absurd rfl q, fun _ => ri1 b2 ⟨fun _ => ⟨eo_87 h, rt0 h ⟨fun q => absurd rfl q, fun _ => ?_⟩⟩, fun q => absurd q (by decide)⟩⟩⟩
          simp only [x_87_1 h, en_88 h]
          refine ⟨vpi (k := 7) (by decide) (by decide), fun _ => ⟨eo_87 h, rt0 h ⟨fun _ => r_puts h (c := 7) (o := 444) (by decide) (by decide) g7 (by omega) ?_, fun q => absurd rfl q⟩⟩, fun q => absurd (g7.symm.trans q) n20⟩
          refine tl_out (rb := nI (n + 1)) h ?_ (fun _ => ?_) (k _ _ ?_)
          · simp only [put3, gA_pA_x, gA_pI_x, gA_pJ_x, gA_sA_x, gA_pQ_x, gI_pA_x, gI_pI_x, gI_pJ_x, gI_sA_x, gI_pQ_x, gJ_pA_x, gJ_pI_x, gJ_pJ_x, gJ_sA_x, gJ_pQ_x, gQ_pA_x, gQ_pI_x, gQ_pJ_x, gQ_sA_x, gQ_pQ_x, gA_sJ_x, gI_sJ_x, gJ_sJ_x, gQ_sJ_x, if_true]
          · simp only [put3, gA_pA_x, gA_pI_x, gA_pJ_x, gA_sA_x, gA_pQ_x, gI_pA_x, gI_pI_x, gI_pJ_x, gI_sA_x, gI_pQ_x, gJ_pA_x, gJ_pI_x, gJ_pJ_x, gJ_sA_x, gJ_pQ_x, gQ_pA_x, gQ_pI_x, gQ_pJ_x, gQ_sA_x, gQ_pQ_x, gA_sJ_x, gI_sJ_x, gJ_sJ_x, gQ_sJ_x, if_true]; rfl
          · have := Inv_appP I (jv := (nI (n + 1)).toInt64) (y := y) (p := p) (q := q) hm hn (by rw [hnh]; exact ⟨ha, b1, b2⟩)
            rw [hrr] at this; exact this
        · refine nr0 (te_18 h) td (by decide) hm (Or.inr (Or.inr ⟨rfl, hK _ _ (rf rfl ?_)⟩))
          refine ⟨eo_87 h, rt0 h ⟨fun q => absurd rfl q, fun _ => ri1 b2 ⟨fun _ => ⟨eo_87 h, rt0 h ⟨fun q => absurd rfl q, fun _ => ?_⟩⟩, fun q => absurd q (by decide)⟩⟩⟩
          simp only [x_87_1 h, en_88 h]
          exact ⟨vpi (k := 7) (by decide) (by decide), fun q => absurd (wc.1.trans (by rw [hm]; rfl)) q, fun _ => ⟨eo_87 h, rt1 h ⟨fun q => absurd q (by decide), fun _ => fail_O I (by decide) k⟩⟩⟩
      · exact ⟨eo_0 h, eo_115 h, eo_0 h, nh1 h tdh ha (ny1 b1 (nb0 b2 (Or.inr (Or.inl ⟨rfl, hK _ _ (rf rfl ⟨eo_87 h, rt0 h ⟨fun q => absurd rfl q, fun _ => ri0 b2 ⟨fun q => absurd rfl q, fun _ => ⟨eo_87 h, rt1 h ⟨fun _ => fail_O I (by decide) k, fun q => absurd q (by decide)⟩⟩⟩⟩⟩)⟩))))⟩
    · exact ⟨eo_0 h, eo_115 h, eo_0 h, nh1 h tdh ha (ny0 b1 (Or.inl ⟨rfl, hK _ _ ⟨eo_87 h, rhn1 h wch.1 (by omega) ha ⟨fun q => absurd rfl q, fun _ => ry0 b1 ⟨fun q => absurd q (by decide), fun _ => f1⟩⟩⟩⟩))⟩
  · exact ⟨eo_0 h, eo_115 h, eo_0 h, nh0 h tdh ha (Or.inl ⟨rfl, hK _ _ ⟨eo_87 h, rhn0 h wch.1 (by omega) ha ⟨fun _ => f1, fun q => absurd q (by decide)⟩⟩⟩)⟩
theorem c_photo (I : Inv σ E d) (hv : v5 v4 L) (k : ∀ E' d', Inv σ E' d' → kc E' d') : lw_2645 E (σ 0) (σ 87) (σ 115) v4 xs L kc d :=
  ⟨eo_0 I.1, eo_87 I.1, eo_115 I.1, hv.1, hv.2.1, hv.2.2.1, p_photo I _ _ _ k (fun v d2 hk => ⟨hv.1, hv.2.1, hv.2.2.1, hk⟩)⟩
end
