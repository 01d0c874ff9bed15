/-! calls that tell something -/
def cmpO (σ : Nat → Nat) (E : En) (kc : En → Dy → Prop) (v5 rb : Int32) (d : Dy) : Prop := w_X11_thrown E (σ 87) d (fun r_4 d_3 => ((r_4 = v5 → ((¬ v5 = 0 → kc E d_3) ∧ (v5 = 0 → vp_in 0 (eN E (σ 115)) ∧ (((lg_cmp (gJ d_3 (σ 115) ((0 : Int32)).toNatClampNeg) rb.toInt64) = 0 → kc E d_3) ∧ (¬ (lg_cmp (gJ d_3 (σ 115) ((0 : Int32)).toNatClampNeg) rb.toInt64) = 0 → False))))) ∧ (¬ r_4 = v5 → False)))
def cmpV (σ : Nat → Nat) (E : En) (kc : En → Dy → Prop) (v5 : Int32) (d : Dy) : Prop := w_X11_thrown E (σ 87) d (fun r_10 d_9 => ((r_10 = v5 → kc E d_9) ∧ (¬ r_10 = v5 → False)))
def row3 (d : Dy) (t b n : Nat) (x y z : Int32) : Dy := pA (pA (pA (pI (sA d b (opn (gA d b) 3 n n)) t 3 (nI (n + 1))) b (n * 3 + 0) x) b (n * 3 + 1) y) b (n * 3 + 2) z
def row1 (d : Dy) (t b n : Nat) (x : Int32) : Dy := pA (pI (sA d b (opn (gA d b) 1 n n)) t 3 (nI (n + 1))) b (n * 1 + 0) x
section
variable {σ : Nat → Nat} {E : En} {d d' : Dy} {kc : En → Dy → Prop} {v4 : Int32} {xs : Nat → Int32} {L : Nat}
theorem opn_end (g : Nat → Int32) (w n j : Nat) (h : j < n * w) : opn g w n n j = g j := by simp [opn, h]
theorem TD_pA {t w m n a k : Nat} {v : Int32} (hd : TD d t w m n) : TD (pA d a k v) t w m n := hd
theorem fail_O (I : Inv σ E d) {c r : Int32} (hc : c ≠ 0) (k : ∀ E' d', Inv σ E' d' → kc E' d') : cmpO σ E kc c r (pI (pI d (σ 87) 0 0) (σ 87) 0 c) :=
  tl_out I.1 (by simp only [gI_pI_x, if_true]) (fun q => absurd q hc) (k _ _ (Inv_ch I (Ch_tr (Ch_pI I.1 (by decide) (by decide) (by decide)) (Ch_pI I.1 (by decide) (by decide) (by decide)))))
theorem fail_V (I : Inv σ E d) {c : Int32} (k : ∀ E' d', Inv σ E' d' → kc E' d') : cmpV σ E kc c (pI (pI d (σ 87) 0 0) (σ 87) 0 c) :=
  tl_void I.1 (by simp only [gI_pI_x, if_true]) (k _ _ (Inv_ch I (Ch_tr (Ch_pI I.1 (by decide) (by decide) (by decide)) (Ch_pI I.1 (by decide) (by decide) (by decide)))))
theorem row3_A (d : Dy) (t b n : Nat) (x y z : Int32) {j c : Nat} (hj : j ≤ n) (hc : c < 3) : gA (row3 d t b n x y z) b (j * 3 + c) = if j = n then c3 x y z c else gA d b (j * 3 + c) := by
  simp only [row3, gA_pA_x, gA_pI_x, gA_sA_x, if_true]
  by_cases e : j = n
  · subst e
    rw [if_pos rfl]
    rcases (show c = 0 ∨ c = 1 ∨ c = 2 by omega) with rfl | rfl | rfl
    · simp [c3]
    · simp [c3]
    · simp [c3]
  · rw [if_neg e, if_neg (by omega), if_neg (by omega), if_neg (by omega), opn_end _ _ _ _ (by omega)]
theorem row1_A (d : Dy) (t b n : Nat) (x : Int32) {j : Nat} (hj : j ≤ n) : gA (row1 d t b n x) b (j * 1 + 0) = if j = n then x else gA d b (j * 1 + 0) := by
  simp only [row1, gA_pA_x, gA_pI_x, gA_sA_x, if_true]
  by_cases e : j = n
  · subst e; simp
  · rw [if_neg e, if_neg (by omega), opn_end _ _ _ _ (by omega)]
theorem tab_lab {i j : Nat} (hi : i < 10) (hj : j < 10) : 2 + 2 * i < 116 ∧ 3 + 2 * j < 116 ∧ 2 + 2 * i ≠ 3 + 2 * j ∧ 3 + 2 * j ≠ 2 + 2 * i := by omega
theorem wor_tab {i : Nat} (hi : i < 10) : 2 + 2 * i ∈ wor ∧ 3 + 2 * i ∈ wor ∧ (2 + 2 * i, 3) ∉ prot := by
  have : ∀ i, i < 10 → 2 + 2 * i ∈ wor ∧ 3 + 2 * i ∈ wor ∧ (2 + 2 * i, 3) ∉ prot := by decide
  exact this i hi
theorem roI_id {W : Nat → Int32} {i j : Nat} (h2 : i ≠ 2) (h8 : i ≠ 8) : roI W i j = j := by simp [roI, h2, h8]
theorem Inv_app3 (I : Inv σ E d) {i n : Nat} (hi : i < 10) (h5 : i ≠ 5) (hw : wI i = 3) (h8 : i ≠ 8) (hn : n < mI i) (hnW : n = nR (gA d (σ 88)) i) {x y z x' y' z' : Int32} {jv : Int64}
    (hc : ∀ c, c < 3 → cmI i c < 3 ∧ c3 x' y' z' (cmI i c) = c3 x y z c) (hv : okR i (cnt (appW (gA d (σ 88)) i n (c3 x y z)) 0) (cnt (appW (gA d (σ 88)) i n (c3 x y z)) 1) (c3 x y z)) :
    Inv σ E (put3 (pI (pJ (row3 d (σ (2 + 2 * i)) (σ (3 + 2 * i)) n x' y' z') (σ 115) 0 jv) (σ 87) 0 0) (σ 88) (cI i) (oI i) n x y z) := by
  have h := I.1
  have hwt := wor_tab hi
  have h2 : i ≠ 2 := by intro e; subst e; revert hw; decide
  have c1 : Ch σ wor d (row3 d (σ (2 + 2 * i)) (σ (3 + 2 * i)) n x' y' z') :=
    Ch_tr (Ch_tr (Ch_tr (Ch_tr (Ch_sA h (by omega) hwt.2.1) (Ch_pI h (by omega) hwt.2.2 hwt.1)) (Ch_pA h (by omega) hwt.2.1)) (Ch_pA h (by omega) hwt.2.1)) (Ch_pA h (by omega) hwt.2.1)
  have c2 : Ch σ wor d (put3 (pI (pJ (row3 d (σ (2 + 2 * i)) (σ (3 + 2 * i)) n x' y' z') (σ 115) 0 jv) (σ 87) 0 0) (σ 88) (cI i) (oI i) n x y z) :=
    Ch_tr (Ch_tr (Ch_tr c1 (Ch_pJ h (by decide) (by decide))) (Ch_pI h (i := 87) (by decide) (by decide) (by decide))) (Ch_tr (Ch_tr (Ch_tr (Ch_pA h (by decide) (by decide)) (Ch_pA h (by decide) (by decide))) (Ch_pA h (by decide) (by decide))) (Ch_pA h (by decide) (by decide)))
  have e88 : gA (pI (pJ (row3 d (σ (2 + 2 * i)) (σ (3 + 2 * i)) n x' y' z') (σ 115) 0 jv) (σ 87) 0 0) (σ 88) = gA d (σ 88) := by
    have hne : σ 88 ≠ σ (3 + 2 * i) := Env_ne h (by decide) (by omega) (by omega)
    simp only [row3, gA_pA_x, gA_pI_x, gA_pJ_x, gA_sA_x, gA_pQ_x, gI_pA_x, gI_pI_x, gI_pJ_x, gI_sA_x, gI_pQ_x, gJ_pA_x, gJ_pI_x, gJ_pJ_x, gJ_sA_x, gJ_pQ_x, gQ_pA_x, gQ_pI_x, gQ_pJ_x, gQ_sA_x, gQ_pQ_x, gA_sJ_x, gI_sJ_x, gJ_sJ_x, gQ_sJ_x, if_neg hne]
  have hA : ∀ j, j < 10 → gA (put3 (pI (pJ (row3 d (σ (2 + 2 * i)) (σ (3 + 2 * i)) n x' y' z') (σ 115) 0 jv) (σ 87) 0 0) (σ 88) (cI i) (oI i) n x y z) (σ (3 + 2 * j)) = gA (row3 d (σ (2 + 2 * i)) (σ (3 + 2 * i)) n x' y' z') (σ (3 + 2 * j)) := fun j hj => by
    have hne : σ (3 + 2 * j) ≠ σ 88 := Env_ne h (by omega) (by decide) (by omega)
    simp only [put3, gA_pA_x, gA_pI_x, gA_pJ_x, gA_sA_x, gA_pQ_x, gI_pA_x, gI_pI_x, gI_pJ_x, gI_sA_x, gI_pQ_x, gJ_pA_x, gJ_pI_x, gJ_pJ_x, gJ_sA_x, gJ_pQ_x, gQ_pA_x, gQ_pI_x, gQ_pJ_x, gQ_sA_x, gQ_pQ_x, gA_sJ_x, gI_sJ_x, gJ_sJ_x, gQ_sJ_x, if_neg hne]
  have hI : ∀ j, j < 22 → gI (put3 (pI (pJ (row3 d (σ (2 + 2 * i)) (σ (3 + 2 * i)) n x' y' z') (σ 115) 0 jv) (σ 87) 0 0) (σ 88) (cI i) (oI i) n x y z) (σ j) = gI (row3 d (σ (2 + 2 * i)) (σ (3 + 2 * i)) n x' y' z') (σ j) := fun j hj => by
    have hne : σ j ≠ σ 87 := Env_ne h (by omega) (by decide) (by omega)
    simp only [put3, gA_pA_x, gA_pI_x, gA_pJ_x, gA_sA_x, gA_pQ_x, gI_pA_x, gI_pI_x, gI_pJ_x, gI_sA_x, gI_pQ_x, gJ_pA_x, gJ_pI_x, gJ_pJ_x, gJ_sA_x, gJ_pQ_x, gQ_pA_x, gQ_pI_x, gQ_pJ_x, gQ_sA_x, gQ_pQ_x, gA_sJ_x, gI_sJ_x, gJ_sJ_x, gQ_sJ_x, if_neg hne]
  refine Inv_app I c2 (r := n) hi h5 hn hnW hv ?_ ?_ (Nat.le_refl n) (fun j hj => ?_) (fun j hj => ?_) (fun j hj c hcw => ?_) (fun j hj hji => ⟨?_, ?_⟩) ?_
  · rw [put3_W _ _ _ _ _ _ _ hi h5 hw, e88]
  · rw [hI _ (by omega)]; simp only [row3, gA_pA_x, gA_pI_x, gA_pJ_x, gA_sA_x, gA_pQ_x, gI_pA_x, gI_pI_x, gI_pJ_x, gI_sA_x, gI_pQ_x, gJ_pA_x, gJ_pI_x, gJ_pJ_x, gJ_sA_x, gJ_pQ_x, gQ_pA_x, gQ_pI_x, gQ_pJ_x, gQ_sA_x, gQ_pQ_x, gA_sJ_x, gI_sJ_x, gJ_sJ_x, gQ_sJ_x, if_true]
  · rw [roI_id h2 h8, roI_id h2 h8]
    by_cases e : j = n
    · rw [if_pos e]; exact e
    · rw [if_neg e, if_pos (by omega)]
  · rw [roI_id h2 h8]; exact hj
  · rw [hA i hi, hw] 
    rw [hw] at hcw
    rw [row3_A _ _ _ _ _ _ _ hj (hc c hcw).1]
    by_cases e : j = n
    · rw [if_pos e, if_pos e]; exact (hc c hcw).2
    · rw [if_neg e, if_neg e, if_pos (by omega)]
  · rw [hI _ (by omega)]
    have hne : σ (2 + 2 * j) ≠ σ (2 + 2 * i) := Env_ne h (by omega) (by omega) (by omega)
    simp only [row3, gA_pA_x, gA_pI_x, gA_pJ_x, gA_sA_x, gA_pQ_x, gI_pA_x, gI_pI_x, gI_pJ_x, gI_sA_x, gI_pQ_x, gJ_pA_x, gJ_pI_x, gJ_pJ_x, gJ_sA_x, gJ_pQ_x, gQ_pA_x, gQ_pI_x, gQ_pJ_x, gQ_sA_x, gQ_pQ_x, gA_sJ_x, gI_sJ_x, gJ_sJ_x, gQ_sJ_x, if_neg hne]
  · rw [hA j hj]
    have hne : σ (3 + 2 * j) ≠ σ (3 + 2 * i) := Env_ne h (by omega) (by omega) (by omega)
    simp only [row3, gA_pA_x, gA_pI_x, gA_pJ_x, gA_sA_x, gA_pQ_x, gI_pA_x, gI_pI_x, gI_pJ_x, gI_sA_x, gI_pQ_x, gJ_pA_x, gJ_pI_x, gJ_pJ_x, gJ_sA_x, gJ_pQ_x, gQ_pA_x, gQ_pI_x, gQ_pJ_x, gQ_sA_x, gQ_pQ_x, gA_sJ_x, gI_sJ_x, gJ_sJ_x, gQ_sJ_x, if_neg hne]
  · rw [hI _ (by omega)]
    have hne : σ 1 ≠ σ (2 + 2 * i) := Env_ne h (by omega) (by omega) (by omega)
    simp only [row3, gA_pA_x, gA_pI_x, gA_pJ_x, gA_sA_x, gA_pQ_x, gI_pA_x, gI_pI_x, gI_pJ_x, gI_sA_x, gI_pQ_x, gJ_pA_x, gJ_pI_x, gJ_pJ_x, gJ_sA_x, gJ_pQ_x, gQ_pA_x, gQ_pI_x, gQ_pJ_x, gQ_sA_x, gQ_pQ_x, gA_sJ_x, gI_sJ_x, gJ_sJ_x, gQ_sJ_x, if_neg hne]
theorem p_person (I : Inv σ E d) (b l q : Int32) (hq : q = 0 ∨ q = 1) (k : ∀ E' d', Inv σ E' d' → kc E' d') {K : Int32 → Dy → Prop} (hK : ∀ v d2, w_X11_person E (σ 87) b l q d2 (fun r d => cmpO σ E kc v r d) → K v d2) : w_L_person E (σ 0) b l q (σ 115) d K := by
  have h := I.1
  have td := td_2 I
  have wc := wc_0 I
  generalize hn : cnt (gA d (σ 88)) 0 = n at td wc
  simp only [w_L_person, w_X10_person, x_0_0 h, x_1_1 h]
  refine ⟨eo_0 h, eo_115 h, eo_0 h, ?_⟩
  by_cases b1 : bw b 1900 2099
  · refine nb1 b1 ?_
    by_cases b2 : bw l 0 9999
    · refine nb1 b2 ?_
      rcases Nat.lt_or_eq_of_le wc.2 with hm | hm
      · refine nr1 (te_2 h) td (by decide) hm (T_open (te_2 h) td hm ?_)
        have td2 : TD (pI (sA d (σ 3) (opn (gA d (σ 3)) 3 n n)) (σ 2) 3 (nI (n + 1))) (σ 2) 3 12 (n + 1) := TD_pI3 (TD_sA td _ _) hm
        refine T_set (r := n) (c := 0) (te_2 h) td2 (by omega) (by decide) (T_set (r := n) (c := 1) (te_2 h) (TD_pA td2) (by omega) (by decide) ?_)
        have e88 : ∀ q, gA (row3 d (σ 2) (σ 3) n b l q) (σ 88) = gA d (σ 88) := fun q => by simp only [row3, gA_pA_x, gA_pI_x, gA_pJ_x, gA_sA_x, gA_pQ_x, gI_pA_x, gI_pI_x, gI_pJ_x, gI_sA_x, gI_pQ_x, gJ_pA_x, gJ_pI_x, gJ_pJ_x, gJ_sA_x, gJ_pQ_x, gQ_pA_x, gQ_pI_x, gQ_pJ_x, gQ_sA_x, gQ_pQ_x, gA_sJ_x, gI_sJ_x, gJ_sJ_x, gQ_sJ_x, sg h, Nat.reduceLT, Nat.reduceEqDiff, if_false]
        have fin : ∀ q : Int32, q = 0 ∨ q = 1 → w_X11_person E (σ 87) b l q (pJ (row3 d (σ 2) (σ 3) n b l q) (σ 115) 0 (nI n).toInt64) (fun r d => cmpO σ E kc 0 r d) := by
          intro q hq
          have hgn : gA (pI (pJ (row3 d (σ 2) (σ 3) n b l q) (σ 115) 0 (nI n).toInt64) (σ 87) 0 0) (σ 88) 0 = nI n := (congrFun (e88 q) 0).trans wc.1
          have h12 : ¬ gA (pI (pJ (row3 d (σ 2) (σ 3) n b l q) (σ 115) 0 (nI n).toInt64) (σ 87) 0 0) (σ 88) 0 = 12 := by
            rw [hgn, show (12 : Int32) = nI 12 from rfl, z_eq (by omega) (by decide)]; omega
          refine ⟨eo_87 h, ry1 b1 ⟨fun q => absurd rfl q, fun _ => ri1 b2 ⟨fun _ => ⟨eo_87 h, rt0 h ⟨fun q => absurd rfl q, fun _ => r_persons h ⟨fun _ => ⟨eo_87 h, rt0 h ⟨fun _ => ?_, fun q => absurd rfl q⟩⟩, fun q => absurd q h12⟩⟩⟩, fun q => absurd q (by decide)⟩⟩⟩
          have key : cmpO σ E kc 0 (nI (n + 1) - 1) (put3 (pI (pJ (row3 d (σ 2) (σ 3) n b l q) (σ 115) 0 (nI n).toInt64) (σ 87) 0 0) (σ 88) 0 14 n b l q) := by
            refine tl_out h ?_ (fun _ => ?_) (k _ _ ?_)
            · simp only [put3, gA_pA_x, gA_pI_x, gA_pJ_x, gA_sA_x, gA_pQ_x, gI_pA_x, gI_pI_x, gI_pJ_x, gI_sA_x, gI_pQ_x, gJ_pA_x, gJ_pI_x, gJ_pJ_x, gJ_sA_x, gJ_pQ_x, gQ_pA_x, gQ_pI_x, gQ_pJ_x, gQ_sA_x, gQ_pQ_x, gA_sJ_x, gI_sJ_x, gJ_sJ_x, gQ_sJ_x, if_true]
            · rw [z_m1]; simp only [put3, gA_pA_x, gA_pI_x, gA_pJ_x, gA_sA_x, gA_pQ_x, gI_pA_x, gI_pI_x, gI_pJ_x, gI_sA_x, gI_pQ_x, gJ_pA_x, gJ_pI_x, gJ_pJ_x, gJ_sA_x, gJ_pQ_x, gQ_pA_x, gQ_pI_x, gQ_pJ_x, gQ_sA_x, gQ_pQ_x, gA_sJ_x, gI_sJ_x, gJ_sJ_x, gQ_sJ_x, if_true]
            · refine Inv_app3 I (i := 0) (by decide) (by decide) rfl (by decide) hm hn.symm (fun c hc => ⟨hc, rfl⟩) ⟨b1, b2, ?_⟩
              rcases hq with rfl | rfl
              · show bw 0 0 1; exact ⟨by decide, by decide⟩
              · show bw 1 0 1; exact ⟨by decide, by decide⟩
          rcases hq with rfl | rfl
          · exact ⟨fun _ => r_puts h (c := 0) (o := 14) (by decide) (by decide) hgn (by omega) key, fun q => absurd rfl q⟩
          · exact ⟨fun q => absurd q (by decide), fun _ => r_puts h (c := 0) (o := 14) (by decide) (by decide) hgn (by omega) key⟩
        have v0 : vp_in 0 (eN E (σ 115)) := by rw [en_115 h]; exact vpi (by decide) (by decide)
        have fin0 := fin q hq
        rcases hq with rfl | rfl
        · exact ⟨fun _ => T_set (r := n) (c := 2) (te_2 h) (TD_pA (TD_pA td2)) (by omega) (by decide) ⟨v0, hK _ _ fin0⟩, fun q => absurd rfl q⟩
        · exact ⟨fun q => absurd q (by decide), fun _ => T_set (r := n) (c := 2) (te_2 h) (TD_pA (TD_pA td2)) (by omega) (by decide) ⟨v0, hK _ _ fin0⟩⟩
      · have e12 : gA d (σ 88) 0 = 12 := by rw [wc.1, hm]; rfl
        exact nr0 (te_2 h) td (by decide) hm (Or.inr ⟨rfl, hK _ _ ⟨eo_87 h, ry1 b1 ⟨fun q => absurd rfl q, fun _ => ri1 b2 ⟨fun _ => ⟨eo_87 h, rt0 h ⟨fun q => absurd rfl q, fun _ => r_persons h ⟨fun q => absurd e12 q, fun _ => ⟨eo_87 h, rt1 h ⟨fun q => absurd q (by decide), fun _ => fail_O I (by decide) k⟩⟩⟩⟩⟩, fun q => absurd q (by decide)⟩⟩⟩⟩)
    · exact nb0 b2 (Or.inl ⟨rfl, hK _ _ ⟨eo_87 h, ry1 b1 ⟨fun q => absurd rfl q, fun _ => ri0 b2 ⟨fun q => absurd rfl q, fun _ => ⟨eo_87 h, eo_87 h, rt1 h ⟨fun _ => fail_O I (by decide) k, fun q => absurd q (by decide)⟩⟩⟩⟩⟩⟩)
  · exact nb0 b1 (Or.inl ⟨rfl, hK _ _ ⟨eo_87 h, ry0 b1 ⟨fun _ => ⟨eo_87 h, eo_87 h, rt1 h ⟨fun _ => fail_O I (by decide) k, fun q => absurd q (by decide)⟩⟩, fun q => absurd q (by decide)⟩⟩⟩)
theorem c_person (I : Inv σ E d) (hv : v5 v4 L) (k : ∀ E' d', Inv σ E' d' → kc E' d') : lw_451 E (σ 0) (σ 87) (σ 115) v4 xs L kc d := by
  have h := I.1
  obtain ⟨h1, h2, h3, h4, h5⟩ := hv
  refine ⟨eo_0 h, eo_87 h, eo_115 h, h1, h2, h3, fun q => ⟨eo_0 h, ?_⟩, fun q => ⟨eo_0 h, ?_⟩⟩
  · exact p_person I _ _ _ (Or.inl rfl) k (fun v d2 hk => ⟨h1, h2, h3, fun _ => ⟨eo_87 h, hk⟩, fun n => absurd q n⟩)
  · exact p_person I _ _ _ (Or.inr rfl) k (fun v d2 hk => ⟨h1, h2, h3, fun n => absurd n q, fun _ => ⟨eo_87 h, hk⟩⟩)
end
