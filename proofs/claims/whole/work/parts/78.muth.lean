/-! a changed row -/
def setW (W : Nat → Int32) (i r : Nat) (f : Nat → Int32) : Nat → Int32 := fun k => if oI i + wI i * r ≤ k ∧ k < oI i + wI i * r + wI i then f (k - (oI i + wI i * r)) else W k
section
variable {σ : Nat → Nat} {E : En} {d d' : Dy} {kc : En → Dy → Prop} {v4 : Int32} {xs : Nat → Int32} {L : Nat}
section
variable {W : Nat → Int32} {i r : Nat} {f : Nat → Int32}
theorem set_lo {k : Nat} (hi : i < 10) (hk : k < 14) : setW W i r f k = W k := by
  have := reg_lo hi
  simp only [setW]; rw [if_neg (by omega)]
theorem set_hi {k : Nat} (hi : i < 10) (hr : r < mI i) (hk : 596 ≤ k) : setW W i r f k = W k := by
  have := reg_lo hi
  have h3 := Nat.mul_le_mul_left (wI i) (show r + 1 ≤ mI i from hr)
  rw [Nat.mul_add, Nat.mul_one] at h3
  simp only [setW]; rw [if_neg (by omega)]
theorem set_o {j q c : Nat} (hi : i < 10) (hj : j < 10) (h : j ≠ i) (hr : r < mI i) (hq : q < mI j) (hc : c < wI j) : setW W i r f (oI j + wI j * q + c) = W (oI j + wI j * q + c) := by
  have h1 := reg_in hq hc
  have h2 := reg_ap hi hj (fun e => h e.symm)
  have h5 := Nat.mul_le_mul_left (wI i) (show r + 1 ≤ mI i from hr)
  rw [Nat.mul_add, Nat.mul_one] at h5
  simp only [setW]; rw [if_neg (by omega)]
theorem set_r {q c : Nat} (hq : q ≠ r) (hc : c < wI i) : setW W i r f (oI i + wI i * q + c) = W (oI i + wI i * q + c) := by
  simp only [setW]
  rw [if_neg]
  rcases Nat.lt_or_gt_of_ne hq with h | h
  · have h5 := Nat.mul_le_mul_left (wI i) (show q + 1 ≤ r from h)
    rw [Nat.mul_add, Nat.mul_one] at h5; omega
  · have h5 := Nat.mul_le_mul_left (wI i) (show r + 1 ≤ q from h)
    rw [Nat.mul_add, Nat.mul_one] at h5; omega
theorem set_n {c : Nat} (hc : c < wI i) : setW W i r f (oI i + wI i * r + c) = f c := by
  simp only [setW]; rw [if_pos (by omega)]; congr 1; omega
theorem set_nR {j : Nat} (hi : i < 10) (hj : j < 10) : nR (setW W i r f) j = nR W j := by
  unfold nR cnt
  split
  · rfl
  · next h5 => rw [set_lo hi (by have := cI_lt hj h5; omega)]
theorem set_cnt {c : Nat} (hi : i < 10) (hc : c < 14) : cnt (setW W i r f) c = cnt W c := by unfold cnt; rw [set_lo hi hc]
theorem set_WI (hW : WI W) (hi : i < 10) (hr : r < nR W i) (hv : okR i (cnt W 0) (cnt W 1) f) : WI (setW W i r f) := by
  have hm := Nat.lt_of_lt_of_le hr (WI_n hW hi)
  refine ⟨fun j hj hj5 => ?_, ?_, fun j hj q hq => ?_⟩
  · have := cI_lt hj hj5
    rw [set_cnt hi (by omega), set_lo hi (by omega)]; exact hW.1 j hj hj5
  · rw [set_cnt hi (by decide), set_lo hi (by decide)]; exact hW.2.1
  · rw [set_nR hi hj] at hq
    rw [set_cnt hi (by decide), set_cnt hi (by decide)]
    by_cases h : j = i
    · subst h
      by_cases hqr : q = r
      · subst hqr; exact okR_ext hv (fun c hc => set_n hc) hj
      · exact okR_ext (hW.2.2 j hj q hq) (fun c hc => set_r hqr hc) hj
    · exact okR_ext (hW.2.2 j hj q hq) (fun c hc => set_o hi hj h hm (Nat.lt_of_lt_of_le hq (WI_n hW hj)) hc) hj
theorem set_ro {j q : Nat} (hW : WI W) (hi : i < 10) (hm : r < mI i) (hj : j < 10) (h : j ≠ i) : roI (setW W i r f) j q = roI W j q := by
  unfold roI
  split
  · next hc =>
    rw [set_nR hi hj]
    have hle := WI_n hW hj
    rw [ordr_congr (y := kyI (setW W i r f) j) (y' := kyI W j)]
    intro k hk
    rcases hc with rfl | rfl
    · have := set_o (W := W) (f := f) (q := k) (c := 0) hi hj h hm (by omega) (by decide)
      simpa [kyI, oI, wI] using this
    · have := set_o (W := W) (f := f) (q := k) (c := 1) hi hj h hm (by omega) (by decide)
      simpa [kyI, oI, wI] using this
  · rfl
end
theorem Inv_set (I : Inv σ E d) (c : Ch σ wor d d') {i r : Nat} {f : Nat → Int32} (hi : i = 1 ∨ i = 5) (hr : r < nR (gA d (σ 88)) i) (hv : okR i (cnt (gA d (σ 88)) 0) (cnt (gA d (σ 88)) 1) f)
    (hW : gA d' (σ 88) = setW (gA d (σ 88)) i r f)
    (hT : ∀ j, j < nR (gA d (σ 88)) i → ∀ c, c < wI i → gA d' (σ (3 + 2 * i)) (j * wI i + c) = if j = r then f c else gA d (σ (3 + 2 * i)) (j * wI i + c))
    (hO : ∀ j, j < 10 → j ≠ i → gA d' (σ (3 + 2 * j)) = gA d (σ (3 + 2 * j))) (hI : ∀ j, j < 22 → gI d' (σ j) = gI d (σ j)) : Inv σ E d' := by
  have hi10 : i < 10 := by omega
  have w1 := I.2.2.1.1
  have w2 := I.2.2.1.2.1
  have hm := Nat.lt_of_lt_of_le hr (WI_n w1 hi10)
  have hcm : ∀ c, cmI i c = c := fun c => by rcases hi with rfl | rfl <;> rfl
  refine Inv_w I c hW (set_WI w1 hi10 hr hv) ⟨?_, fun j hj => ⟨?_, fun q hq cc hc => ?_⟩⟩ ?_
  · rw [hI 1 (by decide), set_lo hi10 (by decide)]; exact w2.1
  · rw [hI _ (by omega), set_nR hi10 hj]; exact (w2.2 j hj).1
  · rw [set_nR hi10 hj] at hq
    have e := (w2.2 j hj).2 q hq cc hc
    rw [show 1 + 2 + 2 * j = 3 + 2 * j by omega] at e ⊢
    by_cases h : j = i
    · subst h
      have hro : ∀ W, roI W j q = q := fun W => roI_id (by omega) (by omega)
      rw [hro] at e ⊢
      rw [hcm] at e ⊢
      rw [hT q hq cc hc]
      by_cases hqr : q = r
      · subst hqr; rw [if_pos rfl, set_n hc]
      · rw [if_neg hqr, set_r hqr hc]; exact e
    · rw [hO j hj h, set_ro w1 hi10 hm hj h, set_o hi10 hj h hm (Nat.lt_of_lt_of_le (ro_lt hq) (WI_n w1 hj)) hc]; exact e
  · intro k hk
    rcases hk with hk | hk
    · exact set_lo hi10 (by omega)
    · exact set_hi hi10 hm hk
theorem vpw {k : Nat} (h : k < 4851) : vp_in (nI k) 4851 := vpi h (by decide)
theorem p_wind (I : Inv σ E d) (x y : Int32) (k : ∀ E' d', Inv σ E' d' → kc E' d') {K : Int32 → Dy → Prop} (hK : ∀ v d2, w_X11_wind E (σ 87) x y d2 (fun d => cmpV σ E kc v d) → K v d2) : w_L_wind E (σ 0) x y d K := by
  have h := I.1
  have td := td_12 I
  by_cases b0 : lx x 60
  · have b0' : bw x 0 59 := (bw_lx (n := 60) (by decide)).mpr b0
    by_cases b1 : bw y 0 9
    · obtain ⟨r, hr, rfl⟩ := b0
      refine ⟨eo_0 h, eo_0 h, ni1 (n := 60) ⟨r, hr, rfl⟩ (by decide) (nb1 b1 ?_)⟩
      simp only [x_0_0 h, x_1_6 h]
      refine T_set (r := r) (c := 0) (te_12 h) td hr (by decide) (hK _ _ ⟨eo_87 h, rd1 b0' (rt0 h ⟨fun q => absurd rfl q, fun _ => ri1 b1 ⟨fun _ => ⟨eo_87 h, rt0 h ⟨fun _ => ?_, fun q => absurd rfl q⟩⟩, fun q => absurd q (by decide)⟩⟩)⟩)
      have e1 : (536 : Int32) + nI r = nI (536 + r) := z_add 536 r
      simp only [x_87_1 h, en_88 h, e1, z_nn (show 536 + r < 2147483648 by omega)]
      refine ⟨vpw (by omega), ?_⟩
      refine tl_void h ?_ (k _ _ ?_)
      · simp only [gA_pA_x, gA_pI_x, gA_pJ_x, gA_sA_x, gA_pQ_x, gI_pA_x, gI_pI_x, gI_pJ_x, gI_sA_x, gI_pQ_x, gJ_pA_x, gJ_pI_x, gJ_pJ_x, gJ_sA_x, gJ_pQ_x, gQ_pA_x, gQ_pI_x, gQ_pJ_x, gQ_sA_x, gQ_pQ_x, gA_sJ_x, gI_sJ_x, gJ_sJ_x, gQ_sJ_x, if_true]
      · refine Inv_set I (i := 5) (r := r) (f := fun _ => y) ?_ (Or.inr rfl) hr b1 ?_ (fun j hj c hc => ?_) (fun j hj hji => ?_) (fun j hj => ?_)
        · exact Ch_tr (Ch_tr (Ch_pA h (by decide) (by decide)) (Ch_pI h (i := 87) (by decide) (by decide) (by decide))) (Ch_pA h (by decide) (by decide))
        · simp only [gA_pA_x, gA_pI_x, gA_pJ_x, gA_sA_x, gA_pQ_x, gI_pA_x, gI_pI_x, gI_pJ_x, gI_sA_x, gI_pQ_x, gJ_pA_x, gJ_pI_x, gJ_pJ_x, gJ_sA_x, gJ_pQ_x, gQ_pA_x, gQ_pI_x, gQ_pJ_x, gQ_sA_x, gQ_pQ_x, gA_sJ_x, gI_sJ_x, gJ_sJ_x, gQ_sJ_x, if_true, sg h, Nat.reduceLT, Nat.reduceEqDiff, if_false]
          funext q
          simp only [setW, show oI 5 = 536 from rfl, show wI 5 = 1 from rfl]
          by_cases hq : q = 536 + r
          · rw [if_pos hq, if_pos (by omega)]
          · rw [if_neg hq, if_neg (by omega)]
        · show gA (pA (pI (pA d (σ 13) (r * 1 + 0) y) (σ 87) 0 0) (σ 88) (536 + r) y) (σ 13) (j * 1 + c) = if j = r then y else gA d (σ 13) (j * 1 + c)
          have hc : c < 1 := hc
          simp only [gA_pA_x, gA_pI_x, gA_pJ_x, gA_sA_x, gA_pQ_x, gI_pA_x, gI_pI_x, gI_pJ_x, gI_sA_x, gI_pQ_x, gJ_pA_x, gJ_pI_x, gJ_pJ_x, gJ_sA_x, gJ_pQ_x, gQ_pA_x, gQ_pI_x, gQ_pJ_x, gQ_sA_x, gQ_pQ_x, gA_sJ_x, gI_sJ_x, gJ_sJ_x, gQ_sJ_x, if_true, sg h, Nat.reduceLT, Nat.reduceEqDiff, if_false]
          by_cases hj2 : j = r
          · rw [if_pos hj2, if_pos (by omega)]
          · rw [if_neg hj2, if_neg (by omega)]
        · have hne : σ (3 + 2 * j) ≠ σ 88 := Env_ne h (by omega) (by decide) (by omega)
          have hne2 : σ (3 + 2 * j) ≠ σ 13 := Env_ne h (by omega) (by decide) (by omega)
          simp only [gA_pA_x, gA_pI_x, gA_pJ_x, gA_sA_x, gA_pQ_x, gI_pA_x, gI_pI_x, gI_pJ_x, gI_sA_x, gI_pQ_x, gJ_pA_x, gJ_pI_x, gJ_pJ_x, gJ_sA_x, gJ_pQ_x, gQ_pA_x, gQ_pI_x, gQ_pJ_x, gQ_sA_x, gQ_pQ_x, gA_sJ_x, gI_sJ_x, gJ_sJ_x, gQ_sJ_x, if_neg hne, if_neg hne2]
        · have hne : σ j ≠ σ 87 := Env_ne h (by omega) (by decide) (by omega)
          simp only [gA_pA_x, gA_pI_x, gA_pJ_x, gA_sA_x, gA_pQ_x, gI_pA_x, gI_pI_x, gI_pJ_x, gI_sA_x, gI_pQ_x, gJ_pA_x, gJ_pI_x, gJ_pJ_x, gJ_sA_x, gJ_pQ_x, gQ_pA_x, gQ_pI_x, gQ_pJ_x, gQ_sA_x, gQ_pQ_x, gA_sJ_x, gI_sJ_x, gJ_sJ_x, gQ_sJ_x, if_neg hne]
    · exact ⟨eo_0 h, eo_0 h, ni1 (n := 60) b0 (by decide) (nb0 b1 (Or.inr ⟨rfl, hK _ _ ⟨eo_87 h, rd1 b0' (rt0 h ⟨fun q => absurd rfl q, fun _ => ri0 b1 ⟨fun q => absurd rfl q, fun _ => ⟨eo_87 h, rt1 h ⟨fun q => absurd q (by decide), fun _ => fail_V I k⟩⟩⟩⟩)⟩⟩))⟩
  · have b0' : ¬ bw x 0 59 := fun q => b0 ((bw_lx (n := 60) (by decide)).mp q)
    exact ⟨eo_0 h, eo_0 h, ni0 (n := 60) b0 (by decide) (Or.inl ⟨rfl, hK _ _ ⟨eo_87 h, rd0 b0' (rt1 h ⟨fun _ => fail_V I k, fun q => absurd q (by decide)⟩)⟩⟩)⟩
theorem c_wind (I : Inv σ E d) (hv : v5 v4 L) (k : ∀ E' d', Inv σ E' d' → kc E' d') : lw_1863 E (σ 0) (σ 87) (σ 115) v4 xs L kc d :=
  ⟨eo_0 I.1, eo_87 I.1, eo_115 I.1, hv.1, hv.2.1, p_wind I _ _ k (fun v d2 hk => ⟨hv.1, hv.2.1, hk⟩)⟩
/-- two neighbouring cells of a hut -/
theorem Inv_hut2 (I : Inv σ E d) {r c : Nat} {x y : Int32} (hr : r < cnt (gA d (σ 88)) 1) (hc : c + 1 < 7)
    (hv : okR 1 (cnt (gA d (σ 88)) 0) (cnt (gA d (σ 88)) 1) (fun q => if q = c + 1 then y else if q = c then x else gA d (σ 88) (50 + 7 * r + q))) :
    Inv σ E (pA (pA (pI (pA (pA d (σ 5) (r * 7 + c) x) (σ 5) (r * 7 + (c + 1)) y) (σ 87) 0 0) (σ 88) (50 + 7 * r + c) x) (σ 88) (50 + 7 * r + (c + 1)) y) := by
  have h := I.1
  refine Inv_set I (i := 1) (r := r) (f := fun q => if q = c + 1 then y else if q = c then x else gA d (σ 88) (50 + 7 * r + q)) ?_ (Or.inl rfl) hr hv ?_ (fun j hj q hq => ?_) (fun j hj hji => ?_) (fun j hj => ?_)
  · exact Ch_tr (Ch_tr (Ch_tr (Ch_tr (Ch_pA h (by decide) (by decide)) (Ch_pA h (by decide) (by decide))) (Ch_pI h (i := 87) (by decide) (by decide) (by decide))) (Ch_pA h (by decide) (by decide))) (Ch_pA h (by decide) (by decide))
  · simp only [gA_pA_x, gA_pI_x, gA_pJ_x, gA_sA_x, gA_pQ_x, gI_pA_x, gI_pI_x, gI_pJ_x, gI_sA_x, gI_pQ_x, gJ_pA_x, gJ_pI_x, gJ_pJ_x, gJ_sA_x, gJ_pQ_x, gQ_pA_x, gQ_pI_x, gQ_pJ_x, gQ_sA_x, gQ_pQ_x, gA_sJ_x, gI_sJ_x, gJ_sJ_x, gQ_sJ_x, if_true, sg h, Nat.reduceLT, Nat.reduceEqDiff, if_false]
    funext q
    simp only [setW, show oI 1 = 50 from rfl, show wI 1 = 7 from rfl]
    by_cases h1 : 50 + 7 * r ≤ q ∧ q < 50 + 7 * r + 7
    · rw [if_pos h1]
      obtain ⟨e, rfl⟩ : ∃ e, q = 50 + 7 * r + e := ⟨q - (50 + 7 * r), by omega⟩
      rw [show 50 + 7 * r + e - (50 + 7 * r) = e by omega]
      by_cases h2 : e = c + 1
      · rw [if_pos (by omega), if_pos h2]
      · rw [if_neg (by omega), if_neg h2]
        by_cases h3 : e = c
        · rw [if_pos (by omega), if_pos h3]
        · rw [if_neg (by omega), if_neg h3]
    · rw [if_neg h1, if_neg (by omega), if_neg (by omega)]
  · have hq : q < 7 := hq
    show gA (pA (pA (pI (pA (pA d (σ 5) (r * 7 + c) x) (σ 5) (r * 7 + (c + 1)) y) (σ 87) 0 0) (σ 88) (50 + 7 * r + c) x) (σ 88) (50 + 7 * r + (c + 1)) y) (σ 5) (j * 7 + q) = if j = r then (if q = c + 1 then y else if q = c then x else gA d (σ 88) (50 + 7 * r + q)) else gA d (σ 5) (j * 7 + q)
    have e : gA d (σ 5) (j * 7 + q) = gA d (σ 88) (50 + 7 * j + q) := tv_4 I hj hq
    simp only [gA_pA_x, gA_pI_x, gA_pJ_x, gA_sA_x, gA_pQ_x, gI_pA_x, gI_pI_x, gI_pJ_x, gI_sA_x, gI_pQ_x, gJ_pA_x, gJ_pI_x, gJ_pJ_x, gJ_sA_x, gJ_pQ_x, gQ_pA_x, gQ_pI_x, gQ_pJ_x, gQ_sA_x, gQ_pQ_x, gA_sJ_x, gI_sJ_x, gJ_sJ_x, gQ_sJ_x, if_true, sg h, Nat.reduceLT, Nat.reduceEqDiff, if_false]
    by_cases hj2 : j = r
    · subst hj2
      rw [if_pos rfl]
      by_cases h2 : q = c + 1
      · rw [if_pos (by omega), if_pos h2]
      · rw [if_neg (by omega), if_neg h2]
        by_cases h3 : q = c
        · rw [if_pos (by omega), if_pos h3]
        · rw [if_neg (by omega), if_neg h3]; exact e
    · rw [if_neg hj2, if_neg (by omega), if_neg (by omega)]
  · have hne : σ (3 + 2 * j) ≠ σ 88 := Env_ne h (by omega) (by decide) (by omega)
    have hne2 : σ (3 + 2 * j) ≠ σ 5 := Env_ne h (by omega) (by decide) (by omega)
    simp only [gA_pA_x, gA_pI_x, gA_pJ_x, gA_sA_x, gA_pQ_x, gI_pA_x, gI_pI_x, gI_pJ_x, gI_sA_x, gI_pQ_x, gJ_pA_x, gJ_pI_x, gJ_pJ_x, gJ_sA_x, gJ_pQ_x, gQ_pA_x, gQ_pI_x, gQ_pJ_x, gQ_sA_x, gQ_pQ_x, gA_sJ_x, gI_sJ_x, gJ_sJ_x, gQ_sJ_x, if_neg hne, if_neg hne2]
  · have hne : σ j ≠ σ 87 := Env_ne h (by omega) (by decide) (by omega)
    simp only [gA_pA_x, gA_pI_x, gA_pJ_x, gA_sA_x, gA_pQ_x, gI_pA_x, gI_pI_x, gI_pJ_x, gI_sA_x, gI_pQ_x, gJ_pA_x, gJ_pI_x, gJ_pJ_x, gJ_sA_x, gJ_pQ_x, gQ_pA_x, gQ_pI_x, gQ_pJ_x, gQ_sA_x, gQ_pQ_x, gA_sJ_x, gI_sJ_x, gJ_sJ_x, gQ_sJ_x, if_neg hne]
theorem p_lost (I : Inv σ E d) (a x y : Int32) (k : ∀ E' d', Inv σ E' d' → kc E' d') {K : Int32 → Dy → Prop} (hK : ∀ v d2, w_X11_lost E (σ 87) a x y d2 (fun d => cmpV σ E kc v d) → K v d2) : w_L_lost E (σ 0) a x y d K := by
  have h := I.1
  have td := td_4 I
  have wc := wc_1 I
  by_cases b0 : lx a (cnt (gA d (σ 88)) 1)
  · have f2 : ∀ K1 : Dy → Prop, K1 (pI (pI d (σ 87) 0 0) (σ 87) 0 2) → b_X11_lost_38 E (σ 87) a x y K1 (σ 87) (pI d (σ 87) 0 0) := fun K1 q => ⟨eo_87 h, eo_87 h, rt1 h ⟨fun q => absurd q (by decide), fun _ => q⟩⟩
    by_cases b1 : bw x 0 4
    · by_cases b2 : bw y 0 7
      · obtain ⟨r, hr, rfl⟩ := id b0
        refine ⟨eo_0 h, eo_0 h, nh1 h td b0 (nb1 b1 (nb1 b2 ?_))⟩
        simp only [x_0_0 h, x_1_2 h]
        refine T_set (r := r) (c := 5) (te_4 h) td hr (by decide) (T_set (r := r) (c := 6) (te_4 h) (TD_pA td) hr (by decide) (hK _ _ ⟨eo_87 h, rhn1 h (n := cnt (gA d (σ 88)) 1) ?_ (by omega) b0 (rt0 h ⟨fun q => absurd rfl q, fun _ => ri1 b1 ⟨fun q => absurd q (by decide), fun _ => ri1 b2 ⟨fun _ => ⟨eo_87 h, rt0 h ⟨fun _ => ?_, fun q => absurd rfl q⟩⟩, fun q => absurd q (by decide)⟩⟩⟩)⟩))
        · simp only [gA_pA_x, gA_pI_x, gA_pJ_x, gA_sA_x, gA_pQ_x, gI_pA_x, gI_pI_x, gI_pJ_x, gI_sA_x, gI_pQ_x, gJ_pA_x, gJ_pI_x, gJ_pJ_x, gJ_sA_x, gJ_pQ_x, gQ_pA_x, gQ_pI_x, gQ_pJ_x, gQ_sA_x, gQ_pQ_x, gA_sJ_x, gI_sJ_x, gJ_sJ_x, gQ_sJ_x, if_true, sg h, Nat.reduceLT, Nat.reduceEqDiff, if_false]; exact wc.1
        · have e1 : (50 : Int32) + 7 * nI r + 5 = nI (50 + 7 * r + 5) := r_lin 50 7 r 5
          have e2 : (50 : Int32) + 7 * nI r + 6 = nI (50 + 7 * r + (5 + 1)) := r_lin 50 7 r 6
          simp only [x_87_1 h, en_88 h, e1, e2, z_nn (show 50 + 7 * r + 5 < 2147483648 by omega), z_nn (show 50 + 7 * r + (5 + 1) < 2147483648 by omega)]
          refine ⟨vpw (by omega), vpw (by omega), ?_⟩
          refine tl_void h ?_ (k _ _ (Inv_hut2 I hr (c := 5) (by decide) ?_))
          · simp only [gA_pA_x, gA_pI_x, gA_pJ_x, gA_sA_x, gA_pQ_x, gI_pA_x, gI_pI_x, gI_pJ_x, gI_sA_x, gI_pQ_x, gJ_pA_x, gJ_pI_x, gJ_pJ_x, gJ_sA_x, gJ_pQ_x, gQ_pA_x, gQ_pI_x, gQ_pJ_x, gQ_sA_x, gQ_pQ_x, gA_sJ_x, gI_sJ_x, gJ_sJ_x, gQ_sJ_x, if_true]
          · have ok := ok_4 I hr
            exact ⟨ok.1, ok.2.1, ok.2.2.1, ok.2.2.2.1, ok.2.2.2.2.1, b1, b2⟩
      · exact ⟨eo_0 h, eo_0 h, nh1 h td b0 (nb1 b1 (nb0 b2 (Or.inr ⟨rfl, hK _ _ ⟨eo_87 h, rhn1 h wc.1 (by omega) b0 (rt0 h ⟨fun q => absurd rfl q, fun _ => ri1 b1 ⟨fun q => absurd q (by decide), fun _ => ri0 b2 ⟨fun q => absurd rfl q, fun _ => f2 _ (fail_V I k)⟩⟩⟩)⟩⟩)))⟩
    · exact ⟨eo_0 h, eo_0 h, nh1 h td b0 (nb0 b1 (Or.inr ⟨rfl, hK _ _ ⟨eo_87 h, rhn1 h wc.1 (by omega) b0 (rt0 h ⟨fun q => absurd rfl q, fun _ => ri0 b1 ⟨fun _ => f2 _ (fail_V I k), fun q => absurd rfl q⟩⟩)⟩⟩))⟩
  · exact ⟨eo_0 h, eo_0 h, nh0 h td b0 (Or.inl ⟨rfl, hK _ _ ⟨eo_87 h, rhn0 h wc.1 (by omega) b0 (rt1 h ⟨fun _ => fail_V I k, fun q => absurd q (by decide)⟩)⟩⟩)⟩
theorem c_lost (I : Inv σ E d) (hv : v5 v4 L) (k : ∀ E' d', Inv σ E' d' → kc E' d') : lw_2435 E (σ 0) (σ 87) (σ 115) v4 xs L kc d :=
  ⟨eo_0 I.1, eo_87 I.1, eo_115 I.1, hv.1, hv.2.1, hv.2.2.1, p_lost I _ _ _ k (fun v d2 hk => ⟨hv.1, hv.2.1, hv.2.2.1, hk⟩)⟩
theorem p_line (I : Inv σ E d) (a x y : Int32) (k : ∀ E' d', Inv σ E' d' → kc E' d') {K : Int32 → Dy → Prop} (hK : ∀ v d2, w_X11_line E (σ 87) a x y d2 (fun d => cmpV σ E kc v d) → K v d2) : w_L_line E (σ 0) a x y d K := by
  have h := I.1
  have td := td_4 I
  have wc := wc_1 I
  by_cases b0 : lx a (cnt (gA d (σ 88)) 1)
  · have f2 : ∀ K1 : Dy → Prop, K1 (pI (pI d (σ 87) 0 0) (σ 87) 0 2) → b_X11_line_34 E (σ 87) a x y K1 (σ 87) (pI d (σ 87) 0 0) := fun K1 q => ⟨eo_87 h, eo_87 h, rt1 h ⟨fun q => absurd q (by decide), fun _ => q⟩⟩
    have bad : ¬ (bw x 0 99 ∧ bw y x 99) → w_X11_line E (σ 87) a x y d (fun d => cmpV σ E kc 2 d) := fun nb => by
      refine ⟨eo_87 h, rhn1 h wc.1 (by omega) b0 (rt0 h ⟨fun q => absurd rfl q, fun _ => ?_⟩)⟩
      by_cases q1 : bw x 0 y
      · refine ri1 q1 ⟨fun q => absurd q (by decide), fun _ => ⟨fun hy => absurd ?_ nb, fun _ => f2 _ (fail_V I k)⟩⟩
        have hxy : x ≤ y := Int32.not_lt.mp q1.2
        exact ⟨⟨q1.1, Int32.not_lt.mpr (Int32.le_trans hxy hy)⟩, ⟨q1.2, Int32.not_lt.mpr hy⟩⟩
      · exact ri0 q1 ⟨fun _ => f2 _ (fail_V I k), fun q => absurd rfl q⟩
    by_cases b1 : bw x 0 99
    · by_cases b2 : bw y x 99
      · obtain ⟨r, hr, rfl⟩ := id b0
        refine ⟨eo_0 h, eo_0 h, nh1 h td b0 (nb1 b1 (nb1 b2 ?_))⟩
        simp only [x_0_0 h, x_1_2 h]
        refine T_set (r := r) (c := 3) (te_4 h) td hr (by decide) (T_set (r := r) (c := 4) (te_4 h) (TD_pA td) hr (by decide) (hK _ _ ⟨eo_87 h, rhn1 h (n := cnt (gA d (σ 88)) 1) ?_ (by omega) b0 (rt0 h ⟨fun q => absurd rfl q, fun _ => ri1 ⟨b1.1, b2.1⟩ ⟨fun q => absurd q (by decide), fun _ => ⟨fun _ => ⟨eo_87 h, rt0 h ⟨fun _ => ?_, fun q => absurd rfl q⟩⟩, fun q => absurd (Int32.not_lt.mp b2.2) q⟩⟩⟩)⟩))
        · simp only [gA_pA_x, gA_pI_x, gA_pJ_x, gA_sA_x, gA_pQ_x, gI_pA_x, gI_pI_x, gI_pJ_x, gI_sA_x, gI_pQ_x, gJ_pA_x, gJ_pI_x, gJ_pJ_x, gJ_sA_x, gJ_pQ_x, gQ_pA_x, gQ_pI_x, gQ_pJ_x, gQ_sA_x, gQ_pQ_x, gA_sJ_x, gI_sJ_x, gJ_sJ_x, gQ_sJ_x, if_true, sg h, Nat.reduceLT, Nat.reduceEqDiff, if_false]; exact wc.1
        · have e1 : (50 : Int32) + 7 * nI r + 3 = nI (50 + 7 * r + 3) := r_lin 50 7 r 3
          have e2 : (50 : Int32) + 7 * nI r + 4 = nI (50 + 7 * r + (3 + 1)) := r_lin 50 7 r 4
          simp only [x_87_1 h, en_88 h, e1, e2, z_nn (show 50 + 7 * r + 3 < 2147483648 by omega), z_nn (show 50 + 7 * r + (3 + 1) < 2147483648 by omega)]
          refine ⟨vpw (by omega), vpw (by omega), ?_⟩
          refine tl_void h ?_ (k _ _ (Inv_hut2 I hr (c := 3) (by decide) ?_))
          · simp only [gA_pA_x, gA_pI_x, gA_pJ_x, gA_sA_x, gA_pQ_x, gI_pA_x, gI_pI_x, gI_pJ_x, gI_sA_x, gI_pQ_x, gJ_pA_x, gJ_pI_x, gJ_pJ_x, gJ_sA_x, gJ_pQ_x, gQ_pA_x, gQ_pI_x, gQ_pJ_x, gQ_sA_x, gQ_pQ_x, gA_sJ_x, gI_sJ_x, gJ_sJ_x, gQ_sJ_x, if_true]
          · have ok := ok_4 I hr
            exact ⟨ok.1, ok.2.1, ok.2.2.1, b1, b2, ok.2.2.2.2.2⟩
      · exact ⟨eo_0 h, eo_0 h, nh1 h td b0 (nb1 b1 (nb0 b2 (Or.inr ⟨rfl, hK _ _ (bad (fun q => b2 q.2))⟩)))⟩
    · exact ⟨eo_0 h, eo_0 h, nh1 h td b0 (nb0 b1 (Or.inr ⟨rfl, hK _ _ (bad (fun q => b1 q.1))⟩))⟩
  · exact ⟨eo_0 h, eo_0 h, nh0 h td b0 (Or.inl ⟨rfl, hK _ _ ⟨eo_87 h, rhn0 h wc.1 (by omega) b0 (rt1 h ⟨fun _ => fail_V I k, fun q => absurd q (by decide)⟩)⟩⟩)⟩
theorem c_line (I : Inv σ E d) (hv : v5 v4 L) (k : ∀ E' d', Inv σ E' d' → kc E' d') : lw_2019 E (σ 0) (σ 87) (σ 115) v4 xs L kc d :=
  ⟨eo_0 I.1, eo_87 I.1, eo_115 I.1, hv.1, hv.2.1, hv.2.2.1, p_line I _ _ _ k (fun v d2 hk => ⟨hv.1, hv.2.1, hv.2.2.1, hk⟩)⟩
end
