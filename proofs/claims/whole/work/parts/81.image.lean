/-! the image -/
theorem chk_congr {s : Nat} {op op' : Nat → Int32} : ∀ (k i : Nat) (st : List Bool), (∀ j, i ≤ j → j < i + k → op j = op' j) → chk s op k i st = chk s op' k i st
  | 0, _, _, _ => rfl
  | k + 1, i, st, h => by
    unfold chk
    rw [h i (by omega) (by omega)]
    congr 1
    funext st'
    exact chk_congr k (i + 1) st' (fun j h1 h2 => h j (by omega) (by omega))
section
variable {σ : Nat → Nat} {E : En} {d d' : Dy} {kc : En → Dy → Prop} {v4 : Int32} {xs : Nat → Int32} {L : Nat}
theorem TX_W2 {q s : Nat} {W W' : Nat → Int32} (h : TX σ E d q W s) (hs : s < 4) (c : ∀ k, 596 ≤ k → k < 4000 → W' k = W k) : TX σ E d q W' s := by
  obtain ⟨tl, tb, tc, n, len, h0, h1, h2, h3, h4, h5, h6, h7, h8, h9, h10, h11, h12, h13⟩ := h
  have cl : ∀ i, i < n → ∀ e, e < 5 → W' (597 + 851 * s + 5 * i + e) = W (597 + 851 * s + 5 * i + e) := fun i hi e he => c _ (by omega) (by omega)
  refine ⟨tl, tb, tc, n, len, h0, h1, h2, h3, h4, h5, h6, h7, h8, h9, ?_, ?_, ?_, ?_⟩
  · rw [c _ (by omega) (by omega)]; exact h10
  · intro i hi
    have := h11 i hi
    unfold LnR at this ⊢
    rw [show W' (597 + 851 * s + 5 * i) = W (597 + 851 * s + 5 * i) from cl i hi 0 (by omega), cl i hi 1 (by omega), cl i hi 2 (by omega), cl i hi 3 (by omega), cl i hi 4 (by omega)]
    exact this
  · intro i hi
    rw [c _ (by omega) (by omega), c _ (by omega) (by omega)]; exact h12 i hi
  · intro i f t hi hf ht hf2 ht2
    rw [c _ (by omega) (by omega)] at hf
    rw [c _ (by omega) (by omega)] at ht
    have hln := (h11 i hi).2.2.2
    obtain ⟨f', t', e1, e2, e3, e4⟩ := hln
    rw [show 597 + 851 * s + 5 * i + 3 = 600 + 851 * s + 5 * i by omega, hf] at e1
    rw [show 597 + 851 * s + 5 * i + 4 = 601 + 851 * s + 5 * i by omega, ht] at e2
    have e5 : t = t' := by
      have := congrArg Int32.toNatClampNeg e2
      rwa [z_nn ht2, z_nn (by omega)] at this
    rcases h13 i f t hi hf ht hf2 ht2 with h | h
    · exact Or.inl h
    · right
      rw [← h]
      exact chk_congr _ _ _ (fun j h1 h2 => c _ (by omega) (by omega))
theorem nR_congr {W W' : Nat → Int32} (c : ∀ k, k < 596 → W' k = W k) {i : Nat} (hi : i < 10) : nR W' i = nR W i := by
  unfold nR cnt; split
  · rfl
  · next h5 => rw [c _ (by have := cI_lt hi h5; omega)]
theorem roI_congr {W W' : Nat → Int32} (hW : WI W) (c : ∀ k, k < 596 → W' k = W k) {i j : Nat} (hi : i < 10) : roI W' i j = roI W i j := by
  unfold roI; split
  · next hc =>
    have hm := WI_n hW hi
    rw [nR_congr c hi, ordr_congr (y := kyI W' i) (y' := kyI W i)]
    intro k hk
    rw [ky_at hc, ky_at hc, c]
    have := reg_in (i := i) (r := k) (c := kcI i) (by omega) (by rcases hc with rfl | rfl <;> decide)
    have := reg_lo hi; omega
  · rfl
theorem WI_congr {W W' : Nat → Int32} (hW : WI W) (c : ∀ k, k < 596 → W' k = W k) : WI W' := by
  refine ⟨fun i hi h5 => ?_, ?_, fun i hi r hr => ?_⟩
  · have := cI_lt hi h5
    unfold cnt; rw [c _ (by omega)]; exact hW.1 i hi h5
  · unfold cnt; rw [c _ (by decide)]; exact hW.2.1
  · rw [nR_congr c hi] at hr
    unfold cnt; rw [c 0 (by decide), c 1 (by decide)]
    refine okR_ext (hW.2.2 i hi r hr) (fun cc hcc => c _ ?_) hi
    have := reg_in (i := i) (Nat.lt_of_lt_of_le hr (WI_n hW hi)) hcc
    have := reg_lo hi; omega
/-- a whole table copied -/
theorem T_copyR (h : Env σ E) {t b t' b' w m n : Nat} (ht : t < 116) (hb : b < 116) (hp : (t, 3) ∉ prot) (h1 : TE E (σ t) (σ b) w m) (h2 : TE E (σ t') (σ b') w m) (e1 : gI d (σ t) 0 = nI w) (e2 : gI d (σ t) 1 = nI m) (d2 : TD d (σ t') w m n) (hne : σ b' ≠ σ b) {K : Dy → Prop}
    (k : ∀ d', Ch σ [t, b] d d' → gI d' (σ t) 3 = nI n → (∀ k, k < n * w → gA d' (σ b) k = gA d (σ b') k) → K d') : w_X6_copy E (σ t) (σ t') d K := by
  have hm := T_m h1
  have hle := Nat.mul_le_mul_right w d2.2.2.2
  obtain ⟨a1, a2, a3, a4, a5, a6⟩ := h1
  obtain ⟨c1, c2, c3, c4, c5, c6⟩ := h2
  obtain ⟨f1, f2, f3, f4⟩ := d2
  simp only [w_X6_copy, xgA a2 a3, xgA c2 c3, e1, e2, f1, f3, gI_pI_x, if_true, show ((0 : Nat) = 3) = False from by simp, if_false, gA_pI_x, z_mul, z_nn (show n * w < 2147483648 by omega), a4, c4]
  refine ⟨a1, c1, fun q => absurd trivial q, fun _ => ⟨fun q => ?_, fun _ => ?_⟩⟩
  · rw [z_lt (by omega) (by omega)] at q; omega
  · refine ⟨by decide, by decide, z_pos (by omega), ?_, ?_, k _ ?_ ?_ ?_⟩
    · show 0 + n * w ≤ _; omega
    · show 0 + n * w ≤ _; omega
    · exact Ch_tr (Ch_pI h ht hp (by simp)) (Ch_sA h hb (by simp))
    · simp only [gI_sA_x, gI_pI_x, if_true]
    · intro j hj
      simp only [gA_sA_x, if_true]
      have z0 : (0 : Int32).toNatClampNeg = 0 := rfl
      simp only [va_cpy, z0]
      rw [if_pos (by omega)]; congr 1; omega
/-- what a copy of all that was told leaves (to label A, from label B) -/
def CpR (σ : Nat → Nat) (A B : Nat) (d d' : Dy) : Prop :=
  gI d' (σ A) 0 = gI d (σ B) 0 ∧ (∀ i, i < 10 → gI d' (σ (A + 1 + 2 * i)) 3 = gI d (σ (B + 1 + 2 * i)) 3 ∧ ∀ n, gI d (σ (B + 1 + 2 * i)) 3 = nI n → n ≤ mI i → ∀ k, k < n * wI i → gA d' (σ (A + 2 + 2 * i)) k = gA d (σ (B + 2 + 2 * i)) k)
  ∧ (∀ s, s < 4 → gQ d' (σ (A + 21)) s = gQ d (σ (B + 21)) s)
  ∧ (∀ i, i < 116 → ¬ (A ≤ i ∧ i ≤ A + 21) → gI d' (σ i) = gI d (σ i) ∧ gA d' (σ i) = gA d (σ i) ∧ gJ d' (σ i) = gJ d (σ i))
  ∧ (∀ q ∈ prot, gI d' (σ q.1) q.2 = gI d (σ q.1) q.2) ∧ (∀ a, (∀ i, i < 116 → a ≠ σ i) → gI d' a = gI d a ∧ gA d' a = gA d a) ∧ (∀ a, a ≠ σ (A + 21) → gQ d' a = gQ d a)
theorem T_told23 (h : Env σ E) (st : St σ d) (hn2 : ∀ i, i < 10 → ∃ n, n ≤ mI i ∧ gI d (σ (1 + 1 + 2 * i)) 3 = nI n) (hq : ∀ s, s < 4 → ∀ b, gQ d (σ 22) s = some b → okO E b 7) {K : Dy → Prop} (k : ∀ d', CpR σ 23 1 d d' → K d') : w_X8_copy E (σ 23) (σ 1) d K := by
  simp only [w_X8_copy, x_23_1 h, x_1_1 h, x_23_2 h, x_1_2 h, x_23_3 h, x_1_3 h, x_23_4 h, x_1_4 h, x_23_5 h, x_1_5 h, x_23_6 h, x_1_6 h, x_23_7 h, x_1_7 h, x_23_8 h, x_1_8 h, x_23_9 h, x_1_9 h, x_23_10 h, x_1_10 h]
  refine ⟨eo_23 h, eo_1 h, ?_⟩
  have c0 : Ch σ [23] d (pI d (σ 23) 0 (gI d (σ 1) 0)) := Ch_pI h (by decide) (by decide) (by decide)
  have e0 : gI (pI d (σ 23) 0 (gI d (σ 1) 0)) (σ 23) 0 = gI d (σ 1) 0 := gI_pI _ _ _ _
  generalize pI d (σ 23) 0 (gI d (σ 1) 0) = d0 at c0 e0 ⊢
  have C0p : Ch σ [23] d d0 := c0
  have C0 : Ch σ [23, 24, 25, 26, 27, 28, 29, 30, 31, 32, 33, 34, 35, 36, 37, 38, 39, 40, 41, 42, 43] d d0 := Ch_w c0 (by decide)
  obtain ⟨n0, hb0, hs0⟩ := hn2 0 (by decide)
  refine T_copyR h (t := 24) (b := 25) (t' := 2) (b' := 3) (n := n0) (by decide) (by decide) (by decide) (te_24 h) (te_2 h) (St_ch st C0 (24, 3, 12) (by decide)).1 (St_ch st C0 (24, 3, 12) (by decide)).2 (ts_2 (St_ch st C0) ((congrFun (Ch_I C0p (by decide) (by decide)) 3).trans hs0) hb0) (Env_ne h (by decide) (by decide) (by decide)) (fun d1 c1 s1 g1x => ?_)
  have C1p : Ch σ [23, 24, 25] d d1 := Ch_tr (Ch_w C0p (by decide)) (Ch_w c1 (by decide))
  have C1 : Ch σ [23, 24, 25, 26, 27, 28, 29, 30, 31, 32, 33, 34, 35, 36, 37, 38, 39, 40, 41, 42, 43] d d1 := Ch_tr C0 (Ch_w c1 (by decide))
  obtain ⟨n1, hb1, hs1⟩ := hn2 1 (by decide)
  refine T_copyR h (t := 26) (b := 27) (t' := 4) (b' := 5) (n := n1) (by decide) (by decide) (by decide) (te_26 h) (te_4 h) (St_ch st C1 (26, 7, 10) (by decide)).1 (St_ch st C1 (26, 7, 10) (by decide)).2 (ts_4 (St_ch st C1) ((congrFun (Ch_I C1p (by decide) (by decide)) 3).trans hs1) hb1) (Env_ne h (by decide) (by decide) (by decide)) (fun d2 c2 s2 g2x => ?_)
  have C2p : Ch σ [23, 24, 25, 26, 27] d d2 := Ch_tr (Ch_w C1p (by decide)) (Ch_w c2 (by decide))
  have C2 : Ch σ [23, 24, 25, 26, 27, 28, 29, 30, 31, 32, 33, 34, 35, 36, 37, 38, 39, 40, 41, 42, 43] d d2 := Ch_tr C1 (Ch_w c2 (by decide))
  obtain ⟨n2, hb2, hs2⟩ := hn2 2 (by decide)
  refine T_copyR h (t := 28) (b := 29) (t' := 6) (b' := 7) (n := n2) (by decide) (by decide) (by decide) (te_28 h) (te_6 h) (St_ch st C2 (28, 6, 40) (by decide)).1 (St_ch st C2 (28, 6, 40) (by decide)).2 (ts_6 (St_ch st C2) ((congrFun (Ch_I C2p (by decide) (by decide)) 3).trans hs2) hb2) (Env_ne h (by decide) (by decide) (by decide)) (fun d3 c3 s3 g3x => ?_)
  have C3p : Ch σ [23, 24, 25, 26, 27, 28, 29] d d3 := Ch_tr (Ch_w C2p (by decide)) (Ch_w c3 (by decide))
  have C3 : Ch σ [23, 24, 25, 26, 27, 28, 29, 30, 31, 32, 33, 34, 35, 36, 37, 38, 39, 40, 41, 42, 43] d d3 := Ch_tr C2 (Ch_w c3 (by decide))
  obtain ⟨n3, hb3, hs3⟩ := hn2 3 (by decide)
  refine T_copyR h (t := 30) (b := 31) (t' := 8) (b' := 9) (n := n3) (by decide) (by decide) (by decide) (te_30 h) (te_8 h) (St_ch st C3 (30, 3, 10) (by decide)).1 (St_ch st C3 (30, 3, 10) (by decide)).2 (ts_8 (St_ch st C3) ((congrFun (Ch_I C3p (by decide) (by decide)) 3).trans hs3) hb3) (Env_ne h (by decide) (by decide) (by decide)) (fun d4 c4 s4 g4x => ?_)
  have C4p : Ch σ [23, 24, 25, 26, 27, 28, 29, 30, 31] d d4 := Ch_tr (Ch_w C3p (by decide)) (Ch_w c4 (by decide))
  have C4 : Ch σ [23, 24, 25, 26, 27, 28, 29, 30, 31, 32, 33, 34, 35, 36, 37, 38, 39, 40, 41, 42, 43] d d4 := Ch_tr C3 (Ch_w c4 (by decide))
  obtain ⟨n4, hb4, hs4⟩ := hn2 4 (by decide)
  refine T_copyR h (t := 32) (b := 33) (t' := 10) (b' := 11) (n := n4) (by decide) (by decide) (by decide) (te_32 h) (te_10 h) (St_ch st C4 (32, 1, 20) (by decide)).1 (St_ch st C4 (32, 1, 20) (by decide)).2 (ts_10 (St_ch st C4) ((congrFun (Ch_I C4p (by decide) (by decide)) 3).trans hs4) hb4) (Env_ne h (by decide) (by decide) (by decide)) (fun d5 c5 s5 g5x => ?_)
  have C5p : Ch σ [23, 24, 25, 26, 27, 28, 29, 30, 31, 32, 33] d d5 := Ch_tr (Ch_w C4p (by decide)) (Ch_w c5 (by decide))
  have C5 : Ch σ [23, 24, 25, 26, 27, 28, 29, 30, 31, 32, 33, 34, 35, 36, 37, 38, 39, 40, 41, 42, 43] d d5 := Ch_tr C4 (Ch_w c5 (by decide))
  obtain ⟨n5, hb5, hs5⟩ := hn2 5 (by decide)
  refine T_copyR h (t := 34) (b := 35) (t' := 12) (b' := 13) (n := n5) (by decide) (by decide) (by decide) (te_34 h) (te_12 h) (St_ch st C5 (34, 1, 60) (by decide)).1 (St_ch st C5 (34, 1, 60) (by decide)).2 (ts_12 (St_ch st C5) ((congrFun (Ch_I C5p (by decide) (by decide)) 3).trans hs5) hb5) (Env_ne h (by decide) (by decide) (by decide)) (fun d6 c6 s6 g6x => ?_)
  have C6p : Ch σ [23, 24, 25, 26, 27, 28, 29, 30, 31, 32, 33, 34, 35] d d6 := Ch_tr (Ch_w C5p (by decide)) (Ch_w c6 (by decide))
  have C6 : Ch σ [23, 24, 25, 26, 27, 28, 29, 30, 31, 32, 33, 34, 35, 36, 37, 38, 39, 40, 41, 42, 43] d d6 := Ch_tr C5 (Ch_w c6 (by decide))
  obtain ⟨n6, hb6, hs6⟩ := hn2 6 (by decide)
  refine T_copyR h (t := 36) (b := 37) (t' := 14) (b' := 15) (n := n6) (by decide) (by decide) (by decide) (te_36 h) (te_14 h) (St_ch st C6 (36, 3, 10) (by decide)).1 (St_ch st C6 (36, 3, 10) (by decide)).2 (ts_14 (St_ch st C6) ((congrFun (Ch_I C6p (by decide) (by decide)) 3).trans hs6) hb6) (Env_ne h (by decide) (by decide) (by decide)) (fun d7 c7 s7 g7x => ?_)
  have C7p : Ch σ [23, 24, 25, 26, 27, 28, 29, 30, 31, 32, 33, 34, 35, 36, 37] d d7 := Ch_tr (Ch_w C6p (by decide)) (Ch_w c7 (by decide))
  have C7 : Ch σ [23, 24, 25, 26, 27, 28, 29, 30, 31, 32, 33, 34, 35, 36, 37, 38, 39, 40, 41, 42, 43] d d7 := Ch_tr C6 (Ch_w c7 (by decide))
  obtain ⟨n7, hb7, hs7⟩ := hn2 7 (by decide)
  refine T_copyR h (t := 38) (b := 39) (t' := 16) (b' := 17) (n := n7) (by decide) (by decide) (by decide) (te_38 h) (te_16 h) (St_ch st C7 (38, 3, 8) (by decide)).1 (St_ch st C7 (38, 3, 8) (by decide)).2 (ts_16 (St_ch st C7) ((congrFun (Ch_I C7p (by decide) (by decide)) 3).trans hs7) hb7) (Env_ne h (by decide) (by decide) (by decide)) (fun d8 c8 s8 g8x => ?_)
  have C8p : Ch σ [23, 24, 25, 26, 27, 28, 29, 30, 31, 32, 33, 34, 35, 36, 37, 38, 39] d d8 := Ch_tr (Ch_w C7p (by decide)) (Ch_w c8 (by decide))
  have C8 : Ch σ [23, 24, 25, 26, 27, 28, 29, 30, 31, 32, 33, 34, 35, 36, 37, 38, 39, 40, 41, 42, 43] d d8 := Ch_tr C7 (Ch_w c8 (by decide))
  obtain ⟨n8, hb8, hs8⟩ := hn2 8 (by decide)
  refine T_copyR h (t := 40) (b := 41) (t' := 18) (b' := 19) (n := n8) (by decide) (by decide) (by decide) (te_40 h) (te_18 h) (St_ch st C8 (40, 3, 20) (by decide)).1 (St_ch st C8 (40, 3, 20) (by decide)).2 (ts_18 (St_ch st C8) ((congrFun (Ch_I C8p (by decide) (by decide)) 3).trans hs8) hb8) (Env_ne h (by decide) (by decide) (by decide)) (fun d9 c9 s9 g9x => ?_)
  have C9p : Ch σ [23, 24, 25, 26, 27, 28, 29, 30, 31, 32, 33, 34, 35, 36, 37, 38, 39, 40, 41] d d9 := Ch_tr (Ch_w C8p (by decide)) (Ch_w c9 (by decide))
  have C9 : Ch σ [23, 24, 25, 26, 27, 28, 29, 30, 31, 32, 33, 34, 35, 36, 37, 38, 39, 40, 41, 42, 43] d d9 := Ch_tr C8 (Ch_w c9 (by decide))
  obtain ⟨n9, hb9, hs9⟩ := hn2 9 (by decide)
  refine T_copyR h (t := 42) (b := 43) (t' := 20) (b' := 21) (n := n9) (by decide) (by decide) (by decide) (te_42 h) (te_20 h) (St_ch st C9 (42, 1, 12) (by decide)).1 (St_ch st C9 (42, 1, 12) (by decide)).2 (ts_20 (St_ch st C9) ((congrFun (Ch_I C9p (by decide) (by decide)) 3).trans hs9) hb9) (Env_ne h (by decide) (by decide) (by decide)) (fun d10 c10 s10 g10x => ?_)
  have C10p : Ch σ [23, 24, 25, 26, 27, 28, 29, 30, 31, 32, 33, 34, 35, 36, 37, 38, 39, 40, 41, 42, 43] d d10 := Ch_tr (Ch_w C9p (by decide)) (Ch_w c10 (by decide))
  have C10 : Ch σ [23, 24, 25, 26, 27, 28, 29, 30, 31, 32, 33, 34, 35, 36, 37, 38, 39, 40, 41, 42, 43] d d10 := Ch_tr C9 (Ch_w c10 (by decide))
  have L1 : Ch σ [26, 27, 28, 29, 30, 31, 32, 33, 34, 35, 36, 37, 38, 39, 40, 41, 42, 43] d1 d10 := Ch_tr (Ch_tr (Ch_tr (Ch_tr (Ch_tr (Ch_tr (Ch_tr (Ch_tr (Ch_tr (Ch_rf) (Ch_w c2 (by decide))) (Ch_w c3 (by decide))) (Ch_w c4 (by decide))) (Ch_w c5 (by decide))) (Ch_w c6 (by decide))) (Ch_w c7 (by decide))) (Ch_w c8 (by decide))) (Ch_w c9 (by decide))) (Ch_w c10 (by decide))
  have L2 : Ch σ [28, 29, 30, 31, 32, 33, 34, 35, 36, 37, 38, 39, 40, 41, 42, 43] d2 d10 := Ch_tr (Ch_tr (Ch_tr (Ch_tr (Ch_tr (Ch_tr (Ch_tr (Ch_tr (Ch_rf) (Ch_w c3 (by decide))) (Ch_w c4 (by decide))) (Ch_w c5 (by decide))) (Ch_w c6 (by decide))) (Ch_w c7 (by decide))) (Ch_w c8 (by decide))) (Ch_w c9 (by decide))) (Ch_w c10 (by decide))
  have L3 : Ch σ [30, 31, 32, 33, 34, 35, 36, 37, 38, 39, 40, 41, 42, 43] d3 d10 := Ch_tr (Ch_tr (Ch_tr (Ch_tr (Ch_tr (Ch_tr (Ch_tr (Ch_rf) (Ch_w c4 (by decide))) (Ch_w c5 (by decide))) (Ch_w c6 (by decide))) (Ch_w c7 (by decide))) (Ch_w c8 (by decide))) (Ch_w c9 (by decide))) (Ch_w c10 (by decide))
  have L4 : Ch σ [32, 33, 34, 35, 36, 37, 38, 39, 40, 41, 42, 43] d4 d10 := Ch_tr (Ch_tr (Ch_tr (Ch_tr (Ch_tr (Ch_tr (Ch_rf) (Ch_w c5 (by decide))) (Ch_w c6 (by decide))) (Ch_w c7 (by decide))) (Ch_w c8 (by decide))) (Ch_w c9 (by decide))) (Ch_w c10 (by decide))
  have L5 : Ch σ [34, 35, 36, 37, 38, 39, 40, 41, 42, 43] d5 d10 := Ch_tr (Ch_tr (Ch_tr (Ch_tr (Ch_tr (Ch_rf) (Ch_w c6 (by decide))) (Ch_w c7 (by decide))) (Ch_w c8 (by decide))) (Ch_w c9 (by decide))) (Ch_w c10 (by decide))
  have L6 : Ch σ [36, 37, 38, 39, 40, 41, 42, 43] d6 d10 := Ch_tr (Ch_tr (Ch_tr (Ch_tr (Ch_rf) (Ch_w c7 (by decide))) (Ch_w c8 (by decide))) (Ch_w c9 (by decide))) (Ch_w c10 (by decide))
  have L7 : Ch σ [38, 39, 40, 41, 42, 43] d7 d10 := Ch_tr (Ch_tr (Ch_tr (Ch_rf) (Ch_w c8 (by decide))) (Ch_w c9 (by decide))) (Ch_w c10 (by decide))
  have L8 : Ch σ [40, 41, 42, 43] d8 d10 := Ch_tr (Ch_tr (Ch_rf) (Ch_w c9 (by decide))) (Ch_w c10 (by decide))
  have L9 : Ch σ [42, 43] d9 d10 := Ch_tr (Ch_rf) (Ch_w c10 (by decide))
  have L10 : Ch σ [] d10 d10 := Ch_rf
  have L0 : Ch σ [24, 25, 26, 27, 28, 29, 30, 31, 32, 33, 34, 35, 36, 37, 38, 39, 40, 41, 42, 43] d0 d10 := Ch_tr (Ch_tr (Ch_tr (Ch_tr (Ch_tr (Ch_tr (Ch_tr (Ch_tr (Ch_tr (Ch_tr (Ch_rf) (Ch_w c1 (by decide))) (Ch_w c2 (by decide))) (Ch_w c3 (by decide))) (Ch_w c4 (by decide))) (Ch_w c5 (by decide))) (Ch_w c6 (by decide))) (Ch_w c7 (by decide))) (Ch_w c8 (by decide))) (Ch_w c9 (by decide))) (Ch_w c10 (by decide))
  obtain ⟨N, hN⟩ : ∃ N : Nat, N = 4 := ⟨4, rfl⟩
  refine ⟨N + 1, loopG (S := Int32 × Dy) (l := fun N s => l_X8_copy_125 E (σ 23) (σ 1) K N s.1 s.2) (b := fun kk s => b_X8_copy_125 E (σ 23) (σ 1) K (fun a b => kk (a, b)) s.1 s.2) (fun _ _ => rfl) (μ := fun s => 4 - s.1.toNatClampNeg)
    (P := fun s => ∃ i, i ≤ 4 ∧ nI i = s.1 ∧ gI s.2 = gI d10 ∧ gA s.2 = gA d10 ∧ gJ s.2 = gJ d10 ∧ (∀ a, a ≠ σ 44 → gQ s.2 a = gQ d a) ∧ ∀ q, q < i → gQ s.2 (σ 44) q = gQ d (σ 22) q) ?_ N (0, d10) ⟨0, by omega, rfl, rfl, rfl, rfl, fun a _ => congrFun C10.2.2.2 a, fun q hq => absurd hq (by omega)⟩ (by rw [hN]; exact Nat.sub_le _ _)⟩
  rintro kk ⟨v, d3⟩ ⟨i, hi, rfl, g1, g2, g3, g4, g5⟩ hk
  have g1 : gI d3 = gI d10 := g1
  have g2 : gA d3 = gA d10 := g2
  have g3 : gJ d3 = gJ d10 := g3
  have g4 : ∀ a, a ≠ σ 44 → gQ d3 a = gQ d a := g4
  have g5 : ∀ q, q < i → gQ d3 (σ 44) q = gQ d (σ 22) q := g5
  simp only [b_X8_copy_125, x_23_11 h, x_1_11 h, en_44 h, en_22 h, z_nn (show i < 2147483648 by omega)]
  refine ⟨fun hc => k _ ?_, fun hc => ?_⟩
  · have hi4 : i = 4 := by rw [show (4 : Int32) = nI 4 from rfl, z_le (by decide) (by omega)] at hc; omega
    subst hi4
    refine ⟨?_, ?_, fun s hs => g5 s hs, fun i hi hni => ?_, fun q hq => ?_, fun a ha => ?_, fun a ha => g4 a ha⟩
    · rw [g1, congrFun (Ch_I L0 (by decide) (by decide)) 0]; exact e0
    · intro i hi
      match i, hi with
      | 0, _ =>
        refine ⟨by rw [g1, congrFun (Ch_I L1 (i := 24) (by decide) (by decide)) 3, s1]; exact hs0.symm, fun n hn hnm kx hk => ?_⟩
        have en : n = n0 := by
          have := congrArg Int32.toNatClampNeg (hn.symm.trans hs0)
          have hm : mI 0 ≤ 60 := by decide
          rwa [z_nn (by omega), z_nn (by omega)] at this
        subst en
        rw [g2, Ch_A L1 (i := 25) (by decide) (by decide)]
        exact (g1x kx hk).trans (congrFun (Ch_A C0p (i := 3) (by decide) (by decide)) kx)
      | 1, _ =>
        refine ⟨by rw [g1, congrFun (Ch_I L2 (i := 26) (by decide) (by decide)) 3, s2]; exact hs1.symm, fun n hn hnm kx hk => ?_⟩
        have en : n = n1 := by
          have := congrArg Int32.toNatClampNeg (hn.symm.trans hs1)
          have hm : mI 1 ≤ 60 := by decide
          rwa [z_nn (by omega), z_nn (by omega)] at this
        subst en
        rw [g2, Ch_A L2 (i := 27) (by decide) (by decide)]
        exact (g2x kx hk).trans (congrFun (Ch_A C1p (i := 5) (by decide) (by decide)) kx)
      | 2, _ =>
        refine ⟨by rw [g1, congrFun (Ch_I L3 (i := 28) (by decide) (by decide)) 3, s3]; exact hs2.symm, fun n hn hnm kx hk => ?_⟩
        have en : n = n2 := by
          have := congrArg Int32.toNatClampNeg (hn.symm.trans hs2)
          have hm : mI 2 ≤ 60 := by decide
          rwa [z_nn (by omega), z_nn (by omega)] at this
        subst en
        rw [g2, Ch_A L3 (i := 29) (by decide) (by decide)]
        exact (g3x kx hk).trans (congrFun (Ch_A C2p (i := 7) (by decide) (by decide)) kx)
      | 3, _ =>
        refine ⟨by rw [g1, congrFun (Ch_I L4 (i := 30) (by decide) (by decide)) 3, s4]; exact hs3.symm, fun n hn hnm kx hk => ?_⟩
        have en : n = n3 := by
          have := congrArg Int32.toNatClampNeg (hn.symm.trans hs3)
          have hm : mI 3 ≤ 60 := by decide
          rwa [z_nn (by omega), z_nn (by omega)] at this
        subst en
        rw [g2, Ch_A L4 (i := 31) (by decide) (by decide)]
        exact (g4x kx hk).trans (congrFun (Ch_A C3p (i := 9) (by decide) (by decide)) kx)
      | 4, _ =>
        refine ⟨by rw [g1, congrFun (Ch_I L5 (i := 32) (by decide) (by decide)) 3, s5]; exact hs4.symm, fun n hn hnm kx hk => ?_⟩
        have en : n = n4 := by
          have := congrArg Int32.toNatClampNeg (hn.symm.trans hs4)
          have hm : mI 4 ≤ 60 := by decide
          rwa [z_nn (by omega), z_nn (by omega)] at this
        subst en
        rw [g2, Ch_A L5 (i := 33) (by decide) (by decide)]
        exact (g5x kx hk).trans (congrFun (Ch_A C4p (i := 11) (by decide) (by decide)) kx)
      | 5, _ =>
        refine ⟨by rw [g1, congrFun (Ch_I L6 (i := 34) (by decide) (by decide)) 3, s6]; exact hs5.symm, fun n hn hnm kx hk => ?_⟩
        have en : n = n5 := by
          have := congrArg Int32.toNatClampNeg (hn.symm.trans hs5)
          have hm : mI 5 ≤ 60 := by decide
          rwa [z_nn (by omega), z_nn (by omega)] at this
        subst en
        rw [g2, Ch_A L6 (i := 35) (by decide) (by decide)]
        exact (g6x kx hk).trans (congrFun (Ch_A C5p (i := 13) (by decide) (by decide)) kx)
      | 6, _ =>
        refine ⟨by rw [g1, congrFun (Ch_I L7 (i := 36) (by decide) (by decide)) 3, s7]; exact hs6.symm, fun n hn hnm kx hk => ?_⟩
        have en : n = n6 := by
          have := congrArg Int32.toNatClampNeg (hn.symm.trans hs6)
          have hm : mI 6 ≤ 60 := by decide
          rwa [z_nn (by omega), z_nn (by omega)] at this
        subst en
        rw [g2, Ch_A L7 (i := 37) (by decide) (by decide)]
        exact (g7x kx hk).trans (congrFun (Ch_A C6p (i := 15) (by decide) (by decide)) kx)
      | 7, _ =>
        refine ⟨by rw [g1, congrFun (Ch_I L8 (i := 38) (by decide) (by decide)) 3, s8]; exact hs7.symm, fun n hn hnm kx hk => ?_⟩
        have en : n = n7 := by
          have := congrArg Int32.toNatClampNeg (hn.symm.trans hs7)
          have hm : mI 7 ≤ 60 := by decide
          rwa [z_nn (by omega), z_nn (by omega)] at this
        subst en
        rw [g2, Ch_A L8 (i := 39) (by decide) (by decide)]
        exact (g8x kx hk).trans (congrFun (Ch_A C7p (i := 17) (by decide) (by decide)) kx)
      | 8, _ =>
        refine ⟨by rw [g1, congrFun (Ch_I L9 (i := 40) (by decide) (by decide)) 3, s9]; exact hs8.symm, fun n hn hnm kx hk => ?_⟩
        have en : n = n8 := by
          have := congrArg Int32.toNatClampNeg (hn.symm.trans hs8)
          have hm : mI 8 ≤ 60 := by decide
          rwa [z_nn (by omega), z_nn (by omega)] at this
        subst en
        rw [g2, Ch_A L9 (i := 41) (by decide) (by decide)]
        exact (g9x kx hk).trans (congrFun (Ch_A C8p (i := 19) (by decide) (by decide)) kx)
      | 9, _ =>
        refine ⟨by rw [g1, congrFun (Ch_I L10 (i := 42) (by decide) (by decide)) 3, s10]; exact hs9.symm, fun n hn hnm kx hk => ?_⟩
        have en : n = n9 := by
          have := congrArg Int32.toNatClampNeg (hn.symm.trans hs9)
          have hm : mI 9 ≤ 60 := by decide
          rwa [z_nn (by omega), z_nn (by omega)] at this
        subst en
        rw [g2, Ch_A L10 (i := 43) (by decide) (by decide)]
        exact (g10x kx hk).trans (congrFun (Ch_A C9p (i := 21) (by decide) (by decide)) kx)
      | n + 10, hn => omega
    · rw [g1, g2, g3]; exact C10.1 i hi (fun hc => hni (by
        have : ∀ j ∈ ([23, 24, 25, 26, 27, 28, 29, 30, 31, 32, 33, 34, 35, 36, 37, 38, 39, 40, 41, 42, 43] : List Nat), 23 ≤ j ∧ j ≤ 23 + 21 := by decide
        exact this i hc))
    · rw [g1]; exact C10.2.1 q hq
    · rw [g1, g2]; exact C10.2.2.1 a ha
  · have hi4 : i < 4 := by rw [show (4 : Int32) = nI 4 from rfl, z_le (by decide) (by omega)] at hc; omega
    have hne : σ 22 ≠ σ 44 := Env_ne h (by decide) (by decide) (by decide)
    rw [g4 _ hne, z_a1]
    refine ⟨vpi hi4 (by decide), fun b hb => hq i hi4 b hb, vpi hi4 (by decide), hk (nI (i + 1), _) ⟨i + 1, by omega, rfl, g1, g2, g3, fun a ha => ?_, fun q hq => ?_⟩ (by simp only [z_nn (show i + 1 < 2147483648 by omega), z_nn (show i < 2147483648 by omega)]; omega)⟩
    · rw [gQ_pQ_x, if_neg ha]; exact g4 a ha
    · rw [gQ_pQ_x, if_pos rfl]
      by_cases hqi : q = i
      · subst hqi; simp
      · simp only [if_neg hqi]; exact g5 q (by omega)
theorem T_told1 (h : Env σ E) (st : St σ d) (hn2 : ∀ i, i < 10 → ∃ n, n ≤ mI i ∧ gI d (σ (23 + 1 + 2 * i)) 3 = nI n) (hq : ∀ s, s < 4 → ∀ b, gQ d (σ 44) s = some b → okO E b 7) {K : Dy → Prop} (k : ∀ d', CpR σ 1 23 d d' → K d') : w_X8_copy E (σ 1) (σ 23) d K := by
  simp only [w_X8_copy, x_1_1 h, x_23_1 h, x_1_2 h, x_23_2 h, x_1_3 h, x_23_3 h, x_1_4 h, x_23_4 h, x_1_5 h, x_23_5 h, x_1_6 h, x_23_6 h, x_1_7 h, x_23_7 h, x_1_8 h, x_23_8 h, x_1_9 h, x_23_9 h, x_1_10 h, x_23_10 h]
  refine ⟨eo_1 h, eo_23 h, ?_⟩
  have c0 : Ch σ [1] d (pI d (σ 1) 0 (gI d (σ 23) 0)) := Ch_pI h (by decide) (by decide) (by decide)
  have e0 : gI (pI d (σ 1) 0 (gI d (σ 23) 0)) (σ 1) 0 = gI d (σ 23) 0 := gI_pI _ _ _ _
  generalize pI d (σ 1) 0 (gI d (σ 23) 0) = d0 at c0 e0 ⊢
  have C0p : Ch σ [1] d d0 := c0
  have C0 : Ch σ [1, 2, 3, 4, 5, 6, 7, 8, 9, 10, 11, 12, 13, 14, 15, 16, 17, 18, 19, 20, 21] d d0 := Ch_w c0 (by decide)
  obtain ⟨n0, hb0, hs0⟩ := hn2 0 (by decide)
  refine T_copyR h (t := 2) (b := 3) (t' := 24) (b' := 25) (n := n0) (by decide) (by decide) (by decide) (te_2 h) (te_24 h) (St_ch st C0 (2, 3, 12) (by decide)).1 (St_ch st C0 (2, 3, 12) (by decide)).2 (ts_24 (St_ch st C0) ((congrFun (Ch_I C0p (by decide) (by decide)) 3).trans hs0) hb0) (Env_ne h (by decide) (by decide) (by decide)) (fun d1 c1 s1 g1x => ?_)
  have C1p : Ch σ [1, 2, 3] d d1 := Ch_tr (Ch_w C0p (by decide)) (Ch_w c1 (by decide))
  have C1 : Ch σ [1, 2, 3, 4, 5, 6, 7, 8, 9, 10, 11, 12, 13, 14, 15, 16, 17, 18, 19, 20, 21] d d1 := Ch_tr C0 (Ch_w c1 (by decide))
  obtain ⟨n1, hb1, hs1⟩ := hn2 1 (by decide)
  refine T_copyR h (t := 4) (b := 5) (t' := 26) (b' := 27) (n := n1) (by decide) (by decide) (by decide) (te_4 h) (te_26 h) (St_ch st C1 (4, 7, 10) (by decide)).1 (St_ch st C1 (4, 7, 10) (by decide)).2 (ts_26 (St_ch st C1) ((congrFun (Ch_I C1p (by decide) (by decide)) 3).trans hs1) hb1) (Env_ne h (by decide) (by decide) (by decide)) (fun d2 c2 s2 g2x => ?_)
  have C2p : Ch σ [1, 2, 3, 4, 5] d d2 := Ch_tr (Ch_w C1p (by decide)) (Ch_w c2 (by decide))
  have C2 : Ch σ [1, 2, 3, 4, 5, 6, 7, 8, 9, 10, 11, 12, 13, 14, 15, 16, 17, 18, 19, 20, 21] d d2 := Ch_tr C1 (Ch_w c2 (by decide))
  obtain ⟨n2, hb2, hs2⟩ := hn2 2 (by decide)
  refine T_copyR h (t := 6) (b := 7) (t' := 28) (b' := 29) (n := n2) (by decide) (by decide) (by decide) (te_6 h) (te_28 h) (St_ch st C2 (6, 6, 40) (by decide)).1 (St_ch st C2 (6, 6, 40) (by decide)).2 (ts_28 (St_ch st C2) ((congrFun (Ch_I C2p (by decide) (by decide)) 3).trans hs2) hb2) (Env_ne h (by decide) (by decide) (by decide)) (fun d3 c3 s3 g3x => ?_)
  have C3p : Ch σ [1, 2, 3, 4, 5, 6, 7] d d3 := Ch_tr (Ch_w C2p (by decide)) (Ch_w c3 (by decide))
  have C3 : Ch σ [1, 2, 3, 4, 5, 6, 7, 8, 9, 10, 11, 12, 13, 14, 15, 16, 17, 18, 19, 20, 21] d d3 := Ch_tr C2 (Ch_w c3 (by decide))
  obtain ⟨n3, hb3, hs3⟩ := hn2 3 (by decide)
  refine T_copyR h (t := 8) (b := 9) (t' := 30) (b' := 31) (n := n3) (by decide) (by decide) (by decide) (te_8 h) (te_30 h) (St_ch st C3 (8, 3, 10) (by decide)).1 (St_ch st C3 (8, 3, 10) (by decide)).2 (ts_30 (St_ch st C3) ((congrFun (Ch_I C3p (by decide) (by decide)) 3).trans hs3) hb3) (Env_ne h (by decide) (by decide) (by decide)) (fun d4 c4 s4 g4x => ?_)
  have C4p : Ch σ [1, 2, 3, 4, 5, 6, 7, 8, 9] d d4 := Ch_tr (Ch_w C3p (by decide)) (Ch_w c4 (by decide))
  have C4 : Ch σ [1, 2, 3, 4, 5, 6, 7, 8, 9, 10, 11, 12, 13, 14, 15, 16, 17, 18, 19, 20, 21] d d4 := Ch_tr C3 (Ch_w c4 (by decide))
  obtain ⟨n4, hb4, hs4⟩ := hn2 4 (by decide)
  refine T_copyR h (t := 10) (b := 11) (t' := 32) (b' := 33) (n := n4) (by decide) (by decide) (by decide) (te_10 h) (te_32 h) (St_ch st C4 (10, 1, 20) (by decide)).1 (St_ch st C4 (10, 1, 20) (by decide)).2 (ts_32 (St_ch st C4) ((congrFun (Ch_I C4p (by decide) (by decide)) 3).trans hs4) hb4) (Env_ne h (by decide) (by decide) (by decide)) (fun d5 c5 s5 g5x => ?_)
  have C5p : Ch σ [1, 2, 3, 4, 5, 6, 7, 8, 9, 10, 11] d d5 := Ch_tr (Ch_w C4p (by decide)) (Ch_w c5 (by decide))
  have C5 : Ch σ [1, 2, 3, 4, 5, 6, 7, 8, 9, 10, 11, 12, 13, 14, 15, 16, 17, 18, 19, 20, 21] d d5 := Ch_tr C4 (Ch_w c5 (by decide))
  obtain ⟨n5, hb5, hs5⟩ := hn2 5 (by decide)
  refine T_copyR h (t := 12) (b := 13) (t' := 34) (b' := 35) (n := n5) (by decide) (by decide) (by decide) (te_12 h) (te_34 h) (St_ch st C5 (12, 1, 60) (by decide)).1 (St_ch st C5 (12, 1, 60) (by decide)).2 (ts_34 (St_ch st C5) ((congrFun (Ch_I C5p (by decide) (by decide)) 3).trans hs5) hb5) (Env_ne h (by decide) (by decide) (by decide)) (fun d6 c6 s6 g6x => ?_)
  have C6p : Ch σ [1, 2, 3, 4, 5, 6, 7, 8, 9, 10, 11, 12, 13] d d6 := Ch_tr (Ch_w C5p (by decide)) (Ch_w c6 (by decide))
  have C6 : Ch σ [1, 2, 3, 4, 5, 6, 7, 8, 9, 10, 11, 12, 13, 14, 15, 16, 17, 18, 19, 20, 21] d d6 := Ch_tr C5 (Ch_w c6 (by decide))
  obtain ⟨n6, hb6, hs6⟩ := hn2 6 (by decide)
  refine T_copyR h (t := 14) (b := 15) (t' := 36) (b' := 37) (n := n6) (by decide) (by decide) (by decide) (te_14 h) (te_36 h) (St_ch st C6 (14, 3, 10) (by decide)).1 (St_ch st C6 (14, 3, 10) (by decide)).2 (ts_36 (St_ch st C6) ((congrFun (Ch_I C6p (by decide) (by decide)) 3).trans hs6) hb6) (Env_ne h (by decide) (by decide) (by decide)) (fun d7 c7 s7 g7x => ?_)
  have C7p : Ch σ [1, 2, 3, 4, 5, 6, 7, 8, 9, 10, 11, 12, 13, 14, 15] d d7 := Ch_tr (Ch_w C6p (by decide)) (Ch_w c7 (by decide))
  have C7 : Ch σ [1, 2, 3, 4, 5, 6, 7, 8, 9, 10, 11, 12, 13, 14, 15, 16, 17, 18, 19, 20, 21] d d7 := Ch_tr C6 (Ch_w c7 (by decide))
  obtain ⟨n7, hb7, hs7⟩ := hn2 7 (by decide)
  refine T_copyR h (t := 16) (b := 17) (t' := 38) (b' := 39) (n := n7) (by decide) (by decide) (by decide) (te_16 h) (te_38 h) (St_ch st C7 (16, 3, 8) (by decide)).1 (St_ch st C7 (16, 3, 8) (by decide)).2 (ts_38 (St_ch st C7) ((congrFun (Ch_I C7p (by decide) (by decide)) 3).trans hs7) hb7) (Env_ne h (by decide) (by decide) (by decide)) (fun d8 c8 s8 g8x => ?_)
  have C8p : Ch σ [1, 2, 3, 4, 5, 6, 7, 8, 9, 10, 11, 12, 13, 14, 15, 16, 17] d d8 := Ch_tr (Ch_w C7p (by decide)) (Ch_w c8 (by decide))
  have C8 : Ch σ [1, 2, 3, 4, 5, 6, 7, 8, 9, 10, 11, 12, 13, 14, 15, 16, 17, 18, 19, 20, 21] d d8 := Ch_tr C7 (Ch_w c8 (by decide))
  obtain ⟨n8, hb8, hs8⟩ := hn2 8 (by decide)
  refine T_copyR h (t := 18) (b := 19) (t' := 40) (b' := 41) (n := n8) (by decide) (by decide) (by decide) (te_18 h) (te_40 h) (St_ch st C8 (18, 3, 20) (by decide)).1 (St_ch st C8 (18, 3, 20) (by decide)).2 (ts_40 (St_ch st C8) ((congrFun (Ch_I C8p (by decide) (by decide)) 3).trans hs8) hb8) (Env_ne h (by decide) (by decide) (by decide)) (fun d9 c9 s9 g9x => ?_)
  have C9p : Ch σ [1, 2, 3, 4, 5, 6, 7, 8, 9, 10, 11, 12, 13, 14, 15, 16, 17, 18, 19] d d9 := Ch_tr (Ch_w C8p (by decide)) (Ch_w c9 (by decide))
  have C9 : Ch σ [1, 2, 3, 4, 5, 6, 7, 8, 9, 10, 11, 12, 13, 14, 15, 16, 17, 18, 19, 20, 21] d d9 := Ch_tr C8 (Ch_w c9 (by decide))
  obtain ⟨n9, hb9, hs9⟩ := hn2 9 (by decide)
  refine T_copyR h (t := 20) (b := 21) (t' := 42) (b' := 43) (n := n9) (by decide) (by decide) (by decide) (te_20 h) (te_42 h) (St_ch st C9 (20, 1, 12) (by decide)).1 (St_ch st C9 (20, 1, 12) (by decide)).2 (ts_42 (St_ch st C9) ((congrFun (Ch_I C9p (by decide) (by decide)) 3).trans hs9) hb9) (Env_ne h (by decide) (by decide) (by decide)) (fun d10 c10 s10 g10x => ?_)
  have C10p : Ch σ [1, 2, 3, 4, 5, 6, 7, 8, 9, 10, 11, 12, 13, 14, 15, 16, 17, 18, 19, 20, 21] d d10 := Ch_tr (Ch_w C9p (by decide)) (Ch_w c10 (by decide))
  have C10 : Ch σ [1, 2, 3, 4, 5, 6, 7, 8, 9, 10, 11, 12, 13, 14, 15, 16, 17, 18, 19, 20, 21] d d10 := Ch_tr C9 (Ch_w c10 (by decide))
  have L1 : Ch σ [4, 5, 6, 7, 8, 9, 10, 11, 12, 13, 14, 15, 16, 17, 18, 19, 20, 21] d1 d10 := Ch_tr (Ch_tr (Ch_tr (Ch_tr (Ch_tr (Ch_tr (Ch_tr (Ch_tr (Ch_tr (Ch_rf) (Ch_w c2 (by decide))) (Ch_w c3 (by decide))) (Ch_w c4 (by decide))) (Ch_w c5 (by decide))) (Ch_w c6 (by decide))) (Ch_w c7 (by decide))) (Ch_w c8 (by decide))) (Ch_w c9 (by decide))) (Ch_w c10 (by decide))
  have L2 : Ch σ [6, 7, 8, 9, 10, 11, 12, 13, 14, 15, 16, 17, 18, 19, 20, 21] d2 d10 := Ch_tr (Ch_tr (Ch_tr (Ch_tr (Ch_tr (Ch_tr (Ch_tr (Ch_tr (Ch_rf) (Ch_w c3 (by decide))) (Ch_w c4 (by decide))) (Ch_w c5 (by decide))) (Ch_w c6 (by decide))) (Ch_w c7 (by decide))) (Ch_w c8 (by decide))) (Ch_w c9 (by decide))) (Ch_w c10 (by decide))
  have L3 : Ch σ [8, 9, 10, 11, 12, 13, 14, 15, 16, 17, 18, 19, 20, 21] d3 d10 := Ch_tr (Ch_tr (Ch_tr (Ch_tr (Ch_tr (Ch_tr (Ch_tr (Ch_rf) (Ch_w c4 (by decide))) (Ch_w c5 (by decide))) (Ch_w c6 (by decide))) (Ch_w c7 (by decide))) (Ch_w c8 (by decide))) (Ch_w c9 (by decide))) (Ch_w c10 (by decide))
  have L4 : Ch σ [10, 11, 12, 13, 14, 15, 16, 17, 18, 19, 20, 21] d4 d10 := Ch_tr (Ch_tr (Ch_tr (Ch_tr (Ch_tr (Ch_tr (Ch_rf) (Ch_w c5 (by decide))) (Ch_w c6 (by decide))) (Ch_w c7 (by decide))) (Ch_w c8 (by decide))) (Ch_w c9 (by decide))) (Ch_w c10 (by decide))
  have L5 : Ch σ [12, 13, 14, 15, 16, 17, 18, 19, 20, 21] d5 d10 := Ch_tr (Ch_tr (Ch_tr (Ch_tr (Ch_tr (Ch_rf) (Ch_w c6 (by decide))) (Ch_w c7 (by decide))) (Ch_w c8 (by decide))) (Ch_w c9 (by decide))) (Ch_w c10 (by decide))
  have L6 : Ch σ [14, 15, 16, 17, 18, 19, 20, 21] d6 d10 := Ch_tr (Ch_tr (Ch_tr (Ch_tr (Ch_rf) (Ch_w c7 (by decide))) (Ch_w c8 (by decide))) (Ch_w c9 (by decide))) (Ch_w c10 (by decide))
  have L7 : Ch σ [16, 17, 18, 19, 20, 21] d7 d10 := Ch_tr (Ch_tr (Ch_tr (Ch_rf) (Ch_w c8 (by decide))) (Ch_w c9 (by decide))) (Ch_w c10 (by decide))
  have L8 : Ch σ [18, 19, 20, 21] d8 d10 := Ch_tr (Ch_tr (Ch_rf) (Ch_w c9 (by decide))) (Ch_w c10 (by decide))
  have L9 : Ch σ [20, 21] d9 d10 := Ch_tr (Ch_rf) (Ch_w c10 (by decide))
  have L10 : Ch σ [] d10 d10 := Ch_rf
  have L0 : Ch σ [2, 3, 4, 5, 6, 7, 8, 9, 10, 11, 12, 13, 14, 15, 16, 17, 18, 19, 20, 21] d0 d10 := Ch_tr (Ch_tr (Ch_tr (Ch_tr (Ch_tr (Ch_tr (Ch_tr (Ch_tr (Ch_tr (Ch_tr (Ch_rf) (Ch_w c1 (by decide))) (Ch_w c2 (by decide))) (Ch_w c3 (by decide))) (Ch_w c4 (by decide))) (Ch_w c5 (by decide))) (Ch_w c6 (by decide))) (Ch_w c7 (by decide))) (Ch_w c8 (by decide))) (Ch_w c9 (by decide))) (Ch_w c10 (by decide))
  obtain ⟨N, hN⟩ : ∃ N : Nat, N = 4 := ⟨4, rfl⟩
  refine ⟨N + 1, loopG (S := Int32 × Dy) (l := fun N s => l_X8_copy_125 E (σ 1) (σ 23) K N s.1 s.2) (b := fun kk s => b_X8_copy_125 E (σ 1) (σ 23) K (fun a b => kk (a, b)) s.1 s.2) (fun _ _ => rfl) (μ := fun s => 4 - s.1.toNatClampNeg)
    (P := fun s => ∃ i, i ≤ 4 ∧ nI i = s.1 ∧ gI s.2 = gI d10 ∧ gA s.2 = gA d10 ∧ gJ s.2 = gJ d10 ∧ (∀ a, a ≠ σ 22 → gQ s.2 a = gQ d a) ∧ ∀ q, q < i → gQ s.2 (σ 22) q = gQ d (σ 44) q) ?_ N (0, d10) ⟨0, by omega, rfl, rfl, rfl, rfl, fun a _ => congrFun C10.2.2.2 a, fun q hq => absurd hq (by omega)⟩ (by rw [hN]; exact Nat.sub_le _ _)⟩
  rintro kk ⟨v, d3⟩ ⟨i, hi, rfl, g1, g2, g3, g4, g5⟩ hk
  have g1 : gI d3 = gI d10 := g1
  have g2 : gA d3 = gA d10 := g2
  have g3 : gJ d3 = gJ d10 := g3
  have g4 : ∀ a, a ≠ σ 22 → gQ d3 a = gQ d a := g4
  have g5 : ∀ q, q < i → gQ d3 (σ 22) q = gQ d (σ 44) q := g5
  simp only [b_X8_copy_125, x_1_11 h, x_23_11 h, en_22 h, en_44 h, z_nn (show i < 2147483648 by omega)]
  refine ⟨fun hc => k _ ?_, fun hc => ?_⟩
  · have hi4 : i = 4 := by rw [show (4 : Int32) = nI 4 from rfl, z_le (by decide) (by omega)] at hc; omega
    subst hi4
    refine ⟨?_, ?_, fun s hs => g5 s hs, fun i hi hni => ?_, fun q hq => ?_, fun a ha => ?_, fun a ha => g4 a ha⟩
    · rw [g1, congrFun (Ch_I L0 (by decide) (by decide)) 0]; exact e0
    · intro i hi
      match i, hi with
      | 0, _ =>
        refine ⟨by rw [g1, congrFun (Ch_I L1 (i := 2) (by decide) (by decide)) 3, s1]; exact hs0.symm, fun n hn hnm kx hk => ?_⟩
        have en : n = n0 := by
          have := congrArg Int32.toNatClampNeg (hn.symm.trans hs0)
          have hm : mI 0 ≤ 60 := by decide
          rwa [z_nn (by omega), z_nn (by omega)] at this
        subst en
        rw [g2, Ch_A L1 (i := 3) (by decide) (by decide)]
        exact (g1x kx hk).trans (congrFun (Ch_A C0p (i := 25) (by decide) (by decide)) kx)
      | 1, _ =>
        refine ⟨by rw [g1, congrFun (Ch_I L2 (i := 4) (by decide) (by decide)) 3, s2]; exact hs1.symm, fun n hn hnm kx hk => ?_⟩
        have en : n = n1 := by
          have := congrArg Int32.toNatClampNeg (hn.symm.trans hs1)
          have hm : mI 1 ≤ 60 := by decide
          rwa [z_nn (by omega), z_nn (by omega)] at this
        subst en
        rw [g2, Ch_A L2 (i := 5) (by decide) (by decide)]
        exact (g2x kx hk).trans (congrFun (Ch_A C1p (i := 27) (by decide) (by decide)) kx)
      | 2, _ =>
        refine ⟨by rw [g1, congrFun (Ch_I L3 (i := 6) (by decide) (by decide)) 3, s3]; exact hs2.symm, fun n hn hnm kx hk => ?_⟩
        have en : n = n2 := by
          have := congrArg Int32.toNatClampNeg (hn.symm.trans hs2)
          have hm : mI 2 ≤ 60 := by decide
          rwa [z_nn (by omega), z_nn (by omega)] at this
        subst en
        rw [g2, Ch_A L3 (i := 7) (by decide) (by decide)]
        exact (g3x kx hk).trans (congrFun (Ch_A C2p (i := 29) (by decide) (by decide)) kx)
      | 3, _ =>
        refine ⟨by rw [g1, congrFun (Ch_I L4 (i := 8) (by decide) (by decide)) 3, s4]; exact hs3.symm, fun n hn hnm kx hk => ?_⟩
        have en : n = n3 := by
          have := congrArg Int32.toNatClampNeg (hn.symm.trans hs3)
          have hm : mI 3 ≤ 60 := by decide
          rwa [z_nn (by omega), z_nn (by omega)] at this
        subst en
        rw [g2, Ch_A L4 (i := 9) (by decide) (by decide)]
        exact (g4x kx hk).trans (congrFun (Ch_A C3p (i := 31) (by decide) (by decide)) kx)
      | 4, _ =>
        refine ⟨by rw [g1, congrFun (Ch_I L5 (i := 10) (by decide) (by decide)) 3, s5]; exact hs4.symm, fun n hn hnm kx hk => ?_⟩
        have en : n = n4 := by
          have := congrArg Int32.toNatClampNeg (hn.symm.trans hs4)
          have hm : mI 4 ≤ 60 := by decide
          rwa [z_nn (by omega), z_nn (by omega)] at this
        subst en
        rw [g2, Ch_A L5 (i := 11) (by decide) (by decide)]
        exact (g5x kx hk).trans (congrFun (Ch_A C4p (i := 33) (by decide) (by decide)) kx)
      | 5, _ =>
        refine ⟨by rw [g1, congrFun (Ch_I L6 (i := 12) (by decide) (by decide)) 3, s6]; exact hs5.symm, fun n hn hnm kx hk => ?_⟩
        have en : n = n5 := by
          have := congrArg Int32.toNatClampNeg (hn.symm.trans hs5)
          have hm : mI 5 ≤ 60 := by decide
          rwa [z_nn (by omega), z_nn (by omega)] at this
        subst en
        rw [g2, Ch_A L6 (i := 13) (by decide) (by decide)]
        exact (g6x kx hk).trans (congrFun (Ch_A C5p (i := 35) (by decide) (by decide)) kx)
      | 6, _ =>
        refine ⟨by rw [g1, congrFun (Ch_I L7 (i := 14) (by decide) (by decide)) 3, s7]; exact hs6.symm, fun n hn hnm kx hk => ?_⟩
        have en : n = n6 := by
          have := congrArg Int32.toNatClampNeg (hn.symm.trans hs6)
          have hm : mI 6 ≤ 60 := by decide
          rwa [z_nn (by omega), z_nn (by omega)] at this
        subst en
        rw [g2, Ch_A L7 (i := 15) (by decide) (by decide)]
        exact (g7x kx hk).trans (congrFun (Ch_A C6p (i := 37) (by decide) (by decide)) kx)
      | 7, _ =>
        refine ⟨by rw [g1, congrFun (Ch_I L8 (i := 16) (by decide) (by decide)) 3, s8]; exact hs7.symm, fun n hn hnm kx hk => ?_⟩
        have en : n = n7 := by
          have := congrArg Int32.toNatClampNeg (hn.symm.trans hs7)
          have hm : mI 7 ≤ 60 := by decide
          rwa [z_nn (by omega), z_nn (by omega)] at this
        subst en
        rw [g2, Ch_A L8 (i := 17) (by decide) (by decide)]
        exact (g8x kx hk).trans (congrFun (Ch_A C7p (i := 39) (by decide) (by decide)) kx)
      | 8, _ =>
        refine ⟨by rw [g1, congrFun (Ch_I L9 (i := 18) (by decide) (by decide)) 3, s9]; exact hs8.symm, fun n hn hnm kx hk => ?_⟩
        have en : n = n8 := by
          have := congrArg Int32.toNatClampNeg (hn.symm.trans hs8)
          have hm : mI 8 ≤ 60 := by decide
          rwa [z_nn (by omega), z_nn (by omega)] at this
        subst en
        rw [g2, Ch_A L9 (i := 19) (by decide) (by decide)]
        exact (g9x kx hk).trans (congrFun (Ch_A C8p (i := 41) (by decide) (by decide)) kx)
      | 9, _ =>
        refine ⟨by rw [g1, congrFun (Ch_I L10 (i := 20) (by decide) (by decide)) 3, s10]; exact hs9.symm, fun n hn hnm kx hk => ?_⟩
        have en : n = n9 := by
          have := congrArg Int32.toNatClampNeg (hn.symm.trans hs9)
          have hm : mI 9 ≤ 60 := by decide
          rwa [z_nn (by omega), z_nn (by omega)] at this
        subst en
        rw [g2, Ch_A L10 (i := 21) (by decide) (by decide)]
        exact (g10x kx hk).trans (congrFun (Ch_A C9p (i := 43) (by decide) (by decide)) kx)
      | n + 10, hn => omega
    · rw [g1, g2, g3]; exact C10.1 i hi (fun hc => hni (by
        have : ∀ j ∈ ([1, 2, 3, 4, 5, 6, 7, 8, 9, 10, 11, 12, 13, 14, 15, 16, 17, 18, 19, 20, 21] : List Nat), 1 ≤ j ∧ j ≤ 1 + 21 := by decide
        exact this i hc))
    · rw [g1]; exact C10.2.1 q hq
    · rw [g1, g2]; exact C10.2.2.1 a ha
  · have hi4 : i < 4 := by rw [show (4 : Int32) = nI 4 from rfl, z_le (by decide) (by omega)] at hc; omega
    have hne : σ 44 ≠ σ 22 := Env_ne h (by decide) (by decide) (by decide)
    rw [g4 _ hne, z_a1]
    refine ⟨vpi hi4 (by decide), fun b hb => hq i hi4 b hb, vpi hi4 (by decide), hk (nI (i + 1), _) ⟨i + 1, by omega, rfl, g1, g2, g3, fun a ha => ?_, fun q hq => ?_⟩ (by simp only [z_nn (show i + 1 < 2147483648 by omega), z_nn (show i < 2147483648 by omega)]; omega)⟩
    · rw [gQ_pQ_x, if_neg ha]; exact g4 a ha
    · rw [gQ_pQ_x, if_pos rfl]
      by_cases hqi : q = i
      · subst hqi; simp
      · simp only [if_neg hqi]; exact g5 q (by omega)
end
