/-! the pure layer: a new row of a table, a changed row -/
section
variable {σ : Nat → Nat} {E : En} {d d' : Dy}
theorem reg_in {i r c : Nat} (hr : r < mI i) (hc : c < wI i) : oI i + wI i * r + c < oI i + wI i * mI i := by
  have := Nat.mul_le_mul_left (wI i) (show r + 1 ≤ mI i from hr)
  rw [Nat.mul_add, Nat.mul_one] at this; omega
theorem reg_ap {i j : Nat} (hi : i < 10) (hj : j < 10) (h : i ≠ j) : oI i + wI i * mI i ≤ oI j ∨ oI j + wI j * mI j ≤ oI i := by
  have : ∀ i, i < 10 → ∀ j, j < 10 → i ≠ j → oI i + wI i * mI i ≤ oI j ∨ oI j + wI j * mI j ≤ oI i := by decide
  exact this i hi j hj h
theorem reg_lo {i : Nat} (hi : i < 10) : 14 ≤ oI i ∧ oI i + wI i * mI i ≤ 596 ∧ 0 < wI i ∧ mI i ≤ 60 := by
  have : ∀ i, i < 10 → 14 ≤ oI i ∧ oI i + wI i * mI i ≤ 596 ∧ 0 < wI i ∧ mI i ≤ 60 := by decide
  exact this i hi
theorem cI_lt {i : Nat} (hi : i < 10) (h5 : i ≠ 5) : cI i < 10 ∧ cI i ≠ 3 := by
  have : ∀ i, i < 10 → i ≠ 5 → cI i < 10 ∧ cI i ≠ 3 := by decide
  exact this i hi h5
theorem cI_ne {i j : Nat} (hi : i < 10) (hj : j < 10) (h : i ≠ j) : cI i ≠ cI j := by
  have : ∀ i, i < 10 → ∀ j, j < 10 → i ≠ j → cI i ≠ cI j := by decide
  exact this i hi j hj h
theorem lx_mono {x : Int32} {a b : Nat} (h : lx x a) (hab : a ≤ b) : lx x b := by
  obtain ⟨k, h1, h2⟩ := h; exact ⟨k, Nat.lt_of_lt_of_le h1 hab, h2⟩
theorem okR_mono {i a b a' b' : Nat} {f : Nat → Int32} (h : okR i a b f) (ha : a ≤ a') (hb : b ≤ b') : okR i a' b' f := by
  unfold okR at h ⊢
  split at h
  · exact h
  · exact ⟨h.1, h.2.1.imp id (fun q => lx_mono q ha), h.2.2⟩
  · exact ⟨h.1, h.2.1, h.2.2.1, h.2.2.2.1.imp (fun q => ⟨q.1, lx_mono q.2 ha⟩) (fun q => ⟨q.1, lx_mono q.2 hb⟩), h.2.2.2.2.imp id (fun q => q.imp (fun q => ⟨q.1, lx_mono q.2 hb⟩) (fun q => ⟨q.1, lx_mono q.2 ha⟩))⟩
  · exact ⟨lx_mono h.1 ha, h.2⟩
  · exact h
  · exact h
  · exact h
  · exact h
  · exact ⟨lx_mono h.1 hb, h.2⟩
  · exact h
  · trivial
theorem okR_ext {i a b : Nat} {f g : Nat → Int32} (h : okR i a b f) (e : ∀ c, c < wI i → g c = f c) (hi : i < 10) : okR i a b g := by
  have key : ∀ c, c < wI i → g c = f c := e
  match i, hi, h, key with
  | 0, _, h, key => simp only [okR] at h ⊢; rw [key 0 (by decide), key 1 (by decide), key 2 (by decide)]; exact h
  | 1, _, h, key => simp only [okR] at h ⊢; rw [key 0 (by decide), key 1 (by decide), key 2 (by decide), key 3 (by decide), key 4 (by decide), key 5 (by decide), key 6 (by decide)]; exact h
  | 2, _, h, key => simp only [okR] at h ⊢; rw [key 0 (by decide), key 1 (by decide), key 2 (by decide), key 3 (by decide), key 4 (by decide)]; exact h
  | 3, _, h, key => simp only [okR] at h ⊢; rw [key 0 (by decide), key 1 (by decide)]; exact h
  | 4, _, h, key => simp only [okR] at h ⊢; rw [key 0 (by decide)]; exact h
  | 5, _, h, key => simp only [okR] at h ⊢; rw [key 0 (by decide)]; exact h
  | 6, _, h, key => simp only [okR] at h ⊢; rw [key 0 (by decide)]; exact h
  | 7, _, h, key => simp only [okR] at h ⊢; rw [key 0 (by decide), key 1 (by decide), key 2 (by decide)]; exact h
  | 8, _, h, key => simp only [okR] at h ⊢; rw [key 0 (by decide), key 1 (by decide), key 2 (by decide)]; exact h
  | 9, _, h, key => simp only [okR] at h ⊢; rw [key 0 (by decide)]; exact h
  | n + 10, hi, _, _ => omega
theorem WI_n {W : Nat → Int32} (h : WI W) {i : Nat} (hi : i < 10) : nR W i ≤ mI i := by
  unfold nR
  split
  · next h5 => subst h5; decide
  · next h5 => exact (h.1 i hi h5).2
/-- the world with a new row n of table i -/
def appW (W : Nat → Int32) (i n : Nat) (v : Nat → Int32) : Nat → Int32 := fun k => if k = cI i then nI (n + 1) else if oI i + wI i * n ≤ k ∧ k < oI i + wI i * n + wI i then v (k - (oI i + wI i * n)) else W k
section
variable {W : Nat → Int32} {i n : Nat} {v : Nat → Int32}
theorem app_c (hi : i < 10) : appW W i n v (cI i) = nI (n + 1) := by simp [appW]
theorem app_lo {k : Nat} (hi : i < 10) (h : k ≠ cI i) (hk : k < 14) : appW W i n v k = W k := by
  have := reg_lo hi
  simp only [appW, if_neg h]; rw [if_neg (by omega)]
theorem app_hi {k : Nat} (hi : i < 10) (h5 : i ≠ 5) (hn : n < mI i) (hk : 596 ≤ k) : appW W i n v k = W k := by
  have := reg_lo hi
  have := cI_lt hi h5
  have h3 := Nat.mul_le_mul_left (wI i) (show n + 1 ≤ mI i from hn)
  rw [Nat.mul_add, Nat.mul_one] at h3
  simp only [appW]; rw [if_neg (by omega), if_neg (by omega)]
theorem app_o {j r c : Nat} (hi : i < 10) (h5 : i ≠ 5) (hj : j < 10) (h : j ≠ i) (hn : n < mI i) (hr : r < mI j) (hc : c < wI j) : appW W i n v (oI j + wI j * r + c) = W (oI j + wI j * r + c) := by
  have h1 := reg_in hr hc
  have h2 := reg_ap hi hj (fun e => h e.symm)
  have h3 := cI_lt hi h5
  have h4 := reg_lo hj
  have h5 := Nat.mul_le_mul_left (wI i) (show n + 1 ≤ mI i from hn)
  rw [Nat.mul_add, Nat.mul_one] at h5
  simp only [appW]; rw [if_neg (by omega), if_neg (by omega)]
theorem app_r {r c : Nat} (hi : i < 10) (h5 : i ≠ 5) (hr : r < n) (hc : c < wI i) : appW W i n v (oI i + wI i * r + c) = W (oI i + wI i * r + c) := by
  have h3 := cI_lt hi h5
  have h4 := reg_lo hi
  have h5 := Nat.mul_le_mul_left (wI i) (show r + 1 ≤ n from hr)
  rw [Nat.mul_add, Nat.mul_one] at h5
  simp only [appW]; rw [if_neg (by omega), if_neg (by omega)]
theorem app_n {c : Nat} (hi : i < 10) (h5 : i ≠ 5) (hc : c < wI i) : appW W i n v (oI i + wI i * n + c) = v c := by
  have h3 := cI_lt hi h5
  have h4 := reg_lo hi
  simp only [appW]; rw [if_neg (by omega), if_pos (by omega)]
  congr 1; omega
theorem app_nR (hi : i < 10) (h5 : i ≠ 5) (hn : n < mI i) : nR (appW W i n v) i = n + 1 := by
  have := reg_lo hi
  unfold nR cnt; rw [if_neg h5, app_c hi]; exact z_nn (by omega)
theorem app_nRo {j : Nat} (hi : i < 10) (hj : j < 10) (h : j ≠ i) : nR (appW W i n v) j = nR W j := by
  unfold nR cnt
  split
  · rfl
  · next h5 => rw [app_lo hi (cI_ne hj hi h) (by have := cI_lt hj h5; omega)]
theorem app_le {j : Nat} (hi : i < 10) (h5 : i ≠ 5) (hn : n < mI i) (hnW : n = nR W i) (hj : j < 10) : nR W j ≤ nR (appW W i n v) j := by
  by_cases h : j = i
  · subst h; rw [app_nR hj h5 hn]; omega
  · rw [app_nRo hi hj h]; exact Nat.le_refl _
theorem app_ro {j q : Nat} (hW : WI W) (hi : i < 10) (h5 : i ≠ 5) (hn : n < mI i) (hj : j < 10) (h : j ≠ i) : roI (appW W i n v) j q = roI W j q := by
  unfold roI
  split
  · next hc =>
    rw [app_nRo hi hj h]
    have hle := WI_n hW hj
    rw [ordr_congr (y := kyI (appW W i n v) j) (y' := kyI W j)]
    intro k hk
    rcases hc with rfl | rfl
    · have := app_o (W := W) (v := v) (r := k) (c := 0) hi h5 hj h hn (by omega) (by decide)
      simpa [kyI, oI, wI] using this
    · have := app_o (W := W) (v := v) (r := k) (c := 1) hi h5 hj h hn (by omega) (by decide)
      simpa [kyI, oI, wI] using this
  · rfl
theorem app_WI (hW : WI W) (hi : i < 10) (h5 : i ≠ 5) (hn : n < mI i) (hnW : n = nR W i) (hv : okR i (cnt (appW W i n v) 0) (cnt (appW W i n v) 1) v) : WI (appW W i n v) := by
  have a0 : cnt W 0 ≤ cnt (appW W i n v) 0 := app_le (v := v) hi h5 hn hnW (j := 0) (by decide)
  have a1 : cnt W 1 ≤ cnt (appW W i n v) 1 := app_le (v := v) hi h5 hn hnW (j := 1) (by decide)
  refine ⟨fun j hj hj5 => ?_, ?_, fun j hj r hr => ?_⟩
  · by_cases h : j = i
    · subst h
      have e := app_nR (W := W) (v := v) hj h5 hn
      unfold nR at e; rw [if_neg h5] at e
      rw [e, app_c hj]; exact ⟨rfl, hn⟩
    · have e := app_nRo (W := W) (n := n) (v := v) hi hj h
      unfold nR at e; rw [if_neg hj5, if_neg hj5] at e
      rw [e, app_lo hi (cI_ne hj hi h) (by have := cI_lt hj hj5; omega)]; exact hW.1 j hj hj5
  · have e := app_lo (W := W) (n := n) (v := v) (k := 3) hi (fun e => (cI_lt hi h5).2 e.symm) (by decide)
    unfold cnt; rw [e]; exact hW.2.1
  · by_cases h : j = i
    · subst h
      rw [app_nR hj h5 hn] at hr
      by_cases hrn : r = n
      · subst hrn
        exact okR_ext hv (fun c hc => app_n hj h5 hc) hj
      · refine okR_ext (okR_mono (hW.2.2 j hj r (by omega)) a0 a1) (fun c hc => app_r hj h5 (by omega) hc) hj
    · rw [app_nRo hi hj h] at hr
      refine okR_ext (okR_mono (hW.2.2 j hj r hr) a0 a1) (fun c hc => app_o hi h5 hj h hn (Nat.lt_of_lt_of_le hr (WI_n hW hj)) hc) hj
end
theorem wor_sg (h : Env σ E) {i j : Nat} (hi : i < 116) (hj : j < 116) (hn : i ≠ j) : σ i ≠ σ j := Env_ne h hi hj hn
theorem Inv_app (I : Inv σ E d) (c : Ch σ wor d d') {i n r : Nat} {v : Nat → Int32} (hi : i < 10) (h5 : i ≠ 5) (hn : n < mI i) (hnW : n = nR (gA d (σ 88)) i)
    (hv : okR i (cnt (appW (gA d (σ 88)) i n v) 0) (cnt (appW (gA d (σ 88)) i n v) 1) v) (hW : gA d' (σ 88) = appW (gA d (σ 88)) i n v) (hs : gI d' (σ (2 + 2 * i)) 3 = nI (n + 1))
    (hr : r ≤ n) (hR : ∀ j, j ≤ n → roI (appW (gA d (σ 88)) i n v) i j = if j = r then n else if j < r then roI (gA d (σ 88)) i j else roI (gA d (σ 88)) i (j - 1))
    (hL : ∀ j, j < n → roI (gA d (σ 88)) i j < n)
    (hT : ∀ j, j ≤ n → ∀ c, c < wI i → gA d' (σ (3 + 2 * i)) (j * wI i + cmI i c) = if j = r then v c else if j < r then gA d (σ (3 + 2 * i)) (j * wI i + cmI i c) else gA d (σ (3 + 2 * i)) ((j - 1) * wI i + cmI i c))
    (hO : ∀ j, j < 10 → j ≠ i → gI d' (σ (2 + 2 * j)) = gI d (σ (2 + 2 * j)) ∧ gA d' (σ (3 + 2 * j)) = gA d (σ (3 + 2 * j))) (h1 : gI d' (σ 1) = gI d (σ 1)) : Inv σ E d' := by
  have w1 := I.2.2.1.1
  have w2 := I.2.2.1.2.1
  refine Inv_w I c hW (app_WI w1 hi h5 hn hnW hv) ⟨?_, fun j hj => ⟨?_, fun q hq cc hc => ?_⟩⟩ ?_
  · rw [h1, app_lo hi (fun e => (cI_lt hi h5).2 e.symm) (by decide)]; exact w2.1
  · rw [show 1 + 1 + 2 * j = 2 + 2 * j by omega]
    by_cases h : j = i
    · subst h; rw [hs, app_nR hj h5 hn]
    · rw [(hO j hj h).1, app_nRo hi hj h]
      have := (w2.2 j hj).1
      rwa [show 1 + 1 + 2 * j = 2 + 2 * j by omega] at this
  · rw [show 1 + 2 + 2 * j = 3 + 2 * j by omega]
    by_cases h : j = i
    · subst h
      rw [app_nR hj h5 hn] at hq
      rw [hT q (by omega) cc hc, hR q (by omega)]
      have old : ∀ q, q < n → gA d (σ (3 + 2 * j)) (q * wI j + cmI j cc) = appW (gA d (σ 88)) j n v (oI j + wI j * roI (gA d (σ 88)) j q + cc) := fun q hq => by
        rw [app_r hj h5 (hL q hq) hc]
        have := (w2.2 j hj).2 q (hnW ▸ hq) cc hc
        rwa [show 1 + 2 + 2 * j = 3 + 2 * j by omega] at this
      by_cases e1 : q = r
      · rw [if_pos e1, if_pos e1, app_n hj h5 hc]
      · rw [if_neg e1, if_neg e1]
        by_cases e2 : q < r
        · rw [if_pos e2, if_pos e2]; exact old q (by omega)
        · rw [if_neg e2, if_neg e2]; exact old (q - 1) (by omega)
    · rw [app_nRo hi hj h] at hq
      have e := (w2.2 j hj).2 q hq cc hc
      rw [show 1 + 2 + 2 * j = 3 + 2 * j by omega] at e
      have hro : roI (appW (gA d (σ 88)) i n v) j q = roI (gA d (σ 88)) j q := app_ro w1 hi h5 hn hj h
      rw [(hO j hj h).2, hro, e]
      exact (app_o hi h5 hj h hn (Nat.lt_of_lt_of_le (ro_lt hq) (WI_n w1 hj)) hc).symm
  · intro k hk
    rcases hk with hk | hk
    · exact app_lo hi (by have := cI_lt hi h5; omega) (by omega)
    · exact app_hi hi h5 hn hk
end
