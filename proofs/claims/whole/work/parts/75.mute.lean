/-! events and photographs: tables by years -/
theorem yp_congr2 {g g' : Nat → Int32} {w w' : Nat} {y : Int32} {n : Nat} (h : ∀ j, j < n → g (j * w) = g' (j * w')) : yp g w y n = yp g' w' y n := by
  induction n with
  | zero => rfl
  | succ n ih => unfold yp; rw [h n (by omega), ih (fun j hj => h j (by omega))]
def kcI (i : Nat) : Nat := if i = 2 then 0 else 1
theorem opn_get (g : Nat → Int32) {w n r j c : Nat} (hj : j ≤ n) (hc : c < w) : opn g w n r (j * w + c) = if j = r then 0 else if j < r then g (j * w + c) else g ((j - 1) * w + c) := by
  unfold opn
  by_cases h1 : j = r
  · subst h1; rw [if_neg (by omega), if_pos (by omega), if_pos rfl]
  · rw [if_neg h1]
    by_cases h2 : j < r
    · have := Nat.mul_le_mul_right w (show j + 1 ≤ r from h2)
      rw [Nat.add_mul, Nat.one_mul] at this
      rw [if_pos (by omega), if_pos h2]
    · have h3 := Nat.mul_le_mul_right w (show r + 1 ≤ j by omega)
      have h4 := Nat.mul_le_mul_right w hj
      rw [Nat.add_mul, Nat.one_mul] at h3
      obtain ⟨q, rfl⟩ : ∃ q, j = q + 1 := ⟨j - 1, by omega⟩
      rw [if_neg (by omega), if_neg (by omega), if_pos (by omega), if_neg h2]
      congr 1
      rw [Nat.add_mul, Nat.one_mul, Nat.add_sub_cancel]; omega
theorem ky_at {W : Nat → Int32} {i e : Nat} (hi : i = 2 ∨ i = 8) : kyI W i e = W (oI i + wI i * e + kcI i) := by
  rcases hi with rfl | rfl
  · simp [kyI, oI, wI, kcI]
  · simp [kyI, oI, wI, kcI]
theorem ro_app {W : Nat → Int32} {i n j : Nat} {v : Nat → Int32} (hi : i = 2 ∨ i = 8) (hn : n < mI i) (hnW : n = nR W i) (hj : j ≤ n) {r : Nat} (hr : yp (fun j => kyI W i (roI W i j)) 1 (v (kcI i)) n = r) :
    roI (appW W i n v) i j = if j = r then n else if j < r then roI W i j else roI W i (j - 1) := by
  have hi10 : i < 10 := by omega
  have h5 : i ≠ 5 := by omega
  have hkc : kcI i < wI i := by rcases hi with rfl | rfl <;> decide
  have hro : ∀ W q, roI W i q = (ordr (kyI W i) (nR W i)).getD q 0 := fun W q => by unfold roI; rw [if_pos hi]
  have hky : ∀ e, e < n → kyI (appW W i n v) i e = kyI W i e := fun e he => by rw [ky_at hi, ky_at hi, app_r hi10 h5 he hkc]
  have hkn : kyI (appW W i n v) i n = v (kcI i) := by rw [ky_at hi, app_n hi10 h5 hkc]
  rw [hro, hro, hro, app_nR hi10 h5 hn, ← hnW, ← ordr_congr hky]
  refine ins_get _ n j hj ?_
  rw [hkn, ← hr]
  refine yp_congr (fun q hq => ?_)
  simp only [Nat.mul_one]
  rw [hro, ← hnW, ordr_congr hky, hky _ (ordr_get _ _ _ hq)]
section
variable {σ : Nat → Nat} {E : En} {d d' : Dy} {kc : En → Dy → Prop} {v4 : Int32} {xs : Nat → Int32} {L : Nat}
theorem Inv_appS (I : Inv σ E d) (c : Ch σ wor d d') {i n r : Nat} {v u : Nat → Int32} (hi : i = 2 ∨ i = 8) (hn : n < mI i) (hnW : n = nR (gA d (σ 88)) i)
    (hv : okR i (cnt (appW (gA d (σ 88)) i n v) 0) (cnt (appW (gA d (σ 88)) i n v) 1) v) (hW : gA d' (σ 88) = appW (gA d (σ 88)) i n v) (hs : gI d' (σ (2 + 2 * i)) 3 = nI (n + 1))
    (hr : yp (gA d (σ (3 + 2 * i))) (wI i) (v (kcI i)) n = r)
    (hT : ∀ j, j ≤ n → ∀ c, c < wI i → gA d' (σ (3 + 2 * i)) (j * wI i + c) = if j = r then u c else if j < r then gA d (σ (3 + 2 * i)) (j * wI i + c) else gA d (σ (3 + 2 * i)) ((j - 1) * wI i + c))
    (hu : ∀ c, c < wI i → cmI i c < wI i ∧ u (cmI i c) = v c)
    (hO : ∀ j, j < 10 → j ≠ i → gI d' (σ (2 + 2 * j)) = gI d (σ (2 + 2 * j)) ∧ gA d' (σ (3 + 2 * j)) = gA d (σ (3 + 2 * j))) (h1 : gI d' (σ 1) = gI d (σ 1)) : Inv σ E d' := by
  have hi10 : i < 10 := by omega
  have h5 : i ≠ 5 := by omega
  have hkc : kcI i < wI i := by rcases hi with rfl | rfl <;> decide
  have hck : cmI i (kcI i) = 0 := by rcases hi with rfl | rfl <;> decide
  have w2 := I.2.2.1.2.1
  refine Inv_app I c (r := r) hi10 h5 hn hnW hv hW hs ?_ (fun j hj => ro_app hi hn hnW hj ?_) (fun j hj => hnW ▸ ro_lt (hnW ▸ hj)) (fun j hj c hc => ?_) hO h1
  · rw [← hr]; exact yp_le _ _ _ _
  · rw [← hr]
    refine yp_congr2 (fun q hq => ?_)
    have e := (w2.2 i hi10).2 q (hnW ▸ hq) _ hkc
    rw [show 1 + 2 + 2 * i = 3 + 2 * i by omega, hck, Nat.add_zero] at e
    rw [Nat.mul_one, ky_at hi, e]
  · have := hT j hj (cmI i c) (hu c hc).1
    rw [(hu c hc).2] at this
    exact this
def rowE (d : Dy) (t b n r : Nat) (y td kd p q pr : Int32) : Dy := pA (pA (pA (pA (pA (pA (pI (sA d b (opn (gA d b) 6 n r)) t 3 (nI (n + 1))) b (r * 6) y) b (r * 6 + 1) td) b (r * 6 + 2) kd) b (r * 6 + 3) p) b (r * 6 + 4) q) b (r * 6 + 5) pr
def uE (y td kd p q pr : Int32) : Nat → Int32 := fun c => if c = 0 then y else if c = 1 then td else if c = 2 then kd else if c = 3 then p else if c = 4 then q else pr
def vE (y td kd p q pr : Int32) : Nat → Int32 := fun c => if c = 0 then y else if c = 1 then kd else if c = 2 then p else if c = 3 then q else if c = 4 then pr else td
def putE (d : Dy) (a n : Nat) (y td kd p q pr : Int32) : Dy := pA (pA (pA (pA (pA (pA (pA d a (120 + 6 * n) y) a (120 + 6 * n + 1) kd) a (120 + 6 * n + 2) p) a (120 + 6 * n + 3) q) a (120 + 6 * n + 4) pr) a (120 + 6 * n + 5) td) a 2 (nI (n + 1))
theorem rowE_A (d : Dy) (t b n r : Nat) (y td kd p q pr : Int32) {j c : Nat} (hj : j ≤ n) (hc : c < 6) : gA (rowE d t b n r y td kd p q pr) b (j * 6 + c) = if j = r then uE y td kd p q pr c else if j < r then gA d b (j * 6 + c) else gA d b ((j - 1) * 6 + c) := by
  simp only [rowE, gA_pA_x, gA_pI_x, gA_sA_x, if_true]
  by_cases e : j = r
  · subst e
    rw [if_pos rfl]
    rcases (show c = 0 ∨ c = 1 ∨ c = 2 ∨ c = 3 ∨ c = 4 ∨ c = 5 by omega) with rfl | rfl | rfl | rfl | rfl | rfl <;> simp [uE]
  · rw [if_neg (by omega), if_neg (by omega), if_neg (by omega), if_neg (by omega), if_neg (by omega), if_neg (by omega), opn_get _ hj hc, if_neg e, if_neg e]
theorem putE_W (d : Dy) (a n : Nat) (y td kd p q pr : Int32) : gA (putE d a n y td kd p q pr) a = appW (gA d a) 2 n (vE y td kd p q pr) := by
  funext k
  simp only [putE, gA_pA_x, if_true, appW, show cI 2 = 2 from rfl, show oI 2 = 120 from rfl, show wI 2 = 6 from rfl]
  by_cases h1 : k = 2
  · simp only [if_pos h1]
  · simp only [if_neg h1]
    by_cases h0 : 120 + 6 * n ≤ k ∧ k < 120 + 6 * n + 6
    · rw [if_pos h0]
      obtain ⟨c, rfl⟩ : ∃ c, k = 120 + 6 * n + c := ⟨k - (120 + 6 * n), by omega⟩
      rw [show 120 + 6 * n + c - (120 + 6 * n) = c by omega]
      rcases (show c = 0 ∨ c = 1 ∨ c = 2 ∨ c = 3 ∨ c = 4 ∨ c = 5 by omega) with rfl | rfl | rfl | rfl | rfl | rfl <;> simp [vE]
    · rw [if_neg h0, if_neg (by omega), if_neg (by omega), if_neg (by omega), if_neg (by omega), if_neg (by omega), if_neg (by omega)]
theorem Inv_appE (I : Inv σ E d) {n : Nat} (hn : n < 40) (hnW : cnt (gA d (σ 88)) 2 = n) {y kd p q pr : Int32} {jv : Int64} (hv : okR 2 (cnt (gA d (σ 88)) 0) (cnt (gA d (σ 88)) 1) (vE y (gA d (σ 88) 3) kd p q pr)) :
    Inv σ E (putE (pI (pJ (rowE d (σ 6) (σ 7) n (yp (gA d (σ 7)) 6 y n) y (gA d (σ 88) 3) kd p q pr) (σ 115) 0 jv) (σ 87) 0 0) (σ 88) n y (gA d (σ 88) 3) kd p q pr) := by
  have h := I.1
  generalize hr : yp (gA d (σ 7)) 6 y n = r
  generalize htd : gA d (σ 88) 3 = td at hv
  have c1 : Ch σ wor d (rowE d (σ 6) (σ 7) n r y td kd p q pr) :=
    Ch_tr (Ch_tr (Ch_tr (Ch_tr (Ch_tr (Ch_tr (Ch_tr (Ch_sA h (by decide) (by decide)) (Ch_pI h (by decide) (by decide) (by decide))) (Ch_pA h (by decide) (by decide))) (Ch_pA h (by decide) (by decide))) (Ch_pA h (by decide) (by decide))) (Ch_pA h (by decide) (by decide))) (Ch_pA h (by decide) (by decide))) (Ch_pA h (by decide) (by decide))
  have c2 : Ch σ wor d (putE (pI (pJ (rowE d (σ 6) (σ 7) n r y td kd p q pr) (σ 115) 0 jv) (σ 87) 0 0) (σ 88) n y td kd p q pr) :=
    Ch_tr (Ch_tr (Ch_tr c1 (Ch_pJ h (by decide) (by decide))) (Ch_pI h (i := 87) (by decide) (by decide) (by decide))) (Ch_tr (Ch_tr (Ch_tr (Ch_tr (Ch_tr (Ch_tr (Ch_pA h (by decide) (by decide)) (Ch_pA h (by decide) (by decide))) (Ch_pA h (by decide) (by decide))) (Ch_pA h (by decide) (by decide))) (Ch_pA h (by decide) (by decide))) (Ch_pA h (by decide) (by decide))) (Ch_pA h (by decide) (by decide)))
  have e88 : gA (pI (pJ (rowE d (σ 6) (σ 7) n r y td kd p q pr) (σ 115) 0 jv) (σ 87) 0 0) (σ 88) = gA d (σ 88) := by
    simp only [rowE, gA_pA_x, gA_pI_x, gA_pJ_x, gA_sA_x, gA_pQ_x, gI_pA_x, gI_pI_x, gI_pJ_x, gI_sA_x, gI_pQ_x, gJ_pA_x, gJ_pI_x, gJ_pJ_x, gJ_sA_x, gJ_pQ_x, gQ_pA_x, gQ_pI_x, gQ_pJ_x, gQ_sA_x, gQ_pQ_x, gA_sJ_x, gI_sJ_x, gJ_sJ_x, gQ_sJ_x, sg h, Nat.reduceLT, Nat.reduceEqDiff, if_false]
  have hA : ∀ j, j < 10 → gA (putE (pI (pJ (rowE d (σ 6) (σ 7) n r y td kd p q pr) (σ 115) 0 jv) (σ 87) 0 0) (σ 88) n y td kd p q pr) (σ (3 + 2 * j)) = gA (rowE d (σ 6) (σ 7) n r y td kd p q pr) (σ (3 + 2 * j)) := fun j hj => by
    have hne : σ (3 + 2 * j) ≠ σ 88 := Env_ne h (by omega) (by decide) (by omega)
    simp only [putE, gA_pA_x, gA_pI_x, gA_pJ_x, gA_sA_x, gA_pQ_x, gI_pA_x, gI_pI_x, gI_pJ_x, gI_sA_x, gI_pQ_x, gJ_pA_x, gJ_pI_x, gJ_pJ_x, gJ_sA_x, gJ_pQ_x, gQ_pA_x, gQ_pI_x, gQ_pJ_x, gQ_sA_x, gQ_pQ_x, gA_sJ_x, gI_sJ_x, gJ_sJ_x, gQ_sJ_x, if_neg hne]
  have hI : ∀ j, j < 22 → gI (putE (pI (pJ (rowE d (σ 6) (σ 7) n r y td kd p q pr) (σ 115) 0 jv) (σ 87) 0 0) (σ 88) n y td kd p q pr) (σ j) = gI (rowE d (σ 6) (σ 7) n r y td kd p q pr) (σ j) := fun j hj => by
    have hne : σ j ≠ σ 87 := Env_ne h (by omega) (by decide) (by omega)
    simp only [putE, gA_pA_x, gA_pI_x, gA_pJ_x, gA_sA_x, gA_pQ_x, gI_pA_x, gI_pI_x, gI_pJ_x, gI_sA_x, gI_pQ_x, gJ_pA_x, gJ_pI_x, gJ_pJ_x, gJ_sA_x, gJ_pQ_x, gQ_pA_x, gQ_pI_x, gQ_pJ_x, gQ_sA_x, gQ_pQ_x, gA_sJ_x, gI_sJ_x, gJ_sJ_x, gQ_sJ_x, if_neg hne]
  have hc0 : ∀ j, j < 2 → cnt (appW (gA d (σ 88)) 2 n (vE y td kd p q pr)) j = cnt (gA d (σ 88)) j := fun j hj => by unfold cnt; rw [app_lo (by decide) (by show j ≠ 2; omega) (by omega)]
  refine Inv_appS I c2 (r := r) (i := 2) (v := vE y td kd p q pr) (u := uE y td kd p q pr) (Or.inl rfl) hn hnW.symm (by rw [hc0 0 (by decide), hc0 1 (by decide)]; exact hv) ?_ ?_ hr (fun j hj c hc => ?_) (fun c hc => ?_) (fun j hj hji => ⟨?_, ?_⟩) ?_
  · rw [putE_W, e88]
  · rw [hI _ (by omega)]; simp only [rowE, gA_pA_x, gA_pI_x, gA_pJ_x, gA_sA_x, gA_pQ_x, gI_pA_x, gI_pI_x, gI_pJ_x, gI_sA_x, gI_pQ_x, gJ_pA_x, gJ_pI_x, gJ_pJ_x, gJ_sA_x, gJ_pQ_x, gQ_pA_x, gQ_pI_x, gQ_pJ_x, gQ_sA_x, gQ_pQ_x, gA_sJ_x, gI_sJ_x, gJ_sJ_x, gQ_sJ_x, if_true]
  · rw [hA 2 (by decide)]; exact rowE_A _ _ _ _ _ _ _ _ _ _ _ hj hc
  · have hc : c < 6 := hc
    rcases (show c = 0 ∨ c = 1 ∨ c = 2 ∨ c = 3 ∨ c = 4 ∨ c = 5 by omega) with rfl | rfl | rfl | rfl | rfl | rfl <;> exact ⟨by decide, rfl⟩
  · rw [hI _ (by omega)]
    have hne : σ (2 + 2 * j) ≠ σ 6 := Env_ne h (by omega) (by omega) (by omega)
    simp only [rowE, gA_pA_x, gA_pI_x, gA_pJ_x, gA_sA_x, gA_pQ_x, gI_pA_x, gI_pI_x, gI_pJ_x, gI_sA_x, gI_pQ_x, gJ_pA_x, gJ_pI_x, gJ_pJ_x, gJ_sA_x, gJ_pQ_x, gQ_pA_x, gQ_pI_x, gQ_pJ_x, gQ_sA_x, gQ_pQ_x, gA_sJ_x, gI_sJ_x, gJ_sJ_x, gQ_sJ_x, if_neg hne]
  · rw [hA j hj]
    have hne : σ (3 + 2 * j) ≠ σ 7 := Env_ne h (by omega) (by omega) (by omega)
    simp only [rowE, gA_pA_x, gA_pI_x, gA_pJ_x, gA_sA_x, gA_pQ_x, gI_pA_x, gI_pI_x, gI_pJ_x, gI_sA_x, gI_pQ_x, gJ_pA_x, gJ_pI_x, gJ_pJ_x, gJ_sA_x, gJ_pQ_x, gQ_pA_x, gQ_pI_x, gQ_pJ_x, gQ_sA_x, gQ_pQ_x, gA_sJ_x, gI_sJ_x, gJ_sJ_x, gQ_sJ_x, if_neg hne]
  · rw [hI _ (by omega)]
    simp only [rowE, gA_pA_x, gA_pI_x, gA_pJ_x, gA_sA_x, gA_pQ_x, gI_pA_x, gI_pI_x, gI_pJ_x, gI_sA_x, gI_pQ_x, gJ_pA_x, gJ_pI_x, gJ_pJ_x, gJ_sA_x, gJ_pQ_x, gQ_pA_x, gQ_pI_x, gQ_pJ_x, gQ_sA_x, gQ_pQ_x, gA_sJ_x, gI_sJ_x, gJ_sJ_x, gQ_sJ_x, sg h, Nat.reduceLT, Nat.reduceEqDiff, if_false]
/-- the class puts an event in -/
theorem k_addEvent (I : Inv σ E d) {y kd p q pr : Int32} {K : Int32 → Dy → Prop} {X : String → Dy → Prop} {n : Nat} (hn : cnt (gA d (σ 88)) 2 = n) (hm : n < 40) (k : K (nI (n + 1)) (rowE d (σ 6) (σ 7) n (yp (gA d (σ 7)) 6 y n) y (gA d (σ 88) 3) kd p q pr)) : w_X10_addEvent E (σ 0) y kd p q pr d K X := by
  have h := I.1
  have td := td_6 I
  rw [hn] at td
  have w3 := td_3 I
  simp only [w_X10_addEvent, x_0_0 h, x_1_3 h]
  refine ⟨eo_0 h, nr1 (te_6 h) td (by decide) hm (T_openByYear (te_6 h) td hm ?_)⟩
  have hle := yp_le (gA d (σ 7)) 6 y n
  generalize yp (gA d (σ 7)) 6 y n = r at k hle
  have td2 : TD (pI (sA d (σ 7) (opn (gA d (σ 7)) 6 n r)) (σ 6) 3 (nI (n + 1))) (σ 6) 6 40 (n + 1) := TD_pI3 (TD_sA td _ _) hm
  have e0 : gI (pA (pI (sA d (σ 7) (opn (gA d (σ 7)) 6 n r)) (σ 6) 3 (nI (n + 1))) (σ 7) (r * 6) y) (σ 1) 0 = gA d (σ 88) 3 := by
    simp only [gA_pA_x, gA_pI_x, gA_pJ_x, gA_sA_x, gA_pQ_x, gI_pA_x, gI_pI_x, gI_pJ_x, gI_sA_x, gI_pQ_x, gJ_pA_x, gJ_pI_x, gJ_pJ_x, gJ_sA_x, gJ_pQ_x, gQ_pA_x, gQ_pI_x, gQ_pJ_x, gQ_sA_x, gQ_pQ_x, gA_sJ_x, gI_sJ_x, gJ_sJ_x, gQ_sJ_x, sg h, Nat.reduceLT, Nat.reduceEqDiff, if_false]; exact w3
  rw [e0]
  exact T_set (r := r) (c := 1) (te_6 h) (TD_pA td2) (by omega) (by decide) (T_set (r := r) (c := 2) (te_6 h) (TD_pA (TD_pA td2)) (by omega) (by decide) (T_set (r := r) (c := 3) (te_6 h) (TD_pA (TD_pA (TD_pA td2))) (by omega) (by decide) (T_set (r := r) (c := 4) (te_6 h) (TD_pA (TD_pA (TD_pA (TD_pA td2)))) (by omega) (by decide) (T_set (r := r) (c := 5) (te_6 h) (TD_pA (TD_pA (TD_pA (TD_pA (TD_pA td2))))) (by omega) (by decide) (T_size (te_6 h) (TD_pA (TD_pA (TD_pA (TD_pA (TD_pA (TD_pA td2)))))) k)))))
theorem k_addEvent0 (I : Inv σ E d) {y kd p q pr : Int32} {K : Int32 → Dy → Prop} {X : String → Dy → Prop} (hm : cnt (gA d (σ 88)) 2 = 40) (x : X "java/lang/UnsupportedOperationException" d) : w_X10_addEvent E (σ 0) y kd p q pr d K X := by
  have h := I.1
  have td := td_6 I
  simp only [w_X10_addEvent, x_0_0 h, x_1_3 h]
  exact ⟨eo_0 h, nr0 (te_6 h) td (by decide) hm x⟩
theorem r_tells (h : Env σ E) {n : Nat} {y kd p q pr td : Int32} {K1 : Int32 → Dy → Prop} (e : gA d (σ 88) 2 = nI n) (et : gA d (σ 88) 3 = td) (hn : n < 40) (k : K1 (nI (n + 1)) (putE d (σ 88) n y td kd p q pr)) : w_X11_tells E (σ 87) y kd p q pr d K1 := by
  have e1 : (120 : Int32) + 6 * nI n = nI (120 + 6 * n) := by rw [show (6 : Int32) = nI 6 from rfl, z_mul]; exact z_add 120 _
  have a1 : nI (120 + 6 * n) + 1 = nI (120 + 6 * n + 1) := z_add _ 1
  have a2 : nI (120 + 6 * n) + 2 = nI (120 + 6 * n + 2) := z_add _ 2
  have a3 : nI (120 + 6 * n) + 3 = nI (120 + 6 * n + 3) := z_add _ 3
  have a4 : nI (120 + 6 * n) + 4 = nI (120 + 6 * n + 4) := z_add _ 4
  have a5 : nI (120 + 6 * n) + 5 = nI (120 + 6 * n + 5) := z_add _ 5
  have an : nI n + 1 = nI (n + 1) := z_a1 n
  have q0 : ∀ a, a < 14 → ¬ a = 120 + 6 * n := fun a _ => by omega
  have q1 : ∀ b a, a < 14 → ¬ a = 120 + 6 * n + b := fun b a _ => by omega
  simp only [w_X11_tells, x_87_1 h, en_88 h, qn_2, qn_3, qv_2, qv_3, e, e1, a1, a2, a3, a4, a5, gA_pA_x, if_true, if_neg (q0 2 (by decide)), if_neg (q1 1 2 (by decide)), if_neg (q1 2 2 (by decide)), if_neg (q1 3 2 (by decide)), if_neg (q1 4 2 (by decide)), if_neg (q1 5 2 (by decide)), if_neg (q0 3 (by decide)), if_neg (q1 1 3 (by decide)), if_neg (q1 2 3 (by decide)), if_neg (q1 3 3 (by decide)), if_neg (q1 4 3 (by decide)), an, et, true_and, z_nn (show 120 + 6 * n < 2147483648 by omega), z_nn (show 120 + 6 * n + 1 < 2147483648 by omega), z_nn (show 120 + 6 * n + 2 < 2147483648 by omega), z_nn (show 120 + 6 * n + 3 < 2147483648 by omega), z_nn (show 120 + 6 * n + 4 < 2147483648 by omega), z_nn (show 120 + 6 * n + 5 < 2147483648 by omega)]
  exact ⟨eo_87 h, vpi (by omega) (by decide), vpi (by omega) (by decide), vpi (by omega) (by decide), vpi (by omega) (by decide), vpi (by omega) (by decide), vpi (by omega) (by decide), k⟩
end
