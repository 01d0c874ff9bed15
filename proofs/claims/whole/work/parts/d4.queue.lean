/-! those who wait: what is meant, and the class's queue -/
def clF (W : Nat → Int32) (S : RS) (np p : Nat) (y s : Int32) : Nat → Int32 := fun f => if f = 7 then y - s else pF W S np p y (fun _ => 0) f
def clm (W : Nat → Int32) (S : RS) (np : Nat) (y : Int32) (w : Nat) : Int32 := if W 12 = 0 then 0 else sumS W 2 (clF W S np (cnt W (360 + 3 * w)) y (W (361 + 3 * w))) (cnt W 2298)
def ahd (W : Nat → Int32) (cl : Nat → Int32) (w v : Nat) : Bool := if cl w = cl v then (if W (361 + 3 * w) = W (361 + 3 * v) then decide (W (360 + 3 * w) < W (360 + 3 * v)) else decide (W (361 + 3 * w) < W (361 + 3 * v))) else decide (cl v < cl w)
def qps (ah : Nat → Nat → Bool) (q : Nat → Nat) (w : Nat) : Nat → Nat
  | 0 => 0
  | n + 1 => if ah w (q n) = true then qps ah q w n else n + 1
def qin (q : Nat → Nat) (r w : Nat) : Nat → Nat := fun j => if j < r then q j else if j = r then w else q (j - 1)
def knW (W : Nat → Int32) (S : RS) (y kn : Int32) (w : Nat) : Bool := !decide (kn < W (362 + 3 * w)) && (!decide (y < W (361 + 3 * w)) && rsL S (cnt W (360 + 3 * w)))
def quN (W : Nat → Int32) (S : RS) (y kn : Int32) : Nat → Nat
  | 0 => 0
  | i + 1 => if knW W S y kn i = true then quN W S y kn i + 1 else quN W S y kn i
def quQ (W : Nat → Int32) (S : RS) (np : Nat) (y kn : Int32) : Nat → Nat → Nat
  | 0 => fun _ => 0
  | i + 1 => if knW W S y kn i = true then qin (quQ W S np y kn i) (qps (ahd W (clm W S np y)) (quQ W S np y kn i) i (quN W S y kn i)) i else quQ W S np y kn i
theorem qps_le {ah : Nat → Nat → Bool} {q : Nat → Nat} {w : Nat} : ∀ n, qps ah q w n ≤ n
  | 0 => Nat.le_refl 0
  | n + 1 => by have := qps_le (ah := ah) (q := q) (w := w) n; unfold qps; split <;> omega
theorem quN_le {W : Nat → Int32} {S : RS} {y kn : Int32} : ∀ i, quN W S y kn i ≤ i
  | 0 => Nat.le_refl 0
  | i + 1 => by have := quN_le (W := W) (S := S) (y := y) (kn := kn) i; unfold quN; split <;> omega
theorem quQ_in {W : Nat → Int32} {S : RS} {np : Nat} {y kn : Int32} : ∀ i j, j < quN W S y kn i → quQ W S np y kn i j < i ∧ knW W S y kn (quQ W S np y kn i j) = true
  | 0, j, h => by simp [quN] at h
  | i + 1, j, h => by
    have ih := quQ_in (W := W) (S := S) (np := np) (y := y) (kn := kn) i
    unfold quN at h
    unfold quQ
    by_cases q : knW W S y kn i = true
    · rw [if_pos q] at h
      have hr := qps_le (ah := ahd W (clm W S np y)) (q := quQ W S np y kn i) (w := i) (quN W S y kn i)
      rw [if_pos q]
      unfold qin
      split
      · have := ih j (by omega); exact ⟨by omega, this.2⟩
      · split
        · exact ⟨by omega, q⟩
        · have := ih (j - 1) (by omega); exact ⟨by omega, this.2⟩
    · rw [if_neg q] at h
      rw [if_neg q]
      have := ih j h; exact ⟨by omega, this.2⟩
theorem wt_p {W : Nat → Int32} (hW : WI W) {w : Nat} (hw : w < cnt W 4) : ∃ p, p < cnt W 0 ∧ W (360 + 3 * w) = nI p := by
  have o : lx (W (360 + 3 * w + 0)) (cnt W 0) := (hW.2.2 3 (by decide) w hw).1
  exact o
theorem wt_s {W : Nat → Int32} (hW : WI W) {w : Nat} (hw : w < cnt W 4) : ∃ s, 1900 ≤ s ∧ s ≤ 2099 ∧ W (361 + 3 * w) = nI s := by
  have o : bw (W (360 + 3 * w + 1)) 1900 2099 := (hW.2.2 3 (by decide) w hw).2
  rw [show 360 + 3 * w + 1 = 361 + 3 * w by omega] at o
  exact bw_n (a := 1900) (b := 2099) o (by decide) (by decide)
theorem fs2 : ∀ f, f < 8 → fsB 2 f = true → f = 1 ∨ f = 2 ∨ f = 3 ∨ f = 7 := by decide
def qC (σ : Nat → Nat) (W : Nat → Int32) (cl : Nat → Int32) (d : Dy) (n : Nat) (q : Nat → Nat) (tk : Nat → Bool) : Prop :=
  gI d (σ 71) 3 = nI n ∧ ∀ j, j < n → gA d (σ 72) (j * 4 + 0) = cl (q j) ∧ gA d (σ 72) (j * 4 + 1) = W (361 + 3 * q j) ∧ gA d (σ 72) (j * 4 + 2) = W (360 + 3 * q j) ∧ gA d (σ 72) (j * 4 + 3) = b2i (tk j)
section
variable {σ : Nat → Nat} {E : En} {d d' d2 d3 : Dy} {W : Nat → Int32} {np nh L n : Nat} {S : RS} {K : Int32 → Dy → Prop} {K0 : Dy → Prop} {cl : Nat → Int32} {q : Nat → Nat} {tk : Nat → Bool}
theorem qC_ch {P : List Nat} (Q : qC σ W cl d n q tk) (c : Ch σ P d d') (h1 : 71 ∉ P) (h2 : 72 ∉ P) : qC σ W cl d' n q tk := by
  unfold qC; rw [Ch_I c (by decide) h1, Ch_A c (by decide) h2]; exact Q
theorem k_wt (c : cW σ E d W np nh) {w j : Nat} (hw : w < cnt W 4) (hj : j < 3) (k : K (W (360 + 3 * w + j)) d) : w_X6_get E (σ 8) (nI w) (nI j) d K := by
  have hr2 : w < cnt (gA d (σ 88)) 4 := by rw [c.2.1]; exact hw
  refine T_get (te_8 c.1.1) (td_8 c.1) hr2 hj ?_
  have := tv_8 c.1 hr2 hj
  rw [c.2.1, show cmI 3 j = j from rfl] at this
  rw [this]; exact k
theorem k_isAhead (c : cW σ E d W np nh) (Q : qC σ W cl d n q tk) (hn : n ≤ 10) {w m : Nat} (hm : m < n) (k : K (b2i (ahd W cl w (q m))) d) : w_X1_isAhead E (σ 70) (W (360 + 3 * w)) (W (361 + 3 * w)) (cl w) (nI m) d K := by
  have h := c.1.1
  have td := ts_71 c.1.2.1 Q.1 hn
  obtain ⟨q0, q1, q2, -⟩ := Q.2 m hm
  unfold ahd at k
  simp only [w_X1_isAhead, x_70_2 h]
  refine ⟨eo_70 h, T_get (c := 0) (te_71 h) td hm (by decide) ?_⟩
  rw [q0]
  refine ⟨fun e => T_get (c := 1) (te_71 h) td hm (by decide) ?_, fun e => T_get (c := 0) (te_71 h) td hm (by decide) ?_⟩
  · rw [if_pos e] at k
    rw [q1]
    refine ⟨fun e2 => T_get (c := 2) (te_71 h) td hm (by decide) ?_, fun e2 => T_get (c := 1) (te_71 h) td hm (by decide) ?_⟩
    · rw [if_pos e2] at k
      rw [q2]
      refine ⟨fun e3 => ?_, fun e3 => ?_⟩
      · rw [show decide (W (360 + 3 * w) < W (360 + 3 * q m)) = false from by simpa using e3] at k; exact k
      · rw [show decide (W (360 + 3 * w) < W (360 + 3 * q m)) = true from by simpa using e3] at k; exact k
    · rw [if_neg e2] at k
      rw [q1]
      refine ⟨fun e3 => ?_, fun e3 => ?_⟩
      · rw [show decide (W (361 + 3 * w) < W (361 + 3 * q m)) = false from by simpa using e3] at k; exact k
      · rw [show decide (W (361 + 3 * w) < W (361 + 3 * q m)) = true from by simpa using e3] at k; exact k
  · rw [if_neg e] at k
    rw [q0]
    refine ⟨fun e3 => ?_, fun e3 => ?_⟩
    · rw [show decide (cl (q m) < cl w) = false from by simpa using e3] at k; exact k
    · rw [show decide (cl (q m) < cl w) = true from by simpa using e3] at k; exact k
theorem k_stepIn (c : cW σ E d W np nh) (Q : qC σ W cl d n q (fun _ => false)) (hn : n < 10) {w : Nat} (k : ∀ d', Ch σ [71, 72] d d' → qC σ W cl d' (n + 1) (qin q (qps (ahd W cl) q w n) w) (fun _ => false) → K0 d') : w_X1_stepIn E (σ 70) (W (360 + 3 * w)) (W (361 + 3 * w)) (cl w) d K0 := by
  have h := c.1.1
  have td := ts_71 c.1.2.1 Q.1 (by omega)
  have fin : ∀ r, r ≤ n → r = qps (ahd W cl) q w n → b_X1_stepIn_34 E (σ 70) (W (360 + 3 * w)) (W (361 + 3 * w)) (cl w) K0 (nI r) d := fun r hr er => by
    simp only [b_X1_stepIn_34, x_70_2 h]
    refine T_openAt (te_71 h) td hn hr ?_
    have td2 : TD (pI (sA d (σ 72) (opn (gA d (σ 72)) 4 n r)) (σ 71) 3 (nI (n + 1))) (σ 71) 4 10 (n + 1) := TD_pI3 (TD_sA td _ _) (by omega)
    refine T_set (r := r) (c := 0) (te_71 h) td2 (by omega) (by decide) (T_set (r := r) (c := 1) (te_71 h) (TD_pA td2) (by omega) (by decide) (T_set (r := r) (c := 2) (te_71 h) (TD_pA (TD_pA td2)) (by omega) (by decide) ?_))
    refine k _ (Ch_tr (Ch_tr (Ch_tr (Ch_tr (Ch_sA h (by decide) (by decide)) (Ch_pI h (by decide) (by decide) (by decide))) (Ch_pA h (by decide) (by decide))) (Ch_pA h (by decide) (by decide))) (Ch_pA h (by decide) (by decide))) ?_
    have n7 : gI (pA (pA (pA (pI (sA d (σ 72) (opn (gA d (σ 72)) 4 n r)) (σ 71) 3 (nI (n + 1))) (σ 72) (r * 4 + 0) (cl w)) (σ 72) (r * 4 + 1) (W (361 + 3 * w))) (σ 72) (r * 4 + 2) (W (360 + 3 * w))) (σ 71) 3 = nI (n + 1) := gI_pI _ _ _ _
    have g7 : ∀ j, gA (pA (pA (pA (pI (sA d (σ 72) (opn (gA d (σ 72)) 4 n r)) (σ 71) 3 (nI (n + 1))) (σ 72) (r * 4 + 0) (cl w)) (σ 72) (r * 4 + 1) (W (361 + 3 * w))) (σ 72) (r * 4 + 2) (W (360 + 3 * w))) (σ 72) j = if j = r * 4 + 2 then W (360 + 3 * w) else if j = r * 4 + 1 then W (361 + 3 * w) else if j = r * 4 + 0 then cl w else opn (gA d (σ 72)) 4 n r j := fun j => by
      rw [gA_pA_x, if_pos rfl, gA_pA_x, if_pos rfl, gA_pA_x, if_pos rfl, gA_pI_x, gA_sA]
    generalize pA (pA (pA (pI (sA d (σ 72) (opn (gA d (σ 72)) 4 n r)) (σ 71) 3 (nI (n + 1))) (σ 72) (r * 4 + 0) (cl w)) (σ 72) (r * 4 + 1) (W (361 + 3 * w))) (σ 72) (r * 4 + 2) (W (360 + 3 * w)) = D at n7 g7
    refine ⟨n7, fun j hj => ?_⟩
    have op : ∀ cc, cc < 4 → gA D (σ 72) (j * 4 + cc) = if j < r then gA d (σ 72) (j * 4 + cc) else if j = r then (if cc = 2 then W (360 + 3 * w) else if cc = 1 then W (361 + 3 * w) else if cc = 0 then cl w else 0) else gA d (σ 72) ((j - 1) * 4 + cc) := fun cc hcc => by
      rw [g7]
      by_cases e2 : j = r
      · subst e2
        rw [if_neg (Nat.lt_irrefl j), if_pos rfl]
        by_cases f2 : cc = 2
        · rw [if_pos (by omega), if_pos f2]
        · rw [if_neg (by omega), if_neg f2]
          by_cases f1 : cc = 1
          · rw [if_pos (by omega), if_pos f1]
          · rw [if_neg (by omega), if_neg f1]
            by_cases f0 : cc = 0
            · rw [if_pos (by omega), if_pos f0]
            · rw [if_neg (by omega), if_neg f0]
              unfold opn
              rw [if_neg (by omega), if_pos (by omega)]
      · rw [if_neg (by omega), if_neg (by omega), if_neg (by omega)]
        unfold opn
        by_cases e1 : j < r
        · rw [if_pos (by omega), if_pos e1]
        · rw [if_neg (by omega), if_neg e1, if_neg (by omega), if_neg e2, if_pos (by omega)]; congr 1; omega
    rw [op 0 (by decide), op 1 (by decide), op 2 (by decide), op 3 (by decide), ← er]
    unfold qin
    by_cases e1 : j < r
    · simp only [if_pos e1]
      exact Q.2 j (by omega)
    · by_cases e2 : j = r
      · subst e2
        simp [b2i]
      · simp only [if_neg e1, if_neg e2]
        exact Q.2 (j - 1) (by omega)
  simp only [w_X1_stepIn, x_70_2 h]
  refine ⟨eo_70 h, T_size (te_71 h) td ?_⟩
  refine ⟨n + 1, loopG (S := Int32 × Dy) (l := fun N z => l_X1_stepIn_9 E (σ 70) (W (360 + 3 * w)) (W (361 + 3 * w)) (cl w) K0 N z.1 z.2) (b := fun kk z => b_X1_stepIn_9 E (σ 70) (W (360 + 3 * w)) (W (361 + 3 * w)) (cl w) K0 (fun a b => kk (a, b)) z.1 z.2) (fun _ _ => rfl)
    (μ := fun z => z.1.toNatClampNeg) (P := fun z => d = z.2 ∧ ∃ j, j ≤ n ∧ nI j = z.1 ∧ qps (ahd W cl) q w n = qps (ahd W cl) q w j) ?_ n (nI n, d) ⟨rfl, n, by omega, rfl, rfl⟩ (by simp only [z_nn (show n < 2147483648 by omega)]; omega)⟩
  rintro kk ⟨v, d3⟩ ⟨rfl, j, hj, rfl, hq⟩ hk
  cases j with
  | zero => exact ⟨fun _ => fin 0 hj hq.symm, fun e => absurd (show (nI 0 : Int32) ≤ 0 by decide) e⟩
  | succ j =>
    refine ⟨fun e => ?_, fun _ => ?_⟩
    · rw [show (0 : Int32) = nI 0 from rfl, z_le (by omega) (by omega)] at e; omega
    · rw [z_m1, z_am1]
      refine k_isAhead c Q (by omega) (by omega) ⟨fun e => fin (j + 1) hj ?_, fun e => ?_⟩
      · rw [b2i_0] at e; rw [hq]; unfold qps; rw [if_neg (by rw [e]; decide)]
      · rw [b2i_1] at e
        refine hk (nI j, d) ⟨rfl, j, by omega, rfl, ?_⟩ (by simp only [z_nn (show j + 1 < 2147483648 by omega), z_nn (show j < 2147483648 by omega)]; omega)
        rw [hq]; show (if _ then _ else _) = _; rw [if_pos e]
theorem k_claimOf (c : cW σ E d W np nh) (C : clsR σ 50 np nh d S) {w : Nat} {y : Int32} (hw : w < cnt W 4) (hy : gI d (σ 50) 2 = y) (k : ∀ d', Ch σ [57, 58, 59] d d' → K (clm W S np y w) d') : w_X3_claimOf E (σ 50) (W (360 + 3 * w)) (W (361 + 3 * w)) d K := by
  have h := c.1.1
  have hW := (cW_gW c).2.1
  have tw := (cW_gW c).2.2.1 2 (by decide)
  obtain ⟨p, hp, ep⟩ := wt_p hW hw
  have hpn : p < np := by rw [c.2.2.1]; exact hp
  have h12 := c.2.2.2.2.1
  have ec : cnt W (360 + 3 * w) = p := by unfold cnt; rw [ep, z_nn (by omega)]
  unfold clm at k
  rw [ec] at k
  simp only [w_X3_claimOf, y_8 h rb50, y_0 h rb50]
  refine ⟨eo_50 h, k_inForce (s := 2) c (by decide) (fun q0 => ⟨fun _ => ?_, fun q q2 => nomatch q2⟩) (fun q q0 tx => ⟨fun q2 => (nomatch q2), fun b hb => ?_⟩)⟩
  · have := k d Ch_rf
    rw [if_pos q0] at this; exact this
  · cases hb
    have q0 : W 12 = 1 := q0
    obtain ⟨n, tw⟩ : ∃ n, TW W 2 n := by
      rcases tw with q | ⟨-, q⟩
      · have q : W 12 = 0 := q
        rw [q0] at q; exact absurd q (by decide)
      · exact q
    have hn10 := tw.2.1
    have en : cnt W 2298 = n := by have e : W 2298 = nI n := tw.1; unfold cnt; rw [e, z_nn (by omega)]
    rw [if_neg (by rw [q0]; decide), en] at k
    obtain ⟨-, -, -, -, -, -, ho, -⟩ := id tx
    rw [hy, ep]
    refine ⟨ho, k_knowPerson c rb50 C hpn (fun d2 c2 g2 => k_know (f := 7) h rb50 (by decide) ?_)⟩
    rw [show gI d2 (σ 50) 2 = y from (congrFun (Ch_I c2 (by decide) (by decide)) 2).trans hy]
    have c3 : Ch σ [57, 58, 59] d (pA d2 (σ (50 + 8)) 7 (y - W (361 + 3 * w))) := Ch_tr c2 (know_ch h rb50)
    have g3 : ∀ f, gA (pA d2 (σ (50 + 8)) 7 (y - W (361 + 3 * w))) (σ (50 + 8)) f = if f = 7 then y - W (361 + 3 * w) else gA d2 (σ (50 + 8)) f := fun f => know_g
    generalize pA d2 (σ (50 + 8)) 7 (y - W (361 + 3 * w)) = d4 at c3 g3
    have g4 : ∀ f, f = 1 ∨ f = 2 ∨ f = 3 ∨ f = 7 ∨ f = 8 → gA d4 (σ (50 + 8)) f = clF W S np p y (W (361 + 3 * w)) f := fun f hf => by
      rw [g3, g2]
      rcases hf with rfl | rfl | rfl | rfl | rfl <;> simp [clF, pF]
    have bit : gA d4 (σ (50 + 8)) 8 = 0 ∨ gA d4 (σ (50 + 8)) 8 = 1 := by rw [g4 8 (by omega)]; exact k_bit2 c hpn
    have fa : fAg 2 (gA d4 (σ (50 + 8))) (clF W S np p y (W (361 + 3 * w))) := ⟨fun f hf hb => g4 f (by have := fs2 f hf hb; omega), fun _ => g4 8 (by omega)⟩
    refine k_total (s := 2) h rb50 (Or.inr rfl) (TX_ch tx c3) tw.1 hn10 bit (fun d5 c5 => ?_)
    rw [sum_congr (Or.inr rfl) tw fa n (Nat.le_refl n)]
    exact k d5 (Ch_tr c3 (Ch_w c5 (by decide)))
theorem k_knows (c : cW σ E d W np nh) (C : clsR σ 50 np nh d S) {w : Nat} {y kn : Int32} (hw : w < cnt W 4) (hy : gI d (σ 50) 2 = y) (hkn : gI d (σ 50) 1 = kn) (k : K (b2i (knW W S y kn w)) d) : w_X3_knowsWaiter E (σ 50) (nI w) d K := by
  have h := c.1.1
  have hW := (cW_gW c).2.1
  have h12 := c.2.2.2.2.1
  obtain ⟨p, hp, ep⟩ := wt_p hW hw
  have hpn : p < np := by rw [c.2.2.1]; exact hp
  have ec : cnt W (360 + 3 * w) = p := by unfold cnt; rw [ep, z_nn (by omega)]
  unfold knW at k
  rw [ec] at k
  simp only [w_X3_knowsWaiter, y_0 h rb50, x_1_4 h]
  refine ⟨eo_50 h, k_wt (j := 2) c hw (by decide) ?_⟩
  rw [hkn, show 360 + 3 * w + 2 = 362 + 3 * w by omega]
  refine ⟨fun e => ?_, fun e => k_wt (j := 1) c hw (by decide) ?_⟩
  · rw [show decide (kn < W (362 + 3 * w)) = true from by simpa using e] at k; exact k
  · rw [hy, show 360 + 3 * w + 1 = 361 + 3 * w by omega]
    rw [show decide (kn < W (362 + 3 * w)) = false from by simpa using e] at k
    refine ⟨fun e2 => ?_, fun e2 => k_wt (j := 0) c hw (by decide) ?_⟩
    · rw [show decide (y < W (361 + 3 * w)) = true from by simpa using e2] at k; exact k
    · rw [show decide (y < W (361 + 3 * w)) = false from by simpa using e2] at k
      rw [Nat.add_zero, ep]
      refine k_lives c rb50 C hpn ⟨fun e3 => ?_, fun e3 => ?_⟩
      · rw [b2i_0] at e3; rw [e3] at k; exact k
      · rw [b2i_1] at e3; rw [e3] at k; exact k
theorem k_lineUp (c : cW σ E d W np nh) (C : clsR σ 50 np nh d S) {y kn : Int32} (hy : gI d (σ 50) 2 = y) (hkn : gI d (σ 50) 1 = kn) (k : ∀ d', Ch σ [57, 58, 59, 71, 72] d d' → qC σ W (clm W S np y) d' (quN W S y kn (cnt W 4)) (quQ W S np y kn (cnt W 4)) (fun _ => false) → K0 d') : w_X1_lineUp E (σ 70) d K0 := by
  have h := c.1.1
  have hw10 : cnt W 4 ≤ 10 := by have := (wc_4 c.1).2; rw [c.2.1] at this; exact this
  simp only [w_X1_lineUp, x_70_2 h]
  refine ⟨eo_70 h, T_clear (te_71 h) ?_⟩
  have c0 : Ch σ [57, 58, 59, 71, 72] d (pI d (σ 71) 3 0) := Ch_pI h (by decide) (by decide) (by decide)
  have g0 : gI (pI d (σ 71) 3 0) (σ 71) 3 = nI 0 := gI_pI _ _ _ _
  generalize pI d (σ 71) 3 0 = d0 at c0 g0
  refine ⟨cnt W 4 + 1, loopG (S := Int32 × Dy) (l := fun N z => l_X1_lineUp_9 E (σ 70) K0 N z.1 z.2) (b := fun kk z => b_X1_lineUp_9 E (σ 70) K0 (fun a b => kk (a, b)) z.1 z.2) (fun _ _ => rfl)
    (μ := fun z => cnt W 4 - z.1.toNatClampNeg) (P := fun z => Ch σ [57, 58, 59, 71, 72] d z.2 ∧ ∃ j, j ≤ cnt W 4 ∧ nI j = z.1 ∧ qC σ W (clm W S np y) z.2 (quN W S y kn j) (quQ W S np y kn j) (fun _ => false)) ?_ (cnt W 4) (0, d0) ⟨c0, 0, by omega, rfl, g0, fun j hj => absurd hj (Nat.not_lt_zero _)⟩ (Nat.sub_le _ _)⟩
  rintro kk ⟨v, d3⟩ ⟨c3, j, hj, rfl, Q⟩ hk
  have c3 : Ch σ [57, 58, 59, 71, 72] d d3 := c3
  have Q : qC σ W (clm W S np y) d3 (quN W S y kn j) (quQ W S np y kn j) (fun _ => false) := Q
  have w3 : cW σ E d3 W np nh := ⟨Inv_ch c.1 (Ch_w c3 (by decide)), (Ch_A c3 (by decide) (by decide)).trans c.2.1, c.2.2⟩
  have C3 : clsR σ 50 np nh d3 S := clsR_ch C rb50 c3 (by decide)
  have y3 : gI d3 (σ 50) 2 = y := (congrFun (Ch_I c3 (by decide) (by decide)) 2).trans hy
  have n3 : gI d3 (σ 50) 1 = kn := (congrFun (Ch_I c3 (by decide) (by decide)) 1).trans hkn
  have t8 := td_8 w3.1
  rw [w3.2.1] at t8
  simp only [b_X1_lineUp_9, x_70_0 h, x_70_1 h, x_1_4 h]
  refine T_size (te_8 h) t8 ?_
  rw [z_le (by omega) (by omega), z_a1]
  refine ⟨fun hc => ?_, fun hc => ?_⟩
  · have : j = cnt W 4 := by omega
    subst this; exact k d3 c3 Q
  · have hjn : j < cnt W 4 := by omega
    have nx : ∀ d4, Ch σ [57, 58, 59, 71, 72] d3 d4 → qC σ W (clm W S np y) d4 (quN W S y kn (j + 1)) (quQ W S np y kn (j + 1)) (fun _ => false) → kk (nI (j + 1), d4) := fun d4 c4 Q4 =>
      hk (nI (j + 1), d4) ⟨Ch_tr c3 c4, j + 1, by omega, rfl, Q4⟩ (by simp only [z_nn (show j + 1 < 2147483648 by omega), z_nn (show j < 2147483648 by omega)]; omega)
    refine k_knows w3 C3 hjn y3 n3 ⟨fun e => nx d3 Ch_rf ?_, fun e => k_wt (j := 0) w3 hjn (by decide) (k_wt (j := 1) w3 hjn (by decide) ?_)⟩
    · rw [b2i_0] at e
      show qC σ W _ d3 (if _ then _ else _) (if _ then _ else _) _
      rw [if_neg (by rw [e]; decide), if_neg (by rw [e]; decide)]; exact Q
    · rw [b2i_1] at e
      rw [Nat.add_zero, show 360 + 3 * j + 1 = 361 + 3 * j by omega]
      refine k_claimOf w3 C3 hjn y3 (fun d4 c4 => ?_)
      have hq := quN_le (W := W) (S := S) (y := y) (kn := kn) j
      refine k_stepIn (c789 w3 c4) (qC_ch Q c4 (by decide) (by decide)) (by omega) (fun d5 c5 Q5 => nx d5 (Ch_tr (Ch_w c4 (by decide)) (Ch_w c5 (by decide))) ?_)
      show qC σ W _ d5 (if _ then _ else _) (if _ then _ else _) _
      rw [if_pos e, if_pos e]; exact Q5
end
