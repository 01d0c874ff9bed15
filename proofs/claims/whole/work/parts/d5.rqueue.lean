/-! those who wait: the reference's order -/
def qR (σ : Nat → Nat) (W : Nat → Int32) (cl : Nat → Int32) (y : Int32) (d : Dy) (n : Nat) (q : Nat → Nat) (tk : Nat → Bool) : Prop :=
  gI d (σ 87) 29 = nI n ∧ ∀ j, j < n → gA d (σ 103) j = (if tk j = true then -1 else W (360 + 3 * q j)) ∧ gA d (σ 104) j = cl (q j) ∧ gA d (σ 105) j = y - W (361 + 3 * q j)
def orL : List Nat := [87, 92, 93, 103, 104, 105]
section
variable {σ : Nat → Nat} {E : En} {d d' d2 d3 : Dy} {W : Nat → Int32} {np nh L n : Nat} {S : RS} {K : Int32 → Dy → Prop} {K0 : Dy → Prop} {cl : Nat → Int32} {q : Nat → Nat} {tk : Nat → Bool} {kc : En → Dy → Prop}
theorem qR_ch {P : List Nat} {y : Int32} (Q : qR σ W cl y d n q tk) (c : Ch σ P d d') (h : 87 ∉ P ∧ 103 ∉ P ∧ 104 ∉ P ∧ 105 ∉ P) : qR σ W cl y d' n q tk := by
  unfold qR; rw [Ch_I c (by decide) h.1, Ch_A c (by decide) h.2.1, Ch_A c (by decide) h.2.2.1, Ch_A c (by decide) h.2.2.2]; exact Q
/-- where a new one is being put in: place m is free -/
def qH (σ : Nat → Nat) (W : Nat → Int32) (cl : Nat → Int32) (y : Int32) (d : Dy) (n m : Nat) (q : Nat → Nat) : Prop :=
  gI d (σ 87) 29 = nI n ∧ ∀ j, j ≤ n → j ≠ m → gA d (σ 103) j = W (360 + 3 * qin q m 0 j) ∧ gA d (σ 104) j = cl (qin q m 0 j) ∧ gA d (σ 105) j = y - W (361 + 3 * qin q m 0 j)
theorem r_isAhead (h : Env σ E) (hW : WI W) {Y w m : Nat} (hY : Y ≤ 2099) (hw : w < cnt W 4) (hm : m < 10) {v : Nat} (hv : v < cnt W 4) (sw : ¬ nI Y < W (361 + 3 * w)) (sv : ¬ nI Y < W (361 + 3 * v))
    (g1 : gA d (σ 103) m = W (360 + 3 * v)) (g2 : gA d (σ 104) m = cl v) (g3 : gA d (σ 105) m = nI Y - W (361 + 3 * v)) (k : K (b2i (ahd W cl w v)) d) : w_X11_isAhead E (σ 87) (W (360 + 3 * w)) (cl w) (nI Y - W (361 + 3 * w)) (nI m) d K := by
  obtain ⟨a, ha1, ha2, ea⟩ := wt_s hW hw
  obtain ⟨b, hb1, hb2, eb⟩ := wt_s hW hv
  simp only [w_X11_isAhead, x_87_26 h, x_87_27 h, x_87_28 h, en_103 h, en_104 h, en_105 h, z_nn (show m < 2147483648 by omega), g1, g2, g3]
  unfold ahd at k
  simp only [ea, eb, z_eq (show a < 2147483648 by omega) (show b < 2147483648 by omega), z_lt (show a < 2147483648 by omega) (show b < 2147483648 by omega)] at k
  rw [ea, z_lt (by omega) (by omega)] at sw
  rw [eb, z_lt (by omega) (by omega)] at sv
  rw [ea, eb, z_sub (by omega), z_sub (by omega), z_eq (by omega) (by omega), z_le (by omega) (by omega)]
  refine ⟨eo_87 h, vpi hm (by decide), fun e => ⟨vpi hm (by decide), fun e2 => ⟨vpi hm (by decide), fun e3 => ?_, fun e3 => ?_⟩, fun e2 => ⟨vpi hm (by decide), fun e3 => ?_, fun e3 => ?_⟩⟩, fun e => ⟨vpi hm (by decide), fun e3 => ?_, fun e3 => ?_⟩⟩
  · rw [if_pos e, if_pos (by omega), show decide (W (360 + 3 * w) < W (360 + 3 * v)) = false from by simpa using e3] at k; exact k
  · rw [if_pos e, if_pos (by omega), show decide (W (360 + 3 * w) < W (360 + 3 * v)) = true from by simpa using e3] at k; exact k
  · rw [if_pos e, if_neg (by omega), show decide (a < b) = false from by simp; omega] at k; exact k
  · rw [if_pos e, if_neg (by omega), show decide (a < b) = true from by simp; omega] at k; exact k
  · rw [if_neg e, show decide (cl v < cl w) = false from by simpa using e3] at k; exact k
  · rw [if_neg e, show decide (cl v < cl w) = true from by simpa using e3] at k; exact k
theorem or_ch (h : Env σ E) {i k : Nat} {x : Int32} (hi : i ∈ orL) : Ch σ orL d (pA d (σ i) k x) := Ch_pA h ((by decide : ∀ i ∈ orL, i < 116) i hi) hi
theorem r_put (h : Env σ E) (hW : WI W) {Y w : Nat} (hY : Y ≤ 2099) (hw : w < cnt W 4) (sw : ¬ nI Y < W (361 + 3 * w)) (hq : ∀ j, j < n → q j < cnt W 4 ∧ ¬ nI Y < W (361 + 3 * q j)) (hn : n < 10) {y2 v3 : Int32} {k7 : Int32 → Dy → Prop} (Q : qR σ W cl (nI Y) d n q (fun _ => false))
    (k : ∀ d', Ch σ orL d d' → gI d' (σ 87) 0 = gI d (σ 87) 0 → qR σ W cl (nI Y) d' (n + 1) (qin q (qps (ahd W cl) q w n) w) (fun _ => false) → k7 (v3 + 1) d') : ∃ N, l_X11_orders_167 E (σ 87) (nI Y) y2 K0 k7 N v3 (W (360 + 3 * w)) (nI Y - W (361 + 3 * w)) (cl w) (gI d (σ 87) 29) d := by
  have fn9 : ∀ m d3, m ≤ n → m = qps (ahd W cl) q w n → Ch σ orL d d3 → gI d3 (σ 87) 0 = gI d (σ 87) 0 → qH σ W cl (nI Y) d3 n m q → b_X11_orders_243 E (σ 87) (nI Y) y2 K0 k7 v3 (W (360 + 3 * w)) (nI Y - W (361 + 3 * w)) (cl w) (nI m) d3 := fun m d3 hm em c3 t3 hH => by
    simp only [b_X11_orders_243, x_87_26 h, x_87_27 h, x_87_28 h, en_103 h, en_104 h, en_105 h, z_nn (show m < 2147483648 by omega), gI_pA_x]
    refine ⟨vpi (by omega) (by decide), vpi (by omega) (by decide), vpi (by omega) (by decide), ?_⟩
    rw [hH.1, z_a1]
    refine k _ (Ch_tr c3 (Ch_tr (or_ch h (by decide)) (Ch_tr (or_ch h (by decide)) (Ch_tr (or_ch h (by decide)) (Ch_pI h (by decide) (by decide) (by decide)))))) ?_ ⟨gI_pI _ _ _ _, fun j hj => ?_⟩
    · rw [gI_pI_k _ _ _ (by decide)]; exact t3
    · rw [← em]
      simp only [gA_pA_x, gA_pI_x, gA_pJ_x, gA_sA_x, gA_pQ_x, gI_pA_x, gI_pI_x, gI_pJ_x, gI_sA_x, gI_pQ_x, gJ_pA_x, gJ_pI_x, gJ_pJ_x, gJ_sA_x, gJ_pQ_x, gQ_pA_x, gQ_pI_x, gQ_pJ_x, gQ_sA_x, gQ_pQ_x, gA_sJ_x, gI_sJ_x, gJ_sJ_x, gQ_sJ_x, sg h, Nat.reduceLT, Nat.reduceEqDiff, if_false, if_true]
      by_cases e : j = m
      · subst e; simp [qin]
      · rw [if_neg e, if_neg e, if_neg e]
        have := hH.2 j (by omega) e
        have e2 : qin q m w j = qin q m 0 j := by unfold qin; rw [if_neg e, if_neg e]
        rw [e2, if_neg (by decide)]; exact this
  rw [Q.1]
  refine ⟨n + 1, loopG (S := Int32 × Int32 × Int32 × Int32 × Int32 × Dy) (l := fun N z => l_X11_orders_167 E (σ 87) (nI Y) y2 K0 k7 N z.1 z.2.1 z.2.2.1 z.2.2.2.1 z.2.2.2.2.1 z.2.2.2.2.2) (b := fun kk z => b_X11_orders_167 E (σ 87) (nI Y) y2 K0 k7 (fun a b c e f g => kk (a, b, c, e, f, g)) z.1 z.2.1 z.2.2.1 z.2.2.2.1 z.2.2.2.2.1 z.2.2.2.2.2) (fun _ _ => rfl)
    (μ := fun z => z.2.2.2.2.1.toNatClampNeg) (P := fun z => v3 = z.1 ∧ W (360 + 3 * w) = z.2.1 ∧ nI Y - W (361 + 3 * w) = z.2.2.1 ∧ cl w = z.2.2.2.1 ∧ ∃ j, j ≤ n ∧ nI j = z.2.2.2.2.1 ∧ qps (ahd W cl) q w n = qps (ahd W cl) q w j ∧ Ch σ orL d z.2.2.2.2.2 ∧ gI z.2.2.2.2.2 (σ 87) 0 = gI d (σ 87) 0 ∧ qH σ W cl (nI Y) z.2.2.2.2.2 n j q) ?_ n (v3, W (360 + 3 * w), nI Y - W (361 + 3 * w), cl w, nI n, d) ⟨rfl, rfl, rfl, rfl, n, by omega, rfl, rfl, Ch_rf, rfl, Q.1, fun j hj hn => ?_⟩ (by simp only [z_nn (show n < 2147483648 by omega)]; omega)⟩
  · rintro kk ⟨a1, a2, a3, a4, v, d3⟩ ⟨e_1, e_2, e_3, e_4, j, hj, e_5, eq, c3, t3, hH⟩ hk
    subst e_1 e_2 e_3 e_4 e_5
    have c3 : Ch σ orL d d3 := c3
    have t3 : gI d3 (σ 87) 0 = gI d (σ 87) 0 := t3
    have hH : qH σ W cl (nI Y) d3 n j q := hH
    cases j with
    | zero => exact ⟨fun _ => fn9 0 d3 hj eq.symm c3 t3 hH, fun e => absurd (show (nI 0 : Int32) ≤ 0 by decide) e⟩
    | succ j =>
      refine ⟨fun e => ?_, fun _ => ?_⟩
      · rw [show (0 : Int32) = nI 0 from rfl, z_le (by omega) (by omega)] at e; omega
      · simp only [x_87_26 h, x_87_27 h, x_87_28 h, en_103 h, en_104 h, en_105 h]
        rw [z_m1, z_am1]
        obtain ⟨h1, h2, h3⟩ := hH.2 j (by omega) (by omega)
        have ej : qin q (j + 1) 0 j = q j := by unfold qin; rw [if_pos (by omega)]
        rw [ej] at h1 h2 h3
        refine r_isAhead h hW hY hw (by omega) (hq j (by omega)).1 sw (hq j (by omega)).2 h1 h2 h3 ⟨fun e => fn9 (j + 1) d3 hj ?_ c3 t3 hH, fun e => ?_⟩
        · rw [b2i_0] at e; rw [eq]; unfold qps; rw [if_neg (by rw [e]; decide)]
        · rw [b2i_1] at e
          simp only [z_nn (show j + 1 < 2147483648 by omega), z_nn (show j < 2147483648 by omega)]
          refine ⟨vpi (by omega) (by decide), vpi (by omega) (by decide), vpi (by omega) (by decide), vpi (by omega) (by decide), vpi (by omega) (by decide), vpi (by omega) (by decide), ?_⟩
          have n34 : ¬ σ 104 = σ 103 := Env_ne h (by decide) (by decide) (by decide)
          have n35 : ¬ σ 105 = σ 103 := Env_ne h (by decide) (by decide) (by decide)
          have n45 : ¬ σ 105 = σ 104 := Env_ne h (by decide) (by decide) (by decide)
          rw [gA_pA_ne _ _ _ n34, gA_pA_ne _ _ _ n45, gA_pA_ne _ _ _ n35, h1, h2, h3]
          refine hk (v3, W (360 + 3 * w), nI Y - W (361 + 3 * w), cl w, nI j, _) ⟨rfl, rfl, rfl, rfl, j, by omega, rfl, ?_, Ch_tr c3 (Ch_tr (or_ch h (by decide)) (Ch_tr (or_ch h (by decide)) (or_ch h (by decide)))), t3, hH.1, fun i hi hne => ?_⟩ (by simp only [z_nn (show j + 1 < 2147483648 by omega), z_nn (show j < 2147483648 by omega)]; omega)
          · rw [eq]; show (if _ then _ else _) = _; rw [if_pos e]
          · simp only [gA_pA_x, gA_pI_x, gA_pJ_x, gA_sA_x, gA_pQ_x, gI_pA_x, gI_pI_x, gI_pJ_x, gI_sA_x, gI_pQ_x, gJ_pA_x, gJ_pI_x, gJ_pJ_x, gJ_sA_x, gJ_pQ_x, gQ_pA_x, gQ_pI_x, gQ_pJ_x, gQ_sA_x, gQ_pQ_x, gA_sJ_x, gI_sJ_x, gJ_sJ_x, gQ_sJ_x, sg h, Nat.reduceLT, Nat.reduceEqDiff, if_false, if_true]
            by_cases e2 : i = j + 1
            · subst e2
              have e3 : qin q j 0 (j + 1) = q j := by unfold qin; rw [if_neg (by omega), if_neg (by omega)]; rfl
              rw [if_pos rfl, if_pos rfl, if_pos rfl, e3]; exact ⟨rfl, rfl, rfl⟩
            · have e3 : qin q j 0 i = qin q (j + 1) 0 i := by
                unfold qin
                by_cases e4 : i < j
                · rw [if_pos e4, if_pos (by omega)]
                · rw [if_neg e4, if_neg hne, if_neg (by omega), if_neg e2]
              rw [if_neg e2, if_neg e2, if_neg e2, e3]
              exact hH.2 i hi e2
  · have e : qin q n 0 j = q j := by unfold qin; rw [if_pos (by omega)]
    rw [e]
    simpa using Q.2 j (by omega)
end
