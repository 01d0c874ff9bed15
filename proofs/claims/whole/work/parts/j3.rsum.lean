def rcS (σ : Nat → Nat) (d : Dy) (c : Cd) : Prop := gI d (σ 87) 12 = nI c.length ∧ ∀ i x, c[i]? = some x → gA d (σ 88) (4051 + 2 * i) = nI x.1 ∧ gA d (σ 88) (4052 + 2 * i) = nI x.2
def ryS (σ : Nat → Nat) (d d' : Dy) : Prop := Ch σ [87, 88] d d' ∧ (∀ k, k < 4051 → gA d' (σ 88) k = gA d (σ 88) k) ∧ gI d' (σ 87) 0 = gI d (σ 87) 0
/-- the reference stands ahead of the thing at b, and has told c -/
def rtS (σ : Nat → Nat) (d : Dy) (B : Nat → Nat) (tl s dep : Nat) (c : Cd) (b : Nat) : Prop := rfP σ d B tl s ∧ gI d (σ 87) 9 = nI dep ∧ rcS σ d c ∧ ∃ q, q ≤ tl ∧ blk B tl q = b ∧ gI d (σ 87) 6 = nI q
def rKo (σ : Nat → Nat) (d : Dy) (B : Nat → Nat) (tl s dep : Nat) (r : PR) (K : Int32 → Dy → Prop) : Prop := ∀ d', ryS σ d d' → (r.2 = none → gI d' (σ 87) 8 = nI r.1 → K 0 d') ∧ (∀ c', r.2 = some c' → rtS σ d' B tl s dep c' r.1 → K 1 d')
section
variable {σ : Nat → Nat} {E : En} {d0 d d' d2 d3 : Dy} {B : Nat → Nat} {tl s dep b q : Nat} {c : Cd} {r : PR} {K0 : Dy → Prop} {K : Int32 → Dy → Prop}
theorem ry_rf : ryS σ d d := ⟨Ch_rf, fun _ _ => rfl, rfl⟩
theorem ry_tr (a : ryS σ d0 d) (b : ryS σ d d') : ryS σ d0 d' := ⟨Ch_tr a.1 b.1, fun k h => (b.2.1 k h).trans (a.2.1 k h), b.2.2.trans a.2.2⟩
theorem ry_rx (x : rxS σ d d') : ryS σ d d' := ⟨Ch_w x.1 (by decide), fun k _ => by rw [Ch_A x.1 (by decide) (by decide)], x.2 0 (by decide) (by decide)⟩
theorem rK_ry (y : ryS σ d d') (k : rKo σ d B tl s dep r K) : rKo σ d' B tl s dep r K := fun d2 h2 => k d2 (ry_tr y h2)
theorem rK_bad (k : rKo σ d B tl s dep r K) (e : r = (b, none)) (f : gI d (σ 87) 8 = nI b) : K 0 d := by rw [e] at k; exact (k d ry_rf).1 rfl f
theorem rK_good (k : rKo σ d B tl s dep r K) (e : r = (b, some c)) (f : rtS σ d B tl s dep c b) : K 1 d := by rw [e] at k; exact (k d ry_rf).2 c rfl f
theorem rc_rx (x : rxS σ d d') (a : rcS σ d c) : rcS σ d' c := ⟨by rw [x.2 12 (by decide) (by decide)]; exact a.1, by rw [Ch_A x.1 (by decide) (by decide)]; exact a.2⟩
/-- at the thing at b -/
theorem rt_at (a : rtS σ d B tl s dep c b) (x : rxS σ d d') (g6 : gI d' (σ 87) 6 = nI b) : rtS σ d' B tl s dep c b := by
  obtain ⟨a1, a2, a3, q, q1, q2, q3⟩ := a
  exact ⟨rf_rx a1 x, by rw [x.2 9 (by decide) (by decide)]; exact a2, rc_rx x a3, b, by rw [← q2]; exact sk_le q1, by rw [← q2]; exact blk_blk, g6⟩
/-- behind the thing at b -/
theorem rt_af (a : rtS σ d B tl s dep c b) (x : rxS σ d d') (g6 : gI d' (σ 87) 6 = nI (afB B tl b)) : rtS σ d' B tl s dep c (nB B tl b) := by
  obtain ⟨a1, a2, a3, q, q1, q2, q3⟩ := a
  exact ⟨rf_rx a1 x, by rw [x.2 9 (by decide) (by decide)]; exact a2, rc_rx x a3, afB B tl b, af_le (by rw [← q2]; exact sk_le q1), rfl, g6⟩
theorem rt_b (a : rtS σ d B tl s dep c b) : b ≤ tl := by
  obtain ⟨a1, a2, a3, q, q1, q2, q3⟩ := a
  rw [← q2]; exact sk_le q1
theorem rp_passes (h : Env σ E) (a : rtS σ d B tl s dep c b) {t : Nat} (ht : t < 22) (ht0 : 0 < t) (k1 : thB B tl b = ixW t → ∀ d', rxS σ d d' → rtS σ d' B tl s dep c (nB B tl b) → gI d' (σ 87) 8 = nI b → K 1 d') (k0 : ¬ thB B tl b = ixW t → ∀ d', rxS σ d d' → rtS σ d' B tl s dep c b → gI d' (σ 87) 8 = nI b → K 0 d') : w_X11_passes E (σ 87) t d K := by
  obtain ⟨a1, a2, a3, q, q1, q2, q3⟩ := id a
  exact r_passes h a1 ht ht0 q1 q2 q3 (fun e d' x g6 g8 => k1 e d' x (rt_af a x g6) g8) (fun e d' x g6 g8 => k0 e d' x (rt_at a x g6) g8)
theorem rp_sign (h : Env σ E) (a : rtS σ d B tl s dep c b) {t : Nat} (ht : sgB t = true) (k1 : thB B tl b = t → ∀ d', rxS σ d d' → rtS σ d' B tl s dep c (nB B tl b) → gI d' (σ 87) 8 = nI b → K 1 d') (k0 : ¬ thB B tl b = t → ∀ d', rxS σ d d' → rtS σ d' B tl s dep c b → gI d' (σ 87) 8 = nI b → K 0 d') : w_X11_sign E (σ 87) (nI t) d K := by
  obtain ⟨a1, a2, a3, q, q1, q2, q3⟩ := id a
  exact r_sign h a1 ht q1 q2 q3 (fun e d' x g6 g8 => k1 e d' x (rt_af a x g6) g8) (fun e d' x g6 g8 => k0 e d' x (rt_at a x g6) g8)
theorem rp_number (h : Env σ E) (a : rtS σ d B tl s dep c b) {mx : Nat} (hmx : mx < 10000) (k1 : thB B tl b = 30 → vB B tl b ≤ mx → ∀ d', rxS σ d d' → rtS σ d' B tl s dep c (nB B tl b) → gI d' (σ 87) 8 = nI b → K (nI (vB B tl b)) d') (k0 : ¬ (thB B tl b = 30 ∧ vB B tl b ≤ mx) → ∀ d', rxS σ d d' → gI d' (σ 87) 8 = nI b → K (-1) d') : w_X11_number E (σ 87) (nI mx) d K := by
  obtain ⟨a1, a2, a3, q, q1, q2, q3⟩ := id a
  exact r_number h a1 hmx q1 q2 q3 (fun e e2 d' x g6 g8 => k1 e e2 d' x (rt_af a x g6) g8) k0
/-- what a step tells -/
theorem r_emits (h : Env σ E) (a : rcS σ d c) (hc : c.length < 400) {p1 p2 : Int32} (k : ∀ d', ryS σ d d' → (∀ j, j ≠ 12 → gI d' (σ 87) j = gI d (σ 87) j) → (∀ x : Nat × Nat, p1 = nI x.1 → p2 = nI x.2 → rcS σ d' (c ++ [x])) → K0 d') : w_X11_emits E (σ 87) p1 p2 d K0 := by
  obtain ⟨a1, a2⟩ := a
  have e1 : (596 + 851 * 4 + 51 : Int32) + 2 * nI c.length = nI (4051 + 2 * c.length) := by
    rw [show (596 + 851 * 4 + 51 : Int32) = nI 4051 from rfl, show (2 : Int32) = nI 2 from rfl, z_mul, z_add]
  simp only [w_X11_emits, w_X11_textAt, x_87_1 h, en_88 h, a1, e1, z_a1]
  refine ⟨eo_87 h, vpi (by omega) (by decide), vpi (by omega) (by decide), ?_⟩
  rw [z_nn (by omega), z_nn (by omega), gI_pA, gI_pA, a1, z_a1]
  have cell : ∀ j, gA (pI (pA (pA d (σ 88) (4051 + 2 * c.length) p1) (σ 88) (4051 + 2 * c.length + 1) p2) (σ 87) 12 (nI (c.length + 1))) (σ 88) j = if j = 4051 + 2 * c.length + 1 then p2 else if j = 4051 + 2 * c.length then p1 else gA d (σ 88) j := fun j => by
    rw [gA_pI, gA_pA]; dsimp only; rw [gA_pA]
  refine k _ ⟨Ch_tr (Ch_tr (Ch_pA h (by decide) (by decide)) (Ch_pA h (by decide) (by decide))) (Ch_pI h (by decide) (by decide) (by decide)), fun j hj => ?_, gI_pI_k _ _ _ (by decide)⟩ (fun j hj => gI_pI_k _ _ _ hj) (fun x h1 h2 => ⟨by rw [gI_pI, List.length_append]; rfl, fun i y hy => ?_⟩)
  · rw [cell, if_neg (by omega), if_neg (by omega)]
  · rw [cell, cell]
    by_cases e : i = c.length
    · subst e
      rw [List.getElem?_append_right (Nat.le_refl _), Nat.sub_self] at hy
      cases hy
      rw [if_neg (by omega), if_pos rfl, if_pos (by omega)]
      exact ⟨h1, h2⟩
    · by_cases l : i < c.length
      · rw [List.getElem?_append_left l] at hy
        rw [if_neg (by omega), if_neg (by omega), if_neg (by omega), if_neg (by omega)]
        exact a2 i y hy
      · rw [List.getElem?_append_right (by omega)] at hy
        rw [List.getElem?_eq_none (by show 1 ≤ _; omega)] at hy; exact nomatch hy
theorem rp_emits (h : Env σ E) (a : rtS σ d B tl s dep c b) (hc : c.length < 400) {x : Nat × Nat} (k : ∀ d', ryS σ d d' → rtS σ d' B tl s dep (c ++ [x]) b → K0 d') : w_X11_emits E (σ 87) (nI x.1) (nI x.2) d K0 := by
  obtain ⟨⟨r1, r2, r3, r4, r5, r6⟩, a2, a3, q, q1, q2, q3⟩ := id a
  refine r_emits h a3 hc (fun d' y e hx => k d' y ⟨⟨r1, r2, r3, ?_, ?_, ?_⟩, ?_, hx x rfl rfl, q, q1, q2, ?_⟩)
  · rw [e 7 (by decide)]; exact r4
  · rw [e 13 (by decide)]; exact r5
  · rw [Ch_A y.1 (by decide) (by decide)]; exact r6
  · rw [e 9 (by decide)]; exact a2
  · rw [e 6 (by decide)]; exact q3
theorem fs_tab : (∀ s, s < 4 → ((fsB s 3 = true) ∧ (fsB s 0 = true ↔ s = 0 ∨ s = 1) ∧ (fsB s 1 = true ↔ s = 0 ∨ s = 2) ∧ (fsB s 2 = true ↔ s = 0 ∨ s = 2) ∧ (fsB s 4 = true ↔ s ≠ 2) ∧ (fsB s 5 = true ↔ s = 1 ∨ s = 3) ∧ (fsB s 6 = true ↔ s = 1) ∧ (fsB s 7 = true ↔ s = 2))) := by decide
theorem r_factAt (h : Env σ E) (r : rfP σ d B tl s) (hb : b ≤ tl) (g6 : gI d (σ 87) 6 = nI (skG B tl 97 122 b)) (g8 : gI d (σ 87) 8 = nI b) (k1 : isF s (thB B tl b) = true → K (nI (thB B tl b)) d) (k0 : isF s (thB B tl b) = false → K (-1) d) : w_X11_factAt E (σ 87) d K := by
  have r5 := r.2.2.2.2.1
  have hs := r.2.2.1
  obtain ⟨f3, f0, f1, f2, f4, f5, f6, f7⟩ := fs_tab s hs
  have w : ∀ (t i : Nat) (ht : t < 22) (ht0 : 0 < t) (e : ixW t = i) {K2 : Int32 → Dy → Prop}, (thB B tl b = i → K2 1 d) → (¬ thB B tl b = i → K2 0 d) → w_X11_isWord E (σ 87) t d K2 := fun t i ht ht0 e K2 a1 a0 => by
    subst e
    have tw := th_wd (B := B) hb (ix_ln t ht ht0).2.2
    exact r_isWord h r ht ht0 sk_ge (sk_le hb) g6 g8 (fun m => a1 (tw.1.mp m)) (fun m => a0 (fun q => by rw [tw.1.mpr q] at m; exact nomatch m))
  have e0 : ∀ i, i < 4 → (gI d (σ 87) 13 = nI i ↔ s = i) := fun i hi => by rw [r5, z_eq (by omega) (by omega)]
  have g0 : gI d (σ 87) 13 = 0 ↔ s = 0 := e0 0 (by decide)
  have g1 : gI d (σ 87) 13 = 1 ↔ s = 1 := e0 1 (by decide)
  have g2 : gI d (σ 87) 13 = 2 ↔ s = 2 := e0 2 (by decide)
  have g3 : gI d (σ 87) 13 = 3 ↔ s = 3 := e0 3 (by decide)
  have yes : ∀ i, i < 8 → thB B tl b = i → fsB s i = true → K (nI i) d := fun i hi e f => by
    rw [← e]; refine k1 ?_; rw [e]; unfold isF; rw [decide_eq_true hi, f]; rfl
  have no : ∀ i, i < 8 → thB B tl b = i → ¬ fsB s i = true → K (-1) d := fun i hi e f => by
    refine k0 ?_; rw [e]; unfold isF; cases z : fsB s i
    · rw [Bool.and_false]
    · exact absurd z f
  have b21 : ∀ s0 : Int32, (¬ s0 = 0 ↔ s = 1 ∨ s = 3) → b_X11_factAt_21 E (σ 87) K s0 d := fun s0 hs0 => by
    refine w 9 3 (by decide) (by decide) rfl (fun a => ⟨fun q => absurd q (by decide), fun _ => yes 3 (by decide) a f3⟩) (fun n3 => ⟨fun _ => ?_, fun q => absurd rfl q⟩)
    refine w 10 0 (by decide) (by decide) rfl (fun a => ⟨fun q => absurd q (by decide), fun _ => ⟨fun q => yes 0 (by decide) a (f0.mpr (Or.inl (g0.mp q))), fun q => ⟨fun q2 => no 0 (by decide) a (fun y => ?_), fun q2 => yes 0 (by decide) a (f0.mpr (Or.inr (g1.mp q2)))⟩⟩⟩) (fun n0 => ⟨fun _ => ?_, fun q => absurd rfl q⟩)
    · rcases f0.mp y with y | y
      · exact q (g0.mpr y)
      · exact q2 (g1.mpr y)
    refine w 11 1 (by decide) (by decide) rfl (fun a => ⟨fun q => absurd q (by decide), fun _ => ⟨fun q => yes 1 (by decide) a (f1.mpr (Or.inl (g0.mp q))), fun q => ⟨fun q2 => no 1 (by decide) a (fun y => ?_), fun q2 => yes 1 (by decide) a (f1.mpr (Or.inr (g2.mp q2)))⟩⟩⟩) (fun n1 => ⟨fun _ => ?_, fun q => absurd rfl q⟩)
    · rcases f1.mp y with y | y
      · exact q (g0.mpr y)
      · exact q2 (g2.mpr y)
    refine w 12 2 (by decide) (by decide) rfl (fun a => ⟨fun q => absurd q (by decide), fun _ => ⟨fun q => yes 2 (by decide) a (f2.mpr (Or.inl (g0.mp q))), fun q => ⟨fun q2 => no 2 (by decide) a (fun y => ?_), fun q2 => yes 2 (by decide) a (f2.mpr (Or.inr (g2.mp q2)))⟩⟩⟩) (fun n2 => ⟨fun _ => ?_, fun q => absurd rfl q⟩)
    · rcases f2.mp y with y | y
      · exact q (g0.mpr y)
      · exact q2 (g2.mpr y)
    refine w 13 4 (by decide) (by decide) rfl (fun a => ⟨fun q => absurd q (by decide), fun _ => ⟨fun q => yes 4 (by decide) a (f4.mpr (fun y => q (g2.mpr y))), fun q => no 4 (by decide) a (fun y => f4.mp y (g2.mp q))⟩⟩) (fun n4 => ⟨fun _ => ?_, fun q => absurd rfl q⟩)
    refine w 14 5 (by decide) (by decide) rfl (fun a => ⟨fun q => absurd q (by decide), fun _ => ⟨fun q => no 5 (by decide) a (fun y => hs0.mpr (f5.mp y) q), fun q => yes 5 (by decide) a (f5.mpr (hs0.mp q))⟩⟩) (fun n5 => ⟨fun _ => ?_, fun q => absurd rfl q⟩)
    refine w 15 6 (by decide) (by decide) rfl (fun a => ⟨fun q => absurd q (by decide), fun _ => ⟨fun q => no 6 (by decide) a (fun y => q (g1.mpr (f6.mp y))), fun q => yes 6 (by decide) a (f6.mpr (g1.mp q))⟩⟩) (fun n6 => ⟨fun _ => ?_, fun q => absurd rfl q⟩)
    refine w 16 7 (by decide) (by decide) rfl (fun a => ⟨fun q => absurd q (by decide), fun _ => ⟨fun q => no 7 (by decide) a (fun y => q (g2.mpr (f7.mp y))), fun q => yes 7 (by decide) a (f7.mpr (g2.mp q))⟩⟩) (fun n7 => ⟨fun _ => ?_, fun q => absurd rfl q⟩)
    refine k0 ?_
    unfold isF
    rw [decide_eq_false (by omega)]; rfl
  refine ⟨eo_87 h, fun q => b21 1 ⟨fun _ => Or.inl (g1.mp q), fun _ => by decide⟩, fun q => ⟨fun q2 => b21 0 ⟨fun y => absurd rfl y, fun y => ?_⟩, fun q2 => b21 1 ⟨fun _ => Or.inr (g3.mp q2), fun _ => by decide⟩⟩⟩
  rcases y with y | y
  · exact absurd (g1.mpr y) q
  · exact absurd (g3.mpr y) q2
theorem isF_lt {t : Nat} (h : isF s t = true) : t < 8 := by unfold isF at h; simp only [Bool.and_eq_true, decide_eq_true_eq] at h; exact h.1
theorem r_part (h : Env σ E) (a : rtS σ d B tl s dep c b) (hc : c.length + 1 ≤ b) (k0 : pPt B tl s b = none → ∀ d', ryS σ d d' → gI d' (σ 87) 8 = nI b → K 0 d') (k1 : ∀ x, pPt B tl s b = some x → ∀ d', ryS σ d d' → rtS σ d' B tl s dep (c ++ [x]) (nB B tl b) → K 1 d') : w_X11_readPart E (σ 87) d K := by
  have hb := rt_b a
  obtain ⟨a1, a2, a3, q, q1, q2, q3⟩ := id a
  have h400 := a1.1
  have hB := a1.2.1
  have lc : c.length < 400 := by omega
  refine ⟨eo_87 h, r_letters h a1 q1 q3 (fun d1 x1 a6 a8 => ?_)⟩
  rw [q2] at a6 a8
  have hsl := sk_le (B := B) (lo := 97) (hi := 122) hb
  have hsg := sk_ge (B := B) (tl := tl) (lo := 97) (hi := 122) (p := b)
  rw [a6, a8]
  refine ⟨fun z => ?_, fun z => ?_⟩
  · have z : skG B tl 97 122 b = b := by have := (z_le (by omega) (by omega)).mp z; omega
    have at1 := rt_at a x1 (by rw [a6, z])
    have nf : isF s (thB B tl b) = false := by
      cases f : isF s (thB B tl b)
      · rfl
      · have f8 := isF_lt f
        have := th_wd (B := B) hb (show thB B tl b < 21 by omega)
        have m := this.1.mpr rfl
        unfold mtc at m
        simp only [Bool.and_eq_true, decide_eq_true_eq] at m
        have := wd_ne (thB B tl b) (by omega)
        omega
    refine rp_number (mx := 9999) h at1 (by decide) (fun e1 e2 d2 x2 b2 g8 => ?_) (fun e d2 x2 g8 => ?_)
    · refine rp_emits (x := (9, vB B tl b)) h b2 lc (fun d3 y3 b3 => ⟨fun w => absurd w (z_pos ?_), fun _ => ?_⟩)
      · have := vB_lt hB e1; omega
      · exact k1 (9, vB B tl b) (by unfold pPt; rw [if_pos e1]) d3 (ry_tr (ry_rx (rx_tr x1 x2)) y3) b3
    · refine r_emits h (rc_rx (rx_tr x1 x2) a3) lc (fun d3 y3 e3 _ => ⟨fun _ => ?_, fun w => absurd (by decide) w⟩)
      refine k0 ?_ d3 (ry_tr (ry_rx (rx_tr x1 x2)) y3) (by rw [e3 8 (by decide)]; exact g8)
      unfold pPt
      rw [if_neg (fun w => e ⟨w, by have := vB_lt hB w; omega⟩), if_neg (by rw [nf]; decide)]
  · have z : b < skG B tl 97 122 b := by
      by_cases w : b < skG B tl 97 122 b
      · exact w
      · exact absurd ((z_le (by omega) (by omega)).mpr (by omega)) z
    have n30 : ¬ thB B tl b = 30 := by
      rcases th_cs (B := B) hb with ⟨_, _, _, h2, _⟩ | ⟨_, _, _, h2, _⟩ | ⟨_, h1, _, _, _⟩ | ⟨_, _, h2, _, _⟩
      · omega
      · omega
      · rw [h1]; exact tw_ne30 wdC 0 (by decide)
      · omega
    refine r_factAt h (rf_rx a1 x1) hb a6 a8 (fun f => ?_) (fun f => ?_)
    · have f8 := isF_lt f
      have ea := (th_wd (B := B) hb (show thB B tl b < 21 by omega)).2 rfl
      have b1 := rt_af a x1 (by rw [a6, ea])
      refine rp_emits (x := (thB B tl b, 0)) h b1 lc (fun d3 y3 b3 => ⟨fun w => absurd w (z_pos (by omega)), fun _ => ?_⟩)
      exact k1 (thB B tl b, 0) (by unfold pPt; rw [if_neg n30, if_pos f]) d3 (ry_tr (ry_rx x1) y3) b3
    · refine r_emits h (rc_rx x1 a3) lc (fun d3 y3 e3 _ => ⟨fun _ => ?_, fun w => absurd (by decide) w⟩)
      refine k0 ?_ d3 (ry_tr (ry_rx x1) y3) (by rw [e3 8 (by decide)]; exact a8)
      unfold pPt
      rw [if_neg n30, if_neg (by rw [f]; decide)]
def smT (B : Nat → Nat) (tl s n : Nat) (c : Cd) (b : Nat) : PR := if thB B tl b = 43 then pSm B tl s n false c (nB B tl b) else (b, some c)
theorem pSm_n {n : Nat} {o : Bool} (h : pPt B tl s b = none) : pSm B tl s (n + 1) o c b = (b, none) := by
  show (match pPt B tl s b with | none => _ | some x => _) = _
  rw [h]
theorem pSm_s {n : Nat} {o : Bool} {x : Nat × Nat} (h : pPt B tl s b = some x) : pSm B tl s (n + 1) o c b = smT B tl s n (if o = true then c ++ [x] else c ++ [x] ++ [(10, 0)]) (nB B tl b) := by
  show (match pPt B tl s b with | none => _ | some x => _) = _
  rw [h]; rfl
theorem r_sumL (h : Env σ E) : ∀ n c b d, rtS σ d B tl s dep c b → tl + 1 ≤ b + n → c.length + 1 ≤ b → rKo σ d B tl s dep (smT B tl s n c b) K → l_X11_readSum_9 E (σ 87) K (n + 1) d := by
  intro n
  induction n with
  | zero => intro c b d a hn; have := rt_b a; omega
  | succ n ihn =>
    intro c b d a hn hc k
    have hb := rt_b a
    have h400 := a.1.1
    show b_X11_readSum_9 E (σ 87) K (l_X11_readSum_9 E (σ 87) K (n + 1)) d
    refine rp_sign (t := 43) h a rfl (fun e d1 x1 a1 g8 => ⟨fun w => absurd w (by decide), fun _ => ?_⟩) (fun e d1 x1 a1 g8 => ⟨fun _ => ?_, fun w => absurd rfl w⟩)
    · have g1 := nB_gt2 (B := B) (tl := tl) (b := b) (by rw [e]; decide)
      have k := rK_ry (ry_rx x1) k
      unfold smT at k
      rw [if_pos e] at k
      refine r_part h a1 (by omega) (fun e2 d2 y2 f2 => ⟨fun w => absurd rfl w, fun _ => ?_⟩) (fun x e2 d2 y2 a2 => ⟨fun _ => ?_, fun w => absurd w (by decide)⟩)
      · rw [pSm_n e2] at k
        exact rK_bad (rK_ry y2 k) rfl f2
      · rw [pSm_s e2, if_neg (by decide)] at k
        have g2 := nB_gt2 (pPt_ne e2)
        refine rp_emits (x := (10, 0)) h a2 (by rw [List.length_append]; have := nB_le (B := B) hb; have := nB_le (B := B) this; show c.length + 1 < 400; omega) (fun d3 y3 a3 => ihn _ _ d3 a3 (by omega) ?_ (rK_ry (ry_tr y2 y3) k))
        rw [List.length_append, List.length_append]; show c.length + 1 + 1 + 1 ≤ _; omega
    · have k := rK_ry (ry_rx x1) k
      unfold smT at k
      rw [if_neg e] at k
      exact rK_good k rfl a1
theorem r_sum (h : Env σ E) (a : rtS σ d B tl s dep c b) (hc : c.length + 1 ≤ b) (k : rKo σ d B tl s dep (pSm B tl s 401 true c b) K) : w_X11_readSum E (σ 87) d K := by
  have h400 := a.1.1
  refine ⟨eo_87 h, r_part h a hc (fun e d1 y1 f1 => ⟨fun w => absurd rfl w, fun _ => ?_⟩) (fun x e d1 y1 a1 => ⟨fun _ => ⟨401, ?_⟩, fun w => absurd w (by decide)⟩)⟩
  · rw [pSm_n e] at k
    exact rK_bad (rK_ry y1 k) rfl f1
  · rw [pSm_s e, if_pos rfl] at k
    have g2 := nB_gt2 (pPt_ne e)
    exact r_sumL h 400 _ _ d1 a1 (by omega) (by rw [List.length_append]; show c.length + 1 + 1 ≤ _; omega) (rK_ry y1 k)
end
