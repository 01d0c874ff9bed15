theorem i_nat (v : Int32) : ∃ m : Nat, v = nI m := ⟨v.toBitVec.toNat, by
  apply Int32.toBitVec_inj.mp
  show v.toBitVec = BitVec.ofNat 32 v.toBitVec.toNat
  simp⟩
def rlS (σ : Nat → Nat) (d : Dy) (ls : List Ln) : Prop := ∀ i l, ls[i]? = some l → gA d (σ 88) (4001 + 5 * i) = l.1.1 ∧ gA d (σ 88) (4001 + 5 * i + 1) = l.1.2.1 ∧ gA d (σ 88) (4001 + 5 * i + 2) = l.1.2.2 ∧ gA d (σ 88) (4001 + 5 * i + 3) = nI l.2.1 ∧ gA d (σ 88) (4001 + 5 * i + 4) = nI l.2.2
/-- what lies ahead of the row n stays -/
def ruS (σ : Nat → Nat) (n : Nat) (d d' : Dy) : Prop := Ch σ [87, 88] d d' ∧ (∀ k, k < 4001 + 5 * n → gA d' (σ 88) k = gA d (σ 88) k) ∧ gI d' (σ 87) 0 = gI d (σ 87) 0
/-- a word has been read -/
def rwS (σ : Nat → Nat) (d : Dy) (B : Nat → Nat) (tl s dep : Nat) (c : Cd) (b : Nat) : Prop := rfP σ d B tl s ∧ gI d (σ 87) 9 = nI dep ∧ rcS σ d c ∧ b ≤ tl ∧ gI d (σ 87) 6 = nI (skG B tl 97 122 b) ∧ gI d (σ 87) 8 = nI b
def rhK (σ : Nat → Nat) (n : Nat) (d : Dy) (B : Nat → Nat) (tl s dep : Nat) (c : Cd) (R : Nat × Option Hd) (K : Int32 → Dy → Prop) : Prop := ∀ d', ruS σ n d d' → (R.2 = none → gI d' (σ 87) 8 = nI R.1 → K 0 d') ∧ (∀ r, R.2 = some r → rtS σ d' B tl s dep c R.1 → gA d' (σ 88) (4001 + 5 * n) = r.1 ∧ gA d' (σ 88) (4001 + 5 * n + 1) = r.2.1 ∧ gA d' (σ 88) (4001 + 5 * n + 2) = r.2.2 → K 1 d')
section
variable {σ : Nat → Nat} {E : En} {d0 d d' d2 d3 : Dy} {B : Nat → Nat} {tl s dep b q n : Nat} {c : Cd} {ls : List Ln} {R : Nat × Option Hd} {K0 : Dy → Prop} {K : Int32 → Dy → Prop}
theorem ru_rf : ruS σ n d d := ⟨Ch_rf, fun _ _ => rfl, rfl⟩
theorem ru_tr (a : ruS σ n d0 d) (b : ruS σ n d d') : ruS σ n d0 d' := ⟨Ch_tr a.1 b.1, fun k h => (b.2.1 k h).trans (a.2.1 k h), b.2.2.trans a.2.2⟩
theorem ru_rx (x : rxS σ d d') : ruS σ n d d' := ⟨Ch_w x.1 (by decide), fun k _ => by rw [Ch_A x.1 (by decide) (by decide)], x.2 0 (by decide) (by decide)⟩
theorem ru_ry (hn : n ≤ 10) (x : ryS σ d d') : ruS σ n d d' := ⟨x.1, fun k h => x.2.1 k (by omega), x.2.2⟩
theorem w_rx (x : rxS σ d d') : gA d' (σ 88) = gA d (σ 88) := Ch_A x.1 (by decide) (by decide)
theorem hK_ru (y : ruS σ n d d') (k : rhK σ n d B tl s dep c R K) : rhK σ n d' B tl s dep c R K := fun d2 h2 => k d2 (ru_tr y h2)
theorem rw_letters (h : Env σ E) (a : rtS σ d B tl s dep c b) (k : ∀ d', rxS σ d d' → rwS σ d' B tl s dep c b → K0 d') : w_X11_letters E (σ 87) d K0 := by
  have hb := rt_b a
  obtain ⟨a1, a2, a3, q, q1, q2, q3⟩ := a
  refine r_letters h a1 q1 q3 (fun d1 x1 a6 a8 => k d1 x1 ⟨rf_rx a1 x1, by rw [x1.2 9 (by decide) (by decide)]; exact a2, rc_rx x1 a3, hb, ?_, ?_⟩)
  · rw [a6, q2]
  · rw [a8, q2]
theorem rw_word (h : Env σ E) (a : rwS σ d B tl s dep c b) (t i : Nat) (ht : t < 22) (ht0 : 0 < t) (e : ixW t = i) (k1 : thB B tl b = i → K 1 d) (k0 : ¬ thB B tl b = i → K 0 d) : w_X11_isWord E (σ 87) t d K := by
  subst e
  obtain ⟨a1, a2, a3, hb, g6, g8⟩ := a
  have tw := th_wd (B := B) hb (ix_ln t ht ht0).2.2
  exact r_isWord h a1 ht ht0 sk_ge (sk_le hb) g6 g8 (fun m => k1 (tw.1.mp m)) (fun m => k0 (fun q => by rw [tw.1.mpr q] at m; exact nomatch m))
theorem rw_to (a : rwS σ d B tl s dep c b) (ht : thB B tl b < 21) : rtS σ d B tl s dep c (nB B tl b) := by
  obtain ⟨a1, a2, a3, hb, g6, g8⟩ := a
  exact ⟨a1, a2, a3, afB B tl b, af_le hb, rfl, by rw [g6, (th_wd (B := B) hb ht).2 rfl]⟩
theorem rc_pA {k : Nat} {x : Int32} (hk : k < 4051) (a : rcS σ d c) : rcS σ (pA d (σ 88) k x) c := by
  refine ⟨a.1, fun i y hy => ?_⟩
  rw [gA_pA]; dsimp only
  rw [if_neg (by omega), if_neg (by omega)]
  exact a.2 i y hy
theorem rt_pA (h : Env σ E) {k : Nat} {x : Int32} (hk : k < 4051) (a : rtS σ d B tl s dep c b) : rtS σ (pA d (σ 88) k x) B tl s dep c b := by
  obtain ⟨⟨r1, r2, r3, r4, r5, r6⟩, a2, a3, q⟩ := a
  exact ⟨⟨r1, r2, r3, r4, r5, by rw [gA_pA_ne _ _ _ (Env_ne h (by decide) (by decide) (by decide))]; exact r6⟩, a2, rc_pA hk a3, q⟩
theorem rw_pA (h : Env σ E) {k : Nat} {x : Int32} (hk : k < 4051) (a : rwS σ d B tl s dep c b) : rwS σ (pA d (σ 88) k x) B tl s dep c b := by
  obtain ⟨⟨r1, r2, r3, r4, r5, r6⟩, a2, a3, q⟩ := a
  exact ⟨⟨r1, r2, r3, r4, r5, by rw [gA_pA_ne _ _ _ (Env_ne h (by decide) (by decide) (by decide))]; exact r6⟩, a2, rc_pA hk a3, q⟩
theorem ru_pA (h : Env σ E) {k : Nat} {x : Int32} (hk : 4001 + 5 * n ≤ k) : ruS σ n d (pA d (σ 88) k x) :=
  ⟨Ch_pA h (by decide) (by decide), fun j hj => by rw [gA_pA]; dsimp only; rw [if_neg (by omega)], rfl⟩
theorem w_pA {k j : Nat} {x : Int32} : gA (pA d (σ 88) k x) (σ 88) j = if j = k then x else gA d (σ 88) j := by rw [gA_pA]
theorem r_keeps (h : Env σ E) {k : Nat} (hk : k < 4851) {x : Int32} (k0 : x < 0 → K 0 (pA d (σ 88) k x)) (k1 : ¬ x < 0 → K 1 (pA d (σ 88) k x)) : w_X11_keepsAt E (σ 87) (nI k) x d K := by
  simp only [w_X11_keepsAt, x_87_1 h, en_88 h, z_nn (show k < 2147483648 by omega)]
  exact ⟨eo_87 h, vpi hk (by decide), k0, k1⟩
theorem z_a2 (k : Nat) : nI k + 2 = nI (k + 2) := z_add k 2
theorem z_a3 (k : Nat) : nI k + 3 = nI (k + 3) := z_add k 3
theorem z_a4 (k : Nat) : nI k + 4 = nI (k + 4) := z_add k 4
theorem r_h172 (h : Env σ E) (hn : n < 10) (hs0 : s ≠ 0) (hs3 : s ≠ 3) (a : rwS σ d B tl s dep c b) (hm : gA d (σ 88) (4001 + 5 * n + 2) = -1) (x : Int32) (hx : (x = -1 ∧ ¬ (thB B tl b = 15 ∨ thB B tl b = 16)) ∨ ((thB B tl b = 15 ∨ thB B tl b = 16) ∧ x = (if thB B tl b = 15 then 4 else 5))) (k : rhK σ n d B tl s dep c (pHd B tl s b) K) : b_X11_readHead_172 E (σ 87) (nI (4001 + 5 * n)) K (σ 87) (nI (4001 + 5 * n)) x d := by
  unfold pHd at k
  rw [if_neg hs0, if_neg hs3] at k
  refine ⟨eo_87 h, r_keeps h (by omega) (fun z => ⟨fun _ => ?_, fun w => absurd rfl w⟩) (fun z => ⟨fun w => absurd w (by decide), fun _ => ?_⟩)⟩
  · have q : ¬ (thB B tl b = 15 ∨ thB B tl b = 16) := by
      rcases hx with q | q
      · exact q.2
      · exfalso; rw [q.2] at z; revert z; split <;> decide
    rw [if_neg q] at k
    exact (k _ (ru_pA h (Nat.le_refl _))).1 rfl a.2.2.2.2.2
  · have q : (thB B tl b = 15 ∨ thB B tl b = 16) ∧ x = (if thB B tl b = 15 then 4 else 5) := by
      rcases hx with q | q
      · exfalso; rw [q.1] at z; exact z (by decide)
      · exact q
    rw [if_pos q.1, ← q.2] at k
    have k := hK_ru (ru_pA (x := x) h (Nat.le_refl _)) k
    have w0 : ∀ j, gA (pA d (σ 88) (4001 + 5 * n) x) (σ 88) j = if j = 4001 + 5 * n then x else gA d (σ 88) j := fun j => w_pA
    have b1 := rw_to (rw_pA (k := 4001 + 5 * n) (x := x) h (by omega) a) (by omega)
    have hv : thB B tl (nB B tl b) = 30 → vB B tl (nB B tl b) < 10000 := fun w => vB_lt a.1.2.1 w
    generalize pA d (σ 88) (4001 + 5 * n) x = d1 at k w0 b1
    rw [z_a1, z_a2]
    refine rp_number (mx := 9999) h b1 (by decide) (fun e1 e2 d2 x2 b2 g8 => ?_) (fun e d2 x2 g8 => ?_)
    · rw [if_pos e1] at k
      have k := hK_ru (ru_rx x2) k
      refine r_keeps h (by omega) (fun w => absurd w (z_pos (by omega))) (fun _ => ⟨fun _ => ?_, fun w => absurd w (by decide)⟩)
      have k := hK_ru (ru_pA (x := nI (vB B tl (nB B tl b))) (k := 4001 + 5 * n + 1) h (by omega)) k
      have w1 : ∀ j, gA (pA d2 (σ 88) (4001 + 5 * n + 1) (nI (vB B tl (nB B tl b)))) (σ 88) j = if j = 4001 + 5 * n + 1 then nI (vB B tl (nB B tl b)) else gA d2 (σ 88) j := fun j => w_pA
      have b3 := rt_pA (k := 4001 + 5 * n + 1) (x := nI (vB B tl (nB B tl b))) h (by omega) b2
      generalize pA d2 (σ 88) (4001 + 5 * n + 1) (nI (vB B tl (nB B tl b))) = d3 at k w1 b3
      have c0 : gA d3 (σ 88) (4001 + 5 * n) = x := by rw [w1, if_neg (by omega), w_rx x2, w0, if_pos rfl]
      have c1 : gA d3 (σ 88) (4001 + 5 * n + 1) = nI (vB B tl (nB B tl b)) := by rw [w1, if_pos rfl]
      have c2 : gA d3 (σ 88) (4001 + 5 * n + 2) = -1 := by rw [w1, if_neg (by omega), w_rx x2, w0, if_neg (by omega)]; exact hm
      refine rp_sign (t := 42) h b3 rfl (fun e4 d4 x4 b4 g4 => ⟨fun _ => ?_, fun w => absurd w (by decide)⟩) (fun e4 d4 x4 b4 g4 => ⟨fun w => absurd rfl w, fun _ => ?_⟩)
      · rw [if_pos e4] at k
        refine rw_letters h b4 (fun d5 x5 b5 => ?_)
        have k := hK_ru (ru_rx (rx_tr x4 x5)) k
        have e88 : gA d5 (σ 88) = gA d3 (σ 88) := w_rx (rx_tr x4 x5)
        refine r_factAt h b5.1 b5.2.2.2.1 b5.2.2.2.2.1 b5.2.2.2.2.2 (fun f => ?_) (fun f => ?_)
        · have f8 := isF_lt f
          rw [if_pos f] at k
          refine r_keeps h (by omega) (fun w => absurd w (z_pos (by omega))) (fun _ => ⟨Or.inr rfl, ?_⟩)
          refine (k _ (ru_pA h (by omega))).2 _ rfl (rt_pA h (by omega) (rw_to b5 (by omega))) ⟨?_, ?_, ?_⟩
          · rw [w_pA, if_neg (by omega), e88, c0]
          · rw [w_pA, if_neg (by omega), e88, c1]
          · rw [w_pA, if_pos rfl]
        · rw [if_neg (by rw [f]; decide)] at k
          refine r_keeps h (by omega) (fun _ => ⟨Or.inl rfl, ?_⟩) (fun w => absurd (by decide) w)
          exact (k _ (ru_pA h (by omega))).1 rfl b5.2.2.2.2.2
      · rw [if_neg e4] at k
        have k := hK_ru (ru_rx x4) k
        refine (k d4 ru_rf).2 _ rfl b4 ⟨?_, ?_, ?_⟩
        · rw [w_rx x4, c0]
        · rw [w_rx x4, c1]
        · rw [w_rx x4, c2]
    · have ne : ¬ thB B tl (nB B tl b) = 30 := fun w => e ⟨w, by have := hv w; omega⟩
      rw [if_neg ne] at k
      refine r_keeps h (by omega) (fun _ => ⟨fun w => absurd rfl w, fun _ => ?_⟩) (fun w => absurd (by decide) w)
      exact (k _ (ru_tr (ru_rx x2) (ru_pA h (by omega)))).1 rfl g8
theorem r_head (h : Env σ E) (hn : n < 10) (a : rwS σ d B tl s dep c b) (k : rhK σ n d B tl s dep c (pHd B tl s b) K) : w_X11_readHead E (σ 87) (nI (4001 + 5 * n)) d K := by
  have hB := a.1.2.1
  have hs := a.1.2.2.1
  have hb := a.2.2.2.1
  simp only [w_X11_readHead, x_87_1 h, en_88 h, z_a1, z_a2]
  refine ⟨eo_87 h, vpi (by omega) (by decide), vpi (by omega) (by decide), ?_⟩
  rw [z_nn (by omega), z_nn (by omega), z_nn (by omega)]
  have k := hK_ru (ru_tr (ru_pA (x := 0) (k := 4001 + 5 * n + 1) h (by omega)) (ru_pA (x := -1) (k := 4001 + 5 * n + 2) h (by omega))) k
  have a2 := rw_pA (k := 4001 + 5 * n + 2) (x := -1) h (by omega) (rw_pA (k := 4001 + 5 * n + 1) (x := 0) h (by omega) a)
  have w0 : ∀ j, gA (pA (pA d (σ 88) (4001 + 5 * n + 1) 0) (σ 88) (4001 + 5 * n + 2) (-1)) (σ 88) j = if j = 4001 + 5 * n + 2 then -1 else if j = 4001 + 5 * n + 1 then 0 else gA d (σ 88) j := fun j => by rw [w_pA, w_pA]
  generalize pA (pA d (σ 88) (4001 + 5 * n + 1) 0) (σ 88) (4001 + 5 * n + 2) (-1) = d1 at k a2 w0
  have hm : gA d1 (σ 88) (4001 + 5 * n + 2) = -1 := by rw [w0, if_pos rfl]
  have h1 : gA d1 (σ 88) (4001 + 5 * n + 1) = 0 := by rw [w0, if_neg (by omega), if_pos rfl]
  have r5 := a2.1.2.2.2.2.1
  rw [r5]
  have l1 := nB_le (B := B) hb
  refine ⟨fun z => ⟨fun z2 => ?_, fun z2 => ?_⟩, fun z => ?_⟩
  · have s0 : s ≠ 0 := fun q => z (by rw [q]; rfl)
    have s3 : s ≠ 3 := fun q => z2 (by rw [q]; rfl)
    refine rw_word h a2 7 15 (by decide) (by decide) rfl (fun e => ⟨fun w => absurd w (by decide), fun _ => ?_⟩) (fun e => ⟨fun _ => ?_, fun w => absurd rfl w⟩)
    · exact r_h172 h hn s0 s3 a2 hm 4 (Or.inr ⟨Or.inl e, by rw [if_pos e]⟩) k
    · refine rw_word h a2 8 16 (by decide) (by decide) rfl (fun e2 => ⟨fun w => absurd w (by decide), fun _ => ?_⟩) (fun e2 => ⟨fun _ => ?_, fun w => absurd rfl w⟩)
      · exact r_h172 h hn s0 s3 a2 hm 5 (Or.inr ⟨Or.inr e2, by rw [if_neg e]⟩) k
      · exact r_h172 h hn s0 s3 a2 hm (-1) (Or.inl ⟨rfl, by omega⟩) k
  · have q := (z_eq (b := 3) (by omega) (by decide)).mp z2
    subst q
    unfold pHd at k
    rw [if_neg (by decide), if_pos rfl] at k
    refine rw_word h a2 6 17 (by decide) (by decide) rfl (fun e => ⟨fun _ => ⟨vpi (by omega) (by decide), ?_⟩, fun w => absurd w (by decide)⟩) (fun e => ⟨fun w => absurd rfl w, fun _ => ?_⟩)
    · rw [if_pos e] at k
      have k := hK_ru (ru_pA (x := 6) (k := 4001 + 5 * n) h (by omega)) k
      have b2 := rt_pA (k := 4001 + 5 * n) (x := 6) h (by omega) (rw_to a2 (by omega))
      have w1 : ∀ j, gA (pA d1 (σ 88) (4001 + 5 * n) 6) (σ 88) j = if j = 4001 + 5 * n then 6 else gA d1 (σ 88) j := fun j => w_pA
      generalize pA d1 (σ 88) (4001 + 5 * n) 6 = d2 at k b2 w1
      refine rp_number (mx := 7) h b2 (by decide) (fun e1 e2 d3 x3 b3 g8 => ?_) (fun e d3 x3 g8 => ?_)
      · rw [if_pos ⟨e1, e2⟩] at k
        refine r_keeps h (by omega) (fun w => absurd w (z_pos (by omega))) (fun _ => ⟨Or.inr rfl, ?_⟩)
        refine (k _ (ru_tr (ru_rx x3) (ru_pA h (by omega)))).2 _ rfl (rt_pA h (by omega) b3) ⟨?_, ?_, ?_⟩
        · rw [w_pA, if_neg (by omega), w_rx x3, w1, if_pos rfl]
        · rw [w_pA, if_pos rfl]
        · rw [w_pA, if_neg (by omega), w_rx x3, w1, if_neg (by omega), hm]
      · rw [if_neg e] at k
        refine r_keeps h (by omega) (fun _ => ⟨Or.inl rfl, ?_⟩) (fun w => absurd (by decide) w)
        exact (k _ (ru_tr (ru_rx x3) (ru_pA h (by omega)))).1 rfl g8
    · rw [if_neg e] at k
      exact (k d1 ru_rf).1 rfl a2.2.2.2.2.2
  · have q := (z_eq (b := 0) (by omega) (by decide)).mp z
    subst q
    unfold pHd at k
    rw [if_pos rfl] at k
    refine rw_word h a2 1 13 (by decide) (by decide) rfl (fun e => ⟨fun _ => ?_, fun w => absurd w (by decide)⟩) (fun e => ⟨fun w => absurd rfl w, fun _ => ?_⟩)
    · rw [if_pos e] at k
      refine rw_letters h (rw_to a2 (by omega)) (fun d2 x2 a3 => ?_)
      have k := hK_ru (ru_rx x2) k
      have e88 := w_rx x2
      have yes : ∀ i, i < 4 → thB B tl (nB B tl b) = 9 + i → K 1 (pA d2 (σ 88) (4001 + 5 * n) (nI i)) := fun i hi e2 => by
        rw [if_pos (by omega), show thB B tl (nB B tl b) - 9 = i by omega] at k
        refine (k _ (ru_pA h (by omega))).2 _ rfl (rt_pA h (by omega) (rw_to a3 (by omega))) ⟨?_, ?_, ?_⟩
        · rw [w_pA, if_pos rfl]
        · rw [w_pA, if_neg (by omega), e88, h1]
        · rw [w_pA, if_neg (by omega), e88, hm]
      refine rw_word h a3 2 9 (by decide) (by decide) rfl (fun e2 => ⟨fun w => absurd w (by decide), fun _ => ?_⟩) (fun e2 => ⟨fun _ => ?_, fun w => absurd rfl w⟩)
      · exact r_keeps (x := 0) h (by omega) (fun w => absurd w (by decide)) (fun _ => ⟨Or.inr rfl, yes 0 (by decide) e2⟩)
      refine rw_word h a3 3 10 (by decide) (by decide) rfl (fun e3 => ⟨fun w => absurd w (by decide), fun _ => ?_⟩) (fun e3 => ⟨fun _ => ?_, fun w => absurd rfl w⟩)
      · exact r_keeps (x := 1) h (by omega) (fun w => absurd w (by decide)) (fun _ => ⟨Or.inr rfl, yes 1 (by decide) e3⟩)
      refine rw_word h a3 4 11 (by decide) (by decide) rfl (fun e4 => ⟨fun w => absurd w (by decide), fun _ => ?_⟩) (fun e4 => ⟨fun _ => ?_, fun w => absurd rfl w⟩)
      · exact r_keeps (x := 2) h (by omega) (fun w => absurd w (by decide)) (fun _ => ⟨Or.inr rfl, yes 2 (by decide) e4⟩)
      refine rw_word h a3 5 12 (by decide) (by decide) rfl (fun e5 => ⟨fun w => absurd w (by decide), fun _ => ?_⟩) (fun e5 => ⟨fun _ => ?_, fun w => absurd rfl w⟩)
      · exact r_keeps (x := 3) h (by omega) (fun w => absurd w (by decide)) (fun _ => ⟨Or.inr rfl, yes 3 (by decide) e5⟩)
      refine r_keeps (x := -1) h (by omega) (fun _ => ⟨Or.inl rfl, ?_⟩) (fun w => absurd (by decide) w)
      rw [if_neg (by omega)] at k
      exact (k _ (ru_pA h (by omega))).1 rfl a3.2.2.2.2.2
    · rw [if_neg e] at k
      exact (k d1 ru_rf).1 rfl a2.2.2.2.2.2
end
