section
variable {σ : Nat → Nat} {E : En} {d d' d2 d3 : Dy} {W : Nat → Int32} {np nh : Nat} {S : RS} {K : Int32 → Dy → Prop} {K0 : Dy → Prop}
/-! one cell of the replay -/
theorem rf_P (h : Env σ E) (R : refR σ np nh d S) {p : Nat} {o : Option Nat} {x : Int32} (hx : x = encO o) : refR σ np nh (pA d (σ 96) p x) (stP S (upO (rsP S) p o)) := by
  obtain ⟨r1, r2, r3, r4⟩ := R
  refine ⟨fun q hq => ⟨?_, ?_⟩, ?_, ?_, ?_⟩
  · rw [gA_pA_ne _ _ _ (Env_ne h (by decide) (by decide) (by decide))]; exact (r1 q hq).1
  · rw [gA_pA]
    show (if q = p then x else gA d (σ 96) q) = encO (if q = p then o else rsP S q)
    by_cases e : q = p
    · rw [if_pos e, if_pos e, hx]
    · rw [if_neg e, if_neg e]; exact (r1 q hq).2
  · rw [gA_pA_ne _ _ _ (Env_ne h (by decide) (by decide) (by decide))]; exact r2
  · rw [gA_pA_ne _ _ _ (Env_ne h (by decide) (by decide) (by decide)), gA_pA_ne _ _ _ (Env_ne h (by decide) (by decide) (by decide)), gA_pA_ne _ _ _ (Env_ne h (by decide) (by decide) (by decide))]; exact r3
  · rw [gA_pA_ne _ _ _ (Env_ne h (by decide) (by decide) (by decide)), gA_pA_ne _ _ _ (Env_ne h (by decide) (by decide) (by decide))]; exact r4
theorem rf_C (h : Env σ E) (R : refR σ np nh d S) {p c : Nat} (hnp : np ≤ 12) (hp : p < np) (hc : c < np) : refR σ np nh (pA d (σ 97) (12 * p + c) 1) (stC S (fun a b => if a = p ∧ b = c then true else rsC S a b)) := by
  obtain ⟨r1, r2, r3, r4⟩ := R
  refine ⟨?_, fun q hq j hj => ?_, ?_, ?_⟩
  · rw [gA_pA_ne _ _ _ (Env_ne h (by decide) (by decide) (by decide)), gA_pA_ne _ _ _ (Env_ne h (by decide) (by decide) (by decide))]; exact r1
  · rw [gA_pA]
    show (if 12 * q + j = 12 * p + c then 1 else gA d (σ 97) (12 * q + j)) = b2i (if q = p ∧ j = c then true else rsC S q j)
    by_cases e : q = p ∧ j = c
    · rw [if_pos e, e.1, e.2, if_pos rfl]; rfl
    · rw [if_neg e, if_neg (by omega)]; exact r2 q hq j hj
  · rw [gA_pA_ne _ _ _ (Env_ne h (by decide) (by decide) (by decide)), gA_pA_ne _ _ _ (Env_ne h (by decide) (by decide) (by decide)), gA_pA_ne _ _ _ (Env_ne h (by decide) (by decide) (by decide))]; exact r3
  · rw [gA_pA_ne _ _ _ (Env_ne h (by decide) (by decide) (by decide)), gA_pA_ne _ _ _ (Env_ne h (by decide) (by decide) (by decide))]; exact r4
theorem rf_H (h : Env σ E) (R : refR σ np nh d S) {p : Nat} {o : Option Nat} {x y : Int32} (hx : x = encO o) : refR σ np nh (pA (pA d (σ 98) p x) (σ 99) p y) (stH S (upO (rsH S) p o) (upI (rsF S) p y)) := by
  obtain ⟨r1, r2, r3, r4⟩ := R
  have oth : ∀ l, l < 116 → l ≠ 98 → l ≠ 99 → gA (pA (pA d (σ 98) p x) (σ 99) p y) (σ l) = gA d (σ l) := fun l h1 h2 h3 => by
    rw [gA_pA_ne _ _ _ (Env_ne h h1 (by decide) h3), gA_pA_ne _ _ _ (Env_ne h h1 (by decide) h2)]
  have m2 : σ 98 ≠ σ 99 := Env_ne h (by decide) (by decide) (by decide)
  refine ⟨?_, ?_, fun q hq => ⟨?_, ?_, ?_⟩, ?_⟩
  · rw [oth 95 (by decide) (by decide) (by decide), oth 96 (by decide) (by decide) (by decide)]; exact r1
  · rw [oth 97 (by decide) (by decide) (by decide)]; exact r2
  · rw [gA_pA_ne _ _ _ m2, gA_pA]
    show (if q = p then x else gA d (σ 98) q) = encO (if q = p then o else rsH S q)
    by_cases e : q = p
    · rw [if_pos e, if_pos e, hx]
    · rw [if_neg e, if_neg e]; exact (r3 q hq).1
  · rw [gA_pA, gA_pA_ne _ _ _ (fun e => m2 e.symm)]
    show (if q = p then y else gA d (σ 99) q) = (if q = p then y else rsF S q)
    rw [(r3 q hq).2.1]
  · rw [oth 100 (by decide) (by decide) (by decide)]; exact (r3 q hq).2.2
  · rw [oth 101 (by decide) (by decide) (by decide), oth 102 (by decide) (by decide) (by decide)]; exact r4
theorem rf_S (h : Env σ E) (R : refR σ np nh d S) {e : Nat} {b : Bool} {x : Int32} (hx : x = b2i b) : refR σ np nh (pA d (σ 101) e x) (stD S (upB (rsS S) e b) (rsD S)) := by
  obtain ⟨r1, r2, r3, r4⟩ := R
  refine ⟨?_, ?_, ?_, fun q hq => ⟨?_, ?_⟩⟩
  · rw [gA_pA_ne _ _ _ (Env_ne h (by decide) (by decide) (by decide)), gA_pA_ne _ _ _ (Env_ne h (by decide) (by decide) (by decide))]; exact r1
  · rw [gA_pA_ne _ _ _ (Env_ne h (by decide) (by decide) (by decide))]; exact r2
  · rw [gA_pA_ne _ _ _ (Env_ne h (by decide) (by decide) (by decide)), gA_pA_ne _ _ _ (Env_ne h (by decide) (by decide) (by decide)), gA_pA_ne _ _ _ (Env_ne h (by decide) (by decide) (by decide))]; exact r3
  · rw [gA_pA]
    show (if q = e then x else gA d (σ 101) q) = b2i (if q = e then b else rsS S q)
    by_cases e : q = e
    · rw [if_pos e, if_pos e, hx]
    · rw [if_neg e, if_neg e]; exact (r4 q hq).1
  · rw [gA_pA_ne _ _ _ (Env_ne h (by decide) (by decide) (by decide))]; exact (r4 q hq).2
theorem rf_D (h : Env σ E) (R : refR σ np nh d S) {e : Nat} {b : Bool} {x : Int32} (hx : x = b2i b) : refR σ np nh (pA d (σ 102) e x) (stD S (rsS S) (upB (rsD S) e b)) := by
  obtain ⟨r1, r2, r3, r4⟩ := R
  refine ⟨?_, ?_, ?_, fun q hq => ⟨?_, ?_⟩⟩
  · rw [gA_pA_ne _ _ _ (Env_ne h (by decide) (by decide) (by decide)), gA_pA_ne _ _ _ (Env_ne h (by decide) (by decide) (by decide))]; exact r1
  · rw [gA_pA_ne _ _ _ (Env_ne h (by decide) (by decide) (by decide))]; exact r2
  · rw [gA_pA_ne _ _ _ (Env_ne h (by decide) (by decide) (by decide)), gA_pA_ne _ _ _ (Env_ne h (by decide) (by decide) (by decide)), gA_pA_ne _ _ _ (Env_ne h (by decide) (by decide) (by decide))]; exact r3
  · rw [gA_pA_ne _ _ _ (Env_ne h (by decide) (by decide) (by decide))]; exact (r4 q hq).1
  · rw [gA_pA]
    show (if q = e then x else gA d (σ 102) q) = b2i (if q = e then b else rsD S q)
    by_cases e : q = e
    · rw [if_pos e, if_pos e, hx]
    · rw [if_neg e, if_neg e]; exact (r4 q hq).2
/-- a row on its way: what stood at k is taken out, the gap is at i -/
def gapN (r : Nat → Nat) (k i : Nat) : Nat → Nat := fun q => if i < q ∧ q ≤ k then r (q - 1) else if k ≤ q ∧ q < i then r (q + 1) else r q
theorem r_moves (h : Env σ E) (hnh : nh ≤ 10) (R : refR σ np nh d S) (ok : rsOK np nh S) {i to : Nat} (hi : i < nh) (ht : to < nh) (k : ∀ d', Ch σ hpL d d' → refR σ np nh d' (stO S (mvN (rsO S) i (rpS S nh i) to)) → K0 d') : w_X11_moves E (σ 87) (nI i) (nI to) d K0 := by
  obtain ⟨hk1, hk2⟩ := rp_spec ok hi
  have rdt : ∀ d', Ch σ [100] d d' → (∀ q, q < nh → gA d' (σ 100) q = nI (mvN (rsO S) i (rpS S nh i) to q)) → refR σ np nh d' (stO S (mvN (rsO S) i (rpS S nh i) to)) := fun d' c hq => by
    obtain ⟨r1, r2, r3, r4⟩ := R
    refine ⟨?_, ?_, fun q hq2 => ⟨?_, ?_, hq q hq2⟩, ?_⟩
    · rw [Ch_A c (by decide) (by decide), Ch_A c (by decide) (by decide)]; exact r1
    · rw [Ch_A c (by decide) (by decide)]; exact r2
    · rw [Ch_A c (by decide) (by decide)]; exact (r3 q hq2).1
    · rw [Ch_A c (by decide) (by decide)]; exact (r3 q hq2).2.1
    · rw [Ch_A c (by decide) (by decide), Ch_A c (by decide) (by decide)]; exact r4
  simp only [w_X11_moves]
  refine ⟨eo_87 h, r_rowPlace h hnh R ok hi ?_⟩
  generalize rpS S nh i = m at hk1 hk2 rdt k
  refine ⟨nh + 1, loopG (S := Int32 × Dy) (l := fun N z => l_X11_moves_6 E (σ 87) (nI i) (nI to) K0 N z.1 z.2) (b := fun kk z => b_X11_moves_6 E (σ 87) (nI i) (nI to) K0 (fun a b => kk (a, b)) z.1 z.2) (fun _ _ => rfl)
    (μ := fun z => z.1.toNatClampNeg) (P := fun z => ∃ j, j ≤ m ∧ (to ≤ j ∨ j = m) ∧ nI j = z.1 ∧ Ch σ [100] d z.2 ∧ ∀ q, q < nh → gA z.2 (σ 100) q = nI (gapN (rsO S) m j q)) ?_ nh (nI m, d) ⟨m, by omega, by omega, rfl, Ch_rf, ?_⟩ (by simp only [z_nn (show m < 2147483648 by omega)]; omega)⟩
  · rintro kk ⟨v, d3⟩ ⟨j, hj, hj2, rfl, c3, g3⟩ hk
    have c3 : Ch σ [100] d d3 := c3
    have g3 : ∀ q, q < nh → gA d3 (σ 100) q = nI (gapN (rsO S) m j q) := g3
    simp only [b_X11_moves_6, x_87_23 h, en_100 h]
    rw [z_le (by omega) (by omega)]
    refine ⟨fun hc => ?_, fun hc => ?_⟩
    · refine ⟨nh + 1, loopG (S := Int32 × Dy) (l := fun N z => l_X11_moves_31 E (σ 87) (nI i) (nI to) K0 N z.1 z.2) (b := fun kk z => b_X11_moves_31 E (σ 87) (nI i) (nI to) K0 (fun a b => kk (a, b)) z.1 z.2) (fun _ _ => rfl)
        (μ := fun z => nh - z.1.toNatClampNeg) (P := fun z => ∃ j, j ≤ to ∧ (j = to ∨ m ≤ j) ∧ nI j = z.1 ∧ Ch σ [100] d z.2 ∧ ∀ q, q < nh → gA z.2 (σ 100) q = nI (gapN (rsO S) m j q)) ?_ nh (nI j, d3) ⟨j, hc, by omega, rfl, c3, g3⟩ (Nat.sub_le _ _)⟩
      clear hk g3 c3
      rintro k2 ⟨v, d4⟩ ⟨l, hl, hl2, rfl, c4, g4⟩ hk
      have c4 : Ch σ [100] d d4 := c4
      have g4 : ∀ q, q < nh → gA d4 (σ 100) q = nI (gapN (rsO S) m l q) := g4
      simp only [b_X11_moves_31, x_87_23 h, en_100 h]
      rw [z_le (by omega) (by omega)]
      refine ⟨fun h1 => ⟨vpi (by omega) (by decide), ?_⟩, fun h1 => ?_⟩
      · have : l = to := by omega
        subst this
        rw [z_nn (show l < 2147483648 by omega)]
        have c5 : Ch σ [100] d (pA d4 (σ 100) l (nI i)) := Ch_tr c4 (Ch_pA h (by decide) (by decide))
        refine k _ (Ch_w c5 (by decide)) (rdt _ c5 (fun q hq => ?_))
        rw [gA_pA]
        show (if q = l then nI i else gA d4 (σ 100) q) = _
        rw [g4 q hq]
        unfold mvN gapN
        by_cases e : q = l
        · subst e
          rw [if_pos rfl]
          by_cases e2 : q ≤ m
          · rw [if_pos e2, if_neg (by omega), if_pos rfl]
          · rw [if_neg e2, if_neg (by omega), if_neg (by omega), if_pos rfl]
        · rw [if_neg e]
          by_cases e2 : l ≤ m
          · rw [if_pos e2]
            by_cases e3 : q < l
            · rw [if_pos e3, if_neg (by omega), if_neg (by omega)]
            · rw [if_neg e3, if_neg e]
              by_cases e4 : q ≤ m
              · rw [if_pos e4, if_pos (by omega)]
              · rw [if_neg e4, if_neg (by omega), if_neg (by omega)]
          · rw [if_neg e2, if_neg (by omega)]
            by_cases e3 : q < m
            · rw [if_pos e3, if_neg (by omega)]
            · rw [if_neg e3]
              by_cases e4 : q < l
              · rw [if_pos e4, if_pos (by omega)]
              · rw [if_neg e4, if_neg e, if_neg (by omega)]
      · rw [z_a1, z_nn (show l + 1 < 2147483648 by omega), z_nn (show l < 2147483648 by omega), g4 (l + 1) (by omega)]
        refine ⟨vpi (by omega) (by decide), vpi (by omega) (by decide), hk (nI (l + 1), _) ⟨l + 1, by omega, by omega, rfl, Ch_tr c4 (Ch_pA h (by decide) (by decide)), fun q hq => ?_⟩ (by simp only [z_nn (show l + 1 < 2147483648 by omega), z_nn (show l < 2147483648 by omega)]; omega)⟩
        rw [gA_pA]
        show (if q = l then nI (gapN (rsO S) m l (l + 1)) else gA d4 (σ 100) q) = _
        rw [g4 q hq]
        unfold gapN
        by_cases e : q = l
        · subst e
          rw [if_pos rfl, if_neg (by omega), if_neg (by omega), if_neg (by omega), if_pos (by omega)]
        · rw [if_neg e]
          by_cases e3 : m ≤ q ∧ q < l
          · rw [if_neg (by omega), if_pos e3, if_neg (by omega), if_pos (by omega)]
          · rw [if_neg (by omega), if_neg e3, if_neg (by omega), if_neg (by omega)]
    · obtain ⟨j, rfl⟩ : ∃ j', j = j' + 1 := ⟨j - 1, by omega⟩
      rw [z_m1, z_am1, z_nn (show j < 2147483648 by omega), z_nn (show j + 1 < 2147483648 by omega), g3 j (by omega)]
      refine ⟨vpi (by omega) (by decide), vpi (by omega) (by decide), hk (nI j, _) ⟨j, by omega, by omega, rfl, Ch_tr c3 (Ch_pA h (by decide) (by decide)), fun q hq => ?_⟩ (by simp only [z_nn (show j + 1 < 2147483648 by omega), z_nn (show j < 2147483648 by omega)]; omega)⟩
      rw [gA_pA]
      show (if q = j + 1 then nI (gapN (rsO S) m (j + 1) j) else gA d3 (σ 100) q) = _
      rw [g3 q hq]
      unfold gapN
      by_cases e : q = j + 1
      · subst e
        rw [if_pos rfl, if_neg (by omega), if_neg (by omega), if_pos (by omega)]; rfl
      · rw [if_neg e]
        by_cases e3 : j + 1 < q ∧ q ≤ m
        · rw [if_pos e3, if_pos (by omega)]
        · rw [if_neg e3, if_neg (by omega), if_neg (by omega), if_neg (by omega)]
  · intro q hq
    show gA d (σ 100) q = _
    rw [(R.2.2.1 q hq).2.2]
    unfold gapN
    rw [if_neg (by omega), if_neg (by omega)]
end
