theorem gap_mv {r : Nat → Nat} {m to i q : Nat} : (if q = to then i else gapN r m to q) = mvN r i m to q := by
  unfold mvN gapN
  by_cases e : q = to
  · subst e
    rw [if_pos rfl]
    by_cases e2 : q ≤ m
    · rw [if_pos e2, if_neg (by omega), if_pos rfl]
    · rw [if_neg e2, if_neg (by omega), if_neg (by omega), if_pos rfl]
  · rw [if_neg e]
    by_cases e2 : to ≤ m
    · rw [if_pos e2]
      by_cases e3 : q < to
      · rw [if_pos e3, if_neg (by omega), if_neg (by omega)]
      · rw [if_neg e3, if_neg e]
        by_cases e4 : q ≤ m
        · rw [if_pos e4, if_pos (by omega)]
        · rw [if_neg e4, if_neg (by omega), if_neg (by omega)]
    · rw [if_neg e2, if_neg (by omega)]
      by_cases e3 : q < m
      · rw [if_pos e3, if_neg (by omega)]
      · rw [if_neg e3]
        by_cases e4 : q < to
        · rw [if_pos e4, if_pos (by omega)]
        · rw [if_neg e4, if_neg e, if_neg (by omega)]
theorem gap_up {r : Nat → Nat} {m l q : Nat} (hl : m ≤ l) : (if q = l then gapN r m l (l + 1) else gapN r m l q) = gapN r m (l + 1) q := by
  unfold gapN
  by_cases e : q = l
  · subst e
    rw [if_pos rfl, if_neg (by omega), if_neg (by omega), if_neg (by omega), if_pos (by omega)]
  · rw [if_neg e]
    by_cases e3 : m ≤ q ∧ q < l
    · rw [if_neg (by omega), if_pos e3, if_neg (by omega), if_pos (by omega)]
    · rw [if_neg (by omega), if_neg e3, if_neg (by omega), if_neg (by omega)]
theorem gap_dn {r : Nat → Nat} {m j q : Nat} (hj : j + 1 ≤ m) : (if q = j + 1 then gapN r m (j + 1) j else gapN r m (j + 1) q) = gapN r m j q := by
  unfold gapN
  by_cases e : q = j + 1
  · subst e
    rw [if_pos rfl, if_neg (by omega), if_neg (by omega), if_pos (by omega)]; rfl
  · rw [if_neg e]
    by_cases e3 : j + 1 < q ∧ q ≤ m
    · rw [if_pos e3, if_pos (by omega)]
    · rw [if_neg e3, if_neg (by omega), if_neg (by omega), if_neg (by omega)]
section
variable {σ : Nat → Nat} {E : En} {d d' d2 d3 : Dy} {W : Nat → Int32} {B np nh : Nat} {S : RS} {K : Int32 → Dy → Prop} {K0 : Dy → Prop}
theorem m6_cL : ∀ i ∈ [B + 6], i ∈ cL B := by simp [cL]
theorem k_setO (c : cW σ E d W np nh) (hB : RB B) (hn : gI d (σ (B + 5)) 3 = nI nh) {l : Nat} (hl : l < nh) {x : Int32} (k : K0 (pA d (σ (B + 6)) (l * 1 + 0) x)) : w_X6_set E (σ (B + 5)) (nI l) 0 x d K0 :=
  T_set (c := 0) (ye_5 c.1.1 hB) (ys_5 c.1.2.1 hB hn c.2.2.2.2.2) hl (by decide) k
theorem k_move (c : cW σ E d W np nh) (hB : RB B) (C : clsR σ B np nh d S) (ok : rsOK np nh S) {i to : Nat} (hi : i < nh) (ht : to < nh) (k : ∀ d', Ch σ (cL B) d d' → (∀ j, gI d' (σ B) j = gI d (σ B) j) → clsR σ B np nh d' (stO S (mvN (rsO S) i (rpS S nh i) to)) → K0 d') : w_X3_move E (σ B) (nI i) (nI to) d K0 := by
  have h := c.1.1
  have h10 := c.2.2.2.2.2
  obtain ⟨hk1, hk2⟩ := rp_spec ok hi
  refine ⟨y_o h hB, k_placeOf c hB C ok hi ?_⟩
  generalize rpS S nh i = m at hk1 hk2 k
  rw [z_le (by omega) (by omega)]
  have n06 : (B : Nat) ∉ [B + 6] := by simp
  have done : ∀ d4, Ch σ [B + 6] d d4 → (∀ q, q < nh → gA d4 (σ (B + 6)) (q * 1 + 0) = nI (gapN (rsO S) m to q)) → b_X3_move_65 E (σ B) (nI i) (nI to) K0 d4 := fun d4 c4 g4 => by
    have c5 : Ch σ [B + 6] d (pA d4 (σ (B + 6)) (to * 1 + 0) (nI i)) := Ch_tr c4 (Chy_A h hB (by decide) (by simp))
    simp only [b_X3_move_65, y_7 h hB]
    refine k_setO (cW_ch c hB (Ch_w c4 m6_cL)) hB ((congrFun (Ch_I c4 (yB hB (by decide)) (by simp)) 3).trans C.2.1.2.2) ht (k _ (Ch_w c5 m6_cL) (fun j => by rw [Ch_I c5 (yB0 hB) n06]) ?_)
    have gf : ∀ q, q < nh → gA (pA d4 (σ (B + 6)) (to * 1 + 0) (nI i)) (σ (B + 6)) (q * 1 + 0) = nI (mvN (rsO S) i m to q) := fun q hq => by
      rw [gA_pA]
      show (if q * 1 + 0 = to * 1 + 0 then nI i else gA d4 (σ (B + 6)) (q * 1 + 0)) = _
      rw [g4 q hq, ← gap_mv]
      by_cases e : q = to
      · rw [if_pos (by omega), if_pos e]
      · rw [if_neg (by omega), if_neg e]
    obtain ⟨r1, r2, r3, r4⟩ := C
    refine ⟨?_, ?_, fun q hq => ?_, fun q hq => ⟨?_, fun hn => ?_, gf q hq⟩⟩
    · rw [Ch_I c5 (yB0 hB) n06]; exact r1
    · rw [Ch_I c5 (yB hB (by decide)) (by simp), Ch_I c5 (yB hB (by decide)) (by simp), Ch_I c5 (yB hB (by decide)) (by simp)]; exact r2
    · rw [Ch_A c5 (yB hB (by decide)) (by simp)]; exact r3 q hq
    · rw [Ch_A c5 (yB hB (by decide)) (by simp)]; exact (r4 q hq).1
    · rw [Ch_A c5 (yB hB (by decide)) (by simp)]; exact (r4 q hq).2.1 hn
  have g0 : ∀ q, q < nh → gA d (σ (B + 6)) (q * 1 + 0) = nI (gapN (rsO S) m m q) := fun q hq => by
    rw [(C.2.2.2 q hq).2.2]
    unfold gapN
    rw [if_neg (by omega), if_neg (by omega)]
  have z10 : (10 : Int32) = nI 10 := rfl
  refine ⟨fun hc => ?_, fun hc => ?_⟩
  · refine ⟨m + 1, loopG (S := Int32 × Int32 × Int32 × Dy) (l := fun N z => l_X3_move_21 E (σ B) (nI i) (nI to) K0 N z.1 z.2.1 z.2.2.1 z.2.2.2) (b := fun kk z => b_X3_move_21 E (σ B) (nI i) (nI to) K0 (fun a b c e => kk (a, b, c, e)) z.1 z.2.1 z.2.2.1 z.2.2.2) (fun _ _ => rfl)
      (μ := fun z => z.1.toNatClampNeg) (P := fun z => -1 = z.2.1 ∧ ∃ l, to ≤ l ∧ l ≤ m ∧ nI l = z.1 ∧ nI (m - l) = z.2.2.1 ∧ Ch σ [B + 6] d z.2.2.2 ∧ ∀ q, q < nh → gA z.2.2.2 (σ (B + 6)) (q * 1 + 0) = nI (gapN (rsO S) m l q)) ?_ m (nI m, -1, 0, d) ⟨rfl, m, hc, by omega, rfl, by rw [Nat.sub_self]; rfl, Ch_rf, g0⟩ (by simp only [z_nn (show m < 2147483648 by omega)]; exact Nat.le_refl _)⟩
    rintro kk ⟨v3, v4, v5, d3⟩ ⟨rfl, l, hl1, hl2, rfl, rfl, c3, g3⟩ hk
    have c3 : Ch σ [B + 6] d d3 := c3
    have g3 : ∀ q, q < nh → gA d3 (σ (B + 6)) (q * 1 + 0) = nI (gapN (rsO S) m l q) := g3
    have w3 := cW_ch c hB (Ch_w c3 m6_cL)
    have n3 : gI d3 (σ (B + 5)) 3 = nI nh := (congrFun (Ch_I c3 (yB hB (by decide)) (by simp)) 3).trans C.2.1.2.2
    simp only [b_X3_move_21, y_7 h hB]
    rw [z10, z_le (by decide) (by omega), z_eq (by omega) (by omega)]
    refine ⟨fun q => absurd q (by omega), fun _ => ⟨fun q => ?_, fun q => ?_⟩⟩
    · subst q; exact done d3 c3 g3
    · obtain ⟨j, rfl⟩ : ∃ j, l = j + 1 := ⟨l - 1, by omega⟩
      rw [z_am1]
      refine T_get (c := 0) (ye_5 h hB) (ys_5 w3.1.2.1 hB n3 h10) (show j < nh by omega) (by decide) (k_setO w3 hB n3 (by omega) ?_)
      rw [g3 j (by omega), z_a1, show m - (j + 1) + 1 = m - j by omega]
      refine hk (nI j, -1, nI (m - j), _) ⟨rfl, j, by omega, by omega, rfl, rfl, Ch_tr c3 (Chy_A h hB (by decide) (by simp)), fun q hq => ?_⟩ (by simp only [z_nn (show j + 1 < 2147483648 by omega), z_nn (show j < 2147483648 by omega)]; omega)
      rw [gA_pA]
      show (if q * 1 + 0 = (j + 1) * 1 + 0 then _ else gA d3 (σ (B + 6)) (q * 1 + 0)) = _
      rw [g3 q hq, ← gap_dn (j := j) (q := q) (by omega)]
      by_cases e : q = j + 1
      · rw [if_pos (by omega), if_pos e]
      · rw [if_neg (by omega), if_neg e]
  · refine ⟨nh + 1, loopG (S := Int32 × Int32 × Int32 × Dy) (l := fun N z => l_X3_move_21 E (σ B) (nI i) (nI to) K0 N z.1 z.2.1 z.2.2.1 z.2.2.2) (b := fun kk z => b_X3_move_21 E (σ B) (nI i) (nI to) K0 (fun a b c e => kk (a, b, c, e)) z.1 z.2.1 z.2.2.1 z.2.2.2) (fun _ _ => rfl)
      (μ := fun z => nh - z.1.toNatClampNeg) (P := fun z => 1 = z.2.1 ∧ ∃ l, m ≤ l ∧ l ≤ to ∧ nI l = z.1 ∧ nI (l - m) = z.2.2.1 ∧ Ch σ [B + 6] d z.2.2.2 ∧ ∀ q, q < nh → gA z.2.2.2 (σ (B + 6)) (q * 1 + 0) = nI (gapN (rsO S) m l q)) ?_ nh (nI m, 1, 0, d) ⟨rfl, m, by omega, by omega, rfl, by rw [Nat.sub_self]; rfl, Ch_rf, g0⟩ (Nat.sub_le _ _)⟩
    rintro kk ⟨v3, v4, v5, d3⟩ ⟨rfl, l, hl1, hl2, rfl, rfl, c3, g3⟩ hk
    have c3 : Ch σ [B + 6] d d3 := c3
    have g3 : ∀ q, q < nh → gA d3 (σ (B + 6)) (q * 1 + 0) = nI (gapN (rsO S) m l q) := g3
    have w3 := cW_ch c hB (Ch_w c3 m6_cL)
    have n3 : gI d3 (σ (B + 5)) 3 = nI nh := (congrFun (Ch_I c3 (yB hB (by decide)) (by simp)) 3).trans C.2.1.2.2
    simp only [b_X3_move_21, y_7 h hB]
    rw [z10, z_le (by decide) (by omega), z_eq (by omega) (by omega)]
    refine ⟨fun q => absurd q (by omega), fun _ => ⟨fun q => ?_, fun q => ?_⟩⟩
    · subst q; exact done d3 c3 g3
    · rw [z_a1]
      refine T_get (c := 0) (ye_5 h hB) (ys_5 w3.1.2.1 hB n3 h10) (show l + 1 < nh by omega) (by decide) (k_setO w3 hB n3 (by omega) ?_)
      rw [g3 (l + 1) (by omega), z_a1, show l - m + 1 = (l + 1) - m by omega]
      refine hk (nI (l + 1), 1, nI (l + 1 - m), _) ⟨rfl, l + 1, by omega, by omega, rfl, rfl, Ch_tr c3 (Chy_A h hB (by decide) (by simp)), fun q hq => ?_⟩ (by simp only [z_nn (show l + 1 < 2147483648 by omega), z_nn (show l < 2147483648 by omega)]; omega)
      rw [gA_pA]
      show (if q * 1 + 0 = l * 1 + 0 then _ else gA d3 (σ (B + 6)) (q * 1 + 0)) = _
      rw [g3 q hq, ← gap_up (l := l) (q := q) (by omega)]
      by_cases e : q = l
      · rw [if_pos (by omega), if_pos e]
      · rw [if_neg (by omega), if_neg e]
theorem k_evt (c : cW σ E d W np nh) {j cc m : Nat} (hj : j < cnt W 2) (hc : cc < 6) (hm : cmI 2 cc = m) (hm2 : m < 6) (k : K (W (120 + 6 * roI W 2 j + cc)) d) : w_X6_get E (σ 6) (nI j) (nI m) d K := by
  have hr2 : j < cnt (gA d (σ 88)) 2 := by rw [c.2.1]; exact hj
  refine T_get (te_6 c.1.1) (td_6 c.1) hr2 hm2 ?_
  have tv : gA d (σ 7) (j * 6 + cmI 2 cc) = gA d (σ 88) (120 + 6 * roI (gA d (σ 88)) 2 j + cc) := (c.1.2.2.1.2.1.2 2 (by decide)).2 j hr2 cc hc
  rw [hm, c.2.1] at tv
  rw [tv]; exact k
theorem ro2_lt {j : Nat} (hj : j < cnt W 2) : roI W 2 j < cnt W 2 := by
  have e : roI W 2 j = (ordr (kyI W 2) (cnt W 2)).getD j 0 := rfl
  have hl : j < (ordr (kyI W 2) (cnt W 2)).length := by rw [ordr_len]; exact hj
  have hm : (ordr (kyI W 2) (cnt W 2)).getD j 0 ∈ ordr (kyI W 2) (cnt W 2) := by rw [List.getD_eq_getElem?_getD, List.getElem?_eq_getElem hl]; exact List.getElem_mem hl
  rw [e]; exact (ordr_mem _ _ _).mp hm
theorem cf_0 (h : Env σ E) (hB : RB B) (C : clsR σ B np nh d S) {q : Nat} {x : Int32} (hq : q ≠ 4) : clsR σ B np nh (pI d (σ B) q x) S := by
  obtain ⟨c1, c2, c3, c4⟩ := C
  refine ⟨?_, ?_, c3, c4⟩
  · rw [gI_pI_k _ _ _ (fun e => hq e.symm)]; exact c1
  · rw [gI_pI_a _ _ _ (yn0 (j := 1) h hB (by decide) (by decide)), gI_pI_a _ _ _ (yn0 (j := 3) h hB (by decide) (by decide)), gI_pI_a _ _ _ (yn0 (j := 5) h hB (by decide) (by decide))]; exact c2
end
