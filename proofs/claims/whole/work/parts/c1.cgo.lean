theorem upto_take {y : Nat → Int32} {n Y j : Nat} (hy : ∀ e, e < n → ¬ y e < 0) (h1 : ∀ x ∈ (ordr y n).take j, (y x).toNatClampNeg ≤ Y) (h2 : n ≤ j ∨ Y < (y ((ordr y n).getD j 0)).toNatClampNeg) : (ordr y n).take j = upto y n Y := by
  unfold upto
  have e : (ordr y n).filter (fun e => decide ((y e).toNatClampNeg ≤ Y)) = ((ordr y n).take j ++ (ordr y n).drop j).filter (fun e => decide ((y e).toNatClampNeg ≤ Y)) := by rw [List.take_append_drop]
  rw [e, List.filter_append]
  have e1 : ((ordr y n).take j).filter (fun e => decide ((y e).toNatClampNeg ≤ Y)) = (ordr y n).take j := by
    rw [List.filter_eq_self]
    intro x hx; simpa using h1 x hx
  have e2 : ((ordr y n).drop j).filter (fun e => decide ((y e).toNatClampNeg ≤ Y)) = [] := by
    by_cases hj : j < n
    · have hl : j < (ordr y n).length := by rw [ordr_len]; exact hj
      have h2 : Y < (y ((ordr y n).getD j 0)).toNatClampNeg := h2.resolve_left (by omega)
      rw [List.getD_eq_getElem?_getD, List.getElem?_eq_getElem hl] at h2
      have h2 : Y < (y (ordr y n)[j]).toNatClampNeg := h2
      have hs := ordr_nat hy
      rw [List.filter_eq_nil_iff]
      intro x hx
      have hd : (ordr y n).drop j = (ordr y n)[j] :: (ordr y n).drop (j + 1) := List.drop_eq_getElem_cons hl
      have hs2 : ((ordr y n).drop j).Pairwise (fun a b => (y a).toNatClampNeg < (y b).toNatClampNeg ∨ (y a).toNatClampNeg = (y b).toNatClampNeg ∧ a < b) := List.Pairwise.sublist (List.drop_sublist j _) hs
      rw [hd] at hx hs2
      have : (y (ordr y n)[j]).toNatClampNeg ≤ (y x).toNatClampNeg := by
        rcases List.mem_cons.mp hx with q | q
        · rw [q]; exact Nat.le_refl _
        · have := (List.pairwise_cons.mp hs2).1 x q; omega
      simp; omega
    · have : (ordr y n).drop j = [] := by rw [List.drop_eq_nil_iff, ordr_len]; omega
      rw [this]; rfl
  rw [e1, e2, List.append_nil]
section
variable {σ : Nat → Nat} {E : En} {d d' d2 d3 : Dy} {W : Nat → Int32} {B np nh : Nat} {S : RS} {K : Int32 → Dy → Prop} {K0 : Dy → Prop}
theorem Chy_tP (h : Env σ E) (hB : RB B) {j : Nat} (hj : j < 10) {x : Int32} {P : List Nat} (hP : B + j ∈ P) : Ch σ P d (pI d (σ (B + j)) 3 x) := by
  refine Ch_pI h (yB hB hj) ?_ hP
  have no : ∀ x ∈ prot, x.2 ≠ 3 ∨ x.1 = 87 := by decide
  intro hq
  rcases no _ hq with q | q
  · exact q rfl
  · have hB : B = 50 ∨ B = 60 := hB
    have q : B + j = 87 := q
    omega
theorem k_open (h : Env σ E) (hB : RB B) {jt jb w m n : Nat} (te : TE E (σ (B + jt)) (σ (B + jb)) w m) (td : TD d (σ (B + jt)) w m n) (hn : n < m) (hjt : jt < 10) (hjb : jb < 10) (k : ∀ d', Ch σ [B + jt, B + jb] d d' → gI d' (σ (B + jt)) 3 = nI (n + 1) → (∀ j, j < n * w → gA d' (σ (B + jb)) j = gA d (σ (B + jb)) j) → (∀ j, n * w ≤ j → j < n * w + w → gA d' (σ (B + jb)) j = 0) → K (nI n) d') : w_X6_open E (σ (B + jt)) d K := by
  refine T_open te td hn (k _ (Ch_tr (Ch_sA h (yB hB hjb) (by simp)) (Chy_tP h hB hjt (by simp))) (gI_pI _ _ _ _) (fun j hj => ?_) (fun j h1 h2 => ?_))
  · rw [gA_pI, gA_sA]; unfold opn; rw [if_pos hj]
  · rw [gA_pI, gA_sA]; unfold opn; rw [if_neg (by omega), if_pos h2]
theorem c12 : ∀ i ∈ [B + 1, B + 2], i ∈ cL B := by simp [cL]
theorem c36 : ∀ i ∈ [B + 3, B + 4, B + 5, B + 6], i ∈ cL B := by simp [cL]
theorem k_begin (c : cW σ E d W np nh) (hB : RB B) {kn : Int32} (k : ∀ d', Ch σ (cL B) d d' → gI d' (σ B) 1 = kn → gI d' (σ B) 3 = nI 0 → clsR σ B np nh d' (rs0 W) → K0 d') : w_X3_begin E (σ B) kn d K0 := by
  have h := c.1.1
  obtain ⟨eW, hW, tw, e0, e1, n0, n1, hnp, hnh⟩ := cW_gW c
  simp only [w_X3_begin, y_5 h hB]
  have c0 : Ch σ (cL B) d (pI (pI (pI (pI d (σ B) 1 kn) (σ B) 2 1900) (σ B) 3 0) (σ B) 4 0) := Ch_tr (Ch_tr (Ch_tr (Chy_0 h hB) (Chy_0 h hB)) (Chy_0 h hB)) (Chy_0 h hB)
  have s0 : gI (pI (pI (pI (pI d (σ B) 1 kn) (σ B) 2 1900) (σ B) 3 0) (σ B) 4 0) (σ B) 1 = kn ∧ gI (pI (pI (pI (pI d (σ B) 1 kn) (σ B) 2 1900) (σ B) 3 0) (σ B) 4 0) (σ B) 3 = 0 ∧ gI (pI (pI (pI (pI d (σ B) 1 kn) (σ B) 2 1900) (σ B) 3 0) (σ B) 4 0) (σ B) 4 = 0 := by
    refine ⟨?_, ?_, gI_pI _ _ _ _⟩
    · rw [gI_pI_k _ _ _ (by decide), gI_pI_k _ _ _ (by decide), gI_pI_k _ _ _ (by decide), gI_pI]
    · rw [gI_pI_k _ _ _ (by decide), gI_pI]
  generalize pI (pI (pI (pI d (σ B) 1 kn) (σ B) 2 1900) (σ B) 3 0) (σ B) 4 0 = d0 at c0 s0
  refine ⟨y_o h hB, T_clear (ye_1 h hB) ?_⟩
  have c1 : Ch σ [B + 1, B + 2] d0 (pI d0 (σ (B + 1)) 3 0) := Chy_tP h hB (by decide) (by simp)
  have t1 : gI (pI d0 (σ (B + 1)) 3 0) (σ (B + 1)) 3 = nI 0 := gI_pI _ _ _ _
  generalize pI d0 (σ (B + 1)) 3 0 = d1 at c1 t1
  have nB12 : (B : Nat) ∉ [B + 1, B + 2] := by simp
  have nB36 : (B : Nat) ∉ [B + 3, B + 4, B + 5, B + 6] := by simp
  refine ⟨np + 1, loopG (S := Int32 × Dy) (l := fun N z => l_X3_begin_31 E (σ B) kn K0 N z.1 z.2) (b := fun kk z => b_X3_begin_31 E (σ B) kn K0 (fun a b => kk (a, b)) z.1 z.2) (fun _ _ => rfl)
    (μ := fun z => np - z.1.toNatClampNeg) (P := fun z => ∃ j, j ≤ np ∧ nI j = z.1 ∧ Ch σ [B + 1, B + 2] d0 z.2 ∧ gI z.2 (σ (B + 1)) 3 = nI j ∧ ∀ p, p < j → gA z.2 (σ (B + 2)) (p * 3 + 0) = -1 ∧ gA z.2 (σ (B + 2)) (p * 3 + 1) = 0 ∧ gA z.2 (σ (B + 2)) (p * 3 + 2) = 0) ?_ np (0, d1) ⟨0, by omega, rfl, c1, t1, fun p hp => absurd hp (Nat.not_lt_zero p)⟩ (Nat.sub_le _ _)⟩
  clear c1 t1 d1
  rintro kk ⟨v, d1⟩ ⟨j, hj, rfl, c1, t1, g1⟩ hk
  have c1 : Ch σ [B + 1, B + 2] d0 d1 := c1
  have t1 : gI d1 (σ (B + 1)) 3 = nI j := t1
  have g1 : ∀ p, p < j → gA d1 (σ (B + 2)) (p * 3 + 0) = -1 ∧ gA d1 (σ (B + 2)) (p * 3 + 1) = 0 ∧ gA d1 (σ (B + 2)) (p * 3 + 2) = 0 := g1
  have cc1 := Ch_tr c0 (Ch_w c1 c12)
  have w1 := cW_ch c hB cc1
  simp only [b_X3_begin_31, y_0 h hB, x_1_1 h, y_5 h hB, y_6 h hB, y_7 h hB]
  refine T_size (te_2 h) (td_2 w1.1) ?_
  rw [w1.2.1, ← n0, z_le (by omega) (by omega)]
  refine ⟨fun hc => T_clear (ye_3 h hB) (T_clear (ye_5 h hB) ?_), fun hc => ?_⟩
  · have : j = np := by omega
    subst this
    have c2 : Ch σ [B + 3, B + 4, B + 5, B + 6] d1 (pI (pI d1 (σ (B + 3)) 3 0) (σ (B + 5)) 3 0) := Ch_tr (Chy_tP h hB (by decide) (by simp)) (Chy_tP h hB (by decide) (by simp))
    have t5 : gI (pI (pI d1 (σ (B + 3)) 3 0) (σ (B + 5)) 3 0) (σ (B + 5)) 3 = nI 0 := gI_pI _ _ _ _
    have t3 : gI (pI (pI d1 (σ (B + 3)) 3 0) (σ (B + 5)) 3 0) (σ (B + 3)) 3 = nI 0 := by rw [gI_pI_a _ _ _ (yne h hB (by decide) (by decide) (by decide)), gI_pI]; rfl
    generalize pI (pI d1 (σ (B + 3)) 3 0) (σ (B + 5)) 3 0 = d2 at c2 t5 t3
    refine ⟨nh + 1, loopG (S := Int32 × Dy) (l := fun N z => l_X3_begin_83 E (σ B) kn K0 N z.1 z.2) (b := fun kk z => b_X3_begin_83 E (σ B) kn K0 (fun a b => kk (a, b)) z.1 z.2) (fun _ _ => rfl)
      (μ := fun z => nh - z.1.toNatClampNeg) (P := fun z => ∃ i, i ≤ nh ∧ nI i = z.1 ∧ Ch σ [B + 3, B + 4, B + 5, B + 6] d1 z.2 ∧ gI z.2 (σ (B + 3)) 3 = nI i ∧ gI z.2 (σ (B + 5)) 3 = nI i ∧ ∀ q, q < i → gA z.2 (σ (B + 4)) (q * 2 + 0) = W (51 + 7 * q) ∧ gA z.2 (σ (B + 4)) (q * 2 + 1) = 1900 ∧ gA z.2 (σ (B + 6)) (q * 1 + 0) = nI q) ?_ nh (0, d2) ⟨0, by omega, rfl, c2, t3, t5, fun p hp => absurd hp (Nat.not_lt_zero p)⟩ (Nat.sub_le _ _)⟩
    clear c2 t5 t3 d2 hk
    rintro kk ⟨v, d2⟩ ⟨i, hi, rfl, c2, t3, t5, g2⟩ hk
    have c2 : Ch σ [B + 3, B + 4, B + 5, B + 6] d1 d2 := c2
    have t3 : gI d2 (σ (B + 3)) 3 = nI i := t3
    have t5 : gI d2 (σ (B + 5)) 3 = nI i := t5
    have g2 : ∀ q, q < i → gA d2 (σ (B + 4)) (q * 2 + 0) = W (51 + 7 * q) ∧ gA d2 (σ (B + 4)) (q * 2 + 1) = 1900 ∧ gA d2 (σ (B + 6)) (q * 1 + 0) = nI q := g2
    have cc2 := Ch_tr cc1 (Ch_w c2 c36)
    have w2 := cW_ch c hB cc2
    simp only [b_X3_begin_83, w_X3_hold, y_0 h hB, x_1_2 h, y_6 h hB, y_7 h hB]
    refine T_size (te_4 h) (td_4 w2.1) ?_
    rw [w2.2.1, ← n1, z_le (by omega) (by omega)]
    refine ⟨fun hc => ?_, fun hc => ?_⟩
    · have : i = nh := by omega
      subst this
      have b0 : gI d2 (σ B) = gI d0 (σ B) := (Ch_I c2 (yB0 hB) nB36).trans (Ch_I c1 (yB0 hB) nB12)
      refine k d2 cc2 (by rw [b0]; exact s0.1) (by rw [b0]; exact s0.2.1) ⟨?_, ⟨?_, t3, t5⟩, fun p hp => ?_, fun q hq => ?_⟩
      · rw [b0, s0.2.2]
        show (0 : Int32) = nI _
        rw [show (0 : Int32) = nI 0 from rfl]
        congr 1
        exact bt_eq (m := 0) (Nat.two_pow_pos j) (fun i hi => by rw [Nat.zero_testBit]; rfl)
      · rw [Ch_I c2 (yB hB (by decide)) (by simp)]; exact t1
      · rw [Ch_A c2 (yB hB (by decide)) (by simp)]
        have z : ∀ f : Nat → Bool, (∀ i, f i = false) → (0 : Int32) = nI (btN f j) := fun f hf => by
          rw [show (0 : Int32) = nI 0 from rfl]
          congr 1
          exact bt_eq (m := 0) (Nat.two_pow_pos j) (fun i hi => by rw [Nat.zero_testBit, hf])
        exact ⟨(g1 p hp).1, (g1 p hp).2.1.trans (z _ (fun _ => rfl)), (g1 p hp).2.2.trans (z _ (fun _ => rfl))⟩
      · exact ⟨(g2 q hq).1.trans (rs0_H hW (by omega)), fun _ => (g2 q hq).2.1, (g2 q hq).2.2⟩
    · have hin : i < nh := by omega
      refine k_open (jt := 3) (jb := 4) h hB (ye_3 h hB) (ys_3 w2.1.2.1 hB t3 (by omega)) (by omega) (by decide) (by decide) (fun d3 c3 t3' ga gb => ?_)
      have m34 : ∀ i ∈ [B + 3, B + 4], i ∈ [B + 3, B + 4, B + 5, B + 6] := by simp
      have m56 : ∀ i ∈ [B + 5, B + 6], i ∈ [B + 3, B + 4, B + 5, B + 6] := by simp
      have c3' := Ch_tr c2 (Ch_w c3 m34)
      have w3 := cW_ch c hB (Ch_tr cc1 (Ch_w c3' c36))
      refine k_hut (j := 1) w3 hin (by decide) ⟨y_o h hB, ?_⟩
      rw [show 50 + 7 * i + 1 = 51 + 7 * i by omega]
      refine T_set (c := 0) (ye_3 h hB) (ys_3 w3.1.2.1 hB t3' (by omega)) (by omega) (by decide) ?_
      have cA : Ch σ [B + 3, B + 4, B + 5, B + 6] d1 (pA d3 (σ (B + 4)) (i * 2 + 0) (W (51 + 7 * i))) := Ch_tr c3' (Chy_A h hB (by decide) (by simp))
      have cB : Ch σ [B + 3, B + 4, B + 5, B + 6] d1 (pA (pA d3 (σ (B + 4)) (i * 2 + 0) (W (51 + 7 * i))) (σ (B + 4)) (i * 2 + 1) 1900) := Ch_tr cA (Chy_A h hB (by decide) (by simp))
      refine T_set (c := 1) (ye_3 h hB) (ys_3 (cW_ch c hB (Ch_tr cc1 (Ch_w cA c36))).1.2.1 hB (by rw [gI_pA]; exact t3') (by omega)) (by omega) (by decide) ?_
      have g4 : ∀ q, q < i + 1 → gA (pA (pA d3 (σ (B + 4)) (i * 2 + 0) (W (51 + 7 * i))) (σ (B + 4)) (i * 2 + 1) 1900) (σ (B + 4)) (q * 2 + 0) = W (51 + 7 * q) ∧ gA (pA (pA d3 (σ (B + 4)) (i * 2 + 0) (W (51 + 7 * i))) (σ (B + 4)) (i * 2 + 1) 1900) (σ (B + 4)) (q * 2 + 1) = 1900 := fun q hq => by
        rw [gA_pA, gA_pA]
        show (if q * 2 + 0 = i * 2 + 1 then 1900 else if q * 2 + 0 = i * 2 + 0 then W (51 + 7 * i) else gA d3 (σ (B + 4)) (q * 2 + 0)) = _ ∧ (if q * 2 + 1 = i * 2 + 1 then 1900 else if q * 2 + 1 = i * 2 + 0 then W (51 + 7 * i) else gA d3 (σ (B + 4)) (q * 2 + 1)) = _
        rw [if_neg (show ¬ q * 2 + 0 = i * 2 + 1 by omega), if_neg (show ¬ q * 2 + 1 = i * 2 + 0 by omega)]
        by_cases e : q = i
        · subst e; rw [if_pos rfl, if_pos rfl]; exact ⟨rfl, rfl⟩
        · rw [if_neg (by omega), if_neg (by omega), ga _ (by omega), ga _ (by omega)]; exact ⟨(g2 q (by omega)).1, (g2 q (by omega)).2.1⟩
      have t3b : gI (pA (pA d3 (σ (B + 4)) (i * 2 + 0) (W (51 + 7 * i))) (σ (B + 4)) (i * 2 + 1) 1900) (σ (B + 3)) 3 = nI (i + 1) := by rw [gI_pA, gI_pA]; exact t3'
      have t5b : gI (pA (pA d3 (σ (B + 4)) (i * 2 + 0) (W (51 + 7 * i))) (σ (B + 4)) (i * 2 + 1) 1900) (σ (B + 5)) 3 = nI i := by rw [gI_pA, gI_pA, Ch_I c3 (yB hB (by decide)) (by simp)]; exact t5
      have g6b : gA (pA (pA d3 (σ (B + 4)) (i * 2 + 0) (W (51 + 7 * i))) (σ (B + 4)) (i * 2 + 1) 1900) (σ (B + 6)) = gA d2 (σ (B + 6)) := by rw [gA_pA_ne _ _ _ (yne h hB (by decide) (by decide) (by decide)), gA_pA_ne _ _ _ (yne h hB (by decide) (by decide) (by decide)), Ch_A c3 (yB hB (by decide)) (by simp)]
      generalize pA (pA d3 (σ (B + 4)) (i * 2 + 0) (W (51 + 7 * i))) (σ (B + 4)) (i * 2 + 1) 1900 = d4 at cB g4 t3b t5b g6b
      have w4 := cW_ch c hB (Ch_tr cc1 (Ch_w cB c36))
      refine k_open (jt := 5) (jb := 6) h hB (ye_5 h hB) (ys_5 w4.1.2.1 hB t5b (by omega)) (by omega) (by decide) (by decide) (fun d5 c5 t5' ga5 gb5 => ?_)
      have c5' := Ch_tr cB (Ch_w c5 m56)
      have w5 := cW_ch c hB (Ch_tr cc1 (Ch_w c5' c36))
      refine T_set (c := 0) (ye_5 h hB) (ys_5 w5.1.2.1 hB t5' (by omega)) (by omega) (by decide) ?_
      rw [z_a1]
      refine hk (nI (i + 1), _) ⟨i + 1, by omega, rfl, Ch_tr c5' (Chy_A h hB (by decide) (by simp)), ?_, ?_, fun q hq => ?_⟩ (by simp only [z_nn (show i + 1 < 2147483648 by omega), z_nn (show i < 2147483648 by omega)]; omega)
      · rw [gI_pA, Ch_I c5 (yB hB (by decide)) (by simp)]; exact t3b
      · rw [gI_pA]; exact t5'
      · rw [gA_pA_ne _ _ _ (yne h hB (by decide) (by decide) (by decide)), Ch_A c5 (yB hB (by decide)) (by simp), gA_pA]
        refine ⟨(g4 q hq).1, (g4 q hq).2, ?_⟩
        show (if q * 1 + 0 = i * 1 + 0 then nI i else gA d5 (σ (B + 6)) (q * 1 + 0)) = _
        by_cases e : q = i
        · subst e; rw [if_pos rfl]
        · rw [if_neg (by omega), ga5 _ (by omega), g6b]; exact (g2 q (by omega)).2.2
  · have hjn : j < np := by omega
    refine k_open (jt := 1) (jb := 2) h hB (ye_1 h hB) (ys_1 w1.1.2.1 hB t1 (by omega)) (by omega) (by decide) (by decide) (fun d3 c3 t3' ga gb => ?_)
    have c3' := Ch_tr c1 c3
    have w3 := cW_ch c hB (Ch_tr c0 (Ch_w c3' c12))
    refine T_set (c := 0) (ye_1 h hB) (ys_1 w3.1.2.1 hB t3' (by omega)) (by omega) (by decide) ?_
    rw [z_a1]
    refine hk (nI (j + 1), _) ⟨j + 1, by omega, rfl, Ch_tr c3' (Chy_A h hB (by decide) (by simp)), ?_, fun q hq => ?_⟩ (by simp only [z_nn (show j + 1 < 2147483648 by omega), z_nn (show j < 2147483648 by omega)]; omega)
    · rw [gI_pA]; exact t3'
    · rw [gA_pA]
      show (if q * 3 + 0 = j * 3 + 0 then (-1 : Int32) else gA d3 (σ (B + 2)) (q * 3 + 0)) = _ ∧ (if q * 3 + 1 = j * 3 + 0 then (-1 : Int32) else gA d3 (σ (B + 2)) (q * 3 + 1)) = _ ∧ (if q * 3 + 2 = j * 3 + 0 then (-1 : Int32) else gA d3 (σ (B + 2)) (q * 3 + 2)) = _
      rw [if_neg (show ¬ q * 3 + 1 = j * 3 + 0 by omega), if_neg (show ¬ q * 3 + 2 = j * 3 + 0 by omega)]
      by_cases e : q = j
      · subst e; rw [if_pos rfl, gb _ (by omega) (by omega), gb _ (by omega) (by omega)]; exact ⟨rfl, rfl, rfl⟩
      · rw [if_neg (by omega), ga _ (by omega), ga _ (by omega), ga _ (by omega)]; exact g1 q (by omega)
end
