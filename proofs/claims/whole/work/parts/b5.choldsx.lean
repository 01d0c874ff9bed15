section
variable {σ : Nat → Nat} {E : En} {d d' d2 d3 : Dy} {W : Nat → Int32} {B np nh : Nat} {S : RS} {K : Int32 → Dy → Prop} {K0 : Dy → Prop}
theorem TX_ch {P : List Nat} {q s : Nat} (h : TX σ E d q W s) (c : Ch σ P d d') : TX σ E d' q W s := TX_d h c.2.2.1
theorem k_tsize {q s n : Nat} (hx : TX σ E d q W s) (hn : W (596 + 851 * s) = nI n) (hn2 : n ≤ 10) (k : K (nI n) d) : w_X7_size E q d K := by
  obtain ⟨tl, tb, tc, m, len, h0, h1, h2, h3, h4, h5, h6, h7, h8, h9, h10, h11, h12, h13⟩ := hx
  rw [h10, z_eq (by omega) (by omega)] at hn
  subst hn
  exact ⟨h1, tl, h2, h4.1, T_size h4 h5 k⟩
theorem k_tsz {q s n : Nat} (hx : TX σ E d q W s) (hn : W (596 + 851 * s) = nI n) (hn2 : n ≤ 10) (k : K (nI n) d) : ∃ c, eR E q 0 = some c ∧ okO E c 6 ∧ w_X6_size E c d K := (k_tsize hx hn hn2 k).2
theorem k_tget {q s n i j : Nat} (hx : TX σ E d q W s) (hn : W (596 + 851 * s) = nI n) (hn2 : n ≤ 10) (hi : i < n) (hj : j < 5) (k : ∀ tl tb len, eR E q 0 = some tl → okO E tl 6 → LnR s (gA d tb) (i * 5) W (597 + 851 * s + 5 * i) len → K (gA d tb (i * 5 + j)) d) : ∃ c, eR E q 0 = some c ∧ okO E c 6 ∧ w_X6_get E c (nI i) (nI j) d K := by
  obtain ⟨tl, tb, tc, m, len, h0, h1, h2, h3, h4, h5, h6, h7, h8, h9, h10, h11, h12, h13⟩ := hx
  rw [h10, z_eq (by omega) (by omega)] at hn
  subst hn
  exact ⟨tl, h2, h4.1, T_get h4 h5 hi hj (k tl tb len h2 h4.1 (h11 i hi))⟩
theorem k_holds (h : Env σ E) (hB : RB B) {q s n i : Nat} (hx : TX σ E d q W s) (hn : W (596 + 851 * s) = nI n) (hn2 : n ≤ 10) (hi : i < n) (hF : s ≠ 3 → gA d (σ (B + 8)) 8 = 0 ∨ gA d (σ (B + 8)) 8 = 1) (k : ∀ d', Ch σ [B + 7, B + 9] d d' → K (b2i (hdS W s i (gA d (σ (B + 8))))) d') : w_X7_holds E q (nI i) (σ (B + 7)) d K := by
  obtain ⟨tl, tb, tc, m, len, h0, h1, h2, h3, h4, h5, h6, h7, h8, h9, h10, h11, h12, h13⟩ := id hx
  rw [h10, z_eq (by omega) (by omega)] at hn
  subst hn
  obtain ⟨-, l3, l4, f, u, lf, lu, hfu, hul⟩ := h11 i hi
  rw [show 597 + 851 * s + 5 * i + 3 = 600 + 851 * s + 5 * i by omega] at l3 lf
  rw [show 597 + 851 * s + 5 * i + 4 = 601 + 851 * s + 5 * i by omega] at l4 lu
  have h5' := h13 i f u hi lf lu (by omega) (by omega)
  have e1 : cnt W (600 + 851 * s + 5 * i) = f := by unfold cnt; rw [lf, z_nn (by omega)]
  have e2 : cnt W (601 + 851 * s + 5 * i) = u := by unfold cnt; rw [lu, z_nn (by omega)]
  have hd : hdS W s i (gA d (σ (B + 8))) = if f = u then true else decide (evK (gA d (σ (B + 8))) (opW W s) (agW W s) (u - f) f [] = [1]) := by unfold hdS; rw [e1, e2]
  rw [hd] at k
  obtain ⟨ty0, hty0, hend⟩ : ∃ ty0, chk s (opW W s) (u - f) f [] = some ty0 ∧ (f ≠ u → ty0 = [true]) := by
    rcases h5' with h5' | h5'
    · exact ⟨[], by rw [h5', Nat.sub_self]; rfl, fun q => absurd h5' q⟩
    · exact ⟨[true], h5', fun _ => rfl⟩
  have lim : (if nI (eN E tc) < nI u then nI (eN E tc) else nI u) = nI u := by
    rw [if_neg]
    rw [h7, z_lt (by omega) (by omega)]; omega
  refine ⟨h1, y_8o h hB, tl, h2, h4.1, T_get (c := 3) h4 h5 hi (by decide) ⟨tl, h2, h4.1, T_get (c := 4) h4 h5 hi (by decide) ⟨tc, h3, h6, y_8o h hB, ?_⟩⟩⟩
  rw [l3, l4, lf, lu, lim]
  have cN : Ch σ [B + 7, B + 9] d (pI d (σ (B + 7)) 2 0) := Chy_7 h hB (by simp)
  have n97 : σ (B + 9) ≠ σ (B + 7) := yne h hB (by decide) (by decide) (by decide)
  refine ⟨u - f + 1, loopG (S := Int32 × Int32 × Int32 × Dy) (l := fun N z => l_X7_holds_36 E q (nI i) (σ (B + 7)) K N z.1 z.2.1 z.2.2.1 z.2.2.2) (b := fun kk z => b_X7_holds_36 E q (nI i) (σ (B + 7)) K (fun a b c e => kk (a, b, c, e)) z.1 z.2.1 z.2.2.1 z.2.2.2) (fun _ _ => rfl)
    (μ := fun z => u - z.2.2.1.toNatClampNeg) (P := fun z => nI f = z.1 ∧ nI u = z.2.1 ∧ ∃ j st ty, f ≤ j ∧ j ≤ u ∧ nI j = z.2.2.1 ∧ gI z.2.2.2 (σ (B + 7)) 2 = nI st.length ∧ st.length ≤ 20 ∧ Ch σ [B + 7, B + 9] d z.2.2.2 ∧ stR (gA z.2.2.2 (σ (B + 9))) st ∧ tyR st ty ∧ chk s (opW W s) (u - j) j ty = some ty0 ∧ evK (gA d (σ (B + 8))) (opW W s) (agW W s) (u - j) j st = evK (gA d (σ (B + 8))) (opW W s) (agW W s) (u - f) f []) ?_ (u - f) (nI f, nI u, nI f, pI d (σ (B + 7)) 2 0) ⟨rfl, rfl, f, [], [], by omega, hfu, rfl, gI_pI _ _ _ _, by decide, cN, fun q hq => absurd hq (Nat.not_lt_zero q), trivial, hty0, rfl⟩ (by simp only [z_nn (show f < 2147483648 by omega)]; exact Nat.le_refl _)⟩
  rintro kk ⟨v3, v4, v5, d3⟩ ⟨rfl, rfl, j, st, ty, hj1, hj2, rfl, dep, hl, c3, sR3, t3, hck, hev⟩ hk
  have c3 : Ch σ [B + 7, B + 9] d d3 := c3
  have sR3 : stR (gA d3 (σ (B + 9))) st := sR3
  have dep : gI d3 (σ (B + 7)) 2 = nI st.length := dep
  have f3 : gA d3 (σ (B + 8)) = gA d (σ (B + 8)) := Ch_A c3 (by have hB : B = 50 ∨ B = 60 := hB; omega) (by simp)
  have hlt : st.length = ty.length := ty_len t3
  refine ⟨fun hc => ?_, fun hc => ⟨tc, h3, h6, ?_⟩⟩
  · have hc : nI u ≤ nI j := hc
    rw [z_le (by omega) (by omega)] at hc
    have hju : j = u := by omega
    subst hju
    rw [Nat.sub_self] at hck hev
    have hck : some ty = some ty0 := hck
    cases hck
    have hev : st = evK (gA d (σ (B + 8))) (opW W s) (agW W s) (j - f) f [] := hev
    show (nI j ≤ nI f → _) ∧ (¬ nI j ≤ nI f → _)
    rw [z_le (by omega) (by omega)]
    by_cases hfj : f = j
    · rw [if_pos hfj] at k
      exact ⟨fun _ => k d3 c3, fun q => absurd (by omega) q⟩
    · rw [if_neg hfj] at k
      have hty := hend hfj
      subst hty
      obtain ⟨x, r, rfl, hx1, hr⟩ := ty1 t3
      have : r = [] := by
        match r, hr with
        | [], _ => rfl
      subst this
      have hg : gA d3 (σ (B + 9)) 0 = x := st_top (r := []) sR3
      have dep : gI d3 (σ (B + 7)) 2 = nI 1 := dep
      rw [← hev] at k
      simp only [w_X0_isTrue, y_81 h hB, (y_n8 h hB).2, dep, show (0 : Int32).toNatClampNeg = 0 from rfl, hg]
      refine ⟨fun q => absurd q (by omega), fun _ => ⟨y_8o h hB, fun q => absurd q (by decide), fun _ => ⟨vpi (k := 0) (by decide) (by decide), fun q => ⟨fun _ => ?_, fun q2 => absurd trivial q2⟩, fun q => ⟨fun q2 => absurd q2 (by decide), fun _ => ?_⟩⟩⟩⟩
      · have := k d3 c3
        rw [q] at this; exact this
      · have := k d3 c3
        rcases hx1 rfl with q2 | q2
        · exact absurd q2 q
        · rw [q2] at this; exact this
  · have hc : ¬ nI u ≤ nI j := hc
    rw [z_le (by omega) (by omega)] at hc
    have hju : j < u := by omega
    rw [show u - j = (u - (j + 1)) + 1 by omega] at hck hev
    simp only [chk] at hck
    have hev : evK (gA d (σ (B + 8))) (opW W s) (agW W s) (u - (j + 1)) (j + 1) (ev1 (gA d (σ (B + 8))) (opW W s j) (agW W s j) st) = evK (gA d (σ (B + 8))) (opW W s) (agW W s) (u - f) f [] := hev
    cases hc1 : ck1 s (opW W s j) ty with
    | none => rw [hc1] at hck; cases hck
    | some ty1 =>
      rw [hc1] at hck
      have hck : chk s (opW W s) (u - (j + 1)) (j + 1) ty1 = some ty0 := hck
      have hit := h12 j (by omega)
      have tcd : gA d3 tc = gA d tc := (c3.2.2.1 tc (fun i hi => (h0 i hi).2.2.2)).2
      show vp_in (nI j) (eN E tc) ∧ w_X0_use E (σ (B + 7)) (gA d3 tc (nI j).toNatClampNeg) d3 _
      rw [h7, z_nn (show j < 2147483648 by omega), tcd, hit.1]
      refine ⟨vpi (by omega) (by omega), k_use h hB hc1 t3 sR3 dep hl hit.2 (fun d4 c4 s4 dep4 => ?_)⟩
      rw [f3] at s4 dep4
      show kk (nI f, nI u, nI j + 1, d4)
      rw [z_a1]
      exact hk (nI f, nI u, nI (j + 1), d4) ⟨rfl, rfl, j + 1, _, ty1, by omega, by omega, rfl, dep4, ev_len hc1 t3 hF hl, Ch_tr c3 c4, s4, ev_ty hc1 t3 hF, hck, hev⟩ (by simp only [z_nn (show j + 1 < 2147483648 by omega), z_nn (show j < 2147483648 by omega)]; omega)
theorem k_total (h : Env σ E) (hB : RB B) {q s n : Nat} (hs : s = 1 ∨ s = 2) (hx : TX σ E d q W s) (hn : W (596 + 851 * s) = nI n) (hn2 : n ≤ 10) (hF : gA d (σ (B + 8)) 8 = 0 ∨ gA d (σ (B + 8)) 8 = 1) (k : ∀ d', Ch σ [B + 7, B + 9] d d' → K (sumS W s (gA d (σ (B + 8))) n) d') : w_X7_total E q (σ (B + 7)) d K := by
  have h8 : B + 8 < 116 := by have hB : B = 50 ∨ B = 60 := hB; omega
  obtain ⟨tl0, -, -, -, -, -, ho, h2, -, h4, -⟩ := id hx
  refine ⟨ho, y_8o h hB, n + 1, loopG (S := Int32 × Int32 × Dy) (l := fun N z => l_X7_total_4 E q (σ (B + 7)) K N z.1 z.2.1 z.2.2) (b := fun kk z => b_X7_total_4 E q (σ (B + 7)) K (fun a b c => kk (a, b, c)) z.1 z.2.1 z.2.2) (fun _ _ => rfl)
    (μ := fun z => n - z.2.1.toNatClampNeg) (P := fun z => ∃ i, i ≤ n ∧ nI i = z.2.1 ∧ sumS W s (gA d (σ (B + 8))) i = z.1 ∧ Ch σ [B + 7, B + 9] d z.2.2) ?_ n (0, 0, d) ⟨0, by omega, rfl, rfl, Ch_rf⟩ (Nat.sub_le _ _)⟩
  rintro kk ⟨a, v, d3⟩ ⟨i, hi, rfl, rfl, c3⟩ hk
  have c3 : Ch σ [B + 7, B + 9] d d3 := c3
  have f3 : gA d3 (σ (B + 8)) = gA d (σ (B + 8)) := Ch_A c3 h8 (by simp)
  have hx3 := TX_ch hx c3
  refine k_tsz hx3 hn hn2 ?_
  · show (nI n ≤ nI i → _) ∧ (¬ nI n ≤ nI i → _)
    rw [z_le (by omega) (by omega)]
    refine ⟨fun hc => ?_, fun hc => ?_⟩
    · have : i = n := by omega
      subst this; exact k d3 c3
    · have hin : i < n := by omega
      have nx : ∀ x (d4 : Dy), x = sumS W s (gA d (σ (B + 8))) (i + 1) → Ch σ [B + 7, B + 9] d d4 → kk (x, nI i + 1, d4) := fun x d4 hx c4 => by
        rw [z_a1]; exact hk (x, nI (i + 1), d4) ⟨i + 1, by omega, rfl, hx.symm, c4⟩ (by simp only [z_nn (show i + 1 < 2147483648 by omega), z_nn (show i < 2147483648 by omega)]; omega)
      have es : sumS W s (gA d (σ (B + 8))) (i + 1) = if hdS W s i (gA d (σ (B + 8))) = true then sumS W s (gA d (σ (B + 8))) i + sum1 W s (gA d (σ (B + 8))) i else sumS W s (gA d (σ (B + 8))) i := rfl
      refine k_holds h hB hx3 hn hn2 hin (fun _ => by rw [f3]; exact hF) (fun d4 c4 => ?_)
      rw [f3]
      have f4 : gA d4 (σ (B + 8)) = gA d (σ (B + 8)) := (Ch_A c4 h8 (by simp)).trans f3
      have hx4 := TX_ch hx3 c4
      refine ⟨fun h0 => nx _ _ ?_ (Ch_tr c3 c4), fun h0 => ?_⟩
      · rw [b2i_0] at h0; rw [es, if_neg (by rw [h0]; decide)]
      · rw [b2i_1] at h0
        rw [if_pos h0] at es
        refine k_tget (j := 2) hx4 hn hn2 hin (by decide) (fun tl tb len e0 o0 ln => ?_)
        unfold LnR at ln
        rw [if_neg (by omega), if_neg (by omega)] at ln
        obtain ⟨⟨l1, l2, l3, l4, l5⟩, -⟩ := ln
        rw [show 597 + 851 * s + 5 * i + 1 = 598 + 851 * s + 5 * i by omega] at l2 l3
        rw [show 597 + 851 * s + 5 * i + 2 = 599 + 851 * s + 5 * i by omega] at l4 l5
        have last : ∀ z, sum1 W s (gA d (σ (B + 8))) i = (if W (597 + 851 * s + 5 * i) = 4 then W (598 + 851 * s + 5 * i) * z else -(W (598 + 851 * s + 5 * i) * z)) → b_X7_total_51 E q (σ (B + 7)) K (fun a b c => kk (a, b, c)) (sumS W s (gA d (σ (B + 8))) i) (nI i) z d4 := fun z hz => by
          refine k_tget (j := 0) hx4 hn hn2 hin (by decide) (fun tl' tb' len' e0' o0' ln' => k_tget (j := 1) hx4 hn hn2 hin (by decide) (fun tl2 tb2 len2 e2 o2 ln2 => nx _ _ ?_ (Ch_tr c3 c4)))
          unfold LnR at ln' ln2
          rw [if_neg (by omega), if_neg (by omega)] at ln' ln2
          obtain ⟨⟨m1, -, -, -, -⟩, -⟩ := ln'
          obtain ⟨⟨-, m2, -, -, -⟩, -⟩ := ln2
          rw [show 597 + 851 * s + 5 * i + 1 = 598 + 851 * s + 5 * i by omega] at m2
          rw [es, hz, m2]
          rcases m1 with ⟨m1, m3⟩ | ⟨m1, m3⟩
          · rw [show i * 5 + 0 = i * 5 from rfl, m3, if_pos m1, Int32.one_mul]
          · rw [show i * 5 + 0 = i * 5 from rfl, m3, if_neg (by rw [m1]; decide), Int32.neg_mul, Int32.one_mul, Int32.neg_mul]
        rw [l4]
        refine ⟨fun q => ?_, fun q => last _ ?_⟩
        · rcases l5 with l5 | ⟨l5, l6⟩
          · exact absurd l5 q
          · obtain ⟨m, -, hm, em⟩ := bw_n (a := 0) (b := 7) l5 (by decide) (by decide)
            have z9 : ¬ 9 ≤ nI m := by rw [show (9 : Int32) = nI 9 from rfl, z_le (by decide) (by omega)]; omega
            have z0 : ¬ nI m < 0 := z_pos (by omega)
            rw [em]
            simp only [w_X0_of, y_80 h hB, (y_n8 h hB).1, z_nn (show m < 2147483648 by omega), f4]
            refine ⟨y_8o h hB, fun q => absurd q z0, fun _ => ⟨fun q => absurd q z9, fun _ => ⟨vpi (by omega) (by decide), last _ ?_⟩⟩⟩
            unfold sum1
            rw [em]
            simp only [if_pos (Int32.not_lt.mp z0), z_nn (show m < 2147483648 by omega)]
        · unfold sum1
          rw [q]
          simp only [if_neg (show ¬ (0 : Int32) ≤ -1 by decide)]
end
