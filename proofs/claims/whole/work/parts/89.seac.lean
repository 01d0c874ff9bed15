section
variable {σ : Nat → Nat} {E : En} {d d' d2 d3 : Dy} {kc : En → Dy → Prop} {v4 : Int32} {xs : Nat → Int32} {L : Nat}
theorem k_fill (h : Env σ E) {i n : Nat} {v : Int32} {K : Dy → Prop} (hi : i < 116) (ha : okA E (σ i) 13) (hN : eN E (σ i) = n) (hn : n < 2147483648) (k : ∀ d', Ch σ [i] d d' → (∀ q, q < n → gA d' (σ i) q = v) → K d') : w_J7_fill_53178 E (σ i) v d K := by
  refine ⟨ha, ?_⟩
  rw [hN]
  refine ⟨n + 1, loopG (S := Int32 × Int32 × Dy) (l := fun N s => l_J7_fill_53178_5 E (σ i) v K N s.1 s.2.1 s.2.2) (b := fun kk s => b_J7_fill_53178_5 E (σ i) v K (fun a b c => kk (a, b, c)) s.1 s.2.1 s.2.2) (fun _ _ => rfl)
    (μ := fun s => n - s.1.toNatClampNeg) (P := fun s => nI n = s.2.1 ∧ ∃ j, j ≤ n ∧ nI j = s.1 ∧ Ch σ [i] d s.2.2 ∧ ∀ q, q < j → gA s.2.2 (σ i) q = v) ?_ n (0, nI n, d) ⟨rfl, 0, by omega, rfl, Ch_rf, fun q hq => absurd hq (by omega)⟩ (Nat.sub_le _ _)⟩
  rintro kk ⟨a, b, d3⟩ ⟨rfl, j, hj, rfl, c3, g3⟩ hk
  have c3 : Ch σ [i] d d3 := c3
  have g3 : ∀ q, q < j → gA d3 (σ i) q = v := g3
  refine ⟨fun hc => ?_, fun hc => ?_⟩
  · rw [z_le (by omega) (by omega)] at hc
    exact k d3 c3 (fun q hq => g3 q (by omega))
  · rw [z_le (by omega) (by omega)] at hc
    rw [hN, z_nn (by omega), z_a1]
    refine ⟨vpi (by omega) hn, hk (nI (j + 1), nI n, _) ⟨rfl, j + 1, by omega, rfl, Ch_tr c3 (Ch_pA h hi (by simp)), fun q hq => ?_⟩ (by simp only [z_nn (show j + 1 < 2147483648 by omega), z_nn (show j < 2147483648 by omega)]; omega)⟩
    show gA (pA d3 (σ i) j v) (σ i) q = v
    rw [gA_pA_x, if_pos rfl]
    by_cases e : q = j
    · rw [if_pos e]
    · rw [if_neg e]; exact g3 q (by omega)
/-- what the class has told of huts and storms, as long as only the shore changes -/
def shT (σ : Nat → Nat) (d : Dy) (W : Nat → Int32) (ns nh : Nat) : Prop :=
  TD d (σ 4) 7 10 nh ∧ TD d (σ 14) 3 10 ns ∧ (∀ h, h < nh → gA d (σ 5) (h * 7 + 3) = W (50 + 7 * h + 3) ∧ gA d (σ 5) (h * 7 + 4) = W (50 + 7 * h + 4)) ∧ (∀ s, s < ns → gA d (σ 15) (s * 3 + 1) = W (390 + 3 * s + 2) ∧ gA d (σ 15) (s * 3 + 2) = W (390 + 3 * s + 1))
theorem shT_ch {W : Nat → Int32} {ns nh : Nat} (t : shT σ d W ns nh) (c : Ch σ shL d d') : shT σ d' W ns nh := by
  obtain ⟨t1, t2, t3, t4⟩ := t
  have e4 := Ch_I c (i := 4) (by decide) (by decide)
  have e14 := Ch_I c (i := 14) (by decide) (by decide)
  refine ⟨?_, ?_, ?_, ?_⟩
  · unfold TD; rw [e4]; exact t1
  · unfold TD; rw [e14]; exact t2
  · rw [Ch_A c (i := 5) (by decide) (by decide)]; exact t3
  · rw [Ch_A c (i := 15) (by decide) (by decide)]; exact t4
theorem k_narrows (h : Env σ E) {W : Nat → Int32} {ns nh : Nat} {kn : Int32} {S : F4} {K : Int32 → Dy → Prop} (t : shT σ d W ns nh) (A : A4 σ 81 ns nh d S) (g : gd4 ns nh S) (h0 : gI d (σ 80) 5 = 0)
    (k0 : ∀ d', Ch σ shL d d' → run4 (stB W) (pl4 (stK W kn) ns nh 0) S 0 = none → K 0 d')
    (k1 : ∀ d' S' m, Ch σ shL d d' → run4 (stB W) (pl4 (stK W kn) ns nh 0) S 0 = some (S', m) → A4 σ 81 ns nh d' S' → gd4 ns nh S' → gI d' (σ 80) 5 = m → (m = 0 ∨ m = 1) → K 1 d') : w_X5_narrows E (σ 80) kn d K := by
  have hns := t.2.1.2.2.2
  have hnh := t.1.2.2.2
  refine ⟨eo_80 h, ns + 1, loopG (S := Int32 × Dy) (l := fun N s => l_X5_narrows_2 E (σ 80) kn K N s.1 s.2) (b := fun kk s => b_X5_narrows_2 E (σ 80) kn K (fun a b => kk (a, b)) s.1 s.2) (fun _ _ => rfl)
    (μ := fun s => ns - s.1.toNatClampNeg) (P := fun s => ∃ i T m, i ≤ ns ∧ nI i = s.1 ∧ Ch σ shL d s.2 ∧ A4 σ 81 ns nh s.2 T ∧ gd4 ns nh T ∧ gI s.2 (σ 80) 5 = m ∧ (m = 0 ∨ m = 1) ∧ run4 (stB W) (pl4 (stK W kn) ns nh i) T m = run4 (stB W) (pl4 (stK W kn) ns nh 0) S 0) ?_ ns (0, d) ⟨0, S, 0, by omega, rfl, Ch_rf, A, g, h0, Or.inl rfl, rfl⟩ (Nat.sub_le _ _)⟩
  rintro kk ⟨v, d3⟩ ⟨i, T, m, hi, rfl, c3, A3, g3, f3, hm, hr⟩ hk
  have c3 : Ch σ shL d d3 := c3
  have t3 := shT_ch t c3
  simp only [b_X5_narrows_2, x_80_0 h, x_1_7 h]
  refine T_size (te_14 h) t3.2.1 ⟨fun hc => ?_, fun hc => ?_⟩
  · rw [z_le (by omega) (by omega)] at hc
    have : i = ns := by omega
    subst this
    rw [pl4_e] at hr
    exact k1 d3 T m c3 hr.symm A3 g3 f3 hm
  · rw [z_le (by omega) (by omega)] at hc
    refine T_get (c := 1) (te_14 h) t3.2.1 (by omega) (by decide) ?_
    rw [(t3.2.2.2 i (by omega)).1]
    rw [pl4_c (by omega)] at hr
    refine ⟨fun hq => T_get (c := 2) (te_14 h) t3.2.1 (by omega) (by decide) ?_, fun hq => ?_⟩
    · rw [(t3.2.2.2 i (by omega)).2]
      rw [if_pos (by simpa [stK] using hq)] at hr
      refine ⟨nh + 1, loopG (S := Int32 × Int32 × Int32 × Dy) (l := fun N s => l_X5_narrows_51 E (σ 80) kn K _ N s.1 s.2.1 s.2.2.1 s.2.2.2) (b := fun k2 s => b_X5_narrows_51 E (σ 80) kn K _ (fun a b c e => k2 (a, b, c, e)) s.1 s.2.1 s.2.2.1 s.2.2.2) (fun _ _ => rfl)
        (μ := fun s => nh - s.2.2.1.toNatClampNeg) (P := fun s => nI i = s.1 ∧ W (390 + 3 * i + 1) = s.2.1 ∧ ∃ j T m, j ≤ nh ∧ nI j = s.2.2.1 ∧ Ch σ shL d s.2.2.2 ∧ A4 σ 81 ns nh s.2.2.2 T ∧ gd4 ns nh T ∧ gI s.2.2.2 (σ 80) 5 = m ∧ (m = 0 ∨ m = 1) ∧ run4 (stB W) (rw4 i nh j ++ pl4 (stK W kn) ns nh (i + 1)) T m = run4 (stB W) (pl4 (stK W kn) ns nh 0) S 0) ?_ nh (nI i, W (390 + 3 * i + 1), 0, d3) ⟨rfl, rfl, 0, T, m, by omega, rfl, c3, A3, g3, f3, hm, hr⟩ (Nat.sub_le _ _)⟩
      rintro k2 ⟨a1, a2, v, d4⟩ ⟨rfl, rfl, j, T, m, hj, rfl, c4, A4', g4, f4, hm, hr⟩ hk2
      have c4 : Ch σ shL d d4 := c4
      have A4' : A4 σ 81 ns nh d4 T := A4'
      have f4 : gI d4 (σ 80) 5 = m := f4
      have t4 := shT_ch t c4
      simp only [b_X5_narrows_51, x_80_0 h, x_1_2 h]
      refine T_size (te_4 h) t4.1 ⟨fun hc2 => ?_, fun hc2 => ?_⟩
      · rw [z_le (by omega) (by omega)] at hc2
        have : j = nh := by omega
        subst this
        rw [rw4_e, List.nil_append] at hr
        rw [z_a1]
        exact hk (nI (i + 1), d4) ⟨i + 1, T, m, by omega, rfl, c4, A4', g4, f4, hm, hr⟩ (by simp only [z_nn (show i + 1 < 2147483648 by omega), z_nn (show i < 2147483648 by omega)]; omega)
      · rw [z_le (by omega) (by omega)] at hc2
        rw [rw4_c (by omega), List.cons_append] at hr
        simp only [run4] at hr
        have fin : ∀ d5, Ch σ shL d4 d5 → A4 σ 81 ns nh d5 (stp4 (stB W i j) T i j) → gI d5 (σ 80) 5 = (if sam T (stp4 (stB W i j) T i j) i j then gI d4 (σ 80) 5 else 1) → b_X5_narrows_92 E (σ 80) kn K (fun a b => kk (a, b)) (fun a b c e => k2 (a, b, c, e)) (nI i) (W (390 + 3 * i + 1)) (nI j) d5 := by
          intro d5 c5 A5 f5
          simp only [b_X5_narrows_92, x_80_1 h, x_80_2 h, x_80_3 h, x_80_4 h, en_81 h, en_82 h, en_83 h, en_84 h, z_nn (show i < 2147483648 by omega), z_nn (show j < 2147483648 by omega)]
          rw [(A5.1 j (by omega)).1, (A5.1 j (by omega)).2, (A5.2 i (by omega)).1, (A5.2 i (by omega)).2]
          refine ⟨vpi (by omega) (by decide), vpi (by omega) (by decide), fun q1 => ?_, fun q1 => ⟨vpi (by omega) (by decide), vpi (by omega) (by decide), fun q2 => ?_, fun q2 => ?_⟩⟩
          · rw [if_neg (fun ok => ok.2 q1)] at hr
            exact k0 d5 (Ch_tr c4 c5) hr.symm
          · have ok : ok4 (stp4 (stB W i j) T i j) i j := ⟨Int32.not_lt.mpr q2, q1⟩
            rw [if_pos ok] at hr
            rw [z_a1]
            refine hk2 (nI i, W (390 + 3 * i + 1), nI (j + 1), d5) ⟨rfl, rfl, j + 1, _, _, by omega, rfl, Ch_tr c4 c5, A5, stp_gd g4 (by omega) (by omega) ok, ?_, ?_, hr⟩ (by simp only [z_nn (show j + 1 < 2147483648 by omega), z_nn (show j < 2147483648 by omega)]; omega)
            · show gI d5 (σ 80) 5 = _
              rw [f5, f4]
              by_cases hs : sam T (stp4 (stB W i j) T i j) i j
              · rw [if_pos hs]
                rcases hm with rfl | rfl
                · rw [if_pos ⟨rfl, hs⟩]
                · rw [if_neg (fun q => absurd q.1 (by decide))]
              · rw [if_neg hs, if_neg (fun q => hs q.2)]
            · split
              · exact Or.inl rfl
              · exact Or.inr rfl
          · rw [if_neg (fun ok => q2 (Int32.not_lt.mp ok.1))] at hr
            exact k0 d5 (Ch_tr c4 c5) hr.symm
        refine ⟨fun hb => ?_, fun hb => ?_⟩
        · have hB : stB W i j = false := by
            show decide _ = false
            rw [decide_eq_false_iff_not]; intro q; rw [hb] at q; exact absurd q (by decide)
          rw [hB] at fin
          exact k_nabove h hns hnh (by omega) (by omega) A4' fin
        · have hB : stB W i j = true := by
            show decide _ = true
            rw [decide_eq_true_iff]; exact (an1 _).resolve_left hb
          rw [hB] at fin
          exact k_above h hns hnh (by omega) (by omega) A4' g4 fin
    · rw [if_neg (by simpa [stK] using hq), List.nil_append] at hr
      rw [z_a1]
      exact hk (nI (i + 1), d3) ⟨i + 1, T, m, by omega, rfl, c3, A3, g3, f3, hm, hr⟩ (by simp only [z_nn (show i + 1 < 2147483648 by omega), z_nn (show i < 2147483648 by omega)]; omega)
theorem k_solves (h : Env σ E) {W : Nat → Int32} {ns nh : Nat} {kn : Int32} {K : Int32 → Dy → Prop} (t : shT σ d W ns nh) (hW : WI W) (hnh1 : nh = cnt W 1)
    (k0 : ∀ d', Ch σ shL d d' → it4 (stB W) (pl4 (stK W kn) ns nh 0) 5000 (st0 W) = none → K 0 d')
    (k1 : ∀ d' S', Ch σ shL d d' → it4 (stB W) (pl4 (stK W kn) ns nh 0) 5000 (st0 W) = some S' → A4 σ 81 ns nh d' S' → K 1 d') : w_X5_solves E (σ 80) kn d K := by
  have hns := t.2.1.2.2.2
  have hnh := t.1.2.2.2
  refine ⟨eo_80 h, nh + 1, loopG (S := Int32 × Dy) (l := fun N s => l_X5_solves_2 E (σ 80) kn K N s.1 s.2) (b := fun kk s => b_X5_solves_2 E (σ 80) kn K (fun a b => kk (a, b)) s.1 s.2) (fun _ _ => rfl)
    (μ := fun s => nh - s.1.toNatClampNeg) (P := fun s => ∃ i, i ≤ nh ∧ nI i = s.1 ∧ Ch σ shL d s.2 ∧ ∀ q, q < i → gA s.2 (σ 81) q = st0 W 0 q ∧ gA s.2 (σ 82) q = st0 W 1 q) ?_ nh (0, d) ⟨0, by omega, rfl, Ch_rf, fun q hq => absurd hq (by omega)⟩ (Nat.sub_le _ _)⟩
  rintro kk ⟨v, d3⟩ ⟨i, hi, rfl, c3, g3⟩ hk
  have c3 : Ch σ shL d d3 := c3
  have g3 : ∀ q, q < i → gA d3 (σ 81) q = st0 W 0 q ∧ gA d3 (σ 82) q = st0 W 1 q := g3
  have t3 := shT_ch t c3
  simp only [b_X5_solves_2, x_80_0 h, x_1_2 h, x_80_1 h, x_80_2 h, x_80_3 h, x_80_4 h]
  refine T_size (te_4 h) t3.1 ⟨fun hc => ?_, fun hc => ?_⟩
  · rw [z_le (by omega) (by omega)] at hc
    have : i = nh := by omega
    subst this
    refine k_fill h (i := 83) (by decide) (eo_83 h) (en_83 h) (by decide) (fun d4 c4 g4 => k_fill h (i := 84) (by decide) (eo_84 h) (en_84 h) (by decide) (fun d5 c5 g5 => ?_))
    have e81 : gA d5 (σ 81) = gA d3 (σ 81) := (Ch_A c5 (by decide) (by decide)).trans (Ch_A c4 (by decide) (by decide))
    have e82 : gA d5 (σ 82) = gA d3 (σ 82) := (Ch_A c5 (by decide) (by decide)).trans (Ch_A c4 (by decide) (by decide))
    have e83 : gA d5 (σ 83) = gA d4 (σ 83) := Ch_A c5 (by decide) (by decide)
    have cc : Ch σ shL d (pI d5 (σ 80) 5 1) := Ch_tr (Ch_tr (Ch_tr c3 (Ch_w c4 (by decide))) (Ch_w c5 (by decide))) (Ch_pI h (by decide) (by decide) (by decide))
    have AA : A4 σ 81 ns i (pI d5 (σ 80) 5 1) (st0 W) := by
      refine ⟨fun q hq => ?_, fun q hq => ?_⟩
      · rw [gA_pI, e81, e82]; exact g3 q hq
      · rw [gA_pI, e83]; exact ⟨g4 q (by omega), g5 q (by omega)⟩
    obtain ⟨N, hN⟩ : ∃ N : Nat, N = 5000 := ⟨5000, rfl⟩
    rw [← hN] at k0 k1
    refine ⟨N + 1, loopG (S := Int32 × Dy) (l := fun N s => l_X5_solves_82 E (σ 80) kn K N s.1 s.2) (b := fun kk s => b_X5_solves_82 E (σ 80) kn K (fun a b => kk (a, b)) s.1 s.2) (fun _ _ => rfl)
      (μ := fun s => N - s.1.toNatClampNeg) (P := fun s => ∃ j T m, j ≤ N ∧ nI j = s.1 ∧ Ch σ shL d s.2 ∧ A4 σ 81 ns i s.2 T ∧ gd4 ns i T ∧ gI s.2 (σ 80) 5 = m ∧ (m = 0 ∨ m = 1) ∧ (if m = 0 then some T else it4 (stB W) (pl4 (stK W kn) ns i 0) (N - j) T) = it4 (stB W) (pl4 (stK W kn) ns i 0) N (st0 W)) ?_ N (0, _) ⟨0, st0 W, 1, by omega, rfl, cc, AA, st0_gd hW hnh1, gI_pI _ _ _ _, Or.inr rfl, by rw [if_neg (by decide), Nat.sub_zero]⟩ (Nat.sub_le _ _)⟩
    rintro k2 ⟨v, d6⟩ ⟨j, T, m, hj, rfl, c6, A6, g6, f6, hm, hr⟩ hk2
    have c6 : Ch σ shL d d6 := c6
    have A6 : A4 σ 81 ns i d6 T := A6
    have f6 : gI d6 (σ 80) 5 = m := f6
    simp only [b_X5_solves_82, f6]
    refine ⟨fun hc2 => ?_, fun hc2 => ⟨fun hm0 => ?_, fun hm0 => ?_⟩⟩
    · rw [show (5000 : Int32) = nI 5000 from rfl, z_le (by decide) (by omega)] at hc2
      have : N - j = 0 := by omega
      rw [this] at hr
      refine k1 d6 T c6 ?_ A6
      rw [← hr]; split <;> rfl
    · rw [if_pos hm0] at hr
      exact k1 d6 T c6 hr.symm A6
    · rw [show (5000 : Int32) = nI 5000 from rfl, z_le (by decide) (by omega)] at hc2
      rw [if_neg hm0, show N - j = (N - (j + 1)) + 1 by omega] at hr
      simp only [it4] at hr
      have cz : Ch σ shL d6 (pI d6 (σ 80) 5 0) := Ch_pI h (by decide) (by decide) (by decide)
      refine k_narrows h (W := W) (ns := ns) (nh := i) (S := T) (shT_ch t (Ch_tr c6 cz)) A6 g6 (gI_pI _ _ _ _) (fun d7 c7 hn => ?_) (fun d7 S7 m7 c7 hn A7 g7 f7 hm7 => ?_)
      · rw [hn] at hr
        exact ⟨fun q => absurd rfl q, fun _ => k0 d7 (Ch_tr (Ch_tr c6 cz) c7) hr.symm⟩
      · rw [hn] at hr
        rw [z_a1]
        exact ⟨fun _ => hk2 (nI (j + 1), d7) ⟨j + 1, S7, m7, by omega, rfl, Ch_tr (Ch_tr c6 cz) c7, A7, g7, f7, hm7, hr⟩ (by simp only [z_nn (show j + 1 < 2147483648 by omega), z_nn (show j < 2147483648 by omega)]; omega), fun q => absurd q (by decide)⟩
  · rw [z_le (by omega) (by omega)] at hc
    refine T_get (c := 3) (te_4 h) t3.1 (by omega) (by decide) ?_
    rw [(t3.2.2.1 i (by omega)).1, z_nn (by omega), en_81 h, en_82 h]
    refine ⟨vpi (by omega) (by decide), T_get (c := 4) (te_4 h) (TD_pA t3.1) (by omega) (by decide) ⟨vpi (by omega) (by decide), ?_⟩⟩
    rw [gA_pA_ne _ _ _ (Env_ne h (by decide) (by decide) (by decide)), (t3.2.2.1 i (by omega)).2, z_a1]
    refine hk (nI (i + 1), _) ⟨i + 1, by omega, rfl, Ch_tr c3 (Ch_tr (Ch_pA h (by decide) (by decide)) (Ch_pA h (by decide) (by decide))), fun q hq => ⟨?_, ?_⟩⟩ (by simp only [z_nn (show i + 1 < 2147483648 by omega), z_nn (show i < 2147483648 by omega)]; omega)
    · show gA (pA (pA d3 (σ 81) i _) (σ 82) i _) (σ 81) q = _
      rw [gA_pA_ne _ _ _ (Env_ne h (by decide) (by decide) (by decide)), gA_pA]
      by_cases e : q = i
      · subst e; simp [st0]
      · simp only [if_neg e]; exact (g3 q (by omega)).1
    · show gA (pA (pA d3 (σ 81) i _) (σ 82) i _) (σ 82) q = _
      rw [gA_pA, gA_pA_ne _ _ _ (Env_ne h (by decide) (by decide) (by decide))]
      by_cases e : q = i
      · subst e; simp [st0]
      · simp only [if_neg e]; exact (g3 q (by omega)).2
end
