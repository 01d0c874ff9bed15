section
variable {σ : Nat → Nat} {E : En} {d d' d2 d3 : Dy} {kc : En → Dy → Prop} {v4 : Int32} {xs : Nat → Int32} {L : Nat}
def A4 (σ : Nat → Nat) (lab ns nh : Nat) (d : Dy) (S : F4) : Prop := (∀ h, h < nh → gA d (σ lab) h = S 0 h ∧ gA d (σ (lab + 1)) h = S 1 h) ∧ (∀ s, s < ns → gA d (σ (lab + 2)) s = S 2 s ∧ gA d (σ (lab + 3)) s = S 3 s)
def shL : List Nat := [80, 81, 82, 83, 84]
theorem k_above (h : Env σ E) {ns nh s i : Nat} {S : F4} {K : Dy → Prop} (hns : ns ≤ 10) (hnh : nh ≤ 10) (hs : s < ns) (hi : i < nh) (A : A4 σ 81 ns nh d S) (g : gd4 ns nh S)
    (k : ∀ d', Ch σ shL d d' → A4 σ 81 ns nh d' (stp4 true S s i) → gI d' (σ 80) 5 = (if sam S (stp4 true S s i) s i then gI d (σ 80) 5 else 1) → K d') : w_X5_seaAboveLine E (σ 80) (nI s) (nI i) d K := by
  obtain ⟨A1, A2⟩ := A
  have a1 := g.1 i hi
  have a2 := g.2 s hs
  have ea : (S 0 i + 1).toInt = (S 0 i).toInt + 1 := i_a1 (by omega) (by omega)
  have es : (S 3 s - 1).toInt = (S 3 s).toInt - 1 := i_s1 (by omega) (by omega)
  have n83 : σ 83 ≠ σ 84 ∧ σ 83 ≠ σ 81 ∧ σ 83 ≠ σ 82 ∧ σ 84 ≠ σ 82 ∧ σ 81 ≠ σ 82 ∧ σ 81 ≠ σ 83 ∧ σ 82 ≠ σ 83 ∧ σ 84 ≠ σ 83 := ⟨Env_ne h (by decide) (by decide) (by decide), Env_ne h (by decide) (by decide) (by decide), Env_ne h (by decide) (by decide) (by decide), Env_ne h (by decide) (by decide) (by decide), Env_ne h (by decide) (by decide) (by decide), Env_ne h (by decide) (by decide) (by decide), Env_ne h (by decide) (by decide) (by decide), Env_ne h (by decide) (by decide) (by decide)⟩
  obtain ⟨m1, m2, m3, m4, m5, m6, m7, m8⟩ := n83
  have vs : vp_in (nI s) 10 := vpi (by omega) (by decide)
  have vi : vp_in (nI i) 10 := vpi (by omega) (by decide)
  have second : ∀ (d1 : Dy) (x : Int32) (f : Int32), Ch σ shL d d1 → (∀ q, q < nh → gA d1 (σ 81) q = S 0 q ∧ gA d1 (σ 82) q = S 1 q) → (∀ q, q < ns → gA d1 (σ 83) q = (if q = s then x else S 2 q) ∧ gA d1 (σ 84) q = S 3 q) → x = (if S 2 s < S 0 i + 1 then S 0 i + 1 else S 2 s) → gI d1 (σ 80) 5 = f → (f = if x = S 2 s then gI d (σ 80) 5 else 1) → b_X5_seaAboveLine_34 E (σ 80) (nI s) (nI i) K d1 := by
    intro d1 x f c1 B1 B2 hx hf1 hf2
    simp only [b_X5_seaAboveLine_34, x_80_2 h, x_80_4 h, en_82 h, en_84 h, z_nn (show s < 2147483648 by omega), z_nn (show i < 2147483648 by omega)]
    rw [(B1 i hi).2, (B2 s hs).2]
    have fin : ∀ (d2 : Dy) (y : Int32), Ch σ shL d1 d2 → (∀ q, q < nh → gA d2 (σ 81) q = S 0 q ∧ gA d2 (σ 82) q = if q = i then y else S 1 q) → (∀ q, q < ns → gA d2 (σ 83) q = (if q = s then x else S 2 q) ∧ gA d2 (σ 84) q = S 3 q) → y = (if S 3 s - 1 < S 1 i then S 3 s - 1 else S 1 i) → gI d2 (σ 80) 5 = (if y = S 1 i then f else 1) → K d2 := by
      intro d2 y c2 D1 D2 hy hg
      have e2 : stp4 true S s i 2 s = x := by rw [hx]; simp [stp4, u2]
      have e1 : stp4 true S s i 1 i = y := by rw [hy]; simp [stp4, u2]
      have e3 : stp4 true S s i 3 s = S 3 s := by simp [stp4, u2]
      have e0 : stp4 true S s i 0 i = S 0 i := by simp [stp4, u2]
      refine k d2 (Ch_tr c1 c2) ⟨fun q hq => ?_, fun q hq => ?_⟩ ?_
      · rw [(D1 q hq).1, (D1 q hq).2, hy]
        refine ⟨by simp [stp4, u2], ?_⟩
        by_cases e : q = i
        · subst e; simp [stp4, u2]
        · simp [stp4, u2, e]
      · rw [(D2 q hq).1, (D2 q hq).2, hx]
        refine ⟨?_, by simp [stp4, u2]⟩
        by_cases e : q = s
        · subst e; simp [stp4, u2]
        · simp [stp4, u2, e]
      · rw [hg, hf2]
        unfold sam
        rw [e0, e1, e2, e3]
        by_cases q1 : x = S 2 s
        · by_cases q2 : y = S 1 i
          · simp [q1, q2]
          · simp [q1, q2]
        · by_cases q2 : y = S 1 i
          · simp [q1, q2]
          · simp [q1, q2]
    refine ⟨vi, vs, fun hq => ?_, fun hq => ⟨vs, vi, ?_⟩⟩
    · rw [i_lt] at hq
      refine fin d1 (S 1 i) Ch_rf (fun q hq2 => ⟨(B1 q hq2).1, ?_⟩) B2 ?_ ?_
      · rw [(B1 q hq2).2]; by_cases e : q = i
        · rw [if_pos e, e]
        · rw [if_neg e]
      · rw [if_neg (by rw [i_lt]; omega)]
      · rw [if_pos rfl]; exact hf1
    · rw [i_lt] at hq
      refine fin _ (S 3 s - 1) (Ch_tr (Ch_pA h (by decide) (by decide)) (Ch_pI h (by decide) (by decide) (by decide))) (fun q hq2 => ⟨?_, ?_⟩) (fun q hq2 => ⟨?_, ?_⟩) ?_ ?_
      · simp only [gA_pA_x, gA_pI_x, gA_pJ_x, gA_sA_x, gA_pQ_x, gI_pA_x, gI_pI_x, gI_pJ_x, gI_sA_x, gI_pQ_x, gJ_pA_x, gJ_pI_x, gJ_pJ_x, gJ_sA_x, gJ_pQ_x, gQ_pA_x, gQ_pI_x, gQ_pJ_x, gQ_sA_x, gQ_pQ_x, gA_sJ_x, gI_sJ_x, gJ_sJ_x, gQ_sJ_x, if_neg m5]; exact (B1 q hq2).1
      · simp only [gA_pA_x, gA_pI_x, gA_pJ_x, gA_sA_x, gA_pQ_x, gI_pA_x, gI_pI_x, gI_pJ_x, gI_sA_x, gI_pQ_x, gJ_pA_x, gJ_pI_x, gJ_pJ_x, gJ_sA_x, gJ_pQ_x, gQ_pA_x, gQ_pI_x, gQ_pJ_x, gQ_sA_x, gQ_pQ_x, gA_sJ_x, gI_sJ_x, gJ_sJ_x, gQ_sJ_x, if_true]; rw [(B1 q hq2).2]
      · simp only [gA_pA_x, gA_pI_x, gA_pJ_x, gA_sA_x, gA_pQ_x, gI_pA_x, gI_pI_x, gI_pJ_x, gI_sA_x, gI_pQ_x, gJ_pA_x, gJ_pI_x, gJ_pJ_x, gJ_sA_x, gJ_pQ_x, gQ_pA_x, gQ_pI_x, gQ_pJ_x, gQ_sA_x, gQ_pQ_x, gA_sJ_x, gI_sJ_x, gJ_sJ_x, gQ_sJ_x, if_neg m3]; exact (B2 q hq2).1
      · simp only [gA_pA_x, gA_pI_x, gA_pJ_x, gA_sA_x, gA_pQ_x, gI_pA_x, gI_pI_x, gI_pJ_x, gI_sA_x, gI_pQ_x, gJ_pA_x, gJ_pI_x, gJ_pJ_x, gJ_sA_x, gJ_pQ_x, gQ_pA_x, gQ_pI_x, gQ_pJ_x, gQ_sA_x, gQ_pQ_x, gA_sJ_x, gI_sJ_x, gJ_sJ_x, gQ_sJ_x, if_neg m4]; exact (B2 q hq2).2
      · rw [if_pos (by rw [i_lt]; omega)]
      · rw [gI_pI, if_neg (fun e => by have := congrArg Int32.toInt e; omega)]
  simp only [w_X5_seaAboveLine, x_80_3 h, x_80_1 h, en_83 h, en_81 h, z_nn (show s < 2147483648 by omega), z_nn (show i < 2147483648 by omega)]
  rw [(A1 i hi).1, (A2 s hs).1]
  refine ⟨eo_80 h, vs, vi, fun hq => ?_, fun hq => ⟨vi, vs, ?_⟩⟩
  · rw [i_lt] at hq
    refine second d (S 2 s) _ Ch_rf A1 (fun q hq2 => ⟨?_, (A2 q hq2).2⟩) ?_ rfl (by rw [if_pos rfl])
    · rw [(A2 q hq2).1]; by_cases e : q = s
      · rw [if_pos e, e]
      · rw [if_neg e]
    · rw [if_neg (by rw [i_lt]; omega)]
  · rw [i_lt] at hq
    refine second _ (S 0 i + 1) 1 (Ch_tr (Ch_pA h (by decide) (by decide)) (Ch_pI h (by decide) (by decide) (by decide))) (fun q hq2 => ⟨?_, ?_⟩) (fun q hq2 => ⟨?_, ?_⟩) ?_ (gI_pI _ _ _ _) (by rw [if_neg (fun e => by have := congrArg Int32.toInt e; omega)])
    · simp only [gA_pA_x, gA_pI_x, gA_pJ_x, gA_sA_x, gA_pQ_x, gI_pA_x, gI_pI_x, gI_pJ_x, gI_sA_x, gI_pQ_x, gJ_pA_x, gJ_pI_x, gJ_pJ_x, gJ_sA_x, gJ_pQ_x, gQ_pA_x, gQ_pI_x, gQ_pJ_x, gQ_sA_x, gQ_pQ_x, gA_sJ_x, gI_sJ_x, gJ_sJ_x, gQ_sJ_x, if_neg m6]; exact (A1 q hq2).1
    · simp only [gA_pA_x, gA_pI_x, gA_pJ_x, gA_sA_x, gA_pQ_x, gI_pA_x, gI_pI_x, gI_pJ_x, gI_sA_x, gI_pQ_x, gJ_pA_x, gJ_pI_x, gJ_pJ_x, gJ_sA_x, gJ_pQ_x, gQ_pA_x, gQ_pI_x, gQ_pJ_x, gQ_sA_x, gQ_pQ_x, gA_sJ_x, gI_sJ_x, gJ_sJ_x, gQ_sJ_x, if_neg m7]; exact (A1 q hq2).2
    · simp only [gA_pA_x, gA_pI_x, gA_pJ_x, gA_sA_x, gA_pQ_x, gI_pA_x, gI_pI_x, gI_pJ_x, gI_sA_x, gI_pQ_x, gJ_pA_x, gJ_pI_x, gJ_pJ_x, gJ_sA_x, gJ_pQ_x, gQ_pA_x, gQ_pI_x, gQ_pJ_x, gQ_sA_x, gQ_pQ_x, gA_sJ_x, gI_sJ_x, gJ_sJ_x, gQ_sJ_x, if_true]; rw [(A2 q hq2).1]
    · simp only [gA_pA_x, gA_pI_x, gA_pJ_x, gA_sA_x, gA_pQ_x, gI_pA_x, gI_pI_x, gI_pJ_x, gI_sA_x, gI_pQ_x, gJ_pA_x, gJ_pI_x, gJ_pJ_x, gJ_sA_x, gJ_pQ_x, gQ_pA_x, gQ_pI_x, gQ_pJ_x, gQ_sA_x, gQ_pQ_x, gA_sJ_x, gI_sJ_x, gJ_sJ_x, gQ_sJ_x, if_neg m8]; exact (A2 q hq2).2
    · rw [if_pos (by rw [i_lt]; omega)]
theorem k_nabove (h : Env σ E) {ns nh s i : Nat} {S : F4} {K : Dy → Prop} (hns : ns ≤ 10) (hnh : nh ≤ 10) (hs : s < ns) (hi : i < nh) (A : A4 σ 81 ns nh d S)
    (k : ∀ d', Ch σ shL d d' → A4 σ 81 ns nh d' (stp4 false S s i) → gI d' (σ 80) 5 = (if sam S (stp4 false S s i) s i then gI d (σ 80) 5 else 1) → K d') : w_X5_seaNotAboveLine E (σ 80) (nI s) (nI i) d K := by
  obtain ⟨A1, A2⟩ := A
  have m1 : σ 83 ≠ σ 84 := Env_ne h (by decide) (by decide) (by decide)
  have m2 : σ 81 ≠ σ 84 := Env_ne h (by decide) (by decide) (by decide)
  have m3 : σ 82 ≠ σ 84 := Env_ne h (by decide) (by decide) (by decide)
  have m4 : σ 82 ≠ σ 81 := Env_ne h (by decide) (by decide) (by decide)
  have m5 : σ 83 ≠ σ 81 := Env_ne h (by decide) (by decide) (by decide)
  have m6 : σ 84 ≠ σ 81 := Env_ne h (by decide) (by decide) (by decide)
  have vs : vp_in (nI s) 10 := vpi (by omega) (by decide)
  have vi : vp_in (nI i) 10 := vpi (by omega) (by decide)
  have second : ∀ (d1 : Dy) (x : Int32) (f : Int32), Ch σ shL d d1 → (∀ q, q < nh → gA d1 (σ 81) q = (if q = i then x else S 0 q) ∧ gA d1 (σ 82) q = S 1 q) → (∀ q, q < ns → gA d1 (σ 83) q = S 2 q ∧ gA d1 (σ 84) q = S 3 q) → x = (if S 0 i < S 2 s then S 2 s else S 0 i) → gI d1 (σ 80) 5 = f → (f = if x = S 0 i then gI d (σ 80) 5 else 1) → b_X5_seaNotAboveLine_32 E (σ 80) (nI s) (nI i) K d1 := by
    intro d1 x f c1 B1 B2 hx hf1 hf2
    simp only [b_X5_seaNotAboveLine_32, x_80_2 h, x_80_4 h, en_82 h, en_84 h, z_nn (show s < 2147483648 by omega), z_nn (show i < 2147483648 by omega)]
    rw [(B1 i hi).2, (B2 s hs).2]
    have fin : ∀ (d2 : Dy) (y : Int32), Ch σ shL d1 d2 → (∀ q, q < nh → gA d2 (σ 81) q = (if q = i then x else S 0 q) ∧ gA d2 (σ 82) q = S 1 q) → (∀ q, q < ns → gA d2 (σ 83) q = S 2 q ∧ gA d2 (σ 84) q = if q = s then y else S 3 q) → y = (if S 1 i < S 3 s then S 1 i else S 3 s) → gI d2 (σ 80) 5 = (if y = S 3 s then f else 1) → K d2 := by
      intro d2 y c2 D1 D2 hy hg
      have e0 : stp4 false S s i 0 i = x := by rw [hx]; simp [stp4, u2]
      have e3 : stp4 false S s i 3 s = y := by rw [hy]; simp [stp4, u2]
      have e1 : stp4 false S s i 1 i = S 1 i := by simp [stp4, u2]
      have e2 : stp4 false S s i 2 s = S 2 s := by simp [stp4, u2]
      refine k d2 (Ch_tr c1 c2) ⟨fun q hq => ?_, fun q hq => ?_⟩ ?_
      · rw [(D1 q hq).1, (D1 q hq).2, hx]
        refine ⟨?_, by simp [stp4, u2]⟩
        by_cases e : q = i
        · subst e; simp [stp4, u2]
        · simp [stp4, u2, e]
      · rw [(D2 q hq).1, (D2 q hq).2, hy]
        refine ⟨by simp [stp4, u2], ?_⟩
        by_cases e : q = s
        · subst e; simp [stp4, u2]
        · simp [stp4, u2, e]
      · rw [hg, hf2]
        unfold sam
        rw [e0, e1, e2, e3]
        by_cases q1 : x = S 0 i
        · by_cases q2 : y = S 3 s
          · simp [q1, q2]
          · simp [q1, q2]
        · by_cases q2 : y = S 3 s
          · simp [q1, q2]
          · simp [q1, q2]
    refine ⟨vs, vi, fun hq => ?_, fun hq => ⟨vi, vs, ?_⟩⟩
    · rw [i_le] at hq
      refine fin d1 (S 3 s) Ch_rf B1 (fun q hq2 => ⟨(B2 q hq2).1, ?_⟩) ?_ ?_
      · rw [(B2 q hq2).2]; by_cases e : q = s
        · rw [if_pos e, e]
        · rw [if_neg e]
      · rw [if_neg (by rw [i_lt]; omega)]
      · rw [if_pos rfl]; exact hf1
    · rw [i_le] at hq
      refine fin _ (S 1 i) (Ch_tr (Ch_pA h (by decide) (by decide)) (Ch_pI h (by decide) (by decide) (by decide))) (fun q hq2 => ⟨?_, ?_⟩) (fun q hq2 => ⟨?_, ?_⟩) ?_ ?_
      · simp only [gA_pA_x, gA_pI_x, gA_pJ_x, gA_sA_x, gA_pQ_x, gI_pA_x, gI_pI_x, gI_pJ_x, gI_sA_x, gI_pQ_x, gJ_pA_x, gJ_pI_x, gJ_pJ_x, gJ_sA_x, gJ_pQ_x, gQ_pA_x, gQ_pI_x, gQ_pJ_x, gQ_sA_x, gQ_pQ_x, gA_sJ_x, gI_sJ_x, gJ_sJ_x, gQ_sJ_x, if_neg m2]; exact (B1 q hq2).1
      · simp only [gA_pA_x, gA_pI_x, gA_pJ_x, gA_sA_x, gA_pQ_x, gI_pA_x, gI_pI_x, gI_pJ_x, gI_sA_x, gI_pQ_x, gJ_pA_x, gJ_pI_x, gJ_pJ_x, gJ_sA_x, gJ_pQ_x, gQ_pA_x, gQ_pI_x, gQ_pJ_x, gQ_sA_x, gQ_pQ_x, gA_sJ_x, gI_sJ_x, gJ_sJ_x, gQ_sJ_x, if_neg m3]; exact (B1 q hq2).2
      · simp only [gA_pA_x, gA_pI_x, gA_pJ_x, gA_sA_x, gA_pQ_x, gI_pA_x, gI_pI_x, gI_pJ_x, gI_sA_x, gI_pQ_x, gJ_pA_x, gJ_pI_x, gJ_pJ_x, gJ_sA_x, gJ_pQ_x, gQ_pA_x, gQ_pI_x, gQ_pJ_x, gQ_sA_x, gQ_pQ_x, gA_sJ_x, gI_sJ_x, gJ_sJ_x, gQ_sJ_x, if_neg m1]; exact (B2 q hq2).1
      · simp only [gA_pA_x, gA_pI_x, gA_pJ_x, gA_sA_x, gA_pQ_x, gI_pA_x, gI_pI_x, gI_pJ_x, gI_sA_x, gI_pQ_x, gJ_pA_x, gJ_pI_x, gJ_pJ_x, gJ_sA_x, gJ_pQ_x, gQ_pA_x, gQ_pI_x, gQ_pJ_x, gQ_sA_x, gQ_pQ_x, gA_sJ_x, gI_sJ_x, gJ_sJ_x, gQ_sJ_x, if_true]; rw [(B2 q hq2).2]
      · rw [if_pos (by rw [i_lt]; omega)]
      · rw [gI_pI, if_neg (fun e => by have := congrArg Int32.toInt e; omega)]
  simp only [w_X5_seaNotAboveLine, x_80_3 h, x_80_1 h, en_83 h, en_81 h, z_nn (show s < 2147483648 by omega), z_nn (show i < 2147483648 by omega)]
  rw [(A1 i hi).1, (A2 s hs).1]
  refine ⟨eo_80 h, vi, vs, fun hq => ?_, fun hq => ⟨vs, vi, ?_⟩⟩
  · rw [i_le] at hq
    refine second d (S 0 i) _ Ch_rf (fun q hq2 => ⟨?_, (A1 q hq2).2⟩) A2 ?_ rfl (by rw [if_pos rfl])
    · rw [(A1 q hq2).1]; by_cases e : q = i
      · rw [if_pos e, e]
      · rw [if_neg e]
    · rw [if_neg (by rw [i_lt]; omega)]
  · rw [i_le] at hq
    refine second _ (S 2 s) 1 (Ch_tr (Ch_pA h (by decide) (by decide)) (Ch_pI h (by decide) (by decide) (by decide))) (fun q hq2 => ⟨?_, ?_⟩) (fun q hq2 => ⟨?_, ?_⟩) ?_ (gI_pI _ _ _ _) (by rw [if_neg (fun e => by have := congrArg Int32.toInt e; omega)])
    · simp only [gA_pA_x, gA_pI_x, gA_pJ_x, gA_sA_x, gA_pQ_x, gI_pA_x, gI_pI_x, gI_pJ_x, gI_sA_x, gI_pQ_x, gJ_pA_x, gJ_pI_x, gJ_pJ_x, gJ_sA_x, gJ_pQ_x, gQ_pA_x, gQ_pI_x, gQ_pJ_x, gQ_sA_x, gQ_pQ_x, gA_sJ_x, gI_sJ_x, gJ_sJ_x, gQ_sJ_x, if_true]; rw [(A1 q hq2).1]
    · simp only [gA_pA_x, gA_pI_x, gA_pJ_x, gA_sA_x, gA_pQ_x, gI_pA_x, gI_pI_x, gI_pJ_x, gI_sA_x, gI_pQ_x, gJ_pA_x, gJ_pI_x, gJ_pJ_x, gJ_sA_x, gJ_pQ_x, gQ_pA_x, gQ_pI_x, gQ_pJ_x, gQ_sA_x, gQ_pQ_x, gA_sJ_x, gI_sJ_x, gJ_sJ_x, gQ_sJ_x, if_neg m4]; exact (A1 q hq2).2
    · simp only [gA_pA_x, gA_pI_x, gA_pJ_x, gA_sA_x, gA_pQ_x, gI_pA_x, gI_pI_x, gI_pJ_x, gI_sA_x, gI_pQ_x, gJ_pA_x, gJ_pI_x, gJ_pJ_x, gJ_sA_x, gJ_pQ_x, gQ_pA_x, gQ_pI_x, gQ_pJ_x, gQ_sA_x, gQ_pQ_x, gA_sJ_x, gI_sJ_x, gJ_sJ_x, gQ_sJ_x, if_neg m5]; exact (A2 q hq2).1
    · simp only [gA_pA_x, gA_pI_x, gA_pJ_x, gA_sA_x, gA_pQ_x, gI_pA_x, gI_pI_x, gI_pJ_x, gI_sA_x, gI_pQ_x, gJ_pA_x, gJ_pI_x, gJ_pJ_x, gJ_sA_x, gJ_pQ_x, gQ_pA_x, gQ_pI_x, gQ_pJ_x, gQ_sA_x, gQ_pQ_x, gA_sJ_x, gI_sJ_x, gJ_sJ_x, gQ_sJ_x, if_neg m6]; exact (A2 q hq2).2
    · rw [if_pos (by rw [i_lt]; omega)]
/-- what is told of storms, as class and reference need it -/
def stK (W : Nat → Int32) (kn : Int32) : Nat → Bool := fun s => decide (W (390 + 3 * s + 2) ≤ kn)
def stB (W : Nat → Int32) : Nat → Nat → Bool := fun s h => bitB (W (390 + 3 * s + 1)) h
def st0 (W : Nat → Int32) : F4 := fun a k => if a = 0 then W (50 + 7 * k + 3) else if a = 1 then W (50 + 7 * k + 4) else if a = 2 then 0 else 100
theorem st0_gd {W : Nat → Int32} (hW : WI W) {ns nh : Nat} (hn : nh = cnt W 1) : gd4 ns nh (st0 W) := by
  refine ⟨fun q hq => ?_, fun q hq => ?_⟩
  · obtain ⟨-, -, -, o1, o2, -⟩ := hW.2.2 1 (by decide) q (show q < cnt W 1 by rw [← hn]; exact hq)
    have b1 : bw (W (50 + 7 * q + 3)) 0 99 := o1
    have b2 : bw (W (50 + 7 * q + 4)) (W (50 + 7 * q + 3)) 99 := o2
    obtain ⟨x1, x2⟩ := b1
    obtain ⟨y1, y2⟩ := b2
    rw [i_lt, show (0 : Int32).toInt = 0 from rfl] at x1
    rw [i_lt] at y1
    rw [i_lt, show (99 : Int32).toInt = 99 from rfl] at y2
    show 0 ≤ (W (50 + 7 * q + 3)).toInt ∧ (W (50 + 7 * q + 3)).toInt ≤ (W (50 + 7 * q + 4)).toInt ∧ (W (50 + 7 * q + 4)).toInt ≤ 99
    omega
  · show 0 ≤ (0 : Int32).toInt ∧ (0 : Int32).toInt ≤ (100 : Int32).toInt ∧ (100 : Int32).toInt ≤ 100
    decide
end
