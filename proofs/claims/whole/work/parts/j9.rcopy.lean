/-! texts: the reference keeps what it read -/
section
variable {σ : Nat → Nat} {E : En} {d d' : Dy} {s : Nat} {K : Int32 → Dy → Prop}
theorem r_copyT (h : Env σ E) (hs : s < 4) {v2 : Int32} (k : ∀ d', Ch σ [88] d d' → (∀ j, gA d' (σ 88) j = if j = 10 + s then 1 else if 596 + 851 * s ≤ j ∧ j < 596 + 851 * s + 851 then gA d (σ 88) (4000 + (j - (596 + 851 * s))) else gA d (σ 88) j) → K v2 d') : ∃ N, l_X11_text_109 E (σ 87) (nI s) K N v2 0 d := by
  have e1 : (596 : Int32) + 851 * nI s = nI (596 + 851 * s) := by
    rw [show (596 : Int32) = nI 596 from rfl, show (851 : Int32) = nI 851 from rfl, z_mul, z_add]
  have e4 : (596 : Int32) + 851 * 4 = nI 4000 := rfl
  have e10 : (10 : Int32) + nI s = nI (10 + s) := z_add 10 s
  have lp : ∀ m i d1, i + m = 851 → Ch σ [88] d d1 → (∀ j, gA d1 (σ 88) j = if 596 + 851 * s ≤ j ∧ j < 596 + 851 * s + i then gA d (σ 88) (4000 + (j - (596 + 851 * s))) else gA d (σ 88) j) → l_X11_text_109 E (σ 87) (nI s) K (m + 1) v2 (nI i) d1 := by
    intro m
    induction m with
    | zero =>
      intro i d1 hi c1 w1
      show b_X11_text_109 E (σ 87) (nI s) K _ v2 (nI i) d1
      simp only [b_X11_text_109, x_87_1 h, en_88 h, e10]
      refine ⟨fun _ => ⟨vpi (by omega) (by decide), ?_⟩, fun z => absurd ((z_le (a := 851) (by decide) (by omega)).mpr (by omega)) z⟩
      rw [z_nn (by omega)]
      refine k _ (Ch_tr c1 (Ch_pA h (by decide) (by decide))) (fun j => ?_)
      have ei : i = 851 := by omega
      rw [gA_pA]
      dsimp only
      by_cases q : j = 10 + s
      · rw [if_pos q, if_pos q]
      · rw [if_neg q, if_neg q, w1, ei]
    | succ m ihm =>
      intro i d1 hi c1 w1
      show b_X11_text_109 E (σ 87) (nI s) K (l_X11_text_109 E (σ 87) (nI s) K (m + 1)) v2 (nI i) d1
      simp only [b_X11_text_109, x_87_1 h, en_88 h, e10, w_X11_textAt, e1, e4, z_add, z_a1]
      refine ⟨fun z => absurd ((z_le (a := 851) (by decide) (by omega)).mp z) (by omega), fun _ => ⟨vpi (by omega) (by decide), vpi (by omega) (by decide), ?_⟩⟩
      rw [z_nn (by omega), z_nn (by omega)]
      refine ihm (i + 1) _ (by omega) (Ch_tr c1 (Ch_pA h (by decide) (by decide))) (fun j => ?_)
      rw [gA_pA]
      dsimp only
      by_cases q : j = 596 + 851 * s + i
      · rw [if_pos q, if_pos (by omega), w1, if_neg (by omega), q, show 596 + 851 * s + i - (596 + 851 * s) = i by omega]
      · rw [if_neg q, w1]
        by_cases q2 : 596 + 851 * s ≤ j ∧ j < 596 + 851 * s + i
        · rw [if_pos q2, if_pos (by omega)]
        · rw [if_neg q2, if_neg (by omega)]
  obtain ⟨m, hm⟩ : ∃ m, m = 851 := ⟨_, rfl⟩
  exact ⟨m + 1, lp m 0 d (by omega) Ch_rf (fun j => by rw [if_neg (by omega)])⟩
end
