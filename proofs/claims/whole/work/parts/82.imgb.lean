section
variable {σ : Nat → Nat} {E : En} {d d' d2 : Dy} {kc : En → Dy → Prop} {v4 : Int32} {xs : Nat → Int32} {L : Nat}
theorem cmI_lt {i c : Nat} (hi : i < 10) (hc : c < wI i) : cmI i c < wI i := by
  have : ∀ i, i < 10 → ∀ c, c < wI i → cmI i c < wI i := by decide
  exact this i hi c hc
theorem TR_cp {A B : Nat} {W W' : Nat → Int32} (c : CpR σ A B d d2) (hW : WI W) (t : TR σ B d W) (hI : ∀ i, A ≤ i → i ≤ A + 21 → gI d' (σ i) = gI d2 (σ i) ∧ gA d' (σ i) = gA d2 (σ i)) (e : ∀ k, k < 596 → W' k = W k) : TR σ A d' W' := by
  obtain ⟨c1, c2, -⟩ := c
  refine ⟨?_, fun i hi => ⟨?_, fun j hj cc hcc => ?_⟩⟩
  · rw [(hI A (by omega) (by omega)).1, c1, t.1, e 3 (by decide)]
  · rw [(hI _ (by omega) (by omega)).1, (c2 i hi).1, (t.2 i hi).1, nR_congr e hi]
  · rw [nR_congr e hi] at hj
    have hm := WI_n hW hi
    have hcm := cmI_lt hi hcc
    have h1 := Nat.mul_le_mul_right (wI i) (show j + 1 ≤ nR W i from hj)
    rw [Nat.add_mul, Nat.one_mul] at h1
    rw [(hI _ (by omega) (by omega)).2, (c2 i hi).2 _ (t.2 i hi).1 hm _ (by omega), (t.2 i hi).2 j hj cc hcc, roI_congr hW e hi, e]
    have := reg_in (i := i) (Nat.lt_of_lt_of_le (ro_lt hj) hm) hcc
    have := reg_lo hi; omega
theorem TXs_cp {a b : Nat} {W W' : Nat → Int32} (t : TXs σ E d b W) (q : ∀ s, s < 4 → gQ d' (σ a) s = gQ d (σ b) s) (ex : ∀ a, (∀ i, i < 116 → a ≠ σ i) → gI d' a = gI d a ∧ gA d' a = gA d a) (e : ∀ k, k < 4000 → W' k = W k) : TXs σ E d' a W' := fun s hs => by
  rcases t s hs with ⟨h1, h2⟩ | ⟨h1, p, h2, h3⟩
  · exact Or.inl ⟨(q s hs).trans h1, (e _ (by omega)).trans h2⟩
  · exact Or.inr ⟨(e _ (by omega)).trans h1, p, (q s hs).trans h2, TX_W2 (TX_d h3 ex) hs (fun k _ h => e k h)⟩
theorem TXs_ok {b : Nat} {W : Nat → Int32} (t : TXs σ E d b W) : ∀ s, s < 4 → ∀ q, gQ d (σ b) s = some q → okO E q 7 := by
  intro s hs q hq
  rcases t s hs with ⟨h1, h2⟩ | ⟨h1, p, h2, h3⟩
  · rw [h1] at hq; cases hq
  · rw [h2] at hq; cases hq
    obtain ⟨_, _, _, _, _, _, h, _⟩ := h3; exact h
theorem TR_sz {B : Nat} {W : Nat → Int32} (hW : WI W) (t : TR σ B d W) : ∀ i, i < 10 → ∃ n, n ≤ mI i ∧ gI d (σ (B + 1 + 2 * i)) 3 = nI n := fun i hi => ⟨_, WI_n hW hi, (t.2 i hi).1⟩
theorem c_image (I : Inv σ E d) (k : ∀ E' d', Inv σ E' d' → kc E' d') : lw_3002 E (σ 0) (σ 87) (σ 115) v4 xs L kc d := by
  have h := I.1
  obtain ⟨-, st, ⟨w1, w2, w3⟩, -, tp, fa⟩ := id I
  simp only [lw_3002, w_X10_image, x_0_1 h, x_0_0 h]
  refine ⟨eo_0 h, eo_87 h, eo_115 h, eo_0 h, T_told23 h st (TR_sz w1 w2) (TXs_ok w3) (fun d7 c => ⟨eo_87 h, ?_⟩)⟩
  obtain ⟨c1, c2, c3, c4, c5, c6, c7⟩ := id c
  obtain ⟨N, hN⟩ : ∃ N : Nat, N = 4000 := ⟨4000, rfl⟩
  refine ⟨N + 1, loopG (S := Int32 × Dy) (l := fun N s => l_X11_image_7 E (σ 87) _ N s.1 s.2) (b := fun kk s => b_X11_image_7 E (σ 87) _ (fun a b => kk (a, b)) s.1 s.2) (fun _ _ => rfl) (μ := fun s => 4000 - s.1.toNatClampNeg)
    (P := fun s => ∃ i, i ≤ 4000 ∧ nI i = s.1 ∧ gI s.2 = gI (pI (pI d7 (σ 0) 2 1) (σ 87) 0 0) ∧ gQ s.2 = gQ d7 ∧ (∀ a, a ≠ σ 89 → gA s.2 a = gA d7 a) ∧ ∀ q, q < i → gA s.2 (σ 89) q = gA d7 (σ 88) q) ?_ N (0, _) ⟨0, by omega, rfl, rfl, rfl, fun a _ => rfl, fun q hq => absurd hq (by omega)⟩ (by rw [hN]; exact Nat.sub_le _ _)⟩
  rintro kk ⟨v, d3⟩ ⟨i, hi, rfl, g1, g2, g3, g4⟩ hk
  have g1 : gI d3 = gI (pI (pI d7 (σ 0) 2 1) (σ 87) 0 0) := g1
  have g2 : gQ d3 = gQ d7 := g2
  have g3 : ∀ a, a ≠ σ 89 → gA d3 a = gA d7 a := g3
  have g4 : ∀ q, q < i → gA d3 (σ 89) q = gA d7 (σ 88) q := g4
  simp only [b_X11_image_7, x_87_1 h, x_87_2 h, en_88 h, en_89 h, z_nn (show i < 2147483648 by omega)]
  have h88 : gA d3 (σ 88) = gA d7 (σ 88) := g3 _ (Env_ne h (by decide) (by decide) (by decide))
  refine ⟨fun hc => k _ _ ?_, fun hc => ?_⟩
  · have hi4 : i = 4000 := by rw [show (4000 : Int32) = nI 4000 from rfl, z_le (by decide) (by omega)] at hc; omega
    subst hi4
    have fI : ∀ j, j < 116 → j ≠ 0 → j ≠ 87 → gI (pI d3 (σ 87) 3 1) (σ j) = gI d7 (σ j) := fun j hj h0 h87 => by
      rw [gI_pI_a _ _ _ (Env_ne h hj (by decide) h87), g1, gI_pI_a _ _ _ (Env_ne h hj (by decide) h87), gI_pI_a _ _ _ (Env_ne h hj (by decide) h0)]
    have f87 : ∀ f, f ≠ 0 → f ≠ 3 → gI (pI d3 (σ 87) 3 1) (σ 87) f = gI d (σ 87) f := fun f h0 h3 => by
      rw [gI_pI_k _ _ _ h3, g1, gI_pI_k _ _ _ h0, gI_pI_a _ _ _ (Env_ne h (by decide) (by decide) (by decide)), (c4 87 (by decide) (by decide)).1]
    have f0 : ∀ f, f ≠ 2 → gI (pI d3 (σ 87) 3 1) (σ 0) f = gI d (σ 0) f := fun f h2 => by
      rw [gI_pI_a _ _ _ (Env_ne h (by decide) (by decide) (by decide)), g1, gI_pI_a _ _ _ (Env_ne h (by decide) (by decide) (by decide)), gI_pI_k _ _ _ h2, (c4 0 (by decide) (by decide)).1]
    have fA : ∀ j, j < 116 → j ≠ 89 → ¬ (23 ≤ j ∧ j ≤ 23 + 21) → gA (pI d3 (σ 87) 3 1) (σ j) = gA d (σ j) := fun j hj h89 hn => by
      rw [gA_pI, g3 _ (Env_ne h hj (by decide) h89), (c4 j hj hn).2.1]
    have ex : ∀ a, (∀ i, i < 116 → a ≠ σ i) → gI (pI d3 (σ 87) 3 1) a = gI d a ∧ gA (pI d3 (σ 87) 3 1) a = gA d a := fun a ha => ⟨by
      rw [gI_pI_a _ _ _ (ha 87 (by decide)), g1, gI_pI_a _ _ _ (ha 87 (by decide)), gI_pI_a _ _ _ (ha 0 (by decide)), (c6 a ha).1], by rw [gA_pI, g3 _ (ha 89 (by decide)), (c6 a ha).2]⟩
    have e88 : gA (pI d3 (σ 87) 3 1) (σ 88) = gA d (σ 88) := fA 88 (by decide) (by decide) (by decide)
    have e89 : ∀ q, q < 4000 → gA (pI d3 (σ 87) 3 1) (σ 89) q = gA d (σ 88) q := fun q hq => (g4 q hq).trans (by rw [← (c4 88 (by decide) (by decide)).2.1])
    have l1 : gI (pI d3 (σ 87) 3 1) (σ 0) 2 = 1 := by
      rw [gI_pI_a _ _ _ (Env_ne h (by decide) (by decide) (by decide)), g1, gI_pI_a _ _ _ (Env_ne h (by decide) (by decide) (by decide)), gI_pI]
    refine ⟨h, fun q hq => ?_, ⟨?_, ?_, ?_⟩, ⟨?_, Or.inr ⟨l1, ?_, ?_, ?_⟩⟩, ?_, ?_⟩
    · have hp : (q.1, 0) ∈ prot ∧ (q.1, 1) ∈ prot ∧ q.1 < 116 ∧ q.1 ≠ 0 ∧ q.1 ≠ 87 := (show ∀ q ∈ tabL, (q.1, 0) ∈ prot ∧ (q.1, 1) ∈ prot ∧ q.1 < 116 ∧ q.1 ≠ 0 ∧ q.1 ≠ 87 by decide) q hq
      rw [fI _ hp.2.2.1 hp.2.2.2.1 hp.2.2.2.2]
      exact ⟨(c5 _ hp.1).trans (st q hq).1, (c5 _ hp.2.1).trans (st q hq).2⟩
    · rw [e88]; exact w1
    · rw [e88]; exact TR_same w2 (Or.inl rfl) (fun i h1 h2 => ⟨(fI i (by omega) (by omega) (by omega)).trans (c4 i (by omega) (by omega)).1, fA i (by omega) (by omega) (by omega)⟩)
    · rw [e88]
      refine TXs_cp w3 (fun s hs => ?_) ex (fun _ _ => rfl)
      show gQ d3 (σ 22) s = _
      rw [g2, c7 _ (Env_ne h (by decide) (by decide) (by decide))]
    · rw [l1]; exact (gI_pI _ _ _ _).symm
    · exact WI_congr w1 (fun q hq => e89 q (by omega))
    · exact TR_cp c w1 w2 (fun i h1 h2 => ⟨fI i (by omega) (by omega) (by omega), g3 _ (Env_ne h (by omega) (by decide) (by omega))⟩) (fun q hq => e89 q (by omega))
    · refine TXs_cp w3 (fun s hs => ?_) ex e89
      show gQ d3 (σ 44) s = _
      rw [g2]; exact c3 s hs
    · obtain ⟨tl, t1, t2, t3, t4⟩ := tp
      refine ⟨tl, t1, ?_, ?_, ?_⟩
      · rw [fI 45 (by decide) (by decide) (by decide), (c4 45 (by decide) (by decide)).1]; exact t2
      · rw [f87 5 (by decide) (by decide)]; exact t3
      · rw [fA 46 (by decide) (by decide) (by decide), fA 90 (by decide) (by decide) (by decide)]; exact t4
    · rw [f0 4 (by decide), f87 10 (by decide) (by decide)]; exact fa
  · have hi4 : i < 4000 := by rw [show (4000 : Int32) = nI 4000 from rfl, z_le (by decide) (by omega)] at hc; omega
    rw [z_a1]
    refine ⟨vpi (by omega) (by decide), vpi (by omega) (by decide), hk (nI (i + 1), _) ⟨i + 1, by omega, rfl, g1, g2, fun a ha => ?_, fun q hq => ?_⟩ (by simp only [z_nn (show i + 1 < 2147483648 by omega), z_nn (show i < 2147483648 by omega)]; omega)⟩
    · rw [gA_pA_x, if_neg ha]; exact g3 a ha
    · rw [gA_pA_x, if_pos rfl]
      by_cases hqi : q = i
      · subst hqi; rw [if_pos rfl, h88]
      · simp only [if_neg hqi]; exact g4 q (by omega)
theorem c_back (I : Inv σ E d) (k : ∀ E' d', Inv σ E' d' → kc E' d') : lw_3013 E (σ 0) (σ 87) (σ 115) v4 xs L kc d := by
  have h := I.1
  obtain ⟨-, st, ⟨w1, w2, w3⟩, ⟨i1, i2⟩, tp, fa⟩ := id I
  have i3 : ∀ d7 : Dy, gI d7 (σ 87) 3 = gI d (σ 87) 3 → gI (pI d7 (σ 87) 0 0) (σ 87) 3 = gI d (σ 0) 2 := fun d7 e => by rw [gI_pI_k _ _ _ (by decide), e, i1]
  simp only [lw_3013, w_X10_back, x_0_1 h, x_0_0 h]
  refine ⟨eo_0 h, eo_87 h, eo_115 h, eo_0 h, fun h0 => ⟨Or.inl h0, eo_87 h, fun q => absurd ((i3 d rfl).trans h0) q, fun _ => ?_⟩, fun h0 => ?_⟩
  · rw [h0]; exact ⟨fun _ => k _ _ (Inv_ch I (Ch_pI h (by decide) (by decide) (by decide))), fun q => q rfl⟩
  · rcases i2 with i2 | ⟨i2, j1, j2, j3⟩
    · exact absurd i2 h0
    refine T_told1 h st (TR_sz j1 j2) (TXs_ok j3) (fun d7 c => ?_)
    obtain ⟨c1, c2, c3, c4, c5, c6, c7⟩ := id c
    have e0 : gI d7 (σ 0) 2 = 1 := by rw [(c4 0 (by decide) (by decide)).1]; exact i2
    rw [e0]
    have e3 : gI (pI d7 (σ 87) 0 0) (σ 87) 3 = 1 := (i3 d7 (by rw [(c4 87 (by decide) (by decide)).1])).trans i2
    refine ⟨Or.inr rfl, eo_87 h, fun _ => ?_, fun q => absurd (e3.symm.trans q) (by decide)⟩
    obtain ⟨N, hN⟩ : ∃ N : Nat, N = 4000 := ⟨4000, rfl⟩
    refine ⟨N + 1, loopG (S := Int32 × Dy) (l := fun N s => l_X11_back_16 E (σ 87) _ N s.1 s.2) (b := fun kk s => b_X11_back_16 E (σ 87) _ (fun a b => kk (a, b)) s.1 s.2) (fun _ _ => rfl) (μ := fun s => 4000 - s.1.toNatClampNeg)
      (P := fun s => ∃ i, i ≤ 4000 ∧ nI i = s.1 ∧ gI s.2 = gI (pI d7 (σ 87) 0 0) ∧ gQ s.2 = gQ d7 ∧ (∀ a, a ≠ σ 88 → gA s.2 a = gA d7 a) ∧ ∀ q, q < i → gA s.2 (σ 88) q = gA d7 (σ 89) q) ?_ N (0, _) ⟨0, by omega, rfl, rfl, rfl, fun a _ => rfl, fun q hq => absurd hq (by omega)⟩ (by rw [hN]; exact Nat.sub_le _ _)⟩
    rintro kk ⟨v, d3⟩ ⟨i, hi, rfl, g1, g2, g3, g4⟩ hk
    have g1 : gI d3 = gI (pI d7 (σ 87) 0 0) := g1
    have g2 : gQ d3 = gQ d7 := g2
    have g3 : ∀ a, a ≠ σ 88 → gA d3 a = gA d7 a := g3
    have g4 : ∀ q, q < i → gA d3 (σ 88) q = gA d7 (σ 89) q := g4
    simp only [b_X11_back_16, x_87_1 h, x_87_2 h, en_88 h, en_89 h, z_nn (show i < 2147483648 by omega)]
    have h89 : gA d3 (σ 89) = gA d7 (σ 89) := g3 _ (Env_ne h (by decide) (by decide) (by decide))
    refine ⟨fun hc => ⟨fun _ => k _ _ ?_, fun q => q trivial⟩, fun hc => ?_⟩
    · have hi4 : i = 4000 := by rw [show (4000 : Int32) = nI 4000 from rfl, z_le (by decide) (by omega)] at hc; omega
      subst hi4
      have fI : ∀ j, j < 116 → j ≠ 87 → gI d3 (σ j) = gI d7 (σ j) := fun j hj h87 => by rw [g1, gI_pI_a _ _ _ (Env_ne h hj (by decide) h87)]
      have f87 : ∀ f, f ≠ 0 → gI d3 (σ 87) f = gI d (σ 87) f := fun f h0 => by rw [g1, gI_pI_k _ _ _ h0, (c4 87 (by decide) (by decide)).1]
      have f0 : gI d3 (σ 0) = gI d (σ 0) := (fI 0 (by decide) (by decide)).trans (c4 0 (by decide) (by decide)).1
      have fA : ∀ j, j < 116 → j ≠ 88 → ¬ (1 ≤ j ∧ j ≤ 1 + 21) → gA d3 (σ j) = gA d (σ j) := fun j hj h88 hn => by rw [g3 _ (Env_ne h hj (by decide) h88), (c4 j hj hn).2.1]
      have ex : ∀ a, (∀ i, i < 116 → a ≠ σ i) → gI d3 a = gI d a ∧ gA d3 a = gA d a := fun a ha => ⟨by rw [g1, gI_pI_a _ _ _ (ha 87 (by decide)), (c6 a ha).1], by rw [g3 _ (ha 88 (by decide)), (c6 a ha).2]⟩
      have e89 : gA d3 (σ 89) = gA d (σ 89) := fA 89 (by decide) (by decide) (by decide)
      have e88 : ∀ q, q < 4000 → gA d3 (σ 88) q = gA d (σ 89) q := fun q hq => (g4 q hq).trans (by rw [← (c4 89 (by decide) (by decide)).2.1])
      refine ⟨h, fun q hq => ?_, ⟨?_, ?_, ?_⟩, ⟨?_, Or.inr ⟨?_, ?_, ?_, ?_⟩⟩, ?_, ?_⟩
      · have hp : (q.1, 0) ∈ prot ∧ (q.1, 1) ∈ prot ∧ q.1 < 116 ∧ q.1 ≠ 0 ∧ q.1 ≠ 87 := (show ∀ q ∈ tabL, (q.1, 0) ∈ prot ∧ (q.1, 1) ∈ prot ∧ q.1 < 116 ∧ q.1 ≠ 0 ∧ q.1 ≠ 87 by decide) q hq
        rw [fI _ hp.2.2.1 hp.2.2.2.2]
        exact ⟨(c5 _ hp.1).trans (st q hq).1, (c5 _ hp.2.1).trans (st q hq).2⟩
      · exact WI_congr j1 (fun q hq => e88 q (by omega))
      · exact TR_cp c j1 j2 (fun i h1 h2 => ⟨fI i (by omega) (by omega), g3 _ (Env_ne h (by omega) (by decide) (by omega))⟩) (fun q hq => e88 q (by omega))
      · refine TXs_cp j3 (fun s hs => ?_) ex e88
        rw [g2]; exact c3 s hs
      · rw [f0, f87 3 (by decide)]; exact i1
      · rw [f0]; exact i2
      · rw [e89]; exact j1
      · rw [e89]; exact TR_same j2 (Or.inr rfl) (fun i h1 h2 => ⟨(fI i (by omega) (by omega)).trans (c4 i (by omega) (by omega)).1, fA i (by omega) (by omega) (by omega)⟩)
      · rw [e89]
        refine TXs_cp j3 (fun s hs => ?_) ex (fun _ _ => rfl)
        rw [g2, c7 _ (Env_ne h (by decide) (by decide) (by decide))]
      · obtain ⟨tl, t1, t2, t3, t4⟩ := tp
        refine ⟨tl, t1, ?_, ?_, ?_⟩
        · rw [fI 45 (by decide) (by decide), (c4 45 (by decide) (by decide)).1]; exact t2
        · rw [f87 5 (by decide)]; exact t3
        · rw [fA 46 (by decide) (by decide) (by decide), fA 90 (by decide) (by decide) (by decide)]; exact t4
      · rw [f0, f87 10 (by decide)]; exact fa
    · have hi4 : i < 4000 := by rw [show (4000 : Int32) = nI 4000 from rfl, z_le (by decide) (by omega)] at hc; omega
      rw [z_a1]
      refine ⟨vpi (by omega) (by decide), vpi (by omega) (by decide), hk (nI (i + 1), _) ⟨i + 1, by omega, rfl, g1, g2, fun a ha => ?_, fun q hq => ?_⟩ (by simp only [z_nn (show i + 1 < 2147483648 by omega), z_nn (show i < 2147483648 by omega)]; omega)⟩
      · rw [gA_pA_x, if_neg ha]; exact g3 a ha
      · rw [gA_pA_x, if_pos rfl]
        by_cases hqi : q = i
        · subst hqi; rw [if_pos rfl, h89]
        · simp only [if_neg hqi]; exact g4 q (by omega)
end
