def yrL : List Nat := [73, 77, 78, 79]
def yD (σ : Nat → Nat) (d : Dy) (n P : Nat) (rk : Nat → Int32) (sz : Nat → Nat) : Prop := gI d (σ 73) 6 = nI n ∧ gI d (σ 73) 7 = nI P ∧ ∀ k, k < n → gA d (σ 75) k = nI (sz k) ∧ gA d (σ 76) k = rk k
/-- what a search leaves: nothing better found, or the first of the least -/
def pRes (σ : Nat → Nat) (d d' : Dy) (B tw m a : Nat) (co : Nat → Nat) (P N : Nat) (pd : Nat → Nat) : Prop :=
  ((∀ w, w < N → B ≤ tw + co w) ∧ gI d' (σ 73) 8 = nI B ∧ gA d' (σ 78) = gA d (σ 78))
  ∨ ∃ A, LMn co N A ∧ tw + co A < B ∧ gI d' (σ 73) 8 = nI (tw + co A) ∧ (∀ k, k < a → gA d' (σ 78) k = nI (pd k)) ∧ (∀ k, k < m → gA d' (σ 78) (a + k) = nI (dgN P m k A))
section
variable {σ : Nat → Nat} {E : En} {d d' d2 d3 : Dy} {rk : Nat → Int32} {sz : Nat → Nat}
theorem yD_ch {n P : Nat} (y : yD σ d n P rk sz) (c : Ch σ yrL d d') (h6 : gI d' (σ 73) 6 = gI d (σ 73) 6) (h7 : gI d' (σ 73) 7 = gI d (σ 73) 7) : yD σ d' n P rk sz := by
  refine ⟨h6.trans y.1, h7.trans y.2.1, fun k hk => ?_⟩
  rw [Ch_A c (by decide) (by decide), Ch_A c (by decide) (by decide)]; exact y.2.2 k hk
theorem k_pile (h : Env σ E) {n P : Nat} (hn : n ≤ 7) (hP1 : 1 ≤ P) (hP4 : P ≤ 4) (hs : ∀ k, sz k ≤ 9) : ∀ m F a u tw B (fb : Nat → Int32) (pd : Nat → Nat) (d : Dy) (K0 : Dy → Prop), m < F → a + m = n → u ≤ P → tw ≤ 9 * a → B < 2147483648 → yD σ d n P rk sz → gI d (σ 73) 8 = nI B → (∀ q, q < P → gA d (σ 79) q = fb q) → (∀ q, u ≤ q → q < P → fb q = 2147483647) → (∀ k, k < a → gA d (σ 77) k = nI (pd k)) →
    (∀ d', Ch σ yrL d d' → yD σ d' n P rk sz → (∀ q, q < P → gA d' (σ 79) q = fb q) → (∀ k, k < a → gA d' (σ 77) k = nI (pd k)) → pRes σ d d' B tw m a (coN P rk sz m a fb) P (P ^ m) pd → K0 d') → wr_X9_pile E F (σ 73) (nI a) (nI u) (nI tw) d K0 := by
  intro m
  induction m with
  | zero =>
    intro F a u tw B fb pd d K0 hF ha hu htw hB y g8 hfb hfe hpd k
    obtain ⟨F, rfl⟩ : ∃ F', F = F' + 1 := ⟨F - 1, by omega⟩
    show wb_X9_pile E (σ 73) (nI a) (nI u) (nI tw) d K0 (wr_X9_pile E F)
    have g6 : gI (pI d (σ 73) 8 (nI tw)) (σ 73) 6 = nI n := by rw [gI_pI_k _ _ _ (by decide)]; exact y.1
    simp only [wb_X9_pile, x_73_3 h, x_73_4 h, en_77 h, en_78 h, g6, show (0 : Int32).toNatClampNeg = 0 from rfl, z_nn (show n < 2147483648 by omega), gA_pI_x]
    rw [g8, y.1, z_le hB (by omega), show (7 : Int32) = nI 7 from rfl, z_le (by omega) (by decide), z_lt (by omega) (by omega)]
    refine ⟨eo_73 h, fun l1 => k d Ch_rf y hfb hpd (Or.inl ⟨fun w hw => by show B ≤ tw + 0; omega, g8, rfl⟩), fun l1 => ⟨fun _ => ⟨fun z => by omega, fun _ => ⟨by decide, by decide, z_pos (by omega), by omega, by omega, ?_⟩⟩, fun z => by omega⟩⟩
    have c1 : Ch σ yrL d (sA (pI d (σ 73) 8 (nI tw)) (σ 78) (va_cpy (gA d (σ 77)) (gA d (σ 78)) 0 0 n)) := Ch_tr (Ch_pI h (by decide) (by decide) (by decide)) (Ch_sA h (by decide) (by decide))
    have n78 : σ 79 ≠ σ 78 := Env_ne h (by decide) (by decide) (by decide)
    have n77 : σ 77 ≠ σ 78 := Env_ne h (by decide) (by decide) (by decide)
    refine k _ c1 (yD_ch y c1 ?_ ?_) (fun q hq => ?_) (fun q hq => ?_) (Or.inr ⟨0, ⟨Nat.pow_pos hP1, fun j hj => ⟨Nat.le_refl _, fun z => absurd z (Nat.not_lt_zero _)⟩⟩, ?_, ?_, fun q hq => ?_, fun q hq => absurd hq (Nat.not_lt_zero _)⟩)
    · show gI (pI d (σ 73) 8 (nI tw)) (σ 73) 6 = _; rw [gI_pI_k _ _ _ (by decide)]
    · show gI (pI d (σ 73) 8 (nI tw)) (σ 73) 7 = _; rw [gI_pI_k _ _ _ (by decide)]
    · rw [gA_sA_ne _ _ n78]; exact hfb q hq
    · rw [gA_sA_ne _ _ n77]; exact hpd q hq
    · show tw + 0 < B; omega
    · show gI (pI d (σ 73) 8 (nI tw)) (σ 73) 8 = nI (tw + 0); rw [gI_pI]; rfl
    · rw [gA_sA]
      have : va_cpy (gA d (σ 77)) (gA d (σ 78)) 0 0 n q = gA d (σ 77) q := by simp only [va_cpy]; rw [if_pos (by omega)]; congr 1; omega
      rw [this]; exact hpd q hq
  | succ m ihm =>
    intro F a u tw B fb pd d K0 hF ha hu htw hB y g8 hfb hfe hpd k
    obtain ⟨F, rfl⟩ : ∃ F', F = F' + 1 := ⟨F - 1, by omega⟩
    show wb_X9_pile E (σ 73) (nI a) (nI u) (nI tw) d K0 (wr_X9_pile E F)
    have hN : 0 < P ^ m := Nat.pow_pos hP1
    have ePm : P ^ (m + 1) = P * P ^ m := by rw [Nat.pow_succ, Nat.mul_comm]
    rw [ePm] at k
    simp only [wb_X9_pile]
    rw [g8, y.1, y.2.1, z_le hB (by omega), show (7 : Int32) = nI 7 from rfl, z_le (by omega) (by decide), z_lt (by omega) (by omega), z_a1]
    refine ⟨eo_73 h, fun l1 => k d Ch_rf y hfb hpd (Or.inl ⟨fun w hw => by omega, g8, rfl⟩), fun l1 => ⟨fun _ => ⟨fun _ => ?_, fun z => by omega⟩, fun z => by omega⟩⟩
    obtain ⟨op, hop, hop2, hop3⟩ : ∃ op, (if nI P < nI (u + 1) then nI P else nI (u + 1)) = nI op ∧ op ≤ P ∧ (op = P ∨ op = u + 1) := by
      by_cases z : P < u + 1
      · exact ⟨P, if_pos ((z_lt (by omega) (by omega)).mpr z), Nat.le_refl _, Or.inl rfl⟩
      · exact ⟨u + 1, if_neg (fun y => z ((z_lt (by omega) (by omega)).mp y)), by omega, Or.inr rfl⟩
    rw [hop]
    refine ⟨op + 1, loopG (S := Int32 × Int32 × Dy) (l := fun M z => l_X9_pile_61 E (σ 73) (nI a) (nI u) (nI tw) K0 (wr_X9_pile E F) M z.1 z.2.1 z.2.2) (b := fun kk z => b_X9_pile_61 E (σ 73) (nI a) (nI u) (nI tw) K0 (wr_X9_pile E F) (fun a b c => kk (a, b, c)) z.1 z.2.1 z.2.2) (fun _ _ => rfl)
      (μ := fun z => op - z.2.1.toNatClampNeg) (P := fun z => nI op = z.1 ∧ ∃ p, p ≤ op ∧ nI p = z.2.1 ∧ Ch σ yrL d z.2.2 ∧ yD σ z.2.2 n P rk sz ∧ (∀ q, q < P → gA z.2.2 (σ 79) q = fb q) ∧ (∀ k, k < a → gA z.2.2 (σ 77) k = nI (pd k)) ∧ pRes σ d z.2.2 B tw (m + 1) a (coN P rk sz (m + 1) a fb) P (p * P ^ m) pd) ?_ op (nI op, 0, d) ⟨rfl, 0, by omega, rfl, Ch_rf, y, hfb, hpd, Or.inl ⟨fun w hw => by rw [Nat.zero_mul] at hw; omega, g8, rfl⟩⟩ (Nat.sub_le _ _)⟩
    rintro kk ⟨a1, a2, dz⟩ ⟨e_1, p, hp, e_2, cz, yz, fz, wz, rz⟩ hk
    subst e_1 e_2
    have cz : Ch σ yrL d dz := cz
    have yz : yD σ dz n P rk sz := yz
    have fz : ∀ q, q < P → gA dz (σ 79) q = fb q := fz
    have wz : ∀ k, k < a → gA dz (σ 77) k = nI (pd k) := wz
    have rz : pRes σ d dz B tw (m + 1) a (coN P rk sz (m + 1) a fb) P (p * P ^ m) pd := rz
    obtain ⟨ya1, ya2⟩ := yz.2.2 a (by omega)
    simp only [b_X9_pile_61, b_X9_pile_98, x_73_1 h, x_73_2 h, x_73_3 h, x_73_5 h, en_75 h, en_76 h, en_77 h, en_79 h, z_nn (show a < 2147483648 by omega), z_nn (show p < 2147483648 by omega)]
    rw [z_le (by omega) (by omega)]
    refine ⟨fun hc => ?_, fun hc => ?_⟩
    · have ep : p = op := by omega
      subst ep
      refine k dz cz yz fz wz ?_
      rcases hop3 with z | z
      · rw [z] at rz; exact rz
      · have huP : u < P := by omega
        rw [z] at rz
        have blk : ∀ w, w < P * P ^ m → (w < (u + 1) * P ^ m ∨ ∃ w', w' < (u + 1) * P ^ m ∧ w' < w ∧ coN P rk sz (m + 1) a fb w' = coN P rk sz (m + 1) a fb w) := fun w hw => by
          by_cases q : w < (u + 1) * P ^ m
          · exact Or.inl q
          · right
            have hq : w / P ^ m < P := by rw [Nat.div_lt_iff_lt_mul hN]; exact hw
            have hq2 : u + 1 ≤ w / P ^ m := by rw [Nat.le_div_iff_mul_le hN]; omega
            have ew : w / P ^ m * P ^ m + w % P ^ m = w := by rw [Nat.mul_comm]; exact Nat.div_add_mod _ _
            obtain ⟨w', h1, h2⟩ := co_empty (rk := rk) (sz := sz) (a := a) (fb := fb) huP hq ((hfe u (Nat.le_refl _) huP).trans (hfe _ (by omega) hq).symm) (Nat.mod_lt w hN)
            rw [ew] at h2
            refine ⟨u * P ^ m + w', blk_lt (by omega) h1, ?_, h2⟩
            have := blk_lt (P := u + 1) (p := u) (by omega) h1
            omega
        have uP : (u + 1) * P ^ m ≤ P * P ^ m := Nat.mul_le_mul_right _ huP
        rcases rz with ⟨r1, r2, r3⟩ | ⟨A, r1, r2, r3, r4, r5⟩
        · refine Or.inl ⟨fun w hw => ?_, r2, r3⟩
          rcases blk w hw with q | ⟨w', q1, q2, q3⟩
          · exact r1 w q
          · rw [← q3]; exact r1 w' q1
        · refine Or.inr ⟨A, ⟨by have := r1.1; omega, fun j hj => ?_⟩, r2, r3, r4, r5⟩
          rcases blk j hj with q | ⟨w', q1, q2, q3⟩
          · exact r1.2 j q
          · rw [← q3]; exact ⟨(r1.2 w' q1).1, fun z2 => (r1.2 w' q1).2 (by omega)⟩
    · have hpo : p < op := by omega
      have hpP : p < P := by omega
      have fp := fz p hpP
      rw [ya1, ya2, fp]
      refine ⟨vpi (by omega) (by decide), vpi (by omega) (by decide), ?_⟩
      obtain ⟨B2, hB2, g82⟩ : ∃ B2, B2 < 2147483648 ∧ gI dz (σ 73) 8 = nI B2 := by
        rcases rz with ⟨r1, r2, r3⟩ | ⟨A, r1, r2, r3, r4, r5⟩
        · exact ⟨B, hB, r2⟩
        · exact ⟨_, by omega, r3⟩
      have n79 : σ 79 ≠ σ 77 := Env_ne h (by decide) (by decide) (by decide)
      have n97 : σ 77 ≠ σ 79 := Env_ne h (by decide) (by decide) (by decide)
      have n76 : σ 76 ≠ σ 77 := Env_ne h (by decide) (by decide) (by decide)
      have body : ∀ s, s = cs1 rk sz a fb p → vp_in (nI a) 7 ∧ vp_in (nI a) 7 ∧ vp_in (nI p) 4 ∧ wr_X9_pile E F (σ 73) (nI a + 1) (if nI u < nI p + 1 then nI p + 1 else nI u) (nI tw + nI s) (pA (pA dz (σ 77) a (nI p)) (σ 79) p (if gA (pA dz (σ 77) a (nI p)) (σ 76) a < fb p then gA (pA dz (σ 77) a (nI p)) (σ 76) a else fb p)) (fun d_13 => vp_in (nI p) 4 ∧ kk (nI op, nI p + 1, pA d_13 (σ 79) p (fb p))) := fun s es => by
        refine ⟨vpi (by omega) (by decide), vpi (by omega) (by decide), vpi (by omega) (by decide), ?_⟩
        have s9 : s ≤ 9 := by rw [es]; unfold cs1; have := hs a; split <;> omega
        rw [gA_pA_ne _ _ _ n76, ya2, z_a1, z_a1, z_add]
        obtain ⟨u2, hu2, hu3, hu4⟩ : ∃ u2, (if nI u < nI (p + 1) then nI (p + 1) else nI u) = nI u2 ∧ u2 ≤ P ∧ u ≤ u2 ∧ p < u2 := by
          by_cases z : u < p + 1
          · exact ⟨p + 1, if_pos ((z_lt (by omega) (by omega)).mpr z), by omega, by omega, by omega⟩
          · exact ⟨u, if_neg (fun y => z ((z_lt (by omega) (by omega)).mp y)), by omega, by omega, by omega⟩
        rw [hu2]
        have c1 : Ch σ yrL dz (pA (pA dz (σ 77) a (nI p)) (σ 79) p (if rk a < fb p then rk a else fb p)) := Ch_tr (Ch_pA h (by decide) (by decide)) (Ch_pA h (by decide) (by decide))
        have f1 : ∀ q, q < P → gA (pA (pA dz (σ 77) a (nI p)) (σ 79) p (if rk a < fb p then rk a else fb p)) (σ 79) q = upF fb p (rk a) q := fun q hq => by
          rw [gA_pA]
          unfold upF
          by_cases e : q = p
          · rw [if_pos e]; exact if_pos e
          · rw [if_neg e]
            refine (if_neg e).trans ?_
            rw [gA_pA_ne _ _ _ n79]; exact fz q hq
        have w1 : ∀ k, k < a + 1 → gA (pA (pA dz (σ 77) a (nI p)) (σ 79) p (if rk a < fb p then rk a else fb p)) (σ 77) k = nI (if k = a then p else pd k) := fun q hq => by
          rw [gA_pA_ne _ _ _ n97, gA_pA_x, if_pos rfl]
          by_cases e : q = a
          · rw [if_pos e, if_pos e]
          · rw [if_neg e, if_neg e]; exact wz q (by omega)
        have i1 : gI (pA (pA dz (σ 77) a (nI p)) (σ 79) p (if rk a < fb p then rk a else fb p)) = gI dz := rfl
        have b78 : gA (pA (pA dz (σ 77) a (nI p)) (σ 79) p (if rk a < fb p then rk a else fb p)) (σ 78) = gA dz (σ 78) := by
          rw [gA_pA_ne _ _ _ (Env_ne h (by decide) (by decide) (by decide)), gA_pA_ne _ _ _ (Env_ne h (by decide) (by decide) (by decide))]
        generalize pA (pA dz (σ 77) a (nI p)) (σ 79) p (if rk a < fb p then rk a else fb p) = da at c1 f1 w1 i1 b78
        refine ihm F (a + 1) u2 (tw + s) B2 (upF fb p (rk a)) (fun k => if k = a then p else pd k) da _ (by omega) (by omega) hu3 (by omega) hB2 (yD_ch yz c1 (by rw [i1]) (by rw [i1])) (by rw [i1]; exact g82) f1 (fun q h1 h2 => ?_) w1 (fun db cb yb fb2 wb rb => ⟨vpi (by omega) (by decide), ?_⟩)
        · unfold upF; rw [if_neg (by omega)]; exact hfe q (by omega) h2
        · have c2 : Ch σ yrL db (pA db (σ 79) p (fb p)) := Ch_pA h (by decide) (by decide)
          refine hk (nI op, nI (p + 1), pA db (σ 79) p (fb p)) ⟨rfl, p + 1, by omega, rfl, Ch_tr cz (Ch_tr c1 (Ch_tr cb c2)), yD_ch yb c2 rfl rfl, fun q hq => ?_, fun q hq => ?_, ?_⟩ (by simp only [z_nn (show p + 1 < 2147483648 by omega), z_nn (show p < 2147483648 by omega)]; omega)
          · rw [gA_pA_x, if_pos rfl]
            by_cases e : q = p
            · rw [if_pos e, e]
            · rw [if_neg e, fb2 q hq]; unfold upF; rw [if_neg e]
          · rw [gA_pA_ne _ _ _ n97]
            have := wb q (by omega)
            rw [if_neg (by omega)] at this; exact this
          · have b2 : gA (pA db (σ 79) p (fb p)) (σ 78) = gA db (σ 78) := gA_pA_ne _ _ _ (Env_ne h (by decide) (by decide) (by decide))
            have eN : (p + 1) * P ^ m = p * P ^ m + P ^ m := by rw [Nat.add_mul, Nat.one_mul]
            have cob : ∀ w, w < P ^ m → coN P rk sz (m + 1) a fb (p * P ^ m + w) = s + coN P rk sz m (a + 1) (upF fb p (rk a)) w := fun w hw => by rw [co_blk hw, es]
            have split2 : ∀ j, j < (p + 1) * P ^ m → j < p * P ^ m ∨ ∃ w, w < P ^ m ∧ j = p * P ^ m + w := fun j hj => by
              by_cases q : j < p * P ^ m
              · exact Or.inl q
              · exact Or.inr ⟨j - p * P ^ m, by omega, by omega⟩
            show pRes σ d (pA db (σ 79) p (fb p)) B tw (m + 1) a (coN P rk sz (m + 1) a fb) P ((p + 1) * P ^ m) pd
            unfold pRes
            rw [b2, show gI (pA db (σ 79) p (fb p)) = gI db from rfl]
            rcases rb with ⟨q1, q2, q3⟩ | ⟨A2, q1, q2, q3, q4, q5⟩
            · rw [b78] at q3
              rcases rz with ⟨r1, r2, r3⟩ | ⟨A, r1, r2, r3, r4, r5⟩
              · have eB : B2 = B := by rw [r2, z_eq hB hB2] at g82; exact g82.symm
                rw [eB] at q1 q2
                refine Or.inl ⟨fun j hj => ?_, q2, q3.trans r3⟩
                rcases split2 j hj with z | ⟨w, z1, z2⟩
                · exact r1 j z
                · rw [z2, cob w z1]; have := q1 w z1; omega
              · have eB : B2 = tw + coN P rk sz (m + 1) a fb A := by rw [r3, z_eq (by omega) hB2] at g82; exact g82.symm
                rw [eB] at q1 q2
                refine Or.inr ⟨A, ⟨by have := r1.1; omega, fun j hj => ?_⟩, r2, q2, fun k hk2 => by rw [q3]; exact r4 k hk2, fun k hk2 => by rw [q3]; exact r5 k hk2⟩
                rcases split2 j hj with z | ⟨w, z1, z2⟩
                · exact r1.2 j z
                · have h1 := cob w z1
                  have h2 := q1 w z1
                  have h3 := r1.1
                  rw [z2]
                  exact ⟨by omega, fun z3 => by omega⟩
            · have lo : ∀ j, j < p * P ^ m → B2 ≤ tw + coN P rk sz (m + 1) a fb j := fun j hj => by
                rcases rz with ⟨r1, r2, r3⟩ | ⟨A, r1, r2, r3, r4, r5⟩
                · have eB : B2 = B := by rw [r2, z_eq hB hB2] at g82; exact g82.symm
                  rw [eB]; exact r1 j hj
                · have eB : B2 = tw + coN P rk sz (m + 1) a fb A := by rw [r3, z_eq (by omega) hB2] at g82; exact g82.symm
                  have := (r1.2 j hj).1
                  omega
              have B2B : B2 ≤ B := by
                rcases rz with ⟨r1, r2, r3⟩ | ⟨A, r1, r2, r3, r4, r5⟩
                · have eB : B2 = B := by rw [r2, z_eq hB hB2] at g82; exact g82.symm
                  omega
                · have eB : B2 = tw + coN P rk sz (m + 1) a fb A := by rw [r3, z_eq (by omega) hB2] at g82; exact g82.symm
                  omega
              have cA := cob A2 q1.1
              refine Or.inr ⟨p * P ^ m + A2, ⟨by have := q1.1; omega, fun j hj => ?_⟩, by omega, by rw [q3, cA]; congr 1; omega, fun k hk2 => ?_, fun k hk2 => ?_⟩
              · rcases split2 j hj with z | ⟨w, z1, z2⟩
                · have := lo j z
                  exact ⟨by omega, fun _ => by omega⟩
                · have h1 := cob w z1
                  have h2 := q1.2 w z1
                  rw [z2]
                  exact ⟨by omega, fun z3 => by have := h2.2 (by omega); omega⟩
              · have q6 : gA db (σ 78) k = nI (if k = a then p else pd k) := q4 k (by omega)
                rw [if_neg (by omega)] at q6; exact q6
              · cases k with
                | zero =>
                  have q6 : gA db (σ 78) a = nI (if a = a then p else pd a) := q4 a (by omega)
                  rw [if_pos rfl] at q6
                  rw [Nat.add_zero, q6, dg_blk0 hpP q1.1]
                | succ k =>
                  rw [dg_blkS hP1 (by omega), ← q5 k (by omega)]
                  congr 1; omega
      refine ⟨fun l2 => ?_, fun l2 => ⟨vpi (by omega) (by decide), ?_⟩⟩
      · exact body 0 (by unfold cs1; rw [if_pos l2])
      · exact body (sz a) (by unfold cs1; rw [if_neg l2])
end
