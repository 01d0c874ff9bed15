section
variable {σ : Nat → Nat} {E : En} {d d' d2 d3 : Dy} {W : Nat → Int32} {np nh : Nat} {S : RS} {K : Int32 → Dy → Prop} {K0 : Dy → Prop}
/-- what stands as long as only the replay changes -/
def gW (σ : Nat → Nat) (d : Dy) (W : Nat → Int32) (np nh : Nat) : Prop := gA d (σ 88) = W ∧ WI W ∧ TWs W ∧ W 0 = nI np ∧ W 1 = nI nh ∧ np = cnt W 0 ∧ nh = cnt W 1 ∧ np ≤ 12 ∧ nh ≤ 10
theorem gW_ch {P : List Nat} (g : gW σ d W np nh) (c : Ch σ P d d') (h : 88 ∉ P) : gW σ d' W np nh := ⟨(Ch_A c (by decide) h).trans g.1, g.2⟩
theorem vpnB : vp_nar .boolean 0 = 0 ∧ vp_nar .boolean 1 = 1 := ⟨rfl, rfl⟩
theorem r_dies (h : Env σ E) (g : gW σ d W np nh) (R : refR σ np nh d S) (ok : rsOK np nh S) {p : Nat} (hp : p < np) {y : Int32} (k : ∀ d', Ch σ hpL d d' → refR σ np nh d' (dieS W S np p y) → K0 d') : w_X11_dies E (σ 87) (nI p) y d K0 := by
  obtain ⟨eW, hW, tw, e0, e1, n0, n1, hnp, hnh⟩ := id g
  have c0 : Ch σ hpL d (pA d (σ 95) p 0) := Ch_pA h (by decide) (by decide)
  have R0 : refR σ np nh (pA d (σ 95) p 0) (stL S (upB (rsL S) p false)) := by
    refine ⟨fun q hq => ⟨?_, ?_⟩, ?_, ?_, ?_⟩
    · rw [gA_pA]
      show (if q = p then (0 : Int32) else gA d (σ 95) q) = b2i (if q = p then false else rsL S q)
      by_cases e : q = p
      · rw [if_pos e, if_pos e]; rfl
      · rw [if_neg e, if_neg e]; exact (R.1 q hq).1
    · rw [gA_pA_ne _ _ _ (Env_ne h (by decide) (by decide) (by decide))]; exact (R.1 q hq).2
    · rw [gA_pA_ne _ _ _ (Env_ne h (by decide) (by decide) (by decide))]; exact R.2.1
    · rw [gA_pA_ne _ _ _ (Env_ne h (by decide) (by decide) (by decide)), gA_pA_ne _ _ _ (Env_ne h (by decide) (by decide) (by decide)), gA_pA_ne _ _ _ (Env_ne h (by decide) (by decide) (by decide))]; exact R.2.2.1
    · rw [gA_pA_ne _ _ _ (Env_ne h (by decide) (by decide) (by decide)), gA_pA_ne _ _ _ (Env_ne h (by decide) (by decide) (by decide))]; exact R.2.2.2
  have ok1 : rsOK np nh (stL S (upB (rsL S) p false)) := ok_stL ok
  simp only [w_X11_dies, x_87_18 h, en_95 h, z_nn (show p < 2147483648 by omega), vpnB.1]
  refine ⟨eo_87 h, vpi (by omega) (by decide), ?_⟩
  generalize pA d (σ 95) p 0 = d0 at c0 R0
  have eH : ∀ i, heS W (stL S (upB (rsL S) p false)) np p i y = heS W (stL S (upB (rsL S) p false)) np p i y := fun _ => rfl
  /- after the huts before j -/
  let T : Nat → RS := fun j => stH (stL S (upB (rsL S) p false)) (fun q => if q < j ∧ rsH S q = some p then heS W (stL S (upB (rsL S) p false)) np p q y else rsH S q) (fun q => if q < j ∧ rsH S q = some p ∧ heS W (stL S (upB (rsL S) p false)) np p q y ≠ none then y else rsF S q)
  have okT : ∀ j, rsOK np nh (T j) := fun j => ⟨ok.1, fun q hq b hb => by
    have hb : (if q < j ∧ rsH S q = some p then heS W (stL S (upB (rsL S) p false)) np p q y else rsH S q) = some b := hb
    split at hb
    · exact heS_lt ok1 hp hb
    · exact ok.2.1 q hq b hb, ok.2.2⟩
  have hes : ∀ j i, j ≤ i → heS W (T j) np p i y = heS W (stL S (upB (rsL S) p false)) np p i y := fun j i hji => by
    have hF : fRt W (T j) np p i y = fRt W (stL S (upB (rsL S) p false)) np p i y := by
      have : rsF (T j) i = rsF (stL S (upB (rsL S) p false)) i := by
        show (if i < j ∧ rsH S i = some p ∧ heS W (stL S (upB (rsL S) p false)) np p i y ≠ none then y else rsF S i) = rsF S i
        rw [if_neg (by omega)]
      funext f
      unfold fRt
      rw [this]; rfl
    have hN : ∀ F m a, heN W (T j) np p F m a = heN W (stL S (upB (rsL S) p false)) np p F m a := by
      intro F m
      induction m with
      | zero => intro a; rfl
      | succ m ih =>
        intro a
        show (if _ ∧ relS W (T j) np p _ ≠ none then relS W (T j) np p _ else heN W (T j) np p F m (a + 1)) = _
        rw [ih (a + 1)]; rfl
    unfold heS
    rw [hF, hN]
  refine ⟨nh + 1, loopG (S := Int32 × Dy) (l := fun N z => l_X11_dies_9 E (σ 87) (nI p) y K0 N z.1 z.2) (b := fun kk z => b_X11_dies_9 E (σ 87) (nI p) y K0 (fun a b => kk (a, b)) z.1 z.2) (fun _ _ => rfl)
    (μ := fun z => nh - z.1.toNatClampNeg) (P := fun z => ∃ j, j ≤ nh ∧ nI j = z.1 ∧ Ch σ hpL d z.2 ∧ refR σ np nh z.2 (T j)) ?_ nh (0, d0) ⟨0, by omega, rfl, c0, ?_⟩ (Nat.sub_le _ _)⟩
  · rintro kk ⟨v, d3⟩ ⟨j, hj, rfl, c3, R3⟩ hk
    have c3 : Ch σ hpL d d3 := c3
    have R3 : refR σ np nh d3 (T j) := R3
    have g3 := gW_ch g c3 (by decide)
    refine r_huts h ?_
    rw [g3.1, e1]
    refine ⟨fun hc => ?_, fun hc => ?_⟩
    · rw [z_le (by omega) (by omega)] at hc
      have : j = nh := by omega
      subst this
      refine k d3 c3 ?_
      obtain ⟨r1, r2, r3, r4⟩ := R3
      refine ⟨r1, r2, fun q hq => ?_, r4⟩
      have := r3 q hq
      refine ⟨this.1.trans ?_, this.2.1.trans ?_, this.2.2⟩
      · show encO (if q < j ∧ rsH S q = some p then _ else _) = encO (if rsH S q = some p then _ else _)
        simp [hq]
      · show (if q < j ∧ rsH S q = some p ∧ _ then y else rsF S q) = (if rsH S q = some p ∧ _ then y else rsF S q)
        simp [hq]
    · rw [z_le (by omega) (by omega)] at hc
      have hjn : j < nh := by omega
      have hj3 := R3.2.2.1 j hjn
      have hHj : rsH (T j) j = rsH S j := by show (if j < j ∧ _ then _ else _) = _; rw [if_neg (by omega)]
      simp only [x_87_21 h, en_98 h, z_nn (show j < 2147483648 by omega), hj3.1, hHj]
      rw [enc_eq (ok.2.1 j hjn) (by omega) hp]
      have nx : ∀ d4, Ch σ hpL d3 d4 → refR σ np nh d4 (T (j + 1)) → kk (nI j + 1, d4) := fun d4 c4 R4 => by
        rw [z_a1]; exact hk (nI (j + 1), d4) ⟨j + 1, by omega, rfl, Ch_tr c3 c4, R4⟩ (by simp only [z_nn (show j + 1 < 2147483648 by omega), z_nn (show j < 2147483648 by omega)]; omega)
      have m1 : σ 98 ≠ σ 95 := Env_ne h (by decide) (by decide) (by decide)
      refine ⟨vpi (by omega) (by decide), fun hq => ?_, fun hq => nx d3 Ch_rf ?_⟩
      · refine r_heir h g3.1 hW tw e0 e1 n0 n1 hnp hnh R3 (okT j) hp hjn (fun d4 c4 => ?_)
        rw [hes j j (Nat.le_refl j)]
        have R4 := refR_ch R3 c4 (by decide)
        obtain ⟨r1, r2, r3, r4⟩ := R4
        have hlt : ∀ b, heS W (stL S (upB (rsL S) p false)) np p j y = some b → b < np := fun b hb => heS_lt ok1 hp hb
        refine ⟨vpi (by omega) (by decide), fun h5 => nx _ (Ch_tr (Ch_w c4 (by decide)) (Ch_pA h (by decide) (by decide))) ?_, fun h5 => ?_⟩
        · rw [enc_lt hlt (by omega)] at h5
          refine ⟨?_, ?_, fun q hq2 => ⟨?_, ?_, ?_⟩, ?_⟩
          · rw [gA_pA_ne _ _ _ (Env_ne h (by decide) (by decide) (by decide)), gA_pA_ne _ _ _ (Env_ne h (by decide) (by decide) (by decide))]; exact r1
          · rw [gA_pA_ne _ _ _ (Env_ne h (by decide) (by decide) (by decide))]; exact r2
          · rw [gA_pA]
            show (if q = j then (-1 : Int32) else gA d4 (σ 98) q) = encO (if q < j + 1 ∧ rsH S q = some p then _ else _)
            by_cases e : q = j
            · subst e; rw [if_pos rfl, if_pos ⟨by omega, hq⟩, h5]; rfl
            · rw [if_neg e, (r3 q hq2).1]
              show encO (if q < j ∧ rsH S q = some p then _ else _) = _
              by_cases e2 : q < j
              · simp [e2, show q < j + 1 by omega]
              · simp [e2, show ¬ q < j + 1 by omega]
          · rw [gA_pA_ne _ _ _ (Env_ne h (by decide) (by decide) (by decide)), (r3 q hq2).2.1]
            show (if q < j ∧ rsH S q = some p ∧ _ then y else rsF S q) = (if q < j + 1 ∧ rsH S q = some p ∧ _ then y else rsF S q)
            by_cases e : q = j
            · subst e; rw [if_neg (by omega), if_neg (fun q2 => q2.2.2 h5)]
            · by_cases e2 : q < j
              · simp [e2, show q < j + 1 by omega]
              · simp [e2, show ¬ q < j + 1 by omega]
          · rw [gA_pA_ne _ _ _ (Env_ne h (by decide) (by decide) (by decide))]; exact (r3 q hq2).2.2
          · rw [gA_pA_ne _ _ _ (Env_ne h (by decide) (by decide) (by decide)), gA_pA_ne _ _ _ (Env_ne h (by decide) (by decide) (by decide))]; exact r4
        · rw [enc_lt hlt (by omega)] at h5
          simp only [w_X11_comesTo, x_87_21 h, x_87_22 h, en_98 h, en_99 h, z_nn (show j < 2147483648 by omega)]
          refine ⟨eo_87 h, vpi (by omega) (by decide), vpi (by omega) (by decide), nx _ (Ch_tr (Ch_w c4 (by decide)) (Ch_tr (Ch_tr (Ch_pA h (by decide) (by decide)) (Ch_pA h (by decide) (by decide))) (Ch_pA h (by decide) (by decide)))) ?_⟩
          have m2 : σ 98 ≠ σ 99 := Env_ne h (by decide) (by decide) (by decide)
          have oth : ∀ l, l < 116 → l ≠ 98 → l ≠ 99 → gA (pA (pA (pA d4 (σ 98) j (-1)) (σ 98) j (encO (heS W (stL S (upB (rsL S) p false)) np p j y))) (σ 99) j y) (σ l) = gA d4 (σ l) := fun l h1 h2 h3 => by
            rw [gA_pA_ne _ _ _ (Env_ne h h1 (by decide) h3), gA_pA_ne _ _ _ (Env_ne h h1 (by decide) h2), gA_pA_ne _ _ _ (Env_ne h h1 (by decide) h2)]
          refine ⟨?_, ?_, fun q hq2 => ⟨?_, ?_, ?_⟩, ?_⟩
          · rw [oth 95 (by decide) (by decide) (by decide), oth 96 (by decide) (by decide) (by decide)]; exact r1
          · rw [oth 97 (by decide) (by decide) (by decide)]; exact r2
          · rw [gA_pA_ne _ _ _ m2, gA_pA, gA_pA]
            show (if q = j then _ else if q = j then _ else gA d4 (σ 98) q) = encO (if q < j + 1 ∧ rsH S q = some p then _ else _)
            by_cases e : q = j
            · subst e; rw [if_pos rfl, if_pos ⟨by omega, hq⟩]
            · rw [if_neg e, if_neg e, (r3 q hq2).1]
              show encO (if q < j ∧ rsH S q = some p then _ else _) = _
              by_cases e2 : q < j
              · simp [e2, show q < j + 1 by omega]
              · simp [e2, show ¬ q < j + 1 by omega]
          · rw [gA_pA, gA_pA_ne _ _ _ (fun e => m2 e.symm), gA_pA_ne _ _ _ (fun e => m2 e.symm)]
            show (if q = j then y else gA d4 (σ 99) q) = (if q < j + 1 ∧ rsH S q = some p ∧ _ then y else rsF S q)
            by_cases e : q = j
            · subst e; rw [if_pos rfl, if_pos ⟨by omega, hq, h5⟩]
            · rw [if_neg e, (r3 q hq2).2.1]
              show (if q < j ∧ rsH S q = some p ∧ _ then y else rsF S q) = _
              by_cases e2 : q < j
              · simp [e2, show q < j + 1 by omega]
              · simp [e2, show ¬ q < j + 1 by omega]
          · rw [oth 100 (by decide) (by decide) (by decide)]; exact (r3 q hq2).2.2
          · rw [oth 101 (by decide) (by decide) (by decide), oth 102 (by decide) (by decide) (by decide)]; exact r4
      · obtain ⟨r1, r2, r3, r4⟩ := R3
        refine ⟨r1, r2, fun q hq2 => ?_, r4⟩
        have := r3 q hq2
        refine ⟨this.1.trans ?_, this.2.1.trans ?_, this.2.2⟩
        · show encO (if q < j ∧ rsH S q = some p then _ else _) = encO (if q < j + 1 ∧ rsH S q = some p then _ else _)
          by_cases e : q = j
          · subst e; rw [if_neg (by omega), if_neg (fun q2 => hq q2.2)]
          · by_cases e2 : q < j
            · simp [e2, show q < j + 1 by omega]
            · simp [e2, show ¬ q < j + 1 by omega]
        · show (if q < j ∧ rsH S q = some p ∧ _ then y else rsF S q) = (if q < j + 1 ∧ rsH S q = some p ∧ _ then y else rsF S q)
          by_cases e : q = j
          · subst e; rw [if_neg (by omega), if_neg (fun q2 => hq q2.2.1)]
          · by_cases e2 : q < j
            · simp [e2, show q < j + 1 by omega]
            · simp [e2, show ¬ q < j + 1 by omega]
  · obtain ⟨r1, r2, r3, r4⟩ := R0
    refine ⟨r1, r2, fun q hq => ?_, r4⟩
    have := r3 q hq
    refine ⟨this.1.trans ?_, this.2.1.trans ?_, this.2.2⟩
    · show encO (rsH S q) = encO (if q < 0 ∧ rsH S q = some p then heS W (stL S (upB (rsL S) p false)) np p q y else rsH S q)
      rw [if_neg (by omega)]
    · show rsF S q = (if q < 0 ∧ rsH S q = some p ∧ heS W (stL S (upB (rsL S) p false)) np p q y ≠ none then y else rsF S q)
      rw [if_neg (by omega)]
end
