theorem hap_ok {W : Nat → Int32} {S : RS} {np nh e : Nat} (hW : WI W) (hnp : np = cnt W 0) (hnh : nh = cnt W 1) (ok : rsOK np nh S) (he : e < cnt W 2) : rsOK np nh (hapS W np nh S e) := by
  obtain ⟨-, k, hk, ek, n1, n2, n3, n4⟩ := ev_nums hW he
  have kk : ∀ j : Nat, j ≤ 6 → (W (121 + 6 * e) = nI j ↔ k = j) := fun j hj => by rw [ek, z_eq (by omega) (by omega)]
  have z0 : (0 : Int32) = nI 0 := rfl
  have z1 : (1 : Int32) = nI 1 := rfl
  have z2 : (2 : Int32) = nI 2 := rfl
  have z3 : (3 : Int32) = nI 3 := rfl
  have z4 : (4 : Int32) = nI 4 := rfl
  have z5 : (5 : Int32) = nI 5 := rfl
  unfold hapS
  rw [← hnp, ← hnh] at *
  generalize cnt W (122 + 6 * e) = a at *
  generalize cnt W (123 + 6 * e) = b at *
  by_cases k0 : W (121 + 6 * e) = 0
  · rw [if_pos k0]
    rw [z0, kk 0 (by omega)] at k0
    split
    · refine ⟨ok.1, fun h hh p hp => ?_, ok.2.2⟩
      have hp : (if rsH S h = some a then heS W (stL S (upB (rsL S) a false)) np a h (W (120 + 6 * e)) else rsH S h) = some p := hp
      split at hp
      · exact heS_lt (ok_stL ok) (n1 (by omega)).1 hp
      · exact ok.2.1 h hh p hp
    · exact ok
  · rw [if_neg k0]
    by_cases k1 : W (121 + 6 * e) = 1
    · rw [if_pos k1]
      rw [z1, kk 1 (by omega)] at k1
      refine ⟨fun p hp q hq => ?_, ok.2⟩
      have hq : (if p = b then some a else if p = a then some b else rsP S p) = some q := hq
      split at hq
      · cases hq; exact (n1 (by omega)).1
      · split at hq
        · cases hq; exact (n3 (by omega) (by omega)).1
        · exact ok.1 p hp q hq
    · rw [if_neg k1]
      by_cases k2 : W (121 + 6 * e) = 2
      · rw [if_pos k2]
        refine ⟨fun p hp q hq => ?_, ok.2⟩
        have hq : (if p = a ∧ rsP S p = some b ∨ p = b ∧ rsP S p = some a then none else rsP S p) = some q := hq
        split at hq
        · cases hq
        · exact ok.1 p hp q hq
      · rw [if_neg k2]
        by_cases k3 : W (121 + 6 * e) = 3
        · rw [if_pos k3]; exact ok
        · rw [if_neg k3]
          have hold : ∀ f g x, k = 4 ∨ k = 5 → rsOK np nh (stD (stH S (upO (rsH S) a (some b)) x) f g) := fun f g x hk => ⟨ok.1, fun h hh p hp => by
            have hp : (if h = a then some b else rsH S h) = some p := hp
            split at hp
            · cases hp; exact (n3 (by omega) (by omega)).1
            · exact ok.2.1 h hh p hp, ok.2.2⟩
          by_cases k4 : W (121 + 6 * e) = 4
          · rw [if_pos k4]
            rw [z4, kk 4 (by omega)] at k4
            split
            · exact ok
            · split
              · exact ok
              · exact hold _ _ _ (Or.inl k4)
          · rw [if_neg k4]
            by_cases k5 : W (121 + 6 * e) = 5
            · rw [if_pos k5]
              rw [z5, kk 5 (by omega)] at k5
              split
              · exact hold (rsS S) (rsD S) _ (Or.inr k5)
              · exact ok
            · rw [if_neg k5]
              have k6 : k = 6 := by
                rw [z0, kk 0 (by omega)] at k0
                rw [z1, kk 1 (by omega)] at k1
                rw [z2, kk 2 (by omega)] at k2
                rw [z3, kk 3 (by omega)] at k3
                rw [z4, kk 4 (by omega)] at k4
                rw [z5, kk 5 (by omega)] at k5
                omega
              have ha := (n2 (by omega)).1
              have hb := (n4 k6).1
              have rp := rp_spec ok ha
              have mv := mv_ok ok.2.2.1 ok.2.2.2 ha rp.2 rp.1 hb
              exact ⟨ok.1, ok.2.1, mv.1, mv.2⟩
section
variable {σ : Nat → Nat} {E : En} {d d' d2 d3 : Dy} {W : Nat → Int32} {np nh : Nat} {S : RS} {K : Int32 → Dy → Prop} {K0 : Dy → Prop}
def hpL : List Nat := [92, 93, 95, 96, 97, 98, 99, 100, 101, 102]
theorem refR_ch {P : List Nat} (R : refR σ np nh d S) (c : Ch σ P d d') (hP : 95 ∉ P ∧ 96 ∉ P ∧ 97 ∉ P ∧ 98 ∉ P ∧ 99 ∉ P ∧ 100 ∉ P ∧ 101 ∉ P ∧ 102 ∉ P) : refR σ np nh d' S := by
  obtain ⟨p1, p2, p3, p4, p5, p6, p7, p8⟩ := hP
  unfold refR
  rw [Ch_A c (by decide) p1, Ch_A c (by decide) p2, Ch_A c (by decide) p3, Ch_A c (by decide) p4, Ch_A c (by decide) p5, Ch_A c (by decide) p6, Ch_A c (by decide) p7, Ch_A c (by decide) p8]
  exact R
theorem r_rel (h : Env σ E) (eW : gA d (σ 88) = W) (e0 : W 0 = nI np) (hnp : np ≤ 12) (R : refR σ np nh d S) (ok : rsOK np nh S) {p : Nat} (hp : p < np) {w : Int32} (hw : bw w 0 3) (k : K (encO (relS W S np p w)) d) :
    ((¬ w = 0 → ((¬ w = 1 → ((¬ w = 2 → w_X11_brotherOf E (σ 87) (nI p) d K) ∧ (w = 2 → w_X11_parentOf E (σ 87) (nI p) d K))) ∧ (w = 1 → w_X11_eldestOf E (σ 87) (nI p) d K))) ∧ (w = 0 → w_X11_spouseOf E (σ 87) (nI p) d K)) := by
  unfold relS at k
  refine ⟨fun h0 => ⟨fun h1 => ⟨fun h2 => ?_, fun h2 => ?_⟩, fun h1 => ?_⟩, fun h0 => ?_⟩
  · rw [if_neg h0, if_neg h1, if_neg h2] at k; exact r_brother h eW e0 hnp R hp k
  · rw [if_neg h0, if_neg h1, if_pos h2] at k; exact r_parent h eW e0 hnp R hp k
  · rw [if_neg h0, if_pos h1] at k; exact r_eldest h eW e0 hnp R hp k
  · rw [if_pos h0] at k; exact r_spouse h hnp R ok hp k
theorem r_heir (h : Env σ E) (eW : gA d (σ 88) = W) (hW : WI W) (tw : TWs W) (e0 : W 0 = nI np) (e1 : W 1 = nI nh) (hn0 : np = cnt W 0) (hn1 : nh = cnt W 1) (hnp : np ≤ 12) (hnh : nh ≤ 10) (R : refR σ np nh d S) (ok : rsOK np nh S) {p i : Nat} (hp : p < np) (hi : i < nh) {y : Int32}
    (k : ∀ d', Ch σ [92, 93] d d' → K (encO (heS W S np p i y)) d') : w_X11_heirOf E (σ 87) (nI p) (nI i) y d K := by
  simp only [w_X11_heirOf, x_87_1 h, x_87_14 h, x_87_22 h, en_88 h, en_92 h, en_99 h, eW, z_nn (show i < 2147483648 by omega)]
  have lit : (10 : Int32).toNatClampNeg = 10 := rfl
  rw [lit]
  unfold heS at k
  refine ⟨eo_87 h, vpi (k := 10) (by decide) (by decide), fun h0 => ?_, fun h0 => ?_⟩
  · rw [if_neg h0] at k
    rw [(R.2.2.1 i hi).2.1]
    have q0 : (0 : Int32).toNatClampNeg = 0 := rfl
    have q1 : (1 : Int32).toNatClampNeg = 1 := rfl
    have q2 : (2 : Int32).toNatClampNeg = 2 := rfl
    have q3 : (3 : Int32).toNatClampNeg = 3 := rfl
    have q4 : (4 : Int32).toNatClampNeg = 4 := rfl
    have q8 : (8 : Int32).toNatClampNeg = 8 := rfl
    rw [q0, q1, q2, q3, q4, q8]
    refine ⟨vpi (by omega) (by decide), vpi (k := 0) (by decide) (by decide), ⟨eo_87 h, r_ofPerson h (c := 0) (by omega) (by decide) ⟨vpi (k := 1) (by decide) (by decide), ?_⟩⟩⟩
    have c1 : Ch σ [92, 93] d (pA d (σ 92) 0 (y - rsF S i)) := Ch_pA h (by decide) (by decide)
    have w1 : ∀ {d1 : Dy}, Ch σ [92, 93] d d1 → gA d1 (σ 88) = W := fun c => (Ch_A c (by decide) (by decide)).trans eW
    rw [w1 c1]
    have ea : (if 0 < y - W (14 + 3 * p + 0) then y - W (14 + 3 * p + 0) else 0) = ageS W p y := rfl
    rw [ea]
    have c2 : Ch σ [92, 93] d (pA (pA d (σ 92) 0 (y - rsF S i)) (σ 92) 1 (ageS W p y)) := Ch_tr c1 (Ch_pA h (by decide) (by decide))
    have rr : ∀ {d1 : Dy}, Ch σ [92, 93] d d1 → refR σ np nh d1 S := fun c => refR_ch R c (by decide)
    refine r_children h (w1 c2) e0 hnp (rr c2) hp ⟨vpi (k := 2) (by decide) (by decide), vpi (k := 3) (by decide) (by decide), r_ofHut h (c := 0) (by omega) (by decide) ⟨vpi (k := 4) (by decide) (by decide), r_ofPerson h (c := 2) (by omega) (by decide) ⟨vpi (k := 8) (by decide) (by decide), ?_⟩⟩⟩
    have c3 : Ch σ [92, 93] d (pA (pA (pA (pA d (σ 92) 0 (y - rsF S i)) (σ 92) 1 (ageS W p y)) (σ 92) 2 (nI (cntN (chS S p) np))) (σ 92) 3 y) := Ch_tr (Ch_tr c2 (Ch_pA h (by decide) (by decide))) (Ch_pA h (by decide) (by decide))
    have c4 : Ch σ [92, 93] d (pA (pA (pA (pA (pA d (σ 92) 0 (y - rsF S i)) (σ 92) 1 (ageS W p y)) (σ 92) 2 (nI (cntN (chS S p) np))) (σ 92) 3 y) (σ 92) 4 (W (50 + 7 * i + 0))) := Ch_tr c3 (Ch_pA h (by decide) (by decide))
    rw [w1 c3, w1 c4]
    have c5 : Ch σ [92, 93] d (pA (pA (pA (pA (pA (pA d (σ 92) 0 (y - rsF S i)) (σ 92) 1 (ageS W p y)) (σ 92) 2 (nI (cntN (chS S p) np))) (σ 92) 3 y) (σ 92) 4 (W (50 + 7 * i + 0))) (σ 92) 8 (W (14 + 3 * p + 2))) := Ch_tr c4 (Ch_pA h (by decide) (by decide))
    have hf : ∀ f, (f < 5 ∨ f = 8) → gA (pA (pA (pA (pA (pA (pA d (σ 92) 0 (y - rsF S i)) (σ 92) 1 (ageS W p y)) (σ 92) 2 (nI (cntN (chS S p) np))) (σ 92) 3 y) (σ 92) 4 (W (50 + 7 * i + 0))) (σ 92) 8 (W (14 + 3 * p + 2))) (σ 92) f = fRt W S np p i y f := fun f hf => by
      simp only [gA_pA_x, if_true]
      rcases (show f = 0 ∨ f = 1 ∨ f = 2 ∨ f = 3 ∨ f = 4 ∨ f = 8 by omega) with rfl | rfl | rfl | rfl | rfl | rfl
      · rfl
      · rfl
      · rfl
      · rfl
      · rfl
      · show W (14 + 3 * p + 2) = W (16 + 3 * p)
        congr 1; omega
    generalize pA (pA (pA (pA (pA (pA d (σ 92) 0 (y - rsF S i)) (σ 92) 1 (ageS W p y)) (σ 92) 2 (nI (cntN (chS S p) np))) (σ 92) 3 y) (σ 92) 4 (W (50 + 7 * i + 0))) (σ 92) 8 (W (14 + 3 * p + 2)) = d5 at c5 hf ⊢
    obtain ⟨hb0, n, hn⟩ := (tw 0 (by decide)).resolve_left h0
    have hnn : cnt W 596 = n := by unfold cnt; rw [hn.1, z_nn (by have := hn.2.1; omega)]
    rw [hnn] at k
    have hn10 := hn.2.1
    have oL : bw (W (16 + 3 * p)) 0 1 := by
      have := (hW.2.2 0 (by decide) p (by show p < cnt W 0; omega)).2.2
      have : bw (W (14 + 3 * p + 2)) 0 1 := this
      rwa [show 14 + 3 * p + 2 = 16 + 3 * p by omega] at this
    have oL2 : W (16 + 3 * p) = 0 ∨ W (16 + 3 * p) = 1 := by
      obtain ⟨m, _, hm, e⟩ := bw_n (a := 0) (b := 1) oL (by decide) (by decide)
      rcases (show m = 0 ∨ m = 1 by omega) with rfl | rfl
      · exact Or.inl e
      · exact Or.inr e
    have ag : fAg 0 (gA d5 (σ 92)) (fRt W S np p i y) := by
      refine ⟨fun f hf8 hfs => hf f ?_, fun _ => hf 8 (Or.inr rfl)⟩
      have : ∀ f, f < 8 → fsB 0 f = true → f < 5 := by decide
      exact Or.inl (this f hf8 hfs)
    refine ⟨n + 1, loopG (S := Int32 × Dy) (l := fun N z => l_X11_heirOf_84 E (σ 87) (nI p) (nI i) y K N z.1 z.2) (b := fun kk z => b_X11_heirOf_84 E (σ 87) (nI p) (nI i) y K (fun a b => kk (a, b)) z.1 z.2) (fun _ _ => rfl)
      (μ := fun z => n - z.1.toNatClampNeg) (P := fun z => ∃ j, j ≤ n ∧ nI j = z.1 ∧ Ch σ [93] d5 z.2 ∧ heN W S np p (fRt W S np p i y) (n - j) j = heN W S np p (fRt W S np p i y) n 0) ?_ n (0, d5) ⟨0, by omega, rfl, Ch_rf, rfl⟩ (Nat.sub_le _ _)⟩
    rintro kk ⟨v, d6⟩ ⟨j, hj, rfl, c6, hh⟩ hk
    have c6 : Ch σ [93] d5 d6 := c6
    have c56 : Ch σ [92, 93] d d6 := Ch_tr c5 (Ch_w c6 (by decide))
    have f6 : gA d6 (σ 92) = gA d5 (σ 92) := Ch_A c6 (by decide) (by decide)
    have t0 : (596 : Int32) + 851 * 0 = nI 596 := by decide
    simp only [b_X11_heirOf_84, w_X11_textAt, t0, x_87_1 h, en_88 h, z_nn (show 596 < 2147483648 by decide), w1 c56, show W 596 = nI n from hn.1]
    refine ⟨vpi (by decide) (by decide), fun hc => ?_, fun hc => ?_⟩
    · rw [z_le (by omega) (by omega)] at hc
      rw [show n - j = 0 by omega] at hh
      have := k d6 c56
      rw [← hh] at this; exact this
    · rw [z_le (by omega) (by omega)] at hc
      rw [show n - j = (n - (j + 1)) + 1 by omega] at hh
      simp only [heN] at hh
      refine r_holds (s := 0) h (by decide) (w1 c56) hn (by omega) (fun _ => by rw [f6, hf 8 (Or.inr rfl)]; exact oL2) (fun d7 c7 => ?_)
      have c7' : Ch σ [92, 93] d d7 := Ch_tr c56 (Ch_w c7 (by decide))
      have c57 : Ch σ [93] d5 d7 := Ch_tr c6 c7
      rw [f6, hd_congr hn (show j < n by omega) ag]
      have nx : heN W S np p (fRt W S np p i y) (n - (j + 1)) (j + 1) = heN W S np p (fRt W S np p i y) n 0 → kk (nI j + 1, d7) := fun q => by
        rw [z_a1]; exact hk (nI (j + 1), d7) ⟨j + 1, by omega, rfl, c57, q⟩ (by simp only [z_nn (show j + 1 < 2147483648 by omega), z_nn (show j < 2147483648 by omega)]; omega)
      refine ⟨fun hq => ?_, fun hq => ?_⟩
      · rw [b2i_1] at hq
        have tl : (596 : Int32) + 851 * 0 + 1 + 5 * nI j = nI (597 + 5 * j) := by
          have := x_line (s := 0) (n := j)
          rw [show nI 0 = (0 : Int32) from rfl, show 597 + 851 * 0 + 5 * j = 597 + 5 * j by omega] at this
          exact this
        simp only [w_X11_lineAt, w_X11_textAt, tl, x_87_1 h, en_88 h, z_nn (show 597 + 5 * j < 2147483648 by omega), w1 c7']
        obtain ⟨-, hl⟩ := hn.2.2 j (by omega)
        rw [if_pos rfl] at hl
        have hl : bw (W (597 + 851 * 0 + 5 * j)) 0 3 := hl
        rw [show 597 + 851 * 0 + 5 * j = 597 + 5 * j by omega] at hl
        refine ⟨vpw (by omega), ?_⟩
        have hrl : ∀ b, relS W S np p (W (597 + 5 * j)) = some b → b < np := fun b hb => rel_lt ok hp hb
        refine r_rel h (w1 c7') e0 hnp (rr c7') ok hp hl ⟨fun h5 => nx ?_, fun h5 => ?_⟩
        · rw [enc_lt hrl (by omega)] at h5
          rw [if_neg (fun q => q.2 h5)] at hh; exact hh
        · rw [enc_lt hrl (by omega)] at h5
          rw [if_pos ⟨hq, h5⟩] at hh
          have := k d7 c7'
          rw [← hh] at this; exact this
      · rw [b2i_0] at hq
        rw [if_neg (fun q => by rw [hq] at q; exact absurd q.1 (by decide))] at hh
        exact nx hh
  · rw [if_pos h0] at k
    exact k d Ch_rf
end
