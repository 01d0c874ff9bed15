section
variable {σ : Nat → Nat} {E : En} {d d' d2 d3 : Dy} {W : Nat → Int32} {np nh L n : Nat} {S : RS} {K : Int32 → Dy → Prop} {K0 : Dy → Prop} {KJ : Int64 → Dy → Prop} {X : String → Dy → Prop} {kc : En → Dy → Prop} {v4 : Int32} {xs : Nat → Int32} {p1 p2 : Int32} {w : Nat → Nat} {k45 : Int32 → Int32 → Dy → Prop}
theorem r_aw210 (h : Env σ E) {i : Nat} (hn : n ≤ 8) (hw : wJ σ 114 d n w) (k : ∀ d', Ch σ [113, 114] d d' → wJ σ 113 d' n w → k45 (nI (2 ^ n)) (nI (i + 1)) d') : ∃ M, l_X11_allWays_210 E (σ 87) p1 p2 KJ k45 M (nI (2 ^ n)) (nI i) 0 d := by
  obtain ⟨q1, q2⟩ := p256 hn
  generalize hN : 2 ^ n = N at *
  refine ⟨N + 1, loopG (S := Int32 × Int32 × Int32 × Dy) (l := fun M z => l_X11_allWays_210 E (σ 87) p1 p2 KJ k45 M z.1 z.2.1 z.2.2.1 z.2.2.2) (b := fun kk z => b_X11_allWays_210 E (σ 87) p1 p2 KJ k45 (fun a b c e => kk (a, b, c, e)) z.1 z.2.1 z.2.2.1 z.2.2.2) (fun _ _ => rfl)
    (μ := fun z => N - z.2.2.1.toNatClampNeg) (P := fun z => nI N = z.1 ∧ nI i = z.2.1 ∧ ∃ j, j ≤ N ∧ nI j = z.2.2.1 ∧ Ch σ [113] d z.2.2.2 ∧ ∀ s, s < j → gJ z.2.2.2 (σ 113) s = Int64.ofNat (w s)) ?_ N (nI N, nI i, 0, d) ⟨rfl, rfl, 0, by omega, rfl, Ch_rf, fun s hs => absurd hs (Nat.not_lt_zero _)⟩ (Nat.sub_le _ _)⟩
  rintro kk ⟨a1, a2, a3, dz⟩ ⟨e_1, e_2, j, hj, e_3, cz, gz⟩ hk
  subst e_1 e_2 e_3
  have cz : Ch σ [113] d dz := cz
  have gz : ∀ s, s < j → gJ dz (σ 113) s = Int64.ofNat (w s) := gz
  simp only [b_X11_allWays_210, x_87_38 h, x_87_39 h, en_113 h, en_114 h, z_nn (show j < 2147483648 by omega)]
  rw [z_le (by omega) (by omega), z_a1 i, z_a1 j]
  refine ⟨fun hc => ?_, fun hc => ⟨vpi (by omega) (by decide), vpi (by omega) (by decide), ?_⟩⟩
  · have : j = N := by omega
    subst this
    exact k dz (Ch_w cz (by decide)) (fun s hs => gz s (by omega))
  · refine hk (nI N, nI i, nI (j + 1), _) ⟨rfl, rfl, j + 1, by omega, rfl, Ch_tr cz (Ch_pJ h (by decide) (by decide)), fun s hs => ?_⟩ (by simp only [z_nn (show j + 1 < 2147483648 by omega), z_nn (show j < 2147483648 by omega)]; omega)
    rw [gJp]
    by_cases e : s = j
    · rw [if_pos e, Ch_J cz (by decide) (by decide), hw j (by omega), e]
    · rw [if_neg e]; exact gz s (by omega)
theorem r_aw121 (h : Env σ E) (g : gW σ d W np nh) {i may : Nat} (hi : i < nh) (hn : n ≤ 8) (hm : may < 2 ^ n) (hw : wJ σ 113 d n w) (k : ∀ d', Ch σ [113, 114] d d' → wJ σ 113 d' n (stW w may (losN W i)) → k45 (nI (2 ^ n)) (nI (i + 1)) d') : ∃ M, l_X11_allWays_121 E (σ 87) p1 p2 KJ k45 M (nI (2 ^ n)) (nI i) (nI may) 0 d := by
  obtain ⟨q1, q2⟩ := p256 hn
  refine ⟨2 ^ n + 1, loopG (S := Int32 × Int32 × Int32 × Int32 × Dy) (l := fun M z => l_X11_allWays_121 E (σ 87) p1 p2 KJ k45 M z.1 z.2.1 z.2.2.1 z.2.2.2.1 z.2.2.2.2) (b := fun kk z => b_X11_allWays_121 E (σ 87) p1 p2 KJ k45 (fun a b c e f => kk (a, b, c, e, f)) z.1 z.2.1 z.2.2.1 z.2.2.2.1 z.2.2.2.2) (fun _ _ => rfl)
    (μ := fun z => 2 ^ n - z.2.2.2.1.toNatClampNeg) (P := fun z => nI (2 ^ n) = z.1 ∧ nI i = z.2.1 ∧ nI may = z.2.2.1 ∧ ∃ j, j ≤ 2 ^ n ∧ nI j = z.2.2.2.1 ∧ Ch σ [114] d z.2.2.2.2 ∧ ∀ s, s < j → gJ z.2.2.2.2 (σ 114) s = Int64.ofNat (stW w may (losN W i) s)) ?_ (2 ^ n) (nI (2 ^ n), nI i, nI may, 0, d) ⟨rfl, rfl, rfl, 0, by omega, rfl, Ch_rf, fun s hs => absurd hs (Nat.not_lt_zero _)⟩ (Nat.sub_le _ _)⟩
  rintro kk ⟨a1, a2, a3, a4, dz⟩ ⟨e_1, e_2, e_3, j, hj, e_4, cz, gz⟩ hk
  subst e_1 e_2 e_3 e_4
  have cz : Ch σ [114] d dz := cz
  have gz : ∀ s, s < j → gJ dz (σ 114) s = Int64.ofNat (stW w may (losN W i) s) := gz
  simp only [b_X11_allWays_121, x_87_39 h, en_114 h, z_nn (show j < 2147483648 by omega)]
  rw [z_le (by omega) (by omega)]
  refine ⟨fun hc => ?_, fun hc => ⟨vpi (by omega) (by decide), ?_⟩⟩
  · have e : j = 2 ^ n := by omega
    exact r_aw210 h hn (fun s hs => gz s (by omega)) (fun d' c' w' => k d' (Ch_tr (Ch_w cz (by decide)) c') w')
  · have c1 : Ch σ [114] dz (pJ dz (σ 114) j 0) := Ch_pJ h (by decide) (by decide)
    refine r_aw138 h (gW_ch (gW_ch g cz (by decide)) c1 (by decide)) hi hn (by omega) hm (w := w) (fun s hs => ?_) (by rw [gJp, if_pos rfl]) (fun d' c' g' o' => ?_)
    · rw [Ch_J c1 (by decide) (by decide), Ch_J cz (by decide) (by decide)]; exact hw s hs
    · rw [z_a1]
      refine hk (nI (2 ^ n), nI i, nI may, nI (j + 1), d') ⟨rfl, rfl, rfl, j + 1, by omega, rfl, Ch_tr cz (Ch_tr c1 c'), fun s hs => ?_⟩ (by simp only [z_nn (show j + 1 < 2147483648 by omega), z_nn (show j < 2147483648 by omega)]; omega)
      by_cases e : s = j
      · rw [e]; exact g'
      · rw [o' s e, gJp, if_neg e]; exact gz s (by omega)
theorem w6_pl (hW : WI W) : W 6 = nI (cnt W 6) ∧ cnt W 6 ≤ 8 := hW.1 7 (by decide) (by decide)
theorem r_aw60 (h : Env σ E) (g : gW σ d W np nh) (R : refR σ np nh d S) (ok : rsOK np nh S) {i : Nat} (hi : i < nh) (hw : wJ σ 113 d (cnt W 6) w) (k : ∀ d', Ch σ [113, 114] d d' → wJ σ 113 d' (cnt W 6) (stW w (mayN W S nh p1 p2 i) (losN W i)) → k45 (nI (2 ^ cnt W 6)) (nI (i + 1)) d') : ∃ M, l_X11_allWays_60 E (σ 87) p1 p2 KJ k45 M (nI (2 ^ cnt W 6)) (nI i) 0 0 d := by
  obtain ⟨eW, hW, tw, e0, e1, n0, n1, hnp, hnh⟩ := id g
  obtain ⟨w6, hn⟩ := w6_pl hW
  obtain ⟨q1, q2⟩ := p256 hn
  refine ⟨cnt W 6 + 1, loopG (S := Int32 × Int32 × Int32 × Int32 × Dy) (l := fun M z => l_X11_allWays_60 E (σ 87) p1 p2 KJ k45 M z.1 z.2.1 z.2.2.1 z.2.2.2.1 z.2.2.2.2) (b := fun kk z => b_X11_allWays_60 E (σ 87) p1 p2 KJ k45 (fun a b c e f => kk (a, b, c, e, f)) z.1 z.2.1 z.2.2.1 z.2.2.2.1 z.2.2.2.2) (fun _ _ => rfl)
    (μ := fun z => cnt W 6 - z.2.2.2.1.toNatClampNeg) (P := fun z => nI (2 ^ cnt W 6) = z.1 ∧ nI i = z.2.1 ∧ d = z.2.2.2.2 ∧ ∃ j, j ≤ cnt W 6 ∧ nI j = z.2.2.2.1 ∧ mskN (mayB W S nh p1 p2 i) (cnt W 6) j = z.2.2.1) ?_ (cnt W 6) (nI (2 ^ cnt W 6), nI i, 0, 0, d) ⟨rfl, rfl, rfl, 0, by omega, rfl, msk_0.symm⟩ (Nat.sub_le _ _)⟩
  rintro kk ⟨a1, a2, a3, a4, dz⟩ ⟨e_1, e_2, e_3, j, hj, e_4, e_5⟩ hk
  subst e_1 e_2 e_3 e_4 e_5
  simp only [b_X11_allWays_60, b_X11_allWays_101, x_87_1 h, en_88 h, show (6 : Int32).toNatClampNeg = 6 from rfl, eW, w6]
  rw [z_le (by omega) (by omega), z_a1 j]
  refine ⟨vpi (k := 6) (by decide) (by decide), fun hc => ?_, fun hc => r_canBeOf h g R ok hi (by omega) ?_⟩
  · have e : j = cnt W 6 := by omega
    have em : mskN (mayB W S nh p1 p2 i) (cnt W 6) j = nI (mayN W S nh p1 p2 i) := by
      unfold mskN mayN
      congr 1
      exact bt_congr (fun q hq => by rw [show decide (q < j) = true by simp; omega, Bool.true_and])
    rw [em]
    exact r_aw121 h g hi hn (bt_lt _ _) hw k
  · have hjn : j < cnt W 6 := by omega
    have nx : ∀ x, x = mskN (mayB W S nh p1 p2 i) (cnt W 6) (j + 1) → kk (nI (2 ^ cnt W 6), nI i, x, nI (j + 1), d) := fun x ex =>
      hk (nI (2 ^ cnt W 6), nI i, x, nI (j + 1), d) ⟨rfl, rfl, rfl, j + 1, by omega, rfl, ex.symm⟩ (by simp only [z_nn (show j + 1 < 2147483648 by omega), z_nn (show j < 2147483648 by omega)]; omega)
    refine ⟨fun l1 => nx _ (msk_f0 (by omega) ?_), fun l1 => ⟨fun l2 => nx _ (msk_t (by omega) hjn ?_), fun l2 => ⟨fun l3 => nx _ (msk_t (by omega) hjn ?_), fun l3 => ⟨fun l4 => nx _ (msk_f0 (by omega) ?_), fun l4 => nx _ (msk_t (by omega) hjn ?_)⟩⟩⟩⟩
    · rw [b2i_0] at l1; unfold mayB; rw [l1]; rfl
    · rw [b2i_1] at l1; unfold mayB; rw [l1, show decide (nI j ≠ p1) = true by simpa using l2]; rfl
    · rw [b2i_1] at l1; unfold mayB; rw [l1, show decide (p2 < 0) = true by simpa using l3]; simp
    · rw [b2i_1] at l1; unfold mayB; rw [l1, show decide (p2 < 0) = false by simpa using l3, show decide (p2 = nI i) = false by simpa using l4, show decide (nI j ≠ p1) = false by simpa using l2]; rfl
    · rw [b2i_1] at l1; unfold mayB; rw [l1, show decide (p2 = nI i) = true by simpa using l4]; simp
theorem r_allWays (h : Env σ E) (g : gW σ d W np nh) (R : refR σ np nh d S) (ok : rsOK np nh S) (k : ∀ d', Ch σ [113, 114] d d' → KJ (Int64.ofNat (wyN (mayN W S nh p1 p2) (losN W) nh (2 ^ cnt W 6 - 1))) d') : w_X11_allWays E (σ 87) p1 p2 d KJ := by
  obtain ⟨eW, hW, tw, e0, e1, n0, n1, hnp, hnh⟩ := id g
  obtain ⟨w6, hn⟩ := w6_pl hW
  obtain ⟨q1, q2⟩ := p256 hn
  have huts : ∀ i d0, Ch σ [113, 114] d d0 → i ≤ nh → wJ σ 113 d0 (cnt W 6) (wyN (mayN W S nh p1 p2) (losN W) i) → ∃ M, l_X11_allWays_45 E (σ 87) p1 p2 KJ M (nI (2 ^ cnt W 6)) (nI i) d0 := fun i0 d0 c0 hi0 hw0 => by
    refine ⟨nh + 1, loopG (S := Int32 × Int32 × Dy) (l := fun M z => l_X11_allWays_45 E (σ 87) p1 p2 KJ M z.1 z.2.1 z.2.2) (b := fun kk z => b_X11_allWays_45 E (σ 87) p1 p2 KJ (fun a b c => kk (a, b, c)) z.1 z.2.1 z.2.2) (fun _ _ => rfl)
      (μ := fun z => nh - z.2.1.toNatClampNeg) (P := fun z => nI (2 ^ cnt W 6) = z.1 ∧ ∃ i, i ≤ nh ∧ nI i = z.2.1 ∧ Ch σ [113, 114] d z.2.2 ∧ wJ σ 113 z.2.2 (cnt W 6) (wyN (mayN W S nh p1 p2) (losN W) i)) ?_ nh (nI (2 ^ cnt W 6), nI i0, d0) ⟨rfl, i0, hi0, rfl, c0, hw0⟩ (Nat.sub_le _ _)⟩
    rintro kk ⟨a1, a2, dz⟩ ⟨e_1, i, hi, e_2, cz, gz⟩ hk
    subst e_1 e_2
    have cz : Ch σ [113, 114] d dz := cz
    have gz : wJ σ 113 dz (cnt W 6) (wyN (mayN W S nh p1 p2) (losN W) i) := gz
    have Wz := gW_ch g cz (by decide)
    refine r_huts h ?_
    rw [Wz.1, e1, z_le (by omega) (by omega)]
    simp only [x_87_38 h, en_113 h]
    refine ⟨fun hc => ?_, fun hc => ?_⟩
    · have : i = nh := by omega
      subst this
      rw [show (1 : Int32) = nI 1 from rfl, z_sub (by omega), z_nn (by omega), gz _ (by omega)]
      exact ⟨vpi (by omega) (by decide), k dz cz⟩
    · refine r_aw60 h Wz (refR_ch R cz (by decide)) ok (by omega) gz (fun d' c' w' => ?_)
      exact hk (nI (2 ^ cnt W 6), nI (i + 1), d') ⟨rfl, i + 1, by omega, rfl, Ch_tr cz c', w'⟩ (by simp only [z_nn (show i + 1 < 2147483648 by omega), z_nn (show i < 2147483648 by omega)]; omega)
  simp only [w_X11_allWays, x_87_1 h, en_88 h, show (6 : Int32).toNatClampNeg = 6 from rfl, eW, w6]
  rw [b_shl (by omega)]
  refine ⟨eo_87 h, vpi (k := 6) (by decide) (by decide), ?_⟩
  refine ⟨2 ^ cnt W 6 + 1, loopG (S := Int32 × Int32 × Dy) (l := fun M z => l_X11_allWays_13 E (σ 87) p1 p2 KJ M z.1 z.2.1 z.2.2) (b := fun kk z => b_X11_allWays_13 E (σ 87) p1 p2 KJ (fun a b c => kk (a, b, c)) z.1 z.2.1 z.2.2) (fun _ _ => rfl)
    (μ := fun z => 2 ^ cnt W 6 - z.2.1.toNatClampNeg) (P := fun z => nI (2 ^ cnt W 6) = z.1 ∧ ∃ j, j ≤ 2 ^ cnt W 6 ∧ nI j = z.2.1 ∧ Ch σ [113, 114] d z.2.2 ∧ ∀ s, s < j → gJ z.2.2 (σ 113) s = Int64.ofNat (if s = 0 then 1 else 0)) ?_ (2 ^ cnt W 6) (nI (2 ^ cnt W 6), 0, d) ⟨rfl, 0, by omega, rfl, Ch_rf, fun s hs => absurd hs (Nat.not_lt_zero _)⟩ (Nat.sub_le _ _)⟩
  rintro kk ⟨a1, a2, dz⟩ ⟨e_1, j, hj, e_2, cz, gz⟩ hk
  subst e_1 e_2
  have cz : Ch σ [113, 114] d dz := cz
  have gz : ∀ s, s < j → gJ dz (σ 113) s = Int64.ofNat (if s = 0 then 1 else 0) := gz
  simp only [b_X11_allWays_13, x_87_38 h, en_113 h, z_nn (show j < 2147483648 by omega)]
  rw [z_le (by omega) (by omega), z_a1 j]
  have nx : ∀ x, x = Int64.ofNat (if j = 0 then 1 else 0) → j < 2 ^ cnt W 6 → kk (nI (2 ^ cnt W 6), nI (j + 1), pJ dz (σ 113) j x) := fun x ex hjn =>
    hk (nI (2 ^ cnt W 6), nI (j + 1), pJ dz (σ 113) j x) ⟨rfl, j + 1, by omega, rfl, Ch_tr cz (Ch_pJ h (by decide) (by decide)), fun s hs => by
      rw [gJp]
      by_cases e : s = j
      · rw [if_pos e, ex, e]
      · rw [if_neg e]; exact gz s (by omega)⟩ (by simp only [z_nn (show j + 1 < 2147483648 by omega), z_nn (show j < 2147483648 by omega)]; omega)
  refine ⟨fun hc => huts 0 dz cz (by omega) (fun s hs => gz s (by omega)), fun hc => ⟨fun l1 => ⟨vpi (by omega) (by decide), nx 0 ?_ (by omega)⟩, fun l1 => ⟨vpi (by omega) (by decide), nx 1 ?_ (by omega)⟩⟩⟩
  · rw [if_neg (fun e => l1 (by rw [e]; rfl))]; rfl
  · rw [show (0 : Int32) = nI 0 from rfl, z_eq (by omega) (by decide)] at l1
    rw [if_pos l1]; rfl
end
