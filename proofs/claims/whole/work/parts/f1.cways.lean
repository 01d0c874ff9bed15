section
variable {σ : Nat → Nat} {E : En} {d d' d2 d3 : Dy} {W : Nat → Int32} {np nh L n : Nat} {S : RS} {K : Int32 → Dy → Prop} {K0 : Dy → Prop} {KJ : Int64 → Dy → Prop} {X : String → Dy → Prop} {kc : En → Dy → Prop} {v4 : Int32} {xs : Nat → Int32} {p1 p2 : Int32} {w : Nat → Nat}
theorem k_fillJ (h : Env σ E) {i n : Nat} {v : Int64} {K : Dy → Prop} (hi : i < 116) (ha : okA E (σ i) 14) (hN : eN E (σ i) = n) (hn : n < 2147483648) (k : ∀ d', Ch σ [i] d d' → (∀ q, q < n → gJ d' (σ i) q = v) → K d') : w_J7_fill_d0a16 E (σ i) v d K := by
  refine ⟨ha, n + 1, ?_⟩
  rw [hN]
  refine loopG (S := Int32 × Int32 × Dy) (l := fun N z => l_J7_fill_d0a16_6 E (σ i) v K N z.1 z.2.1 z.2.2) (b := fun kk z => b_J7_fill_d0a16_6 E (σ i) v K (fun a b c => kk (a, b, c)) z.1 z.2.1 z.2.2) (fun _ _ => rfl)
    (μ := fun z => n - z.1.toNatClampNeg) (P := fun z => nI n = z.2.1 ∧ ∃ j, j ≤ n ∧ nI j = z.1 ∧ Ch σ [i] d z.2.2 ∧ ∀ q, q < j → gJ z.2.2 (σ i) q = v) ?_ n (0, nI n, d) ⟨rfl, 0, by omega, rfl, Ch_rf, fun q hq => absurd hq (Nat.not_lt_zero _)⟩ (Nat.sub_le _ _)
  rintro kk ⟨a, b, dz⟩ ⟨e_1, j, hj, e_2, cz, gz⟩ hk
  subst e_1 e_2
  have cz : Ch σ [i] d dz := cz
  have gz : ∀ q, q < j → gJ dz (σ i) q = v := gz
  simp only [b_J7_fill_d0a16_6, hN, z_nn (show j < 2147483648 by omega)]
  rw [z_le (by omega) (by omega), z_a1 j]
  refine ⟨fun hc => k dz cz (fun q hq => gz q (by omega)), fun hc => ⟨vpi (by omega) (by omega), ?_⟩⟩
  refine hk (nI (j + 1), nI n, _) ⟨rfl, j + 1, by omega, rfl, Ch_tr cz (Ch_pJ h hi (by simp)), fun q hq => ?_⟩ (by simp only [z_nn (show j + 1 < 2147483648 by omega), z_nn (show j < 2147483648 by omega)]; omega)
  rw [gJp]
  by_cases e : q = j
  · rw [if_pos e]
  · rw [if_neg e]; exact gz q (by omega)
def rdL : List Nat := [85, 86]
theorem rd_scr : ∀ i ∈ rdL, i ∈ scr := by decide
theorem cW_rd (c : cW σ E d W np nh) (h : Ch σ rdL d d') : cW σ E d' W np nh := ⟨Inv_ch c.1 (Ch_w h rd_scr), (Ch_A h (by decide) (by decide)).trans c.2.1, c.2.2⟩
theorem C_rd (C : clsR σ 50 np nh d S) (h : Ch σ rdL d d') : clsR σ 50 np nh d' S := clsR_ch C rb50 h (by decide)
theorem k_plk (c : cW σ E d W np nh) {p j : Nat} (hp : p < cnt W 6) (hj : j < 3) (k : K (W (420 + 3 * p + j)) d) : w_X6_get E (σ 16) (nI p) (nI j) d K := by
  have hr2 : p < cnt (gA d (σ 88)) 6 := by rw [c.2.1]; exact hp
  refine T_get (te_16 c.1.1) (td_16 c.1) hr2 hj ?_
  have := tv_16 c.1 hr2 hj
  rw [c.2.1, show cmI 7 j = j from rfl] at this
  rw [this]; exact k
theorem k_npl (c : cW σ E d W np nh) (k : K (nI (cnt W 6)) d) : w_X6_size E (σ 16) d K := by
  have t := td_16 c.1
  rw [c.2.1] at t
  exact T_size (te_16 c.1.1) t k
theorem col_bit (hW : WI W) {i p : Nat} (hi : i < cnt W 1) (hp : p < cnt W 6) : ((W (420 + 3 * p)) >>> (W (56 + 7 * i) &&& 31)) &&& 1 = 0 ∨ ((W (420 + 3 * p)) >>> (W (56 + 7 * i) &&& 31)) &&& 1 = 1 := by
  have o1 : bw (W (420 + 3 * p + 0)) 1 255 := (hW.2.2 7 (by decide) p hp).1
  obtain ⟨-, -, -, -, -, -, o2⟩ := hW.2.2 1 (by decide) i hi
  have o2 : bw (W (50 + 7 * i + 6)) 0 7 := o2
  rw [show 420 + 3 * p + 0 = 420 + 3 * p by omega] at o1
  rw [show 50 + 7 * i + 6 = 56 + 7 * i by omega] at o2
  obtain ⟨a, -, ha, ea⟩ := bw_n (a := 1) (b := 255) o1 (by decide) (by decide)
  obtain ⟨b, -, hb, eb⟩ := bw_n (a := 0) (b := 7) o2 (by decide) (by decide)
  rw [ea, eb, b_bit (by omega) (by omega)]
  split
  · exact Or.inr rfl
  · exact Or.inl rfl
theorem k_fitting (c : cW σ E d W np nh) (C : clsR σ 50 np nh d S) (ok : rsOK np nh S) {i : Nat} (hi : i < nh) (k : K (nI (fitN W S nh i)) (pI d (σ 85) 4 (nI (losN W i)))) : w_X4_fittingTo E (σ 85) (nI i) d K := by
  have h := c.1.1
  obtain ⟨eW, hW, tw, e0, e1, n0, n1, hnp, hnh⟩ := cW_gW c
  obtain ⟨ls1, ls2⟩ := hu_lost hW (show i < cnt W 1 by omega)
  obtain ⟨w6, hn⟩ := w6_pl hW
  have cc : Ch σ rdL d (pI d (σ 85) 4 (nI (losN W i))) := Ch_pI h (by decide) (by decide) (by decide)
  have g4 : gI (pI d (σ 85) 4 (nI (losN W i))) (σ 85) 4 = nI (losN W i) := gI_pI _ _ _ _
  simp only [w_X4_fittingTo, x_85_0 h, x_85_1 h, x_1_2 h]
  refine ⟨eo_85 h, k_hut (j := 5) c hi (by decide) ?_⟩
  rw [show 50 + 7 * i + 5 = 55 + 7 * i by omega, ls1]
  generalize pI d (σ 85) 4 (nI (losN W i)) = da at k cc g4
  have wa := cW_rd c cc
  rw [g4, show (0 : Int32) = nI 0 from rfl, z_eq (by omega) (by decide), show nI 0 = (0 : Int32) from rfl]
  unfold fitN at k
  refine ⟨fun l1 => k_hut (j := 6) wa hi (by decide) (k_placeOf wa rb50 (C_rd C cc) ok hi ?_), fun l1 => by rw [if_pos l1] at k; exact k⟩
  rw [if_neg l1] at k
  rw [show 50 + 7 * i + 6 = 56 + 7 * i by omega]
  refine ⟨cnt W 6 + 1, loopG (S := Int32 × Int32 × Int32 × Int32 × Dy) (l := fun M z => l_X4_fittingTo_54 E (σ 85) (nI i) K M z.1 z.2.1 z.2.2.1 z.2.2.2.1 z.2.2.2.2) (b := fun kk z => b_X4_fittingTo_54 E (σ 85) (nI i) K (fun a b c e f => kk (a, b, c, e, f)) z.1 z.2.1 z.2.2.1 z.2.2.2.1 z.2.2.2.2) (fun _ _ => rfl)
    (μ := fun z => cnt W 6 - z.2.2.2.1.toNatClampNeg) (P := fun z => W (56 + 7 * i) = z.1 ∧ nI (rpS S nh i) = z.2.1 ∧ da = z.2.2.2.2 ∧ ∃ j, j ≤ cnt W 6 ∧ nI j = z.2.2.2.1 ∧ mskN (canB W S nh i) (cnt W 6) j = z.2.2.1) ?_ (cnt W 6) (W (56 + 7 * i), nI (rpS S nh i), 0, 0, da) ⟨rfl, rfl, rfl, 0, by omega, rfl, msk_0.symm⟩ (Nat.sub_le _ _)⟩
  rintro kk ⟨a1, a2, a3, a4, dz⟩ ⟨e_1, e_2, e_3, j, hj, e_4, e_5⟩ hk
  subst e_1 e_2 e_3 e_4 e_5
  simp only [b_X4_fittingTo_54, b_X4_fittingTo_114, x_85_0 h, x_1_8 h]
  refine k_npl wa ?_
  rw [z_le (by omega) (by omega), z_a1 j]
  refine ⟨fun hc => ?_, fun hc => ?_⟩
  · have e : j = cnt W 6 := by omega
    have em : mskN (canB W S nh i) (cnt W 6) j = nI (btN (canB W S nh i) (cnt W 6)) := by
      unfold mskN
      congr 1
      exact bt_congr (fun q hq => by rw [show decide (q < j) = true by simp; omega, Bool.true_and])
    show K (mskN (canB W S nh i) (cnt W 6) j) da
    rw [em]; exact k
  · have hjn : j < cnt W 6 := by omega
    have nx : ∀ x, x = mskN (canB W S nh i) (cnt W 6) (j + 1) → kk (W (56 + 7 * i), nI (rpS S nh i), x, nI (j + 1), da) := fun x ex =>
      hk (W (56 + 7 * i), nI (rpS S nh i), x, nI (j + 1), da) ⟨rfl, rfl, rfl, j + 1, by omega, rfl, ex.symm⟩ (by simp only [z_nn (show j + 1 < 2147483648 by omega), z_nn (show j < 2147483648 by omega)]; omega)
    refine k_plk (j := 1) wa hjn (by decide) (k_plk (j := 0) wa hjn (by decide) ?_)
    rw [show 420 + 3 * j + 1 = 421 + 3 * j by omega, show 420 + 3 * j + 0 = 420 + 3 * j by omega]
    have cb : canB W S nh i j = (decide (((W (420 + 3 * j)) >>> (W (56 + 7 * i) &&& 31)) &&& 1 = 1) && !decide (W (422 + 3 * j) < absI (W (421 + 3 * j) - nI (rpS S nh i)))) := rfl
    refine ⟨fun l2 => ⟨fun _ => nx _ (msk_f ?_), fun z => absurd trivial z⟩, fun l2 => ⟨fun z => absurd z (by decide), fun _ => k_plk (j := 2) wa hjn (by decide) ?_⟩⟩
    · rw [cb, l2]; rfl
    · rw [show 420 + 3 * j + 2 = 422 + 3 * j by omega]
      have l2 := (col_bit hW (show i < cnt W 1 by omega) hjn).resolve_left l2
      rw [l2] at cb
      refine ⟨fun l3 => nx _ (msk_f ?_), fun l3 => nx _ (msk_t (by omega) hjn ?_)⟩
      · rw [cb, show decide (W (422 + 3 * j) < absI (W (421 + 3 * j) - nI (rpS S nh i))) = true from by rw [decide_eq_true_eq]; exact l3]; rfl
      · rw [cb, show decide (W (422 + 3 * j) < absI (W (421 + 3 * j) - nI (rpS S nh i))) = false from by rw [decide_eq_false_iff_not]; exact l3]; rfl
theorem k_sumOver (h : Env σ E) {set fit lost : Nat} (hn : n ≤ 8) (hs : set < 2 ^ n) (hf : fit < 2 ^ n) (hl : lost ≤ 4) (gl : gI d (σ 85) 4 = nI lost) (hw : ∀ s, s ≤ set → gJ d (σ 86) s = Int64.ofNat (w s)) (k : KJ (Int64.ofNat (stW w fit lost set)) d) : w_X4_sumOver E (σ 85) (nI set) (nI fit) d KJ := by
  obtain ⟨q1, q2⟩ := p256 hn
  have la : set &&& fit ≤ set := Nat.and_le_left
  simp only [w_X4_sumOver, x_85_2 h, en_86 h, z_nn (show set < 2147483648 by omega)]
  rw [b_and (by omega) (by omega), hw set (Nat.le_refl _)]
  refine ⟨eo_85 h, vpi (by omega) (by decide), ?_⟩
  refine ⟨(set &&& fit) + 1, loopG (S := Int32 × Int64 × Int32 × Dy) (l := fun M z => l_X4_sumOver_15 E (σ 85) (nI set) (nI fit) KJ M z.1 z.2.1 z.2.2.1 z.2.2.2) (b := fun kk z => b_X4_sumOver_15 E (σ 85) (nI set) (nI fit) KJ (fun a b c e => kk (a, b, c, e)) z.1 z.2.1 z.2.2.1 z.2.2.2) (fun _ _ => rfl)
    (μ := fun z => z.2.2.1.toNatClampNeg) (P := fun z => nI (set &&& fit) = z.1 ∧ d = z.2.2.2 ∧ ∃ p A, nI p = z.2.2.1 ∧ p &&& (set &&& fit) = p ∧ z.2.1 = Int64.ofNat A ∧ A + sumN (stF w fit lost set) (p + 1) = w set + sumN (stF w fit lost set) (set + 1)) ?_ (set &&& fit) (nI (set &&& fit), Int64.ofNat (w set), nI (set &&& fit), d) ⟨rfl, rfl, set &&& fit, w set, rfl, Nat.and_self _, rfl, ?_⟩ ?_⟩
  · rintro kk ⟨a1, a2, a3, dz⟩ ⟨e_1, e_2, p, A, e_3, hp, e_4, hA⟩ hk
    have e_4 : a2 = Int64.ofNat A := e_4
    subst e_1 e_2 e_3 e_4
    have ple := sub_le hp
    simp only [b_X4_sumOver_15, b_X4_sumOver_46, x_85_2 h, en_86 h]
    rw [show (0 : Int32) = nI 0 from rfl, z_le (by omega) (by decide)]
    refine ⟨fun hc => ?_, fun hc => k_bc ?_⟩
    · have : p = 0 := by omega
      subst this
      have e1 : sumN (stF w fit lost set) (0 + 1) = w set := by show 0 + stF w fit lost set 0 = _; rw [stF_0, Nat.zero_add]
      have : A = stW w fit lost set := by unfold stW; omega
      rw [this]; exact k
    · have hps := sub_tr hp
      have lt2 := sb_lt2 (show 0 < p by omega) hps
      have pl := pop_le p 12
      have gap : sumN (stF w fit lost set) p = sumN (stF w fit lost set) (((p - 1) &&& (set &&& fit)) + 1) := by
        refine sum_skip p (by have : (p - 1) &&& (set &&& fit) ≤ p - 1 := Nat.and_le_left; omega) (fun j h1 h2 => ?_)
        unfold stF gdB
        rw [show decide (j &&& (set &&& fit) = j) = false from by
          rw [decide_eq_false_iff_not]; intro q
          have := sub_gap p (set &&& fit) j (by omega) hp q h2
          omega, Bool.false_and, if_neg (by decide)]
      have sp : sumN (stF w fit lost set) (p + 1) = sumN (stF w fit lost set) p + stF w fit lost set p := rfl
      have l2 : (p - 1) &&& (set &&& fit) ≤ p - 1 := Nat.and_le_left
      rw [gl, bc_all _ (by omega), z_lt (by omega) (by omega), b_xor (by omega) (by omega), sb_sub hps, show (1 : Int32) = nI 1 from rfl, z_sub (by omega), b_and (by omega) (by omega), z_nn (by omega), hw _ (by omega)]
      have nx : ∀ B, B = A + stF w fit lost set p → kk (nI (set &&& fit), Int64.ofNat B, nI ((p - 1) &&& (set &&& fit)), d) := fun B eB =>
        hk (nI (set &&& fit), Int64.ofNat B, nI ((p - 1) &&& (set &&& fit)), d) ⟨rfl, rfl, (p - 1) &&& (set &&& fit), B, rfl, sub_and, rfl, by omega⟩ (by simp only [z_nn (show p < 2147483648 by omega), z_nn (show (p - 1) &&& (set &&& fit) < 2147483648 by omega)]; omega)
      refine ⟨fun l1 => nx _ ?_, fun l1 => ⟨vpi (by omega) (by decide), ?_⟩⟩
      · unfold stF gdB; rw [show decide (popN p 12 ≤ lost) = false from by simp; omega, Bool.and_false, if_neg (by decide)]; rfl
      · rw [← Int64.ofNat_add]
        refine nx _ ?_
        unfold stF gdB; rw [show decide (popN p 12 ≤ lost) = true from by simp; omega, show decide (p &&& (set &&& fit) = p) = true from by simpa using hp]; rfl
  · congr 1
    refine (sum_skip (set + 1) (by omega) (fun j h1 h2 => ?_)).symm
    unfold stF gdB
    rw [show decide (j &&& (set &&& fit) = j) = false from by
      rw [decide_eq_false_iff_not]; intro q
      have := sub_le q
      omega, Bool.false_and, if_neg (by decide)]
  · simp only [z_nn (show set &&& fit < 2147483648 by omega)]; exact Nat.le_refl _
end
