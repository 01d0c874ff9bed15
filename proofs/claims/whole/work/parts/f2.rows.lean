theorem st_none' {w : Nat → Nat} {may lost : Nat} : stW w may lost 0 = w 0 := by
  show 0 + stF w may lost 0 0 = _
  rw [stF_0, Nat.zero_add]
section
variable {σ : Nat → Nat} {E : En} {d d' d2 d3 : Dy} {W : Nat → Int32} {np nh L n : Nat} {S : RS} {K : Int32 → Dy → Prop} {K0 : Dy → Prop} {KJ : Int64 → Dy → Prop} {X : String → Dy → Prop} {kc : En → Dy → Prop} {v4 : Int32} {xs : Nat → Int32} {p1 p2 : Int32} {w : Nat → Nat}
theorem k_rclear (c : cW σ E d W np nh) (k : ∀ d', Ch σ rdL d d' → gI d' (σ 85) 3 = nI (2 ^ cnt W 6 - 1) → (∀ s, s < 256 → gJ d' (σ 86) s = Int64.ofNat (if s = 0 then 1 else 0)) → K0 d') : w_X4_clear E (σ 85) d K0 := by
  have h := c.1.1
  obtain ⟨w6, hn⟩ := w6_pl (cW_gW c).2.1
  obtain ⟨q1, q2⟩ := p256 hn
  simp only [w_X4_clear, x_85_0 h, x_85_2 h, x_1_8 h, en_86 h]
  refine ⟨eo_85 h, k_npl c ?_⟩
  rw [b_shl (by omega), show (1 : Int32) = nI 1 from rfl, z_sub (by omega)]
  have c0 : Ch σ rdL d (pI d (σ 85) 3 (nI (2 ^ cnt W 6 - 1))) := Ch_pI h (by decide) (by decide) (by decide)
  have g0 : gI (pI d (σ 85) 3 (nI (2 ^ cnt W 6 - 1))) (σ 85) 3 = nI (2 ^ cnt W 6 - 1) := gI_pI _ _ _ _
  generalize pI d (σ 85) 3 (nI (2 ^ cnt W 6 - 1)) = da at c0 g0
  refine k_fillJ h (by decide) (eo_86 h) (en_86 h) (by decide) (fun db ub gb => ⟨vpi (k := 0) (by decide) (by decide), ?_⟩)
  refine k _ (Ch_tr c0 (Ch_tr (Ch_w ub (by decide)) (Ch_pJ h (by decide) (by decide)))) ?_ (fun s hs => ?_)
  · show gI db (σ 85) 3 = _
    rw [Ch_I ub (by decide) (by decide)]; exact g0
  · rw [show (0 : Int32).toNatClampNeg = 0 from rfl, gJp]
    by_cases e : s = 0
    · rw [if_pos e, if_pos e]; rfl
    · rw [if_neg e, if_neg e, gb s hs]; rfl
theorem k_ways (c : cW σ E d W np nh) (C : clsR σ 50 np nh d S) (ok : rsOK np nh S) (k : ∀ d', Ch σ rdL d d' → KJ (Int64.ofNat (wyN (fitN W S nh) (losN W) nh (2 ^ cnt W 6 - 1))) d') : w_X4_ways E (σ 85) d KJ := by
  have h := c.1.1
  obtain ⟨eW, hW, tw, e0, e1, n0, n1, hnp, hnh⟩ := cW_gW c
  obtain ⟨w6, hn⟩ := w6_pl hW
  obtain ⟨q1, q2⟩ := p256 hn
  refine ⟨eo_85 h, k_rclear c (fun da ua ga wa => ?_)⟩
  refine ⟨nh + 1, loopG (S := Int32 × Dy) (l := fun M z => l_X4_ways_6 E (σ 85) KJ M z.1 z.2) (b := fun kk z => b_X4_ways_6 E (σ 85) KJ (fun a b => kk (a, b)) z.1 z.2) (fun _ _ => rfl)
    (μ := fun z => nh - z.1.toNatClampNeg) (P := fun z => ∃ i, i ≤ nh ∧ nI i = z.1 ∧ Ch σ rdL d z.2 ∧ gI z.2 (σ 85) 3 = nI (2 ^ cnt W 6 - 1) ∧ ∀ s, s < 2 ^ cnt W 6 → gJ z.2 (σ 86) s = Int64.ofNat (wyN (fitN W S nh) (losN W) i s)) ?_ nh (0, da) ⟨0, by omega, rfl, ua, ga, fun s hs => wa s (by omega)⟩ (Nat.sub_le _ _)⟩
  rintro kk ⟨v, dz⟩ ⟨i, hi, e_1, cz, gz, wz⟩ hk
  subst e_1
  have cz : Ch σ rdL d dz := cz
  have gz : gI dz (σ 85) 3 = nI (2 ^ cnt W 6 - 1) := gz
  have wz : ∀ s, s < 2 ^ cnt W 6 → gJ dz (σ 86) s = Int64.ofNat (wyN (fitN W S nh) (losN W) i s) := wz
  have Wz := cW_rd c cz
  simp only [b_X4_ways_6, x_85_0 h, x_85_2 h, x_1_2 h, en_86 h]
  refine k_nhuts Wz ?_
  rw [z_le (by omega) (by omega)]
  refine ⟨fun hc => ?_, fun hc => ?_⟩
  · have : i = nh := by omega
    subst this
    rw [gz, z_nn (by omega), wz _ (by omega)]
    exact ⟨vpi (by omega) (by decide), k dz cz⟩
  · obtain ⟨ls1, ls2⟩ := hu_lost hW (show i < cnt W 1 by omega)
    refine k_fitting Wz (C_rd C cz) ok (show i < nh by omega) ?_
    have u1 : Ch σ rdL dz (pI dz (σ 85) 4 (nI (losN W i))) := Ch_pI h (by decide) (by decide) (by decide)
    have g1 : gI (pI dz (σ 85) 4 (nI (losN W i))) (σ 85) 4 = nI (losN W i) := gI_pI _ _ _ _
    have g3 : gI (pI dz (σ 85) 4 (nI (losN W i))) (σ 85) 3 = nI (2 ^ cnt W 6 - 1) := by rw [gI_pI_k _ _ _ (by decide)]; exact gz
    have w3 : ∀ s, s < 2 ^ cnt W 6 → gJ (pI dz (σ 85) 4 (nI (losN W i))) (σ 86) s = Int64.ofNat (wyN (fitN W S nh) (losN W) i s) := wz
    generalize pI dz (σ 85) 4 (nI (losN W i)) = db at u1 g1 g3 w3
    have nx : ∀ de, Ch σ [86] db de → (∀ s, s < 2 ^ cnt W 6 → gJ de (σ 86) s = Int64.ofNat (wyN (fitN W S nh) (losN W) (i + 1) s)) → kk (nI i + 1, de) := fun de ue we => by
      rw [z_a1]
      exact hk (nI (i + 1), de) ⟨i + 1, by omega, rfl, Ch_tr cz (Ch_tr u1 (Ch_w ue (by decide))), (congrFun (Ch_I ue (by decide) (by decide)) 3).trans g3, we⟩ (by simp only [z_nn (show i + 1 < 2147483648 by omega), z_nn (show i < 2147483648 by omega)]; omega)
    have fl := fit_lt (W := W) (S := S) (nh := nh) (i := i)
    rw [g3]
    have st1 : ∀ s, wyN (fitN W S nh) (losN W) (i + 1) s = stW (wyN (fitN W S nh) (losN W) i) (fitN W S nh i) (losN W i) s := fun s => rfl
    refine ⟨2 ^ cnt W 6 + 1, loopG (S := Int32 × Int32 × Int32 × Dy) (l := fun M z => l_X4_ways_31 E (σ 85) KJ (fun a b => kk (a, b)) M z.1 z.2.1 z.2.2.1 z.2.2.2) (b := fun k2 z => b_X4_ways_31 E (σ 85) KJ (fun a b => kk (a, b)) (fun a b c e => k2 (a, b, c, e)) z.1 z.2.1 z.2.2.1 z.2.2.2) (fun _ _ => rfl)
      (μ := fun z => z.2.2.1.toNatClampNeg) (P := fun z => nI i = z.1 ∧ nI (fitN W S nh i) = z.2.1 ∧ ∃ j, j < 2 ^ cnt W 6 ∧ nI j = z.2.2.1 ∧ Ch σ [86] db z.2.2.2 ∧ ∀ s, s < 2 ^ cnt W 6 → gJ z.2.2.2 (σ 86) s = Int64.ofNat (if s ≤ j then wyN (fitN W S nh) (losN W) i s else wyN (fitN W S nh) (losN W) (i + 1) s)) ?_ (2 ^ cnt W 6) (nI i, nI (fitN W S nh i), nI (2 ^ cnt W 6 - 1), db) ⟨rfl, rfl, 2 ^ cnt W 6 - 1, by omega, rfl, Ch_rf, fun s hs => by rw [if_pos (by omega)]; exact w3 s hs⟩ (by simp only [z_nn (show 2 ^ cnt W 6 - 1 < 2147483648 by omega)]; omega)⟩
    rintro k2 ⟨a1, a2, a3, dy⟩ ⟨e_1, e_2, j, hj, e_3, cy, wy⟩ hk2
    subst e_1 e_2 e_3
    have cy : Ch σ [86] db dy := cy
    have wy : ∀ s, s < 2 ^ cnt W 6 → gJ dy (σ 86) s = Int64.ofNat (if s ≤ j then wyN (fitN W S nh) (losN W) i s else wyN (fitN W S nh) (losN W) (i + 1) s) := wy
    simp only [b_X4_ways_31, x_85_2 h, en_86 h, z_nn (show j < 2147483648 by omega)]
    rw [show (0 : Int32) = nI 0 from rfl, z_le (by omega) (by decide), z_eq (by omega) (by decide)]
    refine ⟨fun l1 => nx dy cy (fun s hs => ?_), fun l1 => ⟨fun l2 => nx dy cy (fun s hs => ?_), fun l2 => ?_⟩⟩
    · rw [wy s hs]
      by_cases e : s ≤ j
      · rw [if_pos e, show s = 0 by omega, st1, st_none']
      · rw [if_neg e]
    · rw [wy s hs]
      by_cases e : s ≤ j
      · rw [if_pos e, st1, st_none (by omega) (Or.inr l2)]
      · rw [if_neg e]
    · refine k_sumOver h hn hj fl ls2 ((congrFun (Ch_I cy (by decide) (by decide)) 4).trans g1) (w := wyN (fitN W S nh) (losN W) i) (fun s hs => by rw [wy s (by omega), if_pos hs]) ⟨vpi (by omega) (by decide), ?_⟩
      obtain ⟨j, rfl⟩ : ∃ q, j = q + 1 := ⟨j - 1, by omega⟩
      rw [z_am1]
      refine hk2 (nI i, nI (fitN W S nh i), nI j, _) ⟨rfl, rfl, j, by omega, rfl, Ch_tr cy (Ch_pJ h (by decide) (by decide)), fun s hs => ?_⟩ (by simp only [z_nn (show j + 1 < 2147483648 by omega), z_nn (show j < 2147483648 by omega)]; omega)
      rw [gJp]
      by_cases e : s = j + 1
      · rw [if_pos e, if_neg (by omega), e, st1]
      · rw [if_neg e, wy s hs]
        by_cases e2 : s ≤ j
        · rw [if_pos (by omega), if_pos e2]
        · rw [if_neg (by omega), if_neg e2]
end
