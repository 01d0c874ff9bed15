section
variable {σ : Nat → Nat} {E : En} {d d' d2 d3 : Dy} {W : Nat → Int32} {B np nh L : Nat} {S : RS} {K : Int32 → Dy → Prop} {K0 : Dy → Prop} {kc : En → Dy → Prop} {v4 : Int32} {xs : Nat → Int32} {p1 p2 p3 : Int32}
theorem hu_bit {i : Nat} {y : Int32} (ok : rsOK np nh S) (hi : i < nh) (hb : ∀ p, p < np → W (16 + 3 * p) = 0 ∨ W (16 + 3 * p) = 1) : huF W S nh i y 8 = 0 ∨ huF W S nh i y 8 = 1 := by
  unfold huF
  cases hO : rsH S i with
  | none => exact Or.inl rfl
  | some o => exact hb o (ok.2.1 i hi o hO)
theorem fs1 : ∀ f, f < 8 → fsB 1 f = true → f = 0 ∨ f = 3 ∨ f = 4 ∨ f = 5 ∨ f = 6 := by decide
theorem k_rentOf (c : cW σ E d W np nh) (hB : RB B) (C : clsR σ B np nh d S) (ok : rsOK np nh S) {i : Nat} {y : Int32} (hi : i < nh) (hy : gI d (σ B) 2 = y) (k : ∀ d', Ch σ [B + 7, B + 8, B + 9] d d' → K (rentS W S nh i y) d') : w_X3_rentOf E (σ B) (nI i) d K := by
  have h := c.1.1
  have tw := (cW_gW c).2.2.1 1 (by decide)
  unfold rentS at k
  simp only [w_X3_rentOf, y_8 h hB, y_0 h hB]
  refine ⟨y_o h hB, k_inForce (s := 1) c (by decide) (fun q0 => ⟨fun _ => ?_, fun q q2 => nomatch q2⟩) (fun q q0 tx => ⟨fun q2 => (nomatch q2), fun b hb => ?_⟩)⟩
  · have := k d Ch_rf
    rw [if_pos q0] at this; exact this
  · cases hb
    have q0 : W 11 = 1 := q0
    obtain ⟨n, tw⟩ : ∃ n, TW W 1 n := by
      rcases tw with q | ⟨-, q⟩
      · have q : W 11 = 0 := q
        rw [q0] at q; exact absurd q (by decide)
      · exact q
    have hn10 := tw.2.1
    have en : cnt W 1447 = n := by have e : W 1447 = nI n := tw.1; unfold cnt; rw [e, z_nn (by omega)]
    rw [if_neg (by rw [q0]; decide), en] at k
    obtain ⟨-, -, -, -, -, -, ho, -⟩ := id tx
    refine ⟨ho, k_knowHut c hB C ok hi hy (fun d2 c2 g2 => ?_)⟩
    have bit := hu_bit (W := W) (y := y) ok hi (fun p hp => k_bit2 c hp)
    have fa : fAg 1 (gA d2 (σ (B + 8))) (huF W S nh i y) := ⟨fun f hf hb => g2 f (by have := fs1 f hf hb; omega), fun _ => g2 8 (by omega)⟩
    refine k_total (s := 1) h hB (Or.inl rfl) (TX_ch tx c2) tw.1 hn10 (by rw [g2 8 (by omega)]; exact bit) (fun d3 c3 => ?_)
    rw [sum_congr (Or.inl rfl) tw fa n (Nat.le_refl n)]
    exact k d3 (Ch_tr c2 (Ch_w c3 (by simp)))
theorem r_rentOf (h : Env σ E) (g : gW σ d W np nh) (hbit : ∀ p, p < np → W (16 + 3 * p) = 0 ∨ W (16 + 3 * p) = 1) (R : refR σ np nh d S) (ok : rsOK np nh S) {i : Nat} {y : Int32} (hi : i < nh) (k : ∀ d', Ch σ [92, 93] d d' → K (rentS W S nh i y) d') : w_X11_rentOf E (σ 87) (nI i) y d K := by
  obtain ⟨eW, hW, tw, e0, e1, n0, n1, hnp, hnh⟩ := id g
  have tw := tw 1 (by decide)
  unfold rentS at k
  have z11 : (11 : Int32).toNatClampNeg = 11 := rfl
  simp only [w_X11_rentOf, x_87_1 h, x_87_14 h, x_87_21 h, x_87_22 h, en_88 h, en_92 h, en_98 h, en_99 h, eW, z11, z_nn (show i < 2147483648 by omega)]
  refine ⟨eo_87 h, vpi (k := 11) (by decide) (by decide), fun q => r_ofHut (c := 0) h (by omega) (by decide) ?_, fun q => ?_⟩
  · obtain ⟨n, tw⟩ : ∃ n, TW W 1 n := tw.elim (fun q2 => absurd q2 q) (fun q2 => q2.2)
    have hn10 := tw.2.1
    have en : cnt W 1447 = n := by have e : W 1447 = nI n := tw.1; unfold cnt; rw [e, z_nn (by omega)]
    rw [if_neg q, en] at k
    have kch : ∀ {d0 : Dy} {f : Nat} {x : Int32}, Ch σ [92, 93] d0 (pA d0 (σ 92) f x) := fun {d0 f x} => Ch_pA h (by decide) (by simp)
    have kg : ∀ {d0 : Dy} {f j : Nat} {x : Int32}, gA (pA d0 (σ 92) f x) (σ 92) j = if j = f then x else gA d0 (σ 92) j := fun {d0 f j x} => by rw [gA_pA_x, if_pos rfl]
    rw [eW, show 50 + 7 * i + 0 = 50 + 7 * i by omega, show (4 : Int32).toNatClampNeg = 4 from rfl]
    refine ⟨vpi (k := 4) (by decide) (by decide), ?_⟩
    have c1 : Ch σ [92, 93] d (pA d (σ 92) 4 (W (50 + 7 * i))) := kch
    have g1 : ∀ j, gA (pA d (σ 92) 4 (W (50 + 7 * i))) (σ 92) j = if j = 4 then W (50 + 7 * i) else gA d (σ 92) j := fun j => kg
    generalize pA d (σ 92) 4 (W (50 + 7 * i)) = d1 at c1 g1
    refine r_rowPlace h hnh (refR_ch R c1 (by decide)) ok hi ⟨vpi (k := 5) (by decide) (by decide), vpi (k := 3) (by decide) (by decide), r_ofHut (c := 2) h (by omega) (by decide) ?_⟩
    rw [show (5 : Int32).toNatClampNeg = 5 from rfl, show (3 : Int32).toNatClampNeg = 3 from rfl, show (6 : Int32).toNatClampNeg = 6 from rfl]
    have c2 : Ch σ [92, 93] d (pA (pA d1 (σ 92) 5 (nI (rpS S nh i))) (σ 92) 3 y) := Ch_tr c1 (Ch_tr kch kch)
    have g2 : ∀ j, gA (pA (pA d1 (σ 92) 5 (nI (rpS S nh i))) (σ 92) 3 y) (σ 92) j = if j = 3 then y else if j = 5 then nI (rpS S nh i) else gA d1 (σ 92) j := fun j => by rw [kg, kg]
    generalize pA (pA d1 (σ 92) 5 (nI (rpS S nh i))) (σ 92) 3 y = d2 at c2 g2
    rw [(gW_ch g c2 (by decide)).1, show 50 + 7 * i + 2 = 52 + 7 * i by omega]
    have c3 : Ch σ [92, 93] d (pA d2 (σ 92) 6 (W (52 + 7 * i))) := Ch_tr c2 kch
    have g3 : ∀ j, gA (pA d2 (σ 92) 6 (W (52 + 7 * i))) (σ 92) j = if j = 6 then W (52 + 7 * i) else gA d2 (σ 92) j := fun j => kg
    generalize pA d2 (σ 92) 6 (W (52 + 7 * i)) = d3 at c3 g3
    have R3 := refR_ch R c3 (by decide)
    rw [(R3.2.2.1 i hi).1, (R3.2.2.1 i hi).2.1, ← Int32.not_lt, enc_lt (ok.2.1 i hi) (by omega), Classical.not_not]
    have last : ∀ x, x = huF W S nh i y 0 → b_X11_rentOf_81 E (σ 87) (nI i) y K (σ 92) 0 x d3 := fun x hx => by
      simp only [b_X11_rentOf_81, x_87_14 h, x_87_21 h, en_92 h, en_98 h, show (0 : Int32).toNatClampNeg = 0 from rfl, z_nn (show i < 2147483648 by omega)]
      have c4 : Ch σ [92, 93] d (pA d3 (σ 92) 0 x) := Ch_tr c3 kch
      have g4 : ∀ j, gA (pA d3 (σ 92) 0 x) (σ 92) j = if j = 0 then x else gA d3 (σ 92) j := fun j => kg
      generalize pA d3 (σ 92) 0 x = d4 at c4 g4
      have R4 := refR_ch R c4 (by decide)
      rw [(R4.2.2.1 i hi).1, ← Int32.not_lt, enc_lt (ok.2.1 i hi) (by omega), Classical.not_not]
      have fin : ∀ z, z = huF W S nh i y 8 → b_X11_rentOf_112 E (σ 87) (nI i) y K (σ 92) 8 z d4 := fun z hz => by
        simp only [b_X11_rentOf_112, en_92 h, show (8 : Int32).toNatClampNeg = 8 from rfl]
        refine ⟨eo_92 h, vpi (k := 8) (by decide) (by decide), ?_⟩
        have c5 : Ch σ [92, 93] d (pA d4 (σ 92) 8 z) := Ch_tr c4 kch
        have g5 : ∀ f, f = 0 ∨ f = 3 ∨ f = 4 ∨ f = 5 ∨ f = 6 ∨ f = 8 → gA (pA d4 (σ 92) 8 z) (σ 92) f = huF W S nh i y f := fun f hf => by
          rw [kg, g4, g3, g2, g1]
          rcases hf with rfl | rfl | rfl | rfl | rfl | rfl
          · simp [hx]
          · simp [huF]
          · simp [huF]
          · simp [huF]
          · simp [huF]
          · simp [hz]
        generalize pA d4 (σ 92) 8 z = d5 at c5 g5
        have fa : fAg 1 (gA d5 (σ 92)) (huF W S nh i y) := ⟨fun f hf hb => g5 f (by have := fs1 f hf hb; omega), fun _ => g5 8 (by omega)⟩
        refine r_summed (s := 1) h (Or.inl rfl) (gW_ch g c5 (by decide)).1 tw (by rw [g5 8 (by omega)]; exact hu_bit ok hi hbit) (fun d6 c6 => ?_)
        rw [sum_congr (Or.inl rfl) tw fa n (Nat.le_refl n)]
        exact k d6 (Ch_tr c5 (Ch_w c6 (by simp)))
      refine ⟨eo_92 h, vpi (k := 0) (by decide) (by decide), vpi (by omega) (by decide), fun q => ⟨vpi (by omega) (by decide), ?_⟩, fun q => fin 0 (by simp [huF, q])⟩
      cases hO : rsH S i with
      | none => exact absurd hO q
      | some o =>
        have ho := ok.2.1 i hi o hO
        refine r_ofPerson (c := 2) h (by omega) (by decide) (fin _ ?_)
        rw [(gW_ch g c4 (by decide)).1, show 14 + 3 * o + 2 = 16 + 3 * o by omega]
        simp [huF, hO]
    refine ⟨vpi (k := 6) (by decide) (by decide), vpi (by omega) (by decide), fun q => ⟨vpi (by omega) (by decide), last _ (by simp [huF, q])⟩, fun q => last 0 (by simp [huF, q])⟩
  · have := k d Ch_rf
    rw [if_pos q] at this; exact this
end
