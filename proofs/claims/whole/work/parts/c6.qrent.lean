/-! rents -/
def huF (W : Nat → Int32) (S : RS) (nh i : Nat) (y : Int32) : Nat → Int32 := fun f => if f = 0 then (if rsH S i = none then 0 else y - rsF S i) else if f = 3 then y else if f = 4 then W (50 + 7 * i) else if f = 5 then nI (rpS S nh i) else if f = 6 then W (52 + 7 * i) else if f = 8 then (match rsH S i with
  | none => 0
  | some o => W (16 + 3 * o)) else 0
def rentS (W : Nat → Int32) (S : RS) (nh i : Nat) (y : Int32) : Int32 := if W 11 = 0 then 0 else if 0 < sumS W 1 (huF W S nh i y) (cnt W 1447) then sumS W 1 (huF W S nh i y) (cnt W 1447) else 0
theorem sum_congr {W : Nat → Int32} {s n : Nat} {F G : Nat → Int32} (hs : s = 1 ∨ s = 2) (t : TW W s n) (a : fAg s F G) : ∀ i, i ≤ n → sumS W s F i = sumS W s G i
  | 0, _ => rfl
  | i + 1, hi => by
    have ih := sum_congr hs t a i (by omega)
    have e1 : sum1 W s F i = sum1 W s G i := by
      obtain ⟨-, hl⟩ := t.2.2 i (by omega)
      rw [if_neg (by omega), if_neg (by omega)] at hl
      obtain ⟨-, -, l3⟩ := hl
      unfold sum1
      rcases l3 with l3 | ⟨m, hm, l3, l4⟩
      · rw [l3]; rfl
      · rw [l3, z_nn (by omega), a.1 m hm l4]
    show (if hdS W s i F = true then sumS W s F i + sum1 W s F i else sumS W s F i) = (if hdS W s i G = true then sumS W s G i + sum1 W s G i else sumS W s G i)
    rw [ih, e1, hd_congr t (by omega) a]
section
variable {σ : Nat → Nat} {E : En} {d d' d2 d3 : Dy} {W : Nat → Int32} {B np nh L : Nat} {S : RS} {K : Int32 → Dy → Prop} {K0 : Dy → Prop}
theorem k_knowHut (c : cW σ E d W np nh) (hB : RB B) (C : clsR σ B np nh d S) (ok : rsOK np nh S) {i : Nat} {y : Int32} (hi : i < nh) (hy : gI d (σ B) 2 = y) (k : ∀ d', Ch σ [B + 7, B + 8, B + 9] d d' → (∀ f, f = 0 ∨ f = 3 ∨ f = 4 ∨ f = 5 ∨ f = 6 ∨ f = 8 → gA d' (σ (B + 8)) f = huF W S nh i y f) → K0 d') : w_X3_knowHut E (σ B) (nI i) d K0 := by
  have h := c.1.1
  have h12 := c.2.2.2.2.1
  have nB : (B : Nat) ∉ [B + 7, B + 8, B + 9] := by simp
  simp only [w_X3_knowHut, w_X3_holderOf, w_X3_sinceOf, y_6 h hB, y_8 h hB, y_0 h hB, x_1_2 h]
  refine ⟨y_o h hB, y_o h hB, k_gH (j := 0) c hB C hi (by decide) ?_⟩
  rw [(C.2.2.2 i hi).1, hy]
  refine k_know (f := 3) h hB (by decide) ?_
  have c1 : Ch σ [B + 7, B + 8, B + 9] d (pA d (σ (B + 8)) 3 y) := know_ch h hB
  have g1 : ∀ j, gA (pA d (σ (B + 8)) 3 y) (σ (B + 8)) j = if j = 3 then y else gA d (σ (B + 8)) j := fun j => know_g
  generalize pA d (σ (B + 8)) 3 y = d1 at c1 g1
  refine k_hut (j := 0) (cW_ch c hB (Ch_w c1 cL_789)) hi (by decide) (k_know (f := 4) h hB (by decide) ?_)
  rw [show 50 + 7 * i + 0 = 50 + 7 * i by omega]
  have c2 : Ch σ [B + 7, B + 8, B + 9] d (pA d1 (σ (B + 8)) 4 (W (50 + 7 * i))) := Ch_tr c1 (know_ch h hB)
  have g2 : ∀ j, gA (pA d1 (σ (B + 8)) 4 (W (50 + 7 * i))) (σ (B + 8)) j = if j = 4 then W (50 + 7 * i) else gA d1 (σ (B + 8)) j := fun j => know_g
  generalize pA d1 (σ (B + 8)) 4 (W (50 + 7 * i)) = d2 at c2 g2
  refine k_placeOf (cW_ch c hB (Ch_w c2 cL_789)) hB (clsR_ch C hB c2 (fun j hj => mem789 hj)) ok hi (k_know (f := 5) h hB (by decide) ?_)
  have c3 : Ch σ [B + 7, B + 8, B + 9] d (pA d2 (σ (B + 8)) 5 (nI (rpS S nh i))) := Ch_tr c2 (know_ch h hB)
  have g3 : ∀ j, gA (pA d2 (σ (B + 8)) 5 (nI (rpS S nh i))) (σ (B + 8)) j = if j = 5 then nI (rpS S nh i) else gA d2 (σ (B + 8)) j := fun j => know_g
  generalize pA d2 (σ (B + 8)) 5 (nI (rpS S nh i)) = d3 at c3 g3
  refine k_hut (j := 2) (cW_ch c hB (Ch_w c3 cL_789)) hi (by decide) (k_know (f := 6) h hB (by decide) ?_)
  rw [show 50 + 7 * i + 2 = 52 + 7 * i by omega]
  have c4 : Ch σ [B + 7, B + 8, B + 9] d (pA d3 (σ (B + 8)) 6 (W (52 + 7 * i))) := Ch_tr c3 (know_ch h hB)
  have g4 : ∀ j, gA (pA d3 (σ (B + 8)) 6 (W (52 + 7 * i))) (σ (B + 8)) j = if j = 6 then W (52 + 7 * i) else gA d3 (σ (B + 8)) j := fun j => know_g
  generalize pA d3 (σ (B + 8)) 6 (W (52 + 7 * i)) = d4 at c4 g4
  have w4 := cW_ch c hB (Ch_w c4 cL_789)
  have C4 := clsR_ch C hB c4 (fun j hj => mem789 hj)
  have y4 : gI d4 (σ B) 2 = y := by rw [Ch_I c4 (yB0 hB) nB]; exact hy
  rw [enc_m1 (ok.2.1 i hi) (by omega)]
  have last : ∀ x, x = huF W S nh i y 0 → b_X3_knowHut_96 E (σ B) (nI i) K0 (encO (rsH S i)) (σ (B + 7)) 0 x d4 := fun x hx => by
    simp only [b_X3_knowHut_96, y_8 h hB, y_0 h hB, x_1_1 h]
    refine ⟨y_8o h hB, k_know (f := 0) h hB (by decide) ?_⟩
    have c5 : Ch σ [B + 7, B + 8, B + 9] d (pA d4 (σ (B + 8)) 0 x) := Ch_tr c4 (know_ch h hB)
    have g5 : ∀ j, gA (pA d4 (σ (B + 8)) 0 x) (σ (B + 8)) j = if j = 0 then x else gA d4 (σ (B + 8)) j := fun j => know_g
    generalize pA d4 (σ (B + 8)) 0 x = d5 at c5 g5
    rw [enc_m1 (ok.2.1 i hi) (by omega)]
    have fin : ∀ z, z = huF W S nh i y 8 → K0 (pA d5 (σ (B + 8)) 8 z) := fun z hz => by
      refine k _ (Ch_tr c5 (know_ch h hB)) (fun f hf => ?_)
      rw [know_g, g5, g4, g3, g2, g1]
      rcases hf with rfl | rfl | rfl | rfl | rfl | rfl
      · simp [hx]
      · simp [huF]
      · simp [huF]
      · simp [huF]
      · simp [huF]
      · simp [hz]
    refine ⟨fun q => ?_, fun q => k_know (f := 8) h hB (by decide) (fin 0 ?_)⟩
    · cases hO : rsH S i with
      | none => exact absurd hO q
      | some o =>
        have ho := ok.2.1 i hi o hO
        refine k_pers (j := 2) (cW_ch c hB (Ch_w c5 cL_789)) ho (by decide) (k_know (f := 8) h hB (by decide) (fin _ ?_))
        rw [show 14 + 3 * o + 2 = 16 + 3 * o by omega]
        simp [huF, hO]
    · simp [huF, q]
  refine ⟨fun q => ⟨y_o h hB, k_gH (j := 1) w4 hB C4 hi (by decide) ?_⟩, fun q => last 0 ?_⟩
  · rw [y4, (C4.2.2.2 i hi).2.1 q]
    exact last _ (by simp [huF, q])
  · simp [huF, q]
end
