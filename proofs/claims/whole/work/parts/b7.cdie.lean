section
variable {σ : Nat → Nat} {E : En} {d d' d2 d3 : Dy} {W : Nat → Int32} {B np nh : Nat} {S : RS} {K : Int32 → Dy → Prop} {K0 : Dy → Prop}
theorem cL_m {j : Nat} (hj : j < 10) : B + j ∈ cL B := by
  have : j = 0 ∨ j = 1 ∨ j = 2 ∨ j = 3 ∨ j = 4 ∨ j = 5 ∨ j = 6 ∨ j = 7 ∨ j = 8 ∨ j = 9 := by omega
  rcases this with rfl | rfl | rfl | rfl | rfl | rfl | rfl | rfl | rfl | rfl <;> simp [cL]
theorem yn0 (h : Env σ E) (hB : RB B) {j : Nat} (hj : j < 10) (n : j ≠ 0) : σ (B + j) ≠ σ B := by
  have hB : B = 50 ∨ B = 60 := hB
  exact Env_ne h (by omega) (by omega) (by omega)
theorem yB0 (hB : RB B) : B < 116 := by have hB : B = 50 ∨ B = 60 := hB; omega
theorem Chy_0 (h : Env σ E) (hB : RB B) {q : Nat} {x : Int32} : Ch σ (cL B) d (pI d (σ B) q x) := by
  refine Ch_pI h (by have hB : B = 50 ∨ B = 60 := hB; omega) ?_ (cL_m (j := 0) (by decide))
  have no : ∀ x ∈ prot, x.1 ≠ 50 ∧ x.1 ≠ 60 := by decide
  intro hq
  rcases hB with rfl | rfl
  · exact (no _ hq).1 rfl
  · exact (no _ hq).2 rfl
theorem Chy_t (h : Env σ E) (hB : RB B) {j : Nat} (hj : j < 10) {x : Int32} : Ch σ (cL B) d (pI d (σ (B + j)) 3 x) := by
  refine Ch_pI h (yB hB hj) ?_ (cL_m hj)
  have no : ∀ x ∈ prot, x.2 ≠ 3 ∨ x.1 = 87 := by decide
  intro hq
  rcases no _ hq with q | q
  · exact q rfl
  · have hB : B = 50 ∨ B = 60 := hB
    have q : B + j = 87 := q
    omega
theorem cf_P (h : Env σ E) (hB : RB B) (C : clsR σ B np nh d S) {p : Nat} {o : Option Nat} {x : Int32} (hx : x = encO o) : clsR σ B np nh (pA d (σ (B + 2)) (p * 3 + 0) x) (stP S (upO (rsP S) p o)) := by
  obtain ⟨c1, c2, c3, c4⟩ := C
  refine ⟨c1, c2, fun q hq => ?_, fun i hi => ?_⟩
  · rw [gA_pA]
    show (if q * 3 + 0 = p * 3 + 0 then x else gA d (σ (B + 2)) (q * 3 + 0)) = encO (if q = p then o else rsP S q) ∧ (if q * 3 + 1 = p * 3 + 0 then x else gA d (σ (B + 2)) (q * 3 + 1)) = _ ∧ (if q * 3 + 2 = p * 3 + 0 then x else gA d (σ (B + 2)) (q * 3 + 2)) = _
    rw [if_neg (show ¬ q * 3 + 1 = p * 3 + 0 by omega), if_neg (show ¬ q * 3 + 2 = p * 3 + 0 by omega)]
    refine ⟨?_, (c3 q hq).2⟩
    by_cases e : q = p
    · rw [if_pos (by omega), if_pos e, hx]
    · rw [if_neg (by omega), if_neg e]; exact (c3 q hq).1
  · rw [gA_pA_ne _ _ _ (yne h hB (by decide) (by decide) (by decide)), gA_pA_ne _ _ _ (yne h hB (by decide) (by decide) (by decide))]; exact c4 i hi
theorem cf_C (h : Env σ E) (hB : RB B) (C : clsR σ B np nh d S) {p c : Nat} (h12 : np ≤ 12) (hp : p < np) (hc : c < np) : clsR σ B np nh (pA (pA d (σ (B + 2)) (p * 3 + 1) (nI (btN (rsC S p) np) ||| ((1 : Int32) <<< (nI c &&& 31)))) (σ (B + 2)) (c * 3 + 2) (nI (btN (fun q => rsC S q c) np) ||| ((1 : Int32) <<< (nI p &&& 31)))) (stC S (fun a b => if a = p ∧ b = c then true else rsC S a b)) := by
  obtain ⟨c1, c2, c3, c4⟩ := C
  have p2 : ∀ {x : Nat}, x < np → 2 ^ x < 2147483648 := fun {x} hx => Nat.lt_of_le_of_lt (Nat.pow_le_pow_right (by decide) (show x ≤ 11 by omega)) (by decide)
  rw [b_shl (by omega), b_shl (by omega), b_or (bt_31 h12) (p2 hc), b_or (bt_31 h12) (p2 hp), or_bt1 hc, or_bt1 hp]
  refine ⟨c1, c2, fun q hq => ?_, fun i hi => ?_⟩
  · rw [gA_pA, gA_pA]
    show (if q * 3 + 0 = c * 3 + 2 then _ else if q * 3 + 0 = p * 3 + 1 then _ else gA d (σ (B + 2)) (q * 3 + 0)) = _ ∧ (if q * 3 + 1 = c * 3 + 2 then _ else if q * 3 + 1 = p * 3 + 1 then _ else gA d (σ (B + 2)) (q * 3 + 1)) = nI (btN (fun b => if q = p ∧ b = c then true else rsC S q b) np) ∧ (if q * 3 + 2 = c * 3 + 2 then _ else if q * 3 + 2 = p * 3 + 1 then _ else gA d (σ (B + 2)) (q * 3 + 2)) = nI (btN (fun a => if a = p ∧ q = c then true else rsC S a q) np)
    rw [if_neg (show ¬ q * 3 + 0 = c * 3 + 2 by omega), if_neg (show ¬ q * 3 + 0 = p * 3 + 1 by omega), if_neg (show ¬ q * 3 + 1 = c * 3 + 2 by omega), if_neg (show ¬ q * 3 + 2 = p * 3 + 1 by omega)]
    refine ⟨(c3 q hq).1, ?_, ?_⟩
    · by_cases e : q = p
      · rw [if_pos (by omega)]
        congr 1
        refine bt_congr (fun i hi => ?_)
        subst e
        by_cases e2 : i = c
        · simp [e2]
        · simp [e2, show ¬ c = i from fun q => e2 q.symm]
      · rw [if_neg (by omega), (c3 q hq).2.1]
        congr 1
        refine bt_congr (fun i hi => ?_)
        simp [e]
    · by_cases e : q = c
      · rw [if_pos (by omega)]
        congr 1
        refine bt_congr (fun i hi => ?_)
        subst e
        by_cases e2 : i = p
        · simp [e2]
        · simp [e2, show ¬ p = i from fun q => e2 q.symm]
      · rw [if_neg (by omega), (c3 q hq).2.2]
        congr 1
        refine bt_congr (fun i hi => ?_)
        simp [e]
  · rw [gA_pA_ne _ _ _ (yne h hB (by decide) (by decide) (by decide)), gA_pA_ne _ _ _ (yne h hB (by decide) (by decide) (by decide)), gA_pA_ne _ _ _ (yne h hB (by decide) (by decide) (by decide)), gA_pA_ne _ _ _ (yne h hB (by decide) (by decide) (by decide))]; exact c4 i hi
theorem cf_H (h : Env σ E) (hB : RB B) (C : clsR σ B np nh d S) {i : Nat} {f : Nat → Option Nat} {g : Nat → Int32} {x y : Int32} (hx : x = encO (f i)) (hf : ∀ q, q < nh → q ≠ i → f q = rsH S q) (hg : f i ≠ none → g i = y) (hg2 : ∀ q, q < nh → q ≠ i → f q ≠ none → g q = rsF S q) : clsR σ B np nh (pA (pA d (σ (B + 4)) (i * 2 + 0) x) (σ (B + 4)) (i * 2 + 1) y) (stH S f g) := by
  obtain ⟨c1, c2, c3, c4⟩ := C
  refine ⟨c1, c2, fun q hq => ?_, fun q hq => ?_⟩
  · rw [gA_pA_ne _ _ _ (yne h hB (by decide) (by decide) (by decide)), gA_pA_ne _ _ _ (yne h hB (by decide) (by decide) (by decide))]; exact c3 q hq
  · rw [gA_pA, gA_pA, gA_pA_ne _ _ _ (yne h hB (by decide) (by decide) (by decide)), gA_pA_ne _ _ _ (yne h hB (by decide) (by decide) (by decide))]
    show (if q * 2 + 0 = i * 2 + 1 then y else if q * 2 + 0 = i * 2 + 0 then x else gA d (σ (B + 4)) (q * 2 + 0)) = encO (f q) ∧ (f q ≠ none → (if q * 2 + 1 = i * 2 + 1 then y else if q * 2 + 1 = i * 2 + 0 then x else gA d (σ (B + 4)) (q * 2 + 1)) = g q) ∧ _
    rw [if_neg (show ¬ q * 2 + 0 = i * 2 + 1 by omega), if_neg (show ¬ q * 2 + 1 = i * 2 + 0 by omega)]
    refine ⟨?_, fun hn => ?_, (c4 q hq).2.2⟩
    · by_cases e : q = i
      · rw [if_pos (by omega), hx, e]
      · rw [if_neg (by omega), hf q hq e]; exact (c4 q hq).1
    · by_cases e : q = i
      · subst e; rw [if_pos rfl, hg hn]
      · rw [if_neg (by omega), hg2 q hq e hn]; exact (c4 q hq).2.1 (by rw [← hf q hq e]; exact hn)
theorem k_hold (c : cW σ E d W np nh) (hB : RB B) (C : clsR σ B np nh d S) {i : Nat} (hi : i < nh) {x y : Int32} (k : K0 (pA (pA d (σ (B + 4)) (i * 2 + 0) x) (σ (B + 4)) (i * 2 + 1) y)) : w_X3_hold E (σ B) (nI i) x y d K0 := by
  have h := c.1.1
  simp only [w_X3_hold, y_6 h hB]
  refine ⟨y_o h hB, T_set (c := 0) (ye_3 h hB) (ys_3 c.1.2.1 hB C.2.1.2.1 c.2.2.2.2.2) hi (by decide) (T_set (c := 1) (ye_3 h hB) (ys_3 (St_ch c.1.2.1 (P := cL B) (Chy_A h hB (by decide) (cL_m (by decide)))) hB ?_ c.2.2.2.2.2) hi (by decide) k)⟩
  rw [gI_pA]; exact C.2.1.2.1
theorem hold_ch (h : Env σ E) (hB : RB B) {i j : Nat} {x y : Int32} : Ch σ (cL B) d (pA (pA d (σ (B + 4)) i x) (σ (B + 4)) j y) := Ch_tr (Chy_A h hB (by decide) (cL_m (by decide))) (Chy_A h hB (by decide) (cL_m (by decide)))
theorem k_leave (c : cW σ E d W np nh) (hB : RB B) (C : clsR σ B np nh d S) (ok : rsOK np nh S) {p q : Nat} (hp : p < np) (hq : q < np) (k : ∀ d', Ch σ (cL B) d d' → (∀ j, gI d' (σ B) j = gI d (σ B) j) → clsR σ B np nh d' (stP S (upO (rsP S) p (if rsP S p = some q then none else rsP S p))) → K0 d') : w_X3_leave E (σ B) (nI p) (nI q) d K0 := by
  have h := c.1.1
  have h12 := c.2.2.2.2.1
  simp only [w_X3_leave, y_5 h hB]
  refine ⟨y_o h hB, k_gP (j := 0) c hB C hp (by decide) ?_⟩
  rw [(C.2.2.1 p hp).1, enc_eq (ok.1 p hp) (by omega) hq]
  refine ⟨fun v => ?_, fun v => T_set (c := 0) (ye_1 h hB) (ys_1 c.1.2.1 hB C.2.1.1 h12) hp (by decide) (k _ (Chy_A h hB (by decide) (cL_m (by decide))) (fun j => by rw [gI_pA]) ?_)⟩
  · have := k d Ch_rf (fun _ => rfl)
    rw [if_neg v] at this
    have e : upO (rsP S) p (rsP S p) = rsP S := by funext j; unfold upO; by_cases q : j = p <;> simp [q]
    rw [e] at this; exact this C
  · rw [if_pos v]; exact cf_P h hB C rfl
/-- after the huts before j of one who died -/
def dT (W : Nat → Int32) (S : RS) (np p : Nat) (y : Int32) (j : Nat) : RS := stH (stL S (upB (rsL S) p false)) (fun q => if q < j ∧ rsH S q = some p then heS W (stL S (upB (rsL S) p false)) np p q y else rsH S q) (fun q => if q < j ∧ rsH S q = some p ∧ heS W (stL S (upB (rsL S) p false)) np p q y ≠ none then y else rsF S q)
theorem dT_ok (ok : rsOK np nh S) {p : Nat} (hp : p < np) {y : Int32} (j : Nat) : rsOK np nh (dT W S np p y j) := ⟨ok.1, fun q hq b hb => by
  have hb : (if q < j ∧ rsH S q = some p then heS W (stL S (upB (rsL S) p false)) np p q y else rsH S q) = some b := hb
  split at hb
  · exact heS_lt (ok_stL ok) hp hb
  · exact ok.2.1 q hq b hb, ok.2.2⟩
theorem dT_hes {p : Nat} {y : Int32} (j i : Nat) (hji : j ≤ i) : heS W (dT W S np p y j) np p i y = heS W (stL S (upB (rsL S) p false)) np p i y := by
  have hF : fRt W (dT W S np p y j) np p i y = fRt W (stL S (upB (rsL S) p false)) np p i y := by
    have : rsF (dT W S np p y j) i = rsF (stL S (upB (rsL S) p false)) i := by
      show (if i < j ∧ rsH S i = some p ∧ heS W (stL S (upB (rsL S) p false)) np p i y ≠ none then y else rsF S i) = rsF S i
      rw [if_neg (by omega)]
    funext f
    unfold fRt
    rw [this]; rfl
  have hN : ∀ F m a, heN W (dT W S np p y j) np p F m a = heN W (stL S (upB (rsL S) p false)) np p F m a := by
    intro F m
    induction m with
    | zero => intro a; rfl
    | succ m ih =>
      intro a
      show (if _ ∧ relS W (dT W S np p y j) np p _ ≠ none then relS W (dT W S np p y j) np p _ else heN W (dT W S np p y j) np p F m (a + 1)) = _
      rw [ih (a + 1)]; rfl
  unfold heS
  rw [hF, hN]
theorem clsR_H (C : clsR σ B np nh d S) {f : Nat → Option Nat} {g : Nat → Int32} (hf : ∀ q, q < nh → f q = rsH S q) (hg : ∀ q, q < nh → f q ≠ none → g q = rsF S q) : clsR σ B np nh d (stH S f g) := by
  obtain ⟨c1, c2, c3, c4⟩ := C
  refine ⟨c1, c2, c3, fun q hq => ?_⟩
  obtain ⟨a, b, e⟩ := c4 q hq
  refine ⟨a.trans ?_, fun hn => (b ?_).trans ?_, e⟩
  · show _ = encO (f q)
    rw [hf q hq]
  · have hn : f q ≠ none := hn
    rw [hf q hq] at hn; exact hn
  · exact (hg q hq hn).symm
theorem k_die (c : cW σ E d W np nh) (hB : RB B) (C : clsR σ B np nh d S) (ok : rsOK np nh S) {p : Nat} (hp : p < np) {y : Int32} (k : ∀ d', Ch σ (cL B) d d' → (∀ j, j ≠ 4 → gI d' (σ B) j = gI d (σ B) j) → clsR σ B np nh d' (if rsL S p = true then dieS W S np p y else S) → K0 d') : w_X3_die E (σ B) (nI p) y d K0 := by
  have h := c.1.1
  have h12 := c.2.2.2.2.1
  have h10 := c.2.2.2.2.2
  refine ⟨y_o h hB, k_lives c hB C hp ?_⟩
  rw [b2i_0]
  refine ⟨fun v => ?_, fun v => ?_⟩
  · rw [Bool.not_eq_false] at v
    rw [if_pos v] at k
    have p2 : 2 ^ p < 2147483648 := Nat.lt_of_le_of_lt (Nat.pow_le_pow_right (by decide) (show p ≤ 11 by omega)) (by decide)
    rw [C.1, b_shl (by omega), b_or (bt_31 h12) p2, or_bt1 hp]
    have c0 : Ch σ (cL B) d (pI d (σ B) 4 (nI (btN (fun i => !rsL S i || decide (p = i)) np))) := Chy_0 h hB
    have s0 : ∀ j, j ≠ 4 → gI (pI d (σ B) 4 (nI (btN (fun i => !rsL S i || decide (p = i)) np))) (σ B) j = gI d (σ B) j := fun j hj => gI_pI_k _ _ _ hj
    have C0 : clsR σ B np nh (pI d (σ B) 4 (nI (btN (fun i => !rsL S i || decide (p = i)) np))) (dT W S np p y 0) := by
      refine clsR_H (S := stL S (upB (rsL S) p false)) ?_ (fun q hq => ?_) (fun q hq hn => ?_)
      · obtain ⟨c1, c2, c3, c4⟩ := C
        refine ⟨?_, ?_, c3, c4⟩
        · rw [gI_pI]
          congr 1
          refine bt_congr (fun i hi => ?_)
          show (!rsL S i || decide (p = i)) = !(if i = p then false else rsL S i)
          by_cases e : i = p
          · simp [e]
          · simp [e, show ¬ p = i from fun q => e q.symm]
        · rw [gI_pI_a _ _ _ (yn0 (j := 1) h hB (by decide) (by decide)), gI_pI_a _ _ _ (yn0 (j := 3) h hB (by decide) (by decide)), gI_pI_a _ _ _ (yn0 (j := 5) h hB (by decide) (by decide))]
          exact c2
      · show (if q < 0 ∧ _ then _ else rsH S q) = _
        rw [if_neg (by omega)]; rfl
      · show (if q < 0 ∧ _ then y else rsF S q) = _
        rw [if_neg (by omega)]; rfl
    generalize pI d (σ B) 4 (nI (btN (fun i => !rsL S i || decide (p = i)) np)) = d0 at c0 s0 C0
    refine ⟨nh + 1, loopG (S := Int32 × Dy) (l := fun N z => l_X3_die_23 E (σ B) (nI p) y K0 N z.1 z.2) (b := fun kk z => b_X3_die_23 E (σ B) (nI p) y K0 (fun a b => kk (a, b)) z.1 z.2) (fun _ _ => rfl)
      (μ := fun z => nh - z.1.toNatClampNeg) (P := fun z => ∃ j, j ≤ nh ∧ nI j = z.1 ∧ Ch σ (cL B) d z.2 ∧ (∀ j, j ≠ 4 → gI z.2 (σ B) j = gI d (σ B) j) ∧ clsR σ B np nh z.2 (dT W S np p y j)) ?_ nh (0, d0) ⟨0, by omega, rfl, c0, s0, C0⟩ (Nat.sub_le _ _)⟩
    rintro kk ⟨v3, d3⟩ ⟨j, hj, rfl, c3, s3, C3⟩ hk
    have c3 : Ch σ (cL B) d d3 := c3
    have s3 : ∀ j, j ≠ 4 → gI d3 (σ B) j = gI d (σ B) j := s3
    have C3 : clsR σ B np nh d3 (dT W S np p y j) := C3
    have w3 := cW_ch c hB c3
    simp only [b_X3_die_23, w_X3_holderOf, y_6 h hB]
    refine T_size (ye_3 h hB) (ys_3 w3.1.2.1 hB C3.2.1.2.1 h10) ?_
    rw [z_le (by omega) (by omega)]
    refine ⟨fun hc => ?_, fun hc => ⟨y_o h hB, k_gH (j := 0) w3 hB C3 (by omega) (by decide) ?_⟩⟩
    · have : j = nh := by omega
      subst this
      refine k d3 c3 s3 ?_
      obtain ⟨r1, r2, r3, r4⟩ := C3
      refine ⟨r1, r2, r3, fun q hq => ?_⟩
      obtain ⟨a, b, e⟩ := r4 q hq
      have a2 : rsH (dT W S np p y j) q = rsH (dieS W S np p y) q := by
        show (if q < j ∧ rsH S q = some p then _ else _) = (if rsH S q = some p then _ else _)
        simp [hq]
      refine ⟨a.trans (by rw [a2]), fun hn => (b (by rw [a2]; exact hn)).trans ?_, e⟩
      show (if q < j ∧ rsH S q = some p ∧ _ then y else rsF S q) = (if rsH S q = some p ∧ _ then y else rsF S q)
      simp [hq]
    · have hjn : j < nh := by omega
      have hHj : rsH (dT W S np p y j) j = rsH S j := by show (if j < j ∧ _ then _ else _) = _; rw [if_neg (by omega)]
      rw [(C3.2.2.2 j hjn).1, hHj, enc_eq (ok.2.1 j hjn) (by omega) hp]
      have nx : ∀ d4, Ch σ (cL B) d3 d4 → (∀ j, j ≠ 4 → gI d4 (σ B) j = gI d3 (σ B) j) → clsR σ B np nh d4 (dT W S np p y (j + 1)) → kk (nI j + 1, d4) := fun d4 c4 s4 C4 => by
        rw [z_a1]; exact hk (nI (j + 1), d4) ⟨j + 1, by omega, rfl, Ch_tr c3 c4, fun j hj => (s4 j hj).trans (s3 j hj), C4⟩ (by simp only [z_nn (show j + 1 < 2147483648 by omega), z_nn (show j < 2147483648 by omega)]; omega)
      have stepH : ∀ q, q < nh → q ≠ j → rsH (dT W S np p y (j + 1)) q = rsH (dT W S np p y j) q := fun q hq e => by
        show (if q < j + 1 ∧ rsH S q = some p then _ else _) = (if q < j ∧ rsH S q = some p then _ else _)
        by_cases e2 : q < j
        · simp [e2, show q < j + 1 by omega]
        · simp [e2, show ¬ q < j + 1 by omega]
      have stepF : ∀ q, q < nh → q ≠ j → rsF (dT W S np p y (j + 1)) q = rsF (dT W S np p y j) q := fun q hq e => by
        show (if q < j + 1 ∧ rsH S q = some p ∧ _ then y else rsF S q) = (if q < j ∧ rsH S q = some p ∧ _ then y else rsF S q)
        by_cases e2 : q < j
        · simp [e2, show q < j + 1 by omega]
        · simp [e2, show ¬ q < j + 1 by omega]
      have eT : ∀ j', dT W S np p y j' = stH (dT W S np p y j) (rsH (dT W S np p y j')) (rsF (dT W S np p y j')) := fun j' => rfl
      refine ⟨fun hq => nx d3 Ch_rf (fun _ _ => rfl) ?_, fun hq => ?_⟩
      · rw [eT (j + 1)]
        have hsame : rsH (dT W S np p y (j + 1)) j = rsH (dT W S np p y j) j := by
          rw [hHj]
          show (if j < j + 1 ∧ rsH S j = some p then _ else _) = _
          rw [if_neg (fun q => hq q.2)]
        refine clsR_H C3 (fun q hq2 => ?_) (fun q hq2 _ => ?_)
        · by_cases e : q = j
          · subst e; exact hsame
          · exact stepH q hq2 e
        · by_cases e : q = j
          · subst e
            show (if q < q + 1 ∧ rsH S q = some p ∧ _ then y else rsF S q) = (if q < q ∧ rsH S q = some p ∧ _ then y else rsF S q)
            rw [if_neg (fun q => hq q.2.1), if_neg (by omega)]
          · exact stepF q hq2 e
      · have hs : gA d3 (σ (B + 4)) (j * 2 + 1) = rsF (dT W S np p y j) j := (C3.2.2.2 j hjn).2.1 (by rw [hHj, hq]; exact fun q => nomatch q)
        refine k_heirOf w3 hB C3 (dT_ok ok hp j) hp hjn hs (fun d4 c4 => ?_)
        rw [dT_hes j j (Nat.le_refl j)]
        have C4 := clsR_ch C3 hB c4 (fun j hj => mem789 hj)
        have c4' := Ch_w c4 cL_789
        have n04 : (B : Nat) ∉ [B + 7, B + 8, B + 9] := by simp
        refine k_hold (cW_ch w3 hB c4') hB C4 hjn (nx _ (Ch_tr c4' (hold_ch h hB)) (fun j _ => by rw [gI_pA, gI_pA, Ch_I c4 (yB0 hB) n04]) ?_)
        have hnew : rsH (dT W S np p y (j + 1)) j = heS W (stL S (upB (rsL S) p false)) np p j y := by
          show (if j < j + 1 ∧ rsH S j = some p then _ else _) = _
          rw [if_pos ⟨by omega, hq⟩]
        rw [eT (j + 1)]
        refine cf_H h hB C4 (by rw [hnew]) (fun q hq2 e => stepH q hq2 e) (fun hn => ?_) (fun q hq2 e _ => stepF q hq2 e)
        rw [hnew] at hn
        show (if j < j + 1 ∧ rsH S j = some p ∧ _ then y else rsF S j) = y
        rw [if_pos ⟨by omega, hq, hn⟩]
  · rw [if_neg (by rw [v]; decide)] at k
    exact k d Ch_rf (fun _ _ => rfl) C
end
