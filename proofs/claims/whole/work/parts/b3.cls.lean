/-! the class's replay: what it keeps -/
def RB (B : Nat) : Prop := B = 50 ∨ B = 60
def cL (B : Nat) : List Nat := [B, B + 1, B + 2, B + 3, B + 4, B + 5, B + 6, B + 7, B + 8, B + 9]
def clsR (σ : Nat → Nat) (B np nh : Nat) (d : Dy) (S : RS) : Prop :=
  gI d (σ B) 4 = nI (btN (fun p => !rsL S p) np) ∧ (gI d (σ (B + 1)) 3 = nI np ∧ gI d (σ (B + 3)) 3 = nI nh ∧ gI d (σ (B + 5)) 3 = nI nh)
  ∧ (∀ p, p < np → gA d (σ (B + 2)) (p * 3 + 0) = encO (rsP S p) ∧ gA d (σ (B + 2)) (p * 3 + 1) = nI (btN (rsC S p) np) ∧ gA d (σ (B + 2)) (p * 3 + 2) = nI (btN (fun q => rsC S q p) np))
  ∧ (∀ i, i < nh → gA d (σ (B + 4)) (i * 2 + 0) = encO (rsH S i) ∧ (rsH S i ≠ none → gA d (σ (B + 4)) (i * 2 + 1) = rsF S i) ∧ gA d (σ (B + 6)) (i * 1 + 0) = nI (rsO S i))
def cW (σ : Nat → Nat) (E : En) (d : Dy) (W : Nat → Int32) (np nh : Nat) : Prop := Inv σ E d ∧ gA d (σ 88) = W ∧ np = cnt W 0 ∧ nh = cnt W 1 ∧ np ≤ 12 ∧ nh ≤ 10
theorem bt_12 {f : Nat → Bool} {n : Nat} (hn : n ≤ 12) : btN f n < 4096 := Nat.lt_of_lt_of_le (bt_lt f n) (Nat.pow_le_pow_right (by decide) hn)
theorem bt_31 {f : Nat → Bool} {n : Nat} (hn : n ≤ 12) : btN f n < 2147483648 := Nat.lt_trans (bt_12 hn) (by decide)
theorem sb_bt {f g : Nat → Bool} {n : Nat} : sbN (btN f n) (btN g n) = btN (fun i => f i && !g i) n := bt_eq (sb_lt (bt_lt f n)) (fun i hi => by rw [sb_bit, bt_bit, bt_bit]; simp [hi])
theorem or_bt {f g : Nat → Bool} {n : Nat} : btN f n ||| btN g n = btN (fun i => f i || g i) n := bt_eq (Nat.or_lt_two_pow (bt_lt f n) (bt_lt g n)) (fun i hi => by rw [Nat.testBit_or, bt_bit, bt_bit]; simp [hi])
theorem sb_bt1 {f : Nat → Bool} {n p : Nat} : sbN (btN f n) (2 ^ p) = btN (fun i => f i && !decide (p = i)) n := bt_eq (sb_lt (bt_lt f n)) (fun i hi => by rw [sb_bit, bt_bit, Nat.testBit_two_pow]; simp [hi])
theorem or_bt1 {f : Nat → Bool} {n p : Nat} (hp : p < n) : btN f n ||| 2 ^ p = btN (fun i => f i || decide (p = i)) n := bt_eq (Nat.or_lt_two_pow (bt_lt f n) (Nat.pow_lt_pow_right (by decide) hp)) (fun i hi => by rw [Nat.testBit_or, bt_bit, Nat.testBit_two_pow]; simp [hi])
theorem bt_zero {f : Nat → Bool} {n : Nat} : btN f n = 0 ↔ fstN f n = none := by
  refine ⟨fun h => ?_, fun h => ?_⟩
  · cases e : fstN f n with
    | none => rfl
    | some b =>
      obtain ⟨h1, h2, -⟩ := fst_lt e
      have := bt_bit f n b
      rw [h, Nat.zero_testBit] at this
      simp [h1, h2] at this
  · refine (bt_eq (m := 0) (Nat.two_pow_pos n) (fun i hi => ?_)).symm
    rw [Nat.zero_testBit, fst_none h i hi]
theorem bt_low {f : Nat → Bool} {n b : Nat} (hn : n ≤ 12) (e : fstN f n = some b) : lowN (btN f n) 12 = b := by
  obtain ⟨h1, h2, h3⟩ := fst_lt e
  have h0 : btN f n ≠ 0 := fun q => by rw [bt_zero, e] at q; cases q
  rcases low_spec _ (bt_12 (f := f) hn) with q | ⟨q1, q2⟩
  · exact absurd q h0
  · rw [bt_bit] at q2
    simp at q2
    rcases Nat.lt_trichotomy (lowN (btN f n) 12) b with q | q | q
    · rw [h3 _ q] at q2; exact absurd q2.2 (by decide)
    · exact q
    · have := low_min 12 _ _ q
      rw [bt_bit] at this
      simp [h1, h2] at this
theorem enc_m1 {o : Option Nat} {n : Nat} (h : ∀ q, o = some q → q < n) (hn : n < 2147483648) : encO o = -1 ↔ o = none := by
  cases o with
  | none => exact ⟨fun _ => rfl, fun _ => rfl⟩
  | some q => exact ⟨fun e => absurd e (z_ne1 (Nat.lt_trans (h q rfl) hn)), fun e => nomatch e⟩
section
variable {σ : Nat → Nat} {E : En} {d d' d2 d3 : Dy} {W : Nat → Int32} {B np nh : Nat} {S : RS} {K : Int32 → Dy → Prop} {K0 : Dy → Prop}
theorem y_o (h : Env σ E) (hB : RB B) : okO E (σ B) 3 := by
  rcases hB with rfl | rfl
  · exact eo_50 h
  · exact eo_60 h
theorem y_0 (h : Env σ E) (hB : RB B) {P : Nat → Prop} : (∃ c, eR E (σ B) 0 = some c ∧ okO E c 8 ∧ P c) ↔ P (σ 1) := by
  rcases hB with rfl | rfl
  · exact x_50_0 h
  · exact x_60_0 h
theorem y_5 (h : Env σ E) (hB : RB B) {P : Nat → Prop} : (∃ c, eR E (σ B) 5 = some c ∧ okO E c 6 ∧ P c) ↔ P (σ (B + 1)) := by
  rcases hB with rfl | rfl
  · exact x_50_5 h
  · exact x_60_5 h
theorem y_6 (h : Env σ E) (hB : RB B) {P : Nat → Prop} : (∃ c, eR E (σ B) 6 = some c ∧ okO E c 6 ∧ P c) ↔ P (σ (B + 3)) := by
  rcases hB with rfl | rfl
  · exact x_50_6 h
  · exact x_60_6 h
theorem y_7 (h : Env σ E) (hB : RB B) {P : Nat → Prop} : (∃ c, eR E (σ B) 7 = some c ∧ okO E c 6 ∧ P c) ↔ P (σ (B + 5)) := by
  rcases hB with rfl | rfl
  · exact x_50_7 h
  · exact x_60_7 h
theorem y_8 (h : Env σ E) (hB : RB B) {P : Nat → Prop} : (∃ c, eR E (σ B) 8 = some c ∧ okO E c 0 ∧ P c) ↔ P (σ (B + 7)) := by
  rcases hB with rfl | rfl
  · exact x_50_8 h
  · exact x_60_8 h
theorem y_80 (h : Env σ E) (hB : RB B) {P : Nat → Prop} : (∃ c, eR E (σ (B + 7)) 0 = some c ∧ okA E c 13 ∧ P c) ↔ P (σ (B + 8)) := by
  rcases hB with rfl | rfl
  · exact x_57_0 h
  · exact x_67_0 h
theorem y_81 (h : Env σ E) (hB : RB B) {P : Nat → Prop} : (∃ c, eR E (σ (B + 7)) 1 = some c ∧ okA E c 13 ∧ P c) ↔ P (σ (B + 9)) := by
  rcases hB with rfl | rfl
  · exact x_57_1 h
  · exact x_67_1 h
theorem y_8o (h : Env σ E) (hB : RB B) : okO E (σ (B + 7)) 0 := by
  rcases hB with rfl | rfl
  · exact eo_57 h
  · exact eo_67 h
theorem y_n8 (h : Env σ E) (hB : RB B) : eN E (σ (B + 8)) = 9 ∧ eN E (σ (B + 9)) = 24 := by
  rcases hB with rfl | rfl
  · exact ⟨en_58 h, en_59 h⟩
  · exact ⟨en_68 h, en_69 h⟩
theorem ye_1 (h : Env σ E) (hB : RB B) : TE E (σ (B + 1)) (σ (B + 2)) 3 12 := by
  rcases hB with rfl | rfl
  · exact te_51 h
  · exact te_61 h
theorem ye_3 (h : Env σ E) (hB : RB B) : TE E (σ (B + 3)) (σ (B + 4)) 2 10 := by
  rcases hB with rfl | rfl
  · exact te_53 h
  · exact te_63 h
theorem ye_5 (h : Env σ E) (hB : RB B) : TE E (σ (B + 5)) (σ (B + 6)) 1 10 := by
  rcases hB with rfl | rfl
  · exact te_55 h
  · exact te_65 h
theorem ys_1 (h : St σ d) (hB : RB B) {n : Nat} (hn : gI d (σ (B + 1)) 3 = nI n) (hm : n ≤ 12) : TD d (σ (B + 1)) 3 12 n := by
  rcases hB with rfl | rfl
  · exact ts_51 h hn hm
  · exact ts_61 h hn hm
theorem ys_3 (h : St σ d) (hB : RB B) {n : Nat} (hn : gI d (σ (B + 3)) 3 = nI n) (hm : n ≤ 10) : TD d (σ (B + 3)) 2 10 n := by
  rcases hB with rfl | rfl
  · exact ts_53 h hn hm
  · exact ts_63 h hn hm
theorem ys_5 (h : St σ d) (hB : RB B) {n : Nat} (hn : gI d (σ (B + 5)) 3 = nI n) (hm : n ≤ 10) : TD d (σ (B + 5)) 1 10 n := by
  rcases hB with rfl | rfl
  · exact ts_55 h hn hm
  · exact ts_65 h hn hm
theorem cL_scr (hB : RB B) : ∀ i ∈ cL B, i ∈ scr := by
  rcases hB with rfl | rfl <;> decide
theorem cL_w (hB : RB B) : 88 ∉ cL B := by
  rcases hB with rfl | rfl <;> decide
theorem cW_ch (c : cW σ E d W np nh) (hB : RB B) (ch : Ch σ (cL B) d d') : cW σ E d' W np nh := ⟨Inv_ch c.1 (Ch_w ch (cL_scr hB)), (Ch_A ch (by decide) (cL_w hB)).trans c.2.1, c.2.2⟩
theorem cW_gW (c : cW σ E d W np nh) : gW σ d W np nh := by
  obtain ⟨I, eW, n0, n1, h0, h1⟩ := c
  subst eW
  have w0 := wc_0 I
  have w1 := wc_1 I
  rw [← n0] at w0
  rw [← n1] at w1
  exact ⟨rfl, I.2.2.1.1, TXs_TWs I.2.2.1.2.2, w0.1, w1.1, n0, n1, h0, h1⟩
theorem k_lives (c : cW σ E d W np nh) (hB : RB B) (C : clsR σ B np nh d S) {p : Nat} (hp : p < np) (k : K (b2i (rsL S p)) d) : w_X3_lives E (σ B) (nI p) d K := by
  have h12 := c.2.2.2.2.1
  unfold w_X3_lives
  rw [C.1, b_bit (bt_31 h12) (by omega), bt_bit]
  refine ⟨y_o c.1.1 hB, fun q => ?_, fun q => ?_⟩
  · cases e : rsL S p with
    | false => rw [e] at k; exact k
    | true => simp [e] at q
  · cases e : rsL S p with
    | true => rw [e] at k; exact k
    | false => simp [e, hp] at q
theorem k_gP (c : cW σ E d W np nh) (hB : RB B) (C : clsR σ B np nh d S) {p j : Nat} (hp : p < np) (hj : j < 3) (k : K (gA d (σ (B + 2)) (p * 3 + j)) d) : w_X6_get E (σ (B + 1)) (nI p) (nI j) d K :=
  T_get (ye_1 c.1.1 hB) (ys_1 c.1.2.1 hB C.2.1.1 c.2.2.2.2.1) hp hj k
theorem k_gH (c : cW σ E d W np nh) (hB : RB B) (C : clsR σ B np nh d S) {p j : Nat} (hp : p < nh) (hj : j < 2) (k : K (gA d (σ (B + 4)) (p * 2 + j)) d) : w_X6_get E (σ (B + 3)) (nI p) (nI j) d K :=
  T_get (ye_3 c.1.1 hB) (ys_3 c.1.2.1 hB C.2.1.2.1 c.2.2.2.2.2) hp hj k
theorem k_gO (c : cW σ E d W np nh) (hB : RB B) (C : clsR σ B np nh d S) {p : Nat} (hp : p < nh) (k : K (gA d (σ (B + 6)) (p * 1 + 0)) d) : w_X6_get E (σ (B + 5)) (nI p) 0 d K :=
  T_get (c := 0) (ye_5 c.1.1 hB) (ys_5 c.1.2.1 hB C.2.1.2.2 c.2.2.2.2.2) hp (by decide) k
theorem k_spouse (c : cW σ E d W np nh) (hB : RB B) (C : clsR σ B np nh d S) (ok : rsOK np nh S) {p : Nat} (hp : p < np) (k : K (encO (spS S p)) d) : w_X3_spouseOf E (σ B) (nI p) d K := by
  have h12 := c.2.2.2.2.1
  simp only [w_X3_spouseOf, y_5 c.1.1 hB]
  refine ⟨y_o c.1.1 hB, k_gP (j := 0) c hB C hp (by decide) ?_⟩
  rw [(C.2.2.1 p hp).1]
  unfold spS at k
  cases e : rsP S p with
  | none => rw [e] at k; exact ⟨fun _ => k, fun q => absurd rfl q⟩
  | some q =>
    rw [e] at k
    have hq := ok.1 p hp q e
    refine ⟨fun q2 => absurd q2 (z_ne1 (by omega)), fun _ => k_lives c hB C hq ?_⟩
    rw [b2i_0]
    refine ⟨fun q2 => ?_, fun q2 => ?_⟩
    · simp only [q2] at k; exact k
    · rw [Bool.not_eq_false] at q2
      simp only [q2, if_true] at k; exact k
theorem k_children (c : cW σ E d W np nh) (hB : RB B) (C : clsR σ B np nh d S) {p : Nat} (hp : p < np) (k : K (nI (btN (chS S p) np)) d) : w_X3_childrenOf E (σ B) (nI p) d K := by
  have h12 := c.2.2.2.2.1
  simp only [w_X3_childrenOf, y_5 c.1.1 hB]
  refine ⟨y_o c.1.1 hB, k_gP (j := 1) c hB C hp (by decide) ?_⟩
  rw [(C.2.2.1 p hp).2.1, C.1, b_not (bt_31 h12) (bt_31 h12), sb_bt]
  simp only [Bool.not_not]; exact k
theorem k_parent (c : cW σ E d W np nh) (hB : RB B) (C : clsR σ B np nh d S) {p : Nat} (hp : p < np) (k : K (encO (paS S np p)) d) : w_X3_parentOf E (σ B) (nI p) d K := by
  have h12 := c.2.2.2.2.1
  simp only [w_X3_parentOf, y_5 c.1.1 hB]
  refine ⟨y_o c.1.1 hB, k_gP (j := 2) c hB C hp (by decide) ?_⟩
  rw [(C.2.2.1 p hp).2.2, C.1, b_not (bt_31 h12) (bt_31 h12), sb_bt]
  simp only [Bool.not_not]
  unfold paS at k
  rw [show (0 : Int32) = nI 0 from rfl, z_eq (bt_31 h12) (by decide), bt_zero]
  refine ⟨fun q => k_ntz ?_, fun q => ?_⟩
  · cases e : fstN (fun q => rsC S q p && rsL S q) np with
    | none => exact absurd e q
    | some b =>
      rw [e] at k
      rcases nt_all _ (bt_12 (f := fun q => rsC S q p && rsL S q) h12) with q2 | q2
      · rw [bt_zero, e] at q2; cases q2
      · rw [q2, bt_low h12 e]; exact k
  · rw [q] at k; exact k
theorem k_siblings (c : cW σ E d W np nh) (hB : RB B) (C : clsR σ B np nh d S) {p : Nat} (hp : p < np) (k : K (nI (btN (fun c => rsL S c && ofS S np p c) np)) d) : w_X3_siblingsOf E (σ B) (nI p) d K := by
  have h12 := c.2.2.2.2.1
  simp only [w_X3_siblingsOf, y_5 c.1.1 hB]
  refine ⟨y_o c.1.1 hB, k_gP (j := 2) c hB C hp (by decide) ?_⟩
  rw [(C.2.2.1 p hp).2.2]
  refine ⟨np + 1, loopG (S := Int32 × Int32 × Int32 × Dy) (l := fun N z => l_X3_siblingsOf_15 E (σ B) (nI p) K N z.1 z.2.1 z.2.2.1 z.2.2.2) (b := fun kk z => b_X3_siblingsOf_15 E (σ B) (nI p) K (fun a b c e => kk (a, b, c, e)) z.1 z.2.1 z.2.2.1 z.2.2.2) (fun _ _ => rfl)
    (μ := fun z => np - z.2.2.1.toNatClampNeg) (P := fun z => d = z.2.2.2 ∧ nI (btN (fun q => rsC S q p) np) = z.1 ∧ ∃ j, j ≤ np ∧ nI j = z.2.2.1 ∧ nI (btN (fun c => anyN (fun q => rsC S q p && rsC S q c) j) np) = z.2.1) ?_ np (_, 0, 0, d) ⟨rfl, rfl, 0, by omega, rfl, ?_⟩ (Nat.sub_le _ _)⟩
  · rintro kk ⟨a, b, v, d3⟩ ⟨rfl, rfl, j, hj, rfl, rfl⟩ hk
    simp only [b_X3_siblingsOf_15, y_5 c.1.1 hB]
    refine T_size (ye_1 c.1.1 hB) (ys_1 c.1.2.1 hB C.2.1.1 c.2.2.2.2.1) ?_
    rw [z_le (by omega) (by omega)]
    have nx : ∀ x, x = nI (btN (fun c => anyN (fun q => rsC S q p && rsC S q c) (j + 1)) np) → j < np → kk (nI (btN (fun q => rsC S q p) np), x, nI j + 1, d) := fun x hx hj2 => by
      rw [z_a1]; exact hk (_, x, nI (j + 1), d) ⟨rfl, rfl, j + 1, by omega, rfl, hx.symm⟩ (by simp only [z_nn (show j + 1 < 2147483648 by omega), z_nn (show j < 2147483648 by omega)]; omega)
    refine ⟨fun hc => ?_, fun hc => ⟨fun q => nx _ ?_ (by omega), fun q => k_gP (j := 1) c hB C (by omega) (by decide) (nx _ ?_ (by omega))⟩⟩
    · have : j = np := by omega
      subst this
      rw [C.1, b_not (bt_31 h12) (bt_31 h12), sb_bt, b_shl (by omega), b_not (bt_31 h12) (Nat.lt_of_le_of_lt (Nat.pow_le_pow_right (by decide) (show p ≤ 11 by omega)) (by decide)), sb_bt1]
      rw [bt_congr (g := fun c => rsL S c && ofS S j p c) (fun i hi => ?_)]
      · exact k
      · simp only [ofS, Bool.not_not]
        cases anyN (fun q => rsC S q p && rsC S q i) j <;> cases rsL S i <;> simp
    · rw [b_bit (bt_31 h12) (by omega), bt_bit] at q
      have hq : rsC S j p = false := by
        cases e : rsC S j p with
        | false => rfl
        | true => simp [e, show j < np by omega] at q
      congr 1
      refine bt_congr (fun i hi => ?_)
      simp [anyN, hq]
    · rw [b_bit (bt_31 h12) (by omega), bt_bit] at q
      have hq : rsC S j p = true := by
        cases e : rsC S j p with
        | true => rfl
        | false => simp [e] at q
      rw [(C.2.2.1 j (by omega)).2.1, b_or (bt_31 h12) (bt_31 h12), or_bt]
      congr 1
      refine bt_congr (fun i hi => ?_)
      simp [anyN, hq]
  · rw [show (0 : Int32) = nI 0 from rfl]
    congr 1
    exact (bt_eq (m := 0) (Nat.two_pow_pos np) (fun i hi => by rw [Nat.zero_testBit]; rfl)).symm
theorem k_eldest (c : cW σ E d W np nh) (hB : RB B) (C : clsR σ B np nh d S) {f : Nat → Bool} (k : K (encO (eldN W f np)) d) : w_X3_eldest E (σ B) (nI (btN f np)) d K := by
  have h12 := c.2.2.2.2.1
  have born : ∀ {r : Nat} {K : Int32 → Dy → Prop}, r < np → K (bn W r) d → w_X6_get E (σ 2) (nI r) 0 d K := fun {r K} hr k1 => by
    have td := td_2 c.1
    have hr2 : r < cnt (gA d (σ 88)) 0 := by rw [c.2.1]; have := c.2.2.1; omega
    refine T_get (c := 0) (te_2 c.1.1) td hr2 (by decide) ?_
    have tv := tv_2 c.1 hr2 (c := 0) (by decide)
    rw [show r * 3 + 0 = r * 3 + cmI 0 0 from rfl, tv, c.2.1]; exact k1
  refine ⟨y_o c.1.1 hB, np + 1, loopG (S := Int32 × Int32 × Dy) (l := fun N z => l_X3_eldest_4 E (σ B) (nI (btN f np)) K N z.1 z.2.1 z.2.2) (b := fun kk z => b_X3_eldest_4 E (σ B) (nI (btN f np)) K (fun a b c => kk (a, b, c)) z.1 z.2.1 z.2.2) (fun _ _ => rfl)
    (μ := fun z => np - z.2.1.toNatClampNeg) (P := fun z => d = z.2.2 ∧ ∃ i, i ≤ np ∧ nI i = z.2.1 ∧ encO (eldN W f i) = z.1) ?_ np (-1, 0, d) ⟨rfl, 0, by omega, rfl, rfl⟩ (Nat.sub_le _ _)⟩
  rintro kk ⟨a, v, d3⟩ ⟨rfl, i, hi, rfl, rfl⟩ hk
  simp only [b_X3_eldest_4, b_X3_eldest_28, y_5 c.1.1 hB, y_0 c.1.1 hB, x_1_1 c.1.1]
  refine T_size (ye_1 c.1.1 hB) (ys_1 c.1.2.1 hB C.2.1.1 c.2.2.2.2.1) ?_
  rw [z_le (by omega) (by omega)]
  refine ⟨fun hc => ?_, fun hc => ?_⟩
  · have : i = np := by omega
    subst this; exact k
  · rw [b_bit (bt_31 h12) (by omega), bt_bit]
    have nx : ∀ x, x = encO (eldN W f (i + 1)) → kk (x, nI i + 1, d) := fun x hx => by
      rw [z_a1]; exact hk (x, nI (i + 1), d) ⟨rfl, i + 1, by omega, rfl, hx.symm⟩ (by simp only [z_nn (show i + 1 < 2147483648 by omega), z_nn (show i < 2147483648 by omega)]; omega)
    refine ⟨fun q => ⟨fun _ => nx _ ?_, fun q2 => absurd trivial q2⟩, fun q => ⟨fun q2 => absurd q2 (by decide), fun _ => ⟨fun q2 => nx _ ?_, fun q2 => ?_⟩⟩⟩
    · show _ = encO (if f i = true then _ else _)
      rw [if_neg (fun e => by simp [e, show i < np by omega] at q)]
    · have hf : f i = true := by
        cases e : f i with
        | true => rfl
        | false => simp [e] at q
      rw [enc_m1 (n := np) (fun b hb => by have := eld_lt hb; omega) (by omega)] at q2
      show _ = encO (if f i = true then _ else _)
      rw [if_pos hf, q2]; rfl
    · have hf : f i = true := by
        cases e : f i with
        | true => rfl
        | false => simp [e] at q
      cases e : eldN W f i with
      | none => rw [e] at q2; exact absurd rfl q2
      | some b =>
        have hb := (eld_lt e).1
        refine born (by omega) (born (r := b) (by omega) ?_)
        refine ⟨fun q3 => nx _ ?_, fun q3 => nx _ ?_⟩
        · show _ = encO (if f i = true then _ else _)
          rw [if_pos hf, e]
          show _ = encO (if bn W i < bn W b then _ else _)
          rw [if_neg (Int32.not_lt.mpr q3)]
        · show _ = encO (if f i = true then _ else _)
          rw [if_pos hf, e]
          show _ = encO (if bn W i < bn W b then _ else _)
          rw [if_pos (Int32.not_le.mp q3)]; rfl
theorem k_relative (c : cW σ E d W np nh) (hB : RB B) (C : clsR σ B np nh d S) (ok : rsOK np nh S) {p : Nat} (hp : p < np) {w : Int32} (hw : bw w 0 3) (k : K (encO (relS W S np p w)) d) : w_X3_relative E (σ B) (nI p) w d K := by
  unfold relS at k
  obtain ⟨m, -, hm, em⟩ := bw_n (a := 0) (b := 3) hw (by decide) (by decide)
  refine ⟨y_o c.1.1 hB, fun q => ?_, fun q => ?_, fun q => ?_, fun q => ?_, fun q0 q1 q2 q3 => ?_⟩
  · rw [if_pos q] at k; exact k_spouse c hB C ok hp k
  · rw [q, if_neg (by decide), if_pos rfl] at k; exact k_children c hB C hp (k_eldest c hB C k)
  · rw [q, if_neg (by decide), if_neg (by decide), if_pos rfl] at k; exact k_parent c hB C hp k
  · rw [q, if_neg (by decide), if_neg (by decide), if_neg (by decide)] at k; exact k_siblings c hB C hp (k_eldest c hB C k)
  · exfalso
    have h4 : m = 0 ∨ m = 1 ∨ m = 2 ∨ m = 3 := by omega
    rcases h4 with rfl | rfl | rfl | rfl
    · exact q0 em
    · exact q1 em
    · exact q2 em
    · exact q3 em
theorem k_placeOf (c : cW σ E d W np nh) (hB : RB B) (C : clsR σ B np nh d S) (ok : rsOK np nh S) {i : Nat} (hi : i < nh) (k : K (nI (rpS S nh i)) d) : w_X3_placeOf E (σ B) (nI i) d K := by
  have h10 := c.2.2.2.2.2
  obtain ⟨m, hm, em⟩ := ok.2.2.2 i hi
  refine ⟨y_o c.1.1 hB, nh + 1, loopG (S := Int32 × Dy) (l := fun N z => l_X3_placeOf_2 E (σ B) (nI i) K N z.1 z.2) (b := fun kk z => b_X3_placeOf_2 E (σ B) (nI i) K (fun a b => kk (a, b)) z.1 z.2) (fun _ _ => rfl)
    (μ := fun z => nh - z.1.toNatClampNeg) (P := fun z => d = z.2 ∧ ∃ j, j ≤ m ∧ nI j = z.1 ∧ plN (rsO S) i (nh - j) j = rpS S nh i) ?_ nh (0, d) ⟨rfl, 0, by omega, rfl, rfl⟩ (Nat.sub_le _ _)⟩
  rintro kk ⟨v, d3⟩ ⟨rfl, j, hj, rfl, hr⟩ hk
  have hro := ok.2.2.1 j (by omega)
  simp only [b_X3_placeOf_2, y_7 c.1.1 hB]
  refine T_size (ye_5 c.1.1 hB) (ys_5 c.1.2.1 hB C.2.1.2.2 h10) ?_
  rw [z_le (by omega) (by omega)]
  refine ⟨fun hc => absurd hc (by omega), fun _ => k_gO c hB C (by omega) ?_⟩
  rw [(C.2.2.2 j (by omega)).2.2, z_eq (by omega) (by omega)]
  rw [show nh - j = (nh - (j + 1)) + 1 by omega] at hr
  simp only [plN] at hr
  refine ⟨fun h0 => ?_, fun h0 => ?_⟩
  · rw [if_pos h0] at hr; rw [← hr] at k; exact k
  · rw [if_neg h0] at hr
    have : j ≠ m := fun e => h0 (e ▸ em)
    rw [z_a1]
    exact hk (nI (j + 1), d) ⟨rfl, j + 1, by omega, rfl, hr⟩ (by simp only [z_nn (show j + 1 < 2147483648 by omega), z_nn (show j < 2147483648 by omega)]; omega)
end
