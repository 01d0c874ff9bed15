section
variable {σ : Nat → Nat} {E : En} {d d' d2 d3 : Dy} {W : Nat → Int32} {B np nh : Nat} {S : RS} {K : Int32 → Dy → Prop} {K0 : Dy → Prop}
theorem yB (hB : RB B) {j : Nat} (hj : j < 10) : B + j < 116 := by have hB : B = 50 ∨ B = 60 := hB; omega
theorem clsR_ch {P : List Nat} (C : clsR σ B np nh d S) (hB : RB B) (c : Ch σ P d d') (hP : ∀ j, j < 7 → B + j ∉ P) : clsR σ B np nh d' S := by
  obtain ⟨c1, c2, c3, c4⟩ := C
  have e0 : gI d' (σ B) = gI d (σ B) := Ch_I c (yB (j := 0) hB (by decide)) (hP 0 (by decide))
  have e1 : gI d' (σ (B + 1)) = gI d (σ (B + 1)) := Ch_I c (yB hB (by decide)) (hP 1 (by decide))
  have e3 : gI d' (σ (B + 3)) = gI d (σ (B + 3)) := Ch_I c (yB hB (by decide)) (hP 3 (by decide))
  have e5 : gI d' (σ (B + 5)) = gI d (σ (B + 5)) := Ch_I c (yB hB (by decide)) (hP 5 (by decide))
  have e2 : gA d' (σ (B + 2)) = gA d (σ (B + 2)) := Ch_A c (yB hB (by decide)) (hP 2 (by decide))
  have e4 : gA d' (σ (B + 4)) = gA d (σ (B + 4)) := Ch_A c (yB hB (by decide)) (hP 4 (by decide))
  have e6 : gA d' (σ (B + 6)) = gA d (σ (B + 6)) := Ch_A c (yB hB (by decide)) (hP 6 (by decide))
  unfold clsR
  rw [e0, e1, e3, e5, e2, e4, e6]
  exact ⟨c1, c2, c3, c4⟩
theorem mem789 {j : Nat} (hj : j < 7) : B + j ∉ [B + 7, B + 8, B + 9] := by simp; omega
theorem k_pers (c : cW σ E d W np nh) {p j : Nat} (hp : p < np) (hj : j < 3) (k : K (W (14 + 3 * p + j)) d) : w_X6_get E (σ 2) (nI p) (nI j) d K := by
  have hr2 : p < cnt (gA d (σ 88)) 0 := by rw [c.2.1]; have := c.2.2.1; omega
  refine T_get (te_2 c.1.1) (td_2 c.1) hr2 hj ?_
  have tv := tv_2 c.1 hr2 (c := j) hj
  have : cmI 0 j = j := rfl
  rw [this] at tv
  rw [tv, c.2.1]; exact k
theorem k_hut (c : cW σ E d W np nh) {p j : Nat} (hp : p < nh) (hj : j < 7) (k : K (W (50 + 7 * p + j)) d) : w_X6_get E (σ 4) (nI p) (nI j) d K := by
  have hr2 : p < cnt (gA d (σ 88)) 1 := by rw [c.2.1]; have := c.2.2.2.1; omega
  refine T_get (te_4 c.1.1) (td_4 c.1) hr2 hj ?_
  have tv := tv_4 c.1 hr2 (c := j) hj
  have : cmI 1 j = j := rfl
  rw [this] at tv
  rw [tv, c.2.1]; exact k
theorem k_know (h : Env σ E) (hB : RB B) {f : Nat} {x : Int32} (hf : f < 9) (k : K0 (pA d (σ (B + 8)) f x)) : w_X0_know E (σ (B + 7)) (nI f) x d K0 := by
  have z9 : ¬ 9 ≤ nI f := by rw [show (9 : Int32) = nI 9 from rfl, z_le (by decide) (by omega)]; omega
  simp only [w_X0_know, y_80 h hB, (y_n8 h hB).1, z_nn (show f < 2147483648 by omega)]
  exact ⟨y_8o h hB, fun q => absurd q (z_pos (by omega)), fun _ => ⟨fun q => absurd q z9, fun _ => ⟨vpi (by omega) (by decide), k⟩⟩⟩
theorem know_ch (h : Env σ E) (hB : RB B) {f : Nat} {x : Int32} : Ch σ [B + 7, B + 8, B + 9] d (pA d (σ (B + 8)) f x) := Chy_A h hB (by decide) (by simp)
theorem know_g {f j : Nat} {x : Int32} : gA (pA d (σ (B + 8)) f x) (σ (B + 8)) j = if j = f then x else gA d (σ (B + 8)) j := by rw [gA_pA_x, if_pos rfl]
theorem cL_789 : ∀ i ∈ [B + 7, B + 8, B + 9], i ∈ cL B := by simp [cL]
def pF (W : Nat → Int32) (S : RS) (np p : Nat) (y : Int32) (F : Nat → Int32) : Nat → Int32 := fun f => if f = 8 then W (16 + 3 * p) else if f = 2 then nI (cntN (chS S p) np) else if f = 1 then ageS W p y else if f = 3 then y else F f
theorem k_knowPerson (c : cW σ E d W np nh) (hB : RB B) (C : clsR σ B np nh d S) {p : Nat} {y : Int32} (hp : p < np) (k : ∀ d', Ch σ [B + 7, B + 8, B + 9] d d' → gA d' (σ (B + 8)) = pF W S np p y (gA d (σ (B + 8))) → K0 d') : w_X3_knowPerson E (σ B) (nI p) y d K0 := by
  have h := c.1.1
  have h12 := c.2.2.2.2.1
  simp only [w_X3_knowPerson, y_8 h hB, y_0 h hB, x_1_1 h]
  refine ⟨y_o h hB, k_know (f := 3) h hB (by decide) ?_⟩
  have c1 : Ch σ [B + 7, B + 8, B + 9] d (pA d (σ (B + 8)) 3 y) := know_ch h hB
  have g1 : ∀ j, gA (pA d (σ (B + 8)) 3 y) (σ (B + 8)) j = if j = 3 then y else gA d (σ (B + 8)) j := fun j => know_g
  generalize pA d (σ (B + 8)) 3 y = d1 at c1 g1
  refine k_pers (j := 0) (cW_ch c hB (Ch_w c1 cL_789)) hp (by decide) (k_know (f := 1) h hB (by decide) ?_)
  show w_X3_childrenOf E (σ B) (nI p) (pA d1 (σ (B + 8)) 1 (ageS W p y)) _
  have c2 : Ch σ [B + 7, B + 8, B + 9] d (pA d1 (σ (B + 8)) 1 (ageS W p y)) := Ch_tr c1 (know_ch h hB)
  have g2 : ∀ j, gA (pA d1 (σ (B + 8)) 1 (ageS W p y)) (σ (B + 8)) j = if j = 1 then ageS W p y else gA d1 (σ (B + 8)) j := fun j => know_g
  generalize pA d1 (σ (B + 8)) 1 (ageS W p y) = d2 at c2 g2
  refine k_children (cW_ch c hB (Ch_w c2 cL_789)) hB (clsR_ch C hB c2 (fun j hj => mem789 hj)) hp (k_bc ?_)
  rw [bt_cnt h12]
  refine k_know (f := 2) h hB (by decide) ?_
  have c3 : Ch σ [B + 7, B + 8, B + 9] d (pA d2 (σ (B + 8)) 2 (nI (cntN (chS S p) np))) := Ch_tr c2 (know_ch h hB)
  have g3 : ∀ j, gA (pA d2 (σ (B + 8)) 2 (nI (cntN (chS S p) np))) (σ (B + 8)) j = if j = 2 then nI (cntN (chS S p) np) else gA d2 (σ (B + 8)) j := fun j => know_g
  generalize pA d2 (σ (B + 8)) 2 (nI (cntN (chS S p) np)) = d3 at c3 g3
  refine k_pers (j := 2) (cW_ch c hB (Ch_w c3 cL_789)) hp (by decide) (k_know (f := 8) h hB (by decide) (k _ (Ch_tr c3 (know_ch h hB)) ?_))
  funext j
  rw [know_g, g3, g2, g1, show 14 + 3 * p + 2 = 16 + 3 * p by omega]
  rfl
theorem k_inForce (c : cW σ E d W np nh) {s : Nat} (hs : s < 4) {K : Option Nat → Dy → Prop} (k0 : W (10 + s) = 0 → K none d) (k1 : ∀ q, W (10 + s) = 1 → TX σ E d q W s → K (some q) d) : w_X8_inForce E (σ 1) (nI s) d K := by
  have h := c.1.1
  have z4 : ¬ 4 ≤ nI s := by rw [show (4 : Int32) = nI 4 from rfl, z_le (by decide) (by omega)]; omega
  simp only [w_X8_inForce, x_1_11 h, en_22 h, z_nn (show s < 2147483648 by omega)]
  refine ⟨eo_1 h, fun q => absurd q (z_pos (by omega)), fun _ => ⟨fun q => absurd q z4, fun _ => ⟨vpi (by omega) (by decide), ?_⟩⟩⟩
  have tx := c.1.2.2.1.2.2
  rw [c.2.1] at tx
  rcases tx s hs with ⟨q1, q2⟩ | ⟨q1, q, q2, q3⟩
  · rw [q1]; exact k0 q2
  · rw [q2]; exact k1 q q1 q3
theorem k_bit2 (c : cW σ E d W np nh) {p : Nat} (hp : p < np) : W (16 + 3 * p) = 0 ∨ W (16 + 3 * p) = 1 := by
  have hr2 : p < cnt (gA d (σ 88)) 0 := by rw [c.2.1]; have := c.2.2.1; omega
  have o : bw (gA d (σ 88) (14 + 3 * p + 2)) 0 1 := (ok_2 c.1 hr2).2.2
  rw [c.2.1, show 14 + 3 * p + 2 = 16 + 3 * p by omega] at o
  obtain ⟨m, -, hm, em⟩ := bw_n (a := 0) (b := 1) o (by decide) (by decide)
  have : m = 0 ∨ m = 1 := by omega
  rcases this with rfl | rfl
  · exact Or.inl em
  · exact Or.inr em
theorem k_heirOf (c : cW σ E d W np nh) (hB : RB B) (C : clsR σ B np nh d S) (ok : rsOK np nh S) {p i : Nat} {y : Int32} (hp : p < np) (hi : i < nh) (hs : gA d (σ (B + 4)) (i * 2 + 1) = rsF S i) (k : ∀ d', Ch σ [B + 7, B + 8, B + 9] d d' → K (encO (heS W S np p i y)) d') : w_X3_heirOf E (σ B) (nI p) (nI i) y d K := by
  have h := c.1.1
  have tw := (cW_gW c).2.2.1 0 (by decide)
  simp only [w_X3_heirOf, y_8 h hB, y_0 h hB, x_1_2 h]
  refine ⟨y_o h hB, k_inForce (s := 0) c (by decide) (fun q0 => ⟨fun _ => ?_, fun q q2 => nomatch q2⟩) (fun q q0 tx => ⟨fun q2 => (nomatch q2), fun b hb => ?_⟩)⟩
  · have := k d Ch_rf
    unfold heS at this
    rw [if_pos q0] at this; exact this
  · cases hb
    have q0 : W 10 = 1 := q0
    obtain ⟨n, tw⟩ : ∃ n, TW W 0 n := by
      rcases tw with q | ⟨-, q⟩
      · have q : W 10 = 0 := q
        rw [q0] at q; exact absurd q (by decide)
      · exact q
    have en : cnt W 596 = n := by have := tw.1; unfold cnt; have e : W 596 = nI n := this; rw [e, z_nn (by have := tw.2.1; omega)]
    have hn10 := tw.2.1
    have he : heS W S np p i y = heN W S np p (fRt W S np p i y) n 0 := by unfold heS; rw [if_neg (by rw [q0]; decide), en]
    rw [he] at k
    obtain ⟨-, -, -, -, -, -, ho, -⟩ := id tx
    refine ⟨ho, ?_⟩
    simp only [w_X3_sinceOf, y_6 h hB]
    refine ⟨y_o h hB, k_gH (j := 1) c hB C hi (by decide) ?_⟩
    rw [hs]
    refine k_know (f := 0) h hB (by decide) ?_
    have c1 : Ch σ [B + 7, B + 8, B + 9] d (pA d (σ (B + 8)) 0 (y - rsF S i)) := know_ch h hB
    have g1 : ∀ j, gA (pA d (σ (B + 8)) 0 (y - rsF S i)) (σ (B + 8)) j = if j = 0 then y - rsF S i else gA d (σ (B + 8)) j := fun j => know_g
    generalize pA d (σ (B + 8)) 0 (y - rsF S i) = d1 at c1 g1
    refine k_hut (j := 0) (cW_ch c hB (Ch_w c1 cL_789)) hi (by decide) (k_know (f := 4) h hB (by decide) ?_)
    have c2 : Ch σ [B + 7, B + 8, B + 9] d (pA d1 (σ (B + 8)) 4 (W (50 + 7 * i + 0))) := Ch_tr c1 (know_ch h hB)
    have g2 : ∀ j, gA (pA d1 (σ (B + 8)) 4 (W (50 + 7 * i + 0))) (σ (B + 8)) j = if j = 4 then W (50 + 7 * i + 0) else gA d1 (σ (B + 8)) j := fun j => know_g
    generalize pA d1 (σ (B + 8)) 4 (W (50 + 7 * i + 0)) = d2 at c2 g2
    refine k_knowPerson (cW_ch c hB (Ch_w c2 cL_789)) hB (clsR_ch C hB c2 (fun j hj => mem789 hj)) hp (fun d3 c3 g3 => ?_)
    have c3 := Ch_tr c2 c3
    have fa : fAg 0 (gA d3 (σ (B + 8))) (fRt W S np p i y) := by
      rw [g3]
      refine ⟨fun f hf hb => ?_, fun _ => ?_⟩
      · have : f = 0 ∨ f = 1 ∨ f = 2 ∨ f = 3 ∨ f = 4 := by
          have fb : ∀ f, f < 8 → fsB 0 f = true → f < 5 := by decide
          have := fb f hf hb; omega
        unfold pF fRt
        rcases this with rfl | rfl | rfl | rfl | rfl
        · simp [g2, g1]
        · simp
        · simp
        · simp
        · simp [g2]
      · unfold pF fRt; simp
    have hF : gA d3 (σ (B + 8)) 8 = 0 ∨ gA d3 (σ (B + 8)) 8 = 1 := by rw [g3]; exact k_bit2 c hp
    refine ⟨n + 1, loopG (S := Nat × Int32 × Dy) (l := fun N z => l_X3_heirOf_61 E (σ B) (nI p) (nI i) y K N z.1 z.2.1 z.2.2) (b := fun kk z => b_X3_heirOf_61 E (σ B) (nI p) (nI i) y K (fun a b c => kk (a, b, c)) z.1 z.2.1 z.2.2) (fun _ _ => rfl)
      (μ := fun z => n - z.2.1.toNatClampNeg) (P := fun z => q = z.1 ∧ ∃ j, j ≤ n ∧ nI j = z.2.1 ∧ Ch σ [B + 7, B + 9] d3 z.2.2 ∧ heN W S np p (fRt W S np p i y) (n - j) j = heN W S np p (fRt W S np p i y) n 0) ?_ n (q, 0, d3) ⟨rfl, 0, by omega, rfl, Ch_rf, rfl⟩ (Nat.sub_le _ _)⟩
    rintro kk ⟨v4, v5, d4⟩ ⟨rfl, j, hj, rfl, c4, hN⟩ hk
    have c4 : Ch σ [B + 7, B + 9] d3 d4 := c4
    have w79 : ∀ i ∈ [B + 7, B + 9], i ∈ [B + 7, B + 8, B + 9] := by simp
    have c5 : Ch σ [B + 7, B + 8, B + 9] d d4 := Ch_tr c3 (Ch_w c4 w79)
    have f4 : gA d4 (σ (B + 8)) = gA d3 (σ (B + 8)) := Ch_A c4 (yB hB (by decide)) (by simp)
    have tx4 := TX_ch tx c5
    refine ⟨ho, k_tsize tx4 tw.1 hn10 ?_⟩
    show (nI n ≤ nI j → _) ∧ (¬ nI n ≤ nI j → _)
    rw [z_le (by omega) (by omega)]
    refine ⟨fun hc => ?_, fun hc => ?_⟩
    · have : j = n := by omega
      subst this
      rw [Nat.sub_self] at hN
      rw [← hN] at k; exact k d4 c5
    · have hjn : j < n := by omega
      rw [show n - j = (n - (j + 1)) + 1 by omega] at hN
      have hN : (if hdS W 0 j (fRt W S np p i y) = true ∧ relS W S np p (W (597 + 5 * j)) ≠ none then relS W S np p (W (597 + 5 * j)) else heN W S np p (fRt W S np p i y) (n - (j + 1)) (j + 1)) = _ := hN
      rw [y_8 h hB]
      refine k_holds (s := 0) h hB tx4 tw.1 hn10 hjn (fun _ => by rw [f4]; exact hF) (fun d6 c6 => ?_)
      rw [f4, hd_congr tw hjn fa]
      have c7 := Ch_tr c5 (Ch_w c6 w79)
      have tx6 := TX_ch tx4 c6
      have nx : heN W S np p (fRt W S np p i y) (n - (j + 1)) (j + 1) = heN W S np p (fRt W S np p i y) n 0 → kk (q, nI j + 1, d6) := fun e => by
        rw [z_a1]; exact hk (q, nI (j + 1), d6) ⟨rfl, j + 1, by omega, rfl, Ch_tr c4 c6, e⟩ (by simp only [z_nn (show j + 1 < 2147483648 by omega), z_nn (show j < 2147483648 by omega)]; omega)
      refine ⟨fun h0 => ⟨ho, fun _ => nx ?_, fun q2 => absurd rfl q2⟩, fun h0 => ⟨ho, k_tget (j := 0) tx6 tw.1 hn10 hjn (by decide) (fun tl tb len e0 o0 ln => ?_)⟩⟩
      · rw [b2i_0] at h0
        rw [if_neg (fun q => by rw [h0] at q; exact nomatch q.1)] at hN; exact hN
      · rw [b2i_1] at h0
        unfold LnR at ln
        rw [if_pos rfl] at ln
        obtain ⟨⟨l1, l2⟩, -⟩ := ln
        rw [show 597 + 851 * 0 + 5 * j = 597 + 5 * j by omega] at l1 l2
        rw [show j * 5 + 0 = j * 5 from rfl, l1]
        refine k_relative (cW_ch c hB (Ch_w c7 cL_789)) hB (clsR_ch C hB c7 (fun j hj => mem789 hj)) ok hp l2 ⟨ho, fun h5 => nx ?_, fun h5 => ?_⟩
        · rw [enc_m1 (n := np) (fun b hb => rel_lt ok hp hb) (by have := c.2.2.2.2.1; omega)] at h5
          rw [if_neg (fun q => q.2 h5)] at hN; exact hN
        · rw [enc_m1 (n := np) (fun b hb => rel_lt ok hp hb) (by have := c.2.2.2.2.1; omega)] at h5
          rw [if_pos ⟨h0, h5⟩] at hN
          rw [hN]; exact k d6 c7
end
