/-! texts: the class reads lines so -/
def lrH (s : Nat) (g : Nat → Int32) (j : Nat) (r : Hd) : Prop := if s = 0 then g j = r.1 else if s = 3 then g j = r.2.1 else (r.1 = 4 ∧ g j = 1 ∨ r.1 = 5 ∧ g j = -1) ∧ g (j + 1) = r.2.1 ∧ g (j + 2) = r.2.2
def lrC (s : Nat) (g : Nat → Int32) (j : Nat) (l : Ln) : Prop := lrH s g j l.1 ∧ g (j + 3) = nI l.2.1 ∧ g (j + 4) = nI l.2.2
def ltS (σ : Nat → Nat) (d : Dy) (s : Nat) (ls : List Ln) (n : Nat) : Prop := TD d (σ 47) 5 10 n ∧ ∀ i l, ls[i]? = some l → lrC s (gA d (σ 48)) (i * 5) l
def lhS (σ : Nat → Nat) (d : Dy) (B : Nat → Nat) (tl s : Nat) (c : Cd) (b : Nat) (ls : List Ln) (f : Nat) : Prop := clS σ d B tl s c b ∧ ltS σ d s ls (ls.length + 1) ∧ c.length ≤ 400 ∧ gA d (σ 48) (ls.length * 5 + 3) = nI f
abbrev txL : List Nat := [45, 47, 48, 49]
def lhK (σ : Nat → Nat) (d : Dy) (B : Nat → Nat) (tl s : Nat) (c : Cd) (ls : List Ln) (f : Nat) (R : Nat × Option Hd) (K : Int32 → Dy → Prop) : Prop := ∀ d', Ch σ txL d d' → (R.2 = none → flS σ d' R.1 → K 0 d') ∧ (∀ r, R.2 = some r → lhS σ d' B tl s c R.1 ls f → lrH s (gA d' (σ 48)) (ls.length * 5) r → K 1 d')
theorem lrH_g {s : Nat} {g g' : Nat → Int32} {j : Nat} {r : Hd} (h : lrH s g j r) (e : ∀ i, j ≤ i → i < j + 5 → g' i = g i) : lrH s g' j r := by
  unfold lrH at *
  rw [e j (by omega) (by omega), e (j + 1) (by omega) (by omega), e (j + 2) (by omega) (by omega)]
  exact h
theorem lrC_g {s : Nat} {g g' : Nat → Int32} {j : Nat} {l : Ln} (h : lrC s g j l) (e : ∀ i, j ≤ i → i < j + 5 → g' i = g i) : lrC s g' j l :=
  ⟨lrH_g h.1 e, by rw [e _ (by omega) (by omega)]; exact h.2.1, by rw [e _ (by omega) (by omega)]; exact h.2.2⟩
section
variable {σ : Nat → Nat} {E : En} {d0 d d' d2 d3 : Dy} {B : Nat → Nat} {tl s b f : Nat} {c : Cd} {ls : List Ln} {r : PR} {R : Nat × Option Hd} {K0 : Dy → Prop} {K : Int32 → Dy → Prop}
theorem cl_fr (ch : Ch σ [47, 48] d d') (cs : clS σ d B tl s c b) : clS σ d' B tl s c b := by
  obtain ⟨⟨t1, t2, t3, t4⟩, hb, g2, hs, ⟨g9, gc⟩, tk⟩ := cs
  have e : gI d' (σ 45) = gI d (σ 45) := Ch_I ch (by decide) (by decide)
  have e6 : gA d' (σ 46) = gA d (σ 46) := Ch_A ch (by decide) (by decide)
  have e9 : gA d' (σ 49) = gA d (σ 49) := Ch_A ch (by decide) (by decide)
  unfold tkB at tk
  exact ⟨⟨t1, t2, by rw [e]; exact t3, by rw [e6]; exact t4⟩, hb, by rw [e]; exact g2, hs, ⟨by rw [e]; exact g9, by rw [e9]; exact gc⟩, by unfold tkB; rw [e]; exact tk⟩
theorem tb_fr {n : Nat} (ch : Ch σ [45, 49] d d') (tb : ltS σ d s ls n) : ltS σ d' s ls n := by
  have e : gI d' (σ 47) = gI d (σ 47) := Ch_I ch (by decide) (by decide)
  have e8 : gA d' (σ 48) = gA d (σ 48) := Ch_A ch (by decide) (by decide)
  unfold ltS TD at *
  rw [e, e8]; exact tb
theorem hK_ch (ch : Ch σ txL d d') (k : lhK σ d B tl s c ls f R K) : lhK σ d' B tl s c ls f R K := fun d2 h2 => k d2 (Ch_tr ch h2)
theorem hd_next (h : Env σ E) (H : lhS σ d B tl s c b ls f) (k : ∀ d', Ch σ txL d d' → gA d' (σ 48) = gA d (σ 48) → lhS σ d' B tl s c (nB B tl b) ls f → K0 d') : w_X2_next E (σ 45) d K0 := by
  obtain ⟨cs, tb, l, g⟩ := H
  refine k_nextB h cs (fun d1 ch1 cs1 => ?_)
  have e8 : gA d1 (σ 48) = gA d (σ 48) := Ch_A ch1 (by decide) (by decide)
  exact k d1 (Ch_w ch1 (by decide)) e8 ⟨cs1, tb_fr ch1 tb, l, by rw [e8]; exact g⟩
theorem hd_set (h : Env σ E) (H : lhS σ d B tl s c b ls f) {j : Nat} (hj : j < 3) {x : Int32} (k : ∀ d', Ch σ txL d d' → (∀ i, gA d' (σ 48) i = if i = ls.length * 5 + j then x else gA d (σ 48) i) → lhS σ d' B tl s c b ls f → K0 d') : w_X6_set E (σ 47) (nI ls.length) (nI j) x d K0 := by
  obtain ⟨cs, tb, l, g⟩ := H
  refine T_set (te_47 h) tb.1 (by omega) (by omega) ?_
  have ch : Ch σ [47, 48] d (pA d (σ 48) (ls.length * 5 + j) x) := Ch_pA h (by decide) (by decide)
  have e8 : ∀ i, gA (pA d (σ 48) (ls.length * 5 + j) x) (σ 48) i = if i = ls.length * 5 + j then x else gA d (σ 48) i := fun i => by rw [gA_pA]
  refine k _ (Ch_w ch (by decide)) e8 ⟨cl_fr ch cs, ⟨tb.1, fun i q hq => lrC_g (tb.2 i q hq) (fun i' h1 h2 => ?_)⟩, l, ?_⟩
  · have : i < ls.length := (List.getElem?_eq_some_iff.mp hq).1
    rw [e8, if_neg (by omega)]
  · rw [e8, if_neg (by omega)]; exact g
theorem hK_bad (k : lhK σ d B tl s c ls f R K) (e : R = (b, none)) (H : lhS σ d B tl s c b ls f) : K 0 d := by rw [e] at k; exact (k d Ch_rf).1 rfl (cl_fl H.1 H.2.2.1)
theorem hK_good (k : lhK σ d B tl s c ls f R K) {q : Hd} (e : R = (b, some q)) (H : lhS σ d B tl s c b ls f) (hr : lrH s (gA d (σ 48)) (ls.length * 5) q) : K 1 d := by rw [e] at k; exact (k d Ch_rf).2 q rfl H hr
theorem vB_lt (hB : ∀ k, B k < 256) (z : thB B tl b = 30) : vB B tl b < 10000 := by
  unfold thB at z
  by_cases q : tl ≤ b
  · rw [if_pos q] at z; exact absurd z (by decide)
  · rw [if_neg q] at z
    by_cases ir : inR B tl 48 57 b = true
    · rw [if_pos ir] at z
      by_cases w : skG B tl 48 57 b - b ≤ 4
      · have aaf : afB B tl b = skG B tl 48 57 b := by unfold afB; rw [if_neg q, if_pos ir]
        unfold vB
        rw [aaf]
        have v := vl_lt hB (b := b) (skG B tl 48 57 b - b) (fun k hk => (inR_iff.mp (sk_in (tl - b) b (Nat.le_refl _) (b + k) (by omega) (by omega))).2)
        exact Nat.lt_of_lt_of_le v (Nat.pow_le_pow_right (by decide) w)
      · rw [if_neg w] at z; exact absurd z (by decide)
    · rw [if_neg ir] at z
      by_cases il : inR B tl 97 122 b = true
      · rw [if_pos il] at z; exact absurd z (tw_ne30 wdC 0 (by decide))
      · rw [if_neg il] at z
        by_cases sg : sgB (B b) = true
        · rw [if_pos sg] at z; rw [z] at sg; exact nomatch sg
        · rw [if_neg sg] at z; exact absurd z (by decide)
theorem k_right (h : Env σ E) (H : lhS σ d B tl 0 c b ls f) (k : lhK σ d B tl 0 c ls f (pHd B tl 0 b) K) : w_X2_readRight E (σ 45) (nI ls.length) d K := by
  have hB := H.1.1.2.1
  have g5 := H.1.2.2.2.2.2.2.2.1
  have ht := th_le hB (tl := tl) (b := b)
  have ht2 := th_le hB (tl := tl) (b := nB B tl b)
  unfold pHd at k
  rw [if_pos rfl] at k
  simp only [w_X2_readRight, x_45_7 h]
  refine ⟨eo_45 h, fun z => ?_, fun z => ?_⟩
  · have z := (z_eq (b := 13) (by omega) (by decide)).mp (g5.symm.trans z)
    rw [if_pos z] at k
    refine hd_next h H (fun d1 ch1 e1 H1 => ?_)
    have k := hK_ch ch1 k
    have g5' := H1.1.2.2.2.2.2.2.2.1
    rw [g5']
    refine ⟨fun z1 => ?_, fun z1 => ⟨fun z2 => ?_, fun z2 => ?_⟩⟩
    · have z1 := (z_lt (b := 9) (by omega) (by decide)).mp z1
      rw [if_neg (by omega)] at k
      exact hK_bad k rfl H1
    · have z1 : ¬ thB B tl (nB B tl b) < 9 := fun q => z1 ((z_lt (b := 9) (by omega) (by decide)).mpr q)
      have z2 := (z_le (b := 12) (by omega) (by decide)).mp z2
      rw [if_pos ⟨by omega, z2⟩] at k
      refine hd_set (j := 0) h H1 (by decide) (fun d2 ch2 e2 H2 => hd_next h H2 (fun d3 ch3 e3 H3 => hK_good (hK_ch (Ch_tr ch2 ch3) k) rfl H3 ?_))
      unfold lrH
      rw [if_pos rfl, e3, e2, if_pos (show ls.length * 5 = ls.length * 5 + 0 from rfl), show (9 : Int32) = nI 9 from rfl, z_sub (by omega)]
    · have z2 : ¬ thB B tl (nB B tl b) ≤ 12 := fun q => z2 ((z_le (b := 12) (by omega) (by decide)).mpr q)
      rw [if_neg (by omega)] at k
      exact hK_bad k rfl H1
  · rw [if_neg (fun q => z (g5.trans (by rw [q]; rfl)))] at k
    exact hK_bad k rfl H
theorem k_colour (h : Env σ E) (H : lhS σ d B tl 3 c b ls f) (k : lhK σ d B tl 3 c ls f (pHd B tl 3 b) K) : w_X2_readColour E (σ 45) (nI ls.length) d K := by
  have hB := H.1.1.2.1
  have g5 := H.1.2.2.2.2.2.2.2.1
  have ht := th_le hB (tl := tl) (b := b)
  have ht2 := th_le hB (tl := tl) (b := nB B tl b)
  unfold pHd at k
  rw [if_neg (by decide), if_pos rfl] at k
  simp only [w_X2_readColour, x_45_7 h]
  refine ⟨eo_45 h, fun z => ?_, fun z => ?_⟩
  · have z := (z_eq (b := 17) (by omega) (by decide)).mp (g5.symm.trans z)
    rw [if_pos z] at k
    refine hd_next h H (fun d1 ch1 e1 H1 => ?_)
    have k := hK_ch ch1 k
    have g5' := H1.1.2.2.2.2.2.2.2.1
    have g6 := H1.1.2.2.2.2.2.2.2.2
    refine ⟨fun z1 => ?_, fun z1 => ?_⟩
    · rw [if_neg (fun q => z1 (g5'.trans (by rw [q.1]; rfl)))] at k
      exact hK_bad k rfl H1
    · have z1 := (z_eq (b := 30) (by omega) (by decide)).mp (g5'.symm.trans z1)
      have hv := vB_lt hB z1
      rw [g6 z1]
      refine ⟨fun z2 => ?_, fun z2 => ?_⟩
      · have z2 := (z_le (b := 7) (by omega) (by decide)).mp z2
        rw [if_pos ⟨z1, z2⟩] at k
        refine hd_set (j := 0) h H1 (by decide) (fun d2 ch2 e2 H2 => hd_next h H2 (fun d3 ch3 e3 H3 => hK_good (hK_ch (Ch_tr ch2 ch3) k) rfl H3 ?_))
        unfold lrH
        rw [if_neg (by decide), if_pos rfl, e3, e2, if_pos (show ls.length * 5 = ls.length * 5 + 0 from rfl)]
      · rw [if_neg (fun q => z2 ((z_le (b := 7) (by omega) (by decide)).mpr q.2))] at k
        exact hK_bad k rfl H1
  · rw [if_neg (fun q => z (g5.trans (by rw [q]; rfl)))] at k
    exact hK_bad k rfl H
theorem k_amount (h : Env σ E) (hs0 : s ≠ 0) (hs3 : s ≠ 3) (H : lhS σ d B tl s c b ls f) (hm : gA d (σ 48) (ls.length * 5 + 2) = -1) (k : lhK σ d B tl s c ls f (pHd B tl s b) K) : w_X2_readAmount E (σ 45) (nI ls.length) d K := by
  have hB := H.1.1.2.1
  have g5 := H.1.2.2.2.2.2.2.2.1
  have ht := th_le hB (tl := tl) (b := b)
  unfold pHd at k
  rw [if_neg hs0, if_neg hs3] at k
  have go : ∀ x : Int32, (thB B tl b = 15 ∧ x = 1) ∨ (thB B tl b = 16 ∧ x = -1) → b_X2_readAmount_40 E (σ 45) (nI ls.length) K (σ 47) (nI ls.length) 0 x d := fun x hx => by
    rw [if_pos (by omega)] at k
    have e45 : (if thB B tl b = 15 then (4 : Int32) else 5) = 4 ∧ x = 1 ∨ (if thB B tl b = 15 then (4 : Int32) else 5) = 5 ∧ x = -1 := by
      rcases hx with q | q
      · left; rw [if_pos q.1]; exact ⟨rfl, q.2⟩
      · right; rw [if_neg (by omega)]; exact ⟨rfl, q.2⟩
    simp only [b_X2_readAmount_40, x_45_7 h]
    refine ⟨eo_47 h, hd_set (j := 0) h H (by decide) (fun d1 ch1 e1 H1 => hd_next h H1 (fun d2 ch2 e2 H2 => ?_))⟩
    have k := hK_ch (Ch_tr ch1 ch2) k
    have ht2 := th_le hB (tl := tl) (b := nB B tl b)
    have g5' := H2.1.2.2.2.2.2.2.2.1
    have g6 := H2.1.2.2.2.2.2.2.2.2
    refine ⟨fun z1 => ?_, fun z1 => ?_⟩
    · have z1 := (z_eq (b := 30) (by omega) (by decide)).mp (g5'.symm.trans z1)
      rw [g6 z1]
      rw [if_pos z1] at k
      refine hd_set (j := 1) h H2 (by decide) (fun d3 ch3 e3 H3 => hd_next h H3 (fun d4 ch4 e4 H4 => ?_))
      have k := hK_ch (Ch_tr ch3 ch4) k
      have ht3 := th_le hB (tl := tl) (b := nB B tl (nB B tl b))
      have g5'' := H4.1.2.2.2.2.2.2.2.1
      have c0 : gA d4 (σ 48) (ls.length * 5) = x := by rw [e4, e3, if_neg (by omega), e2, e1, if_pos (show ls.length * 5 = ls.length * 5 + 0 from rfl)]
      have c1 : gA d4 (σ 48) (ls.length * 5 + 1) = nI (vB B tl (nB B tl b)) := by rw [e4, e3, if_pos rfl]
      have c2 : gA d4 (σ 48) (ls.length * 5 + 2) = -1 := by rw [e4, e3, if_neg (by omega), e2, e1, if_neg (by omega)]; exact hm
      refine ⟨fun z2 => ?_, fun z2 => ?_⟩
      · have z2 := (z_eq (b := 42) (by omega) (by decide)).mp (g5''.symm.trans z2)
        rw [if_pos z2] at k
        refine hd_next h H4 (fun d5 ch5 e5 H5 => k_isFact h H5.1 (fun q => ⟨fun _ => ?_, fun w => absurd w (by decide)⟩) (fun q => ⟨fun w => absurd rfl w, fun _ => ?_⟩))
        · rw [if_pos q] at k
          have k := hK_ch ch5 k
          rw [H5.1.2.2.2.2.2.2.2.1]
          refine hd_set (j := 2) h H5 (by decide) (fun d6 ch6 e6 H6 => hd_next h H6 (fun d7 ch7 e7 H7 => hK_good (hK_ch (Ch_tr ch6 ch7) k) rfl H7 ?_))
          have a0 : gA d7 (σ 48) (ls.length * 5) = x := by rw [e7, e6, if_neg (by omega), e5, c0]
          have a1 : gA d7 (σ 48) (ls.length * 5 + 1) = nI (vB B tl (nB B tl b)) := by rw [e7, e6, if_neg (by omega), e5, c1]
          have a2 : gA d7 (σ 48) (ls.length * 5 + 2) = nI (thB B tl (nB B tl (nB B tl (nB B tl b)))) := by rw [e7, e6, if_pos rfl]
          unfold lrH
          rw [if_neg hs0, if_neg hs3, a0, a1, a2]
          exact ⟨e45, rfl, rfl⟩
        · rw [if_neg (by rw [q]; decide)] at k
          exact hK_bad (hK_ch ch5 k) rfl H5
      · rw [if_neg (fun q => z2 (g5''.trans (by rw [q]; rfl)))] at k
        refine hK_good k rfl H4 ?_
        unfold lrH
        rw [if_neg hs0, if_neg hs3, c0, c1, c2]
        exact ⟨e45, rfl, rfl⟩
    · rw [if_neg (fun q => z1 (g5'.trans (by rw [q]; rfl)))] at k
      exact hK_bad k rfl H2
  have w20 : thB B tl b = 15 ∨ thB B tl b = 16 → b_X2_readAmount_20 E (σ 45) (nI ls.length) K d := fun hq => by
    simp only [b_X2_readAmount_20, x_45_7 h]
    refine ⟨fun z => go (-1) (Or.inr ⟨?_, rfl⟩), fun z => go 1 (Or.inl ⟨(z_eq (b := 15) (by omega) (by decide)).mp (g5.symm.trans z), rfl⟩)⟩
    rcases hq with q | q
    · exact absurd (g5.trans (by rw [q]; rfl)) z
    · exact q
  refine ⟨eo_45 h, fun z => w20 (Or.inl ((z_eq (b := 15) (by omega) (by decide)).mp (g5.symm.trans z))), fun z => ⟨fun z2 => w20 (Or.inr ((z_eq (b := 16) (by omega) (by decide)).mp (g5.symm.trans z2))), fun z2 => ?_⟩⟩
  rw [if_neg (fun hq => by
    rcases hq with q | q
    · exact z (g5.trans (by rw [q]; rfl))
    · exact z2 (g5.trans (by rw [q]; rfl)))] at k
  exact hK_bad k rfl H
end
theorem lrH_g5 {s : Nat} {g g' : Nat → Int32} {j : Nat} {r : Hd} (h : lrH s g j r) (e : ∀ i, j ≤ i → i < j + 3 → g' i = g i) : lrH s g' j r := by
  unfold lrH at *
  rw [e j (by omega) (by omega), e (j + 1) (by omega) (by omega), e (j + 2) (by omega) (by omega)]
  exact h
