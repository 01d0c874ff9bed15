theorem rs0_ok {W : Nat → Int32} (hW : WI W) : rsOK (cnt W 0) (cnt W 1) (rs0 W) := by
  refine ⟨fun p hp q hq => absurd (show (none : Option Nat) = some q from hq) (fun q => nomatch q), fun i hi p hp => ?_, fun i hi => hi, fun i hi => ⟨i, hi, rfl⟩⟩
  have hp : (if W (51 + 7 * i) = -1 then none else some (cnt W (51 + 7 * i))) = some p := hp
  obtain ⟨-, o, -⟩ := hW.2.2 1 (by decide) i hi
  have o : W (50 + 7 * i + 1) = -1 ∨ lx (W (50 + 7 * i + 1)) (cnt W 0) := o
  rw [show 50 + 7 * i + 1 = 51 + 7 * i by omega] at o
  rcases o with o | ⟨q, hq, o⟩
  · rw [if_pos o] at hp; cases hp
  · rw [if_neg (by rw [o]; exact z_ne1 (by have := (hW.1 0 (by decide) (by decide)).2; have : cnt W 0 ≤ 12 := this; omega))] at hp
    cases hp
    show (W (51 + 7 * i)).toNatClampNeg < _
    rw [o, z_nn (by have := (hW.1 0 (by decide) (by decide)).2; have : cnt W 0 ≤ 12 := this; omega)]; exact hq
theorem rs0_H {W : Nat → Int32} (hW : WI W) {i : Nat} (hi : i < cnt W 1) : W (51 + 7 * i) = encO (rsH (rs0 W) i) := by
  obtain ⟨-, o, -⟩ := hW.2.2 1 (by decide) i hi
  have o : W (50 + 7 * i + 1) = -1 ∨ lx (W (50 + 7 * i + 1)) (cnt W 0) := o
  rw [show 50 + 7 * i + 1 = 51 + 7 * i by omega] at o
  have h12 : cnt W 0 ≤ 12 := (hW.1 0 (by decide) (by decide)).2
  show _ = encO (if W (51 + 7 * i) = -1 then none else some (cnt W (51 + 7 * i)))
  rcases o with o | ⟨q, hq, o⟩
  · rw [if_pos o, o]; rfl
  · have hm : ¬ W (51 + 7 * i) = -1 := by rw [o]; exact z_ne1 (by omega)
    rw [if_neg hm]
    show _ = nI (W (51 + 7 * i)).toNatClampNeg
    rw [o, z_nn (by omega)]
theorem evs_lt {W : Nat → Int32} {Y : Nat} {kn : Int32} {e : Nat} (h : e ∈ evs W Y kn) : e < cnt W 2 := upto_lt (List.mem_filter.mp h).1
theorem fold_ok {W : Nat → Int32} (hW : WI W) : ∀ (l : List Nat) (S : RS), (∀ e ∈ l, e < cnt W 2) → rsOK (cnt W 0) (cnt W 1) S → rsOK (cnt W 0) (cnt W 1) (l.foldl (hapS W (cnt W 0) (cnt W 1)) S)
  | [], S, _, ok => ok
  | e :: l, S, hl, ok => fold_ok hW l _ (fun x hx => hl x (List.mem_cons_of_mem _ hx)) (hap_ok hW rfl rfl ok (hl e List.mem_cons_self))
theorem rep_ok {W : Nat → Int32} (hW : WI W) {Y : Nat} {kn : Int32} : rsOK (cnt W 0) (cnt W 1) (repS W (cnt W 0) (cnt W 1) Y kn) := fold_ok hW _ _ (fun _ he => evs_lt he) (rs0_ok hW)
section
variable {σ : Nat → Nat} {E : En} {d d' d2 d3 : Dy} {W : Nat → Int32} {np nh : Nat} {S : RS} {K : Int32 → Dy → Prop} {K0 : Dy → Prop}
def goL : List Nat := [87, 92, 93, 94, 95, 96, 97, 98, 99, 100, 101, 102]
def arL : List Nat := [95, 96, 97, 98, 99, 100, 101, 102]
/-- the reference begins: persons before p, huts before i, events before e -/
def bgP (σ : Nat → Nat) (np : Nat) (d : Dy) (p : Nat) : Prop := ∀ a, a < p → gA d (σ 95) a = 1 ∧ gA d (σ 96) a = -1 ∧ ∀ b, b < np → gA d (σ 97) (12 * a + b) = 0
def bgH (σ : Nat → Nat) (W : Nat → Int32) (d : Dy) (i : Nat) : Prop := ∀ a, a < i → gA d (σ 98) a = W (51 + 7 * a) ∧ gA d (σ 99) a = 1900 ∧ gA d (σ 100) a = nI a
def bgE (σ : Nat → Nat) (d : Dy) (e : Nat) : Prop := ∀ a, a < e → gA d (σ 101) a = 0 ∧ gA d (σ 102) a = 0
theorem r_goes_141 (h : Env σ E) (g : gW σ d W np nh) (R : refR σ np nh d (rs0 W)) {l : List Nat} (sr : srR σ d l) (hl : ∀ e ∈ l, e < cnt W 2) (hle : l.length ≤ 40) {y kn : Int32} (k : ∀ d', Ch σ hpL d d' → refR σ np nh d' (l.foldl (hapS W np nh) (rs0 W)) → K0 d') : ∃ N, l_X11_goes_141 E (σ 87) y kn K0 N 0 d := by
  obtain ⟨eW, hW, tw, e0, e1, n0, n1, hnp, hnh⟩ := id g
  refine ⟨l.length + 1, loopG (S := Int32 × Dy) (l := fun N z => l_X11_goes_141 E (σ 87) y kn K0 N z.1 z.2) (b := fun kk z => b_X11_goes_141 E (σ 87) y kn K0 (fun a b => kk (a, b)) z.1 z.2) (fun _ _ => rfl)
    (μ := fun z => l.length - z.1.toNatClampNeg) (P := fun z => ∃ j, j ≤ l.length ∧ nI j = z.1 ∧ Ch σ hpL d z.2 ∧ refR σ np nh z.2 ((l.take j).foldl (hapS W np nh) (rs0 W))) ?_ l.length (0, d) ⟨0, by omega, rfl, Ch_rf, R⟩ (Nat.sub_le _ _)⟩
  rintro kk ⟨v, d3⟩ ⟨j, hj, rfl, c3, R3⟩ hk
  have c3 : Ch σ hpL d d3 := c3
  have R3 : refR σ np nh d3 ((l.take j).foldl (hapS W np nh) (rs0 W)) := R3
  have s3 := srR_ch sr c3 (by decide) (by decide)
  simp only [b_X11_goes_141, x_87_16 h, en_94 h, s3.1, z_nn (show j < 2147483648 by omega)]
  rw [z_le (by omega) (by omega)]
  refine ⟨fun hc => ?_, fun hc => ⟨vpi (by omega) (by decide), ?_⟩⟩
  · rw [List.take_of_length_le hc] at R3; exact k d3 c3 R3
  · have hjl : j < l.length := by omega
    rw [s3.2 j hjl]
    have hm : l.getD j 0 ∈ l := by rw [List.getD_eq_getElem?_getD, List.getElem?_eq_getElem hjl]; exact List.getElem_mem hjl
    refine r_happens h (gW_ch g c3 (by decide)) R3 ?_ (hl _ hm) (fun d4 c4 R4 => ?_)
    · have hh := fold_ok hW (l.take j) (rs0 W) (fun x hx => hl x (List.mem_of_mem_take hx)) (rs0_ok hW)
      rw [← n0, ← n1] at hh; exact hh
    · rw [z_a1]
      refine hk (nI (j + 1), d4) ⟨j + 1, by omega, rfl, Ch_tr c3 c4, ?_⟩ (by simp only [z_nn (show j + 1 < 2147483648 by omega), z_nn (show j < 2147483648 by omega)]; omega)
      have et : l.take (j + 1) = l.take j ++ [l.getD j 0] := by
        rw [List.take_succ, List.getD_eq_getElem?_getD, List.getElem?_eq_getElem hjl]; rfl
      rw [et, List.foldl_append]; exact R4
theorem r_goes_113 (h : Env σ E) (g : gW σ d W np nh) (bp : bgP σ np d np) (bh : bgH σ W d nh) {l : List Nat} (sr : srR σ d l) (hl : ∀ e ∈ l, e < cnt W 2) (hle : l.length ≤ 40) {y kn : Int32} (k : ∀ d', Ch σ hpL d d' → refR σ np nh d' (l.foldl (hapS W np nh) (rs0 W)) → K0 d') : ∃ N, l_X11_goes_113 E (σ 87) y kn K0 N 0 d := by
  obtain ⟨eW, hW, tw, e0, e1, n0, n1, hnp, hnh⟩ := id g
  obtain ⟨N, hN⟩ : ∃ N : Nat, N = 40 := ⟨40, rfl⟩
  have en1 : eN E (σ 101) = N := (en_101 h).trans hN.symm
  have en2 : eN E (σ 102) = N := (en_102 h).trans hN.symm
  have e40 : (40 : Int32) = nI N := by rw [hN]; rfl
  refine ⟨N + 1, loopG (S := Int32 × Dy) (l := fun N z => l_X11_goes_113 E (σ 87) y kn K0 N z.1 z.2) (b := fun kk z => b_X11_goes_113 E (σ 87) y kn K0 (fun a b => kk (a, b)) z.1 z.2) (fun _ _ => rfl)
    (μ := fun z => N - z.1.toNatClampNeg) (P := fun z => ∃ j, j ≤ N ∧ nI j = z.1 ∧ Ch σ [101, 102] d z.2 ∧ bgE σ z.2 j) ?_ N (0, d) ⟨0, by omega, rfl, Ch_rf, fun a ha => absurd ha (Nat.not_lt_zero a)⟩ (Nat.sub_le _ _)⟩
  rintro kk ⟨v, d3⟩ ⟨j, hj, rfl, c3, b3⟩ hk
  have c3 : Ch σ [101, 102] d d3 := c3
  have b3 : bgE σ d3 j := b3
  simp only [b_X11_goes_113, x_87_24 h, x_87_25 h, en1, en2, z_nn (show j < 2147483648 by omega), vpnB.1, e40]
  rw [z_le (by omega) (by omega)]
  refine ⟨fun hc => ?_, fun hc => ⟨vpi (by omega) (by omega), vpi (by omega) (by omega), ?_⟩⟩
  · refine r_goes_141 h (gW_ch g c3 (by decide)) ?_ (srR_ch sr c3 (by decide) (by decide)) hl hle (fun d4 c4 R4 => k d4 (Ch_tr (Ch_w c3 (by decide)) c4) R4)
    unfold refR
    rw [Ch_A c3 (by decide) (by decide), Ch_A c3 (by decide) (by decide), Ch_A c3 (by decide) (by decide), Ch_A c3 (by decide) (by decide), Ch_A c3 (by decide) (by decide), Ch_A c3 (by decide) (by decide)]
    refine ⟨fun p hp => ⟨(bp p hp).1, (bp p hp).2.1⟩, fun p hp q hq => (bp p hp).2.2 q hq, fun i hi => ⟨(bh i hi).1.trans (rs0_H hW (by omega)), (bh i hi).2.1, (bh i hi).2.2⟩, fun e he => b3 e (by omega)⟩
  · have ne : σ 101 ≠ σ 102 := Env_ne h (by decide) (by decide) (by decide)
    rw [z_a1]
    refine hk (nI (j + 1), _) ⟨j + 1, by omega, rfl, Ch_tr c3 (Ch_tr (Ch_pA h (i := 101) (by decide) (by decide)) (Ch_pA h (i := 102) (by decide) (by decide))), fun a ha => ?_⟩ (by simp only [z_nn (show j + 1 < 2147483648 by omega), z_nn (show j < 2147483648 by omega)]; omega)
    show gA (pA (pA d3 (σ 101) j 0) (σ 102) j 0) (σ 101) a = 0 ∧ gA (pA (pA d3 (σ 101) j 0) (σ 102) j 0) (σ 102) a = 0
    rw [gA_pA_ne _ _ _ ne, gA_pA, gA_pA, gA_pA_ne _ _ _ (fun q => ne q.symm)]
    show (if a = j then (0 : Int32) else gA d3 (σ 101) a) = 0 ∧ (if a = j then (0 : Int32) else gA d3 (σ 102) a) = 0
    by_cases q : a = j
    · rw [if_pos q, if_pos q]; exact ⟨rfl, rfl⟩
    · rw [if_neg q, if_neg q]; exact b3 a (by omega)
theorem r_goes_69 (h : Env σ E) (g : gW σ d W np nh) (bp : bgP σ np d np) {l : List Nat} (sr : srR σ d l) (hl : ∀ e ∈ l, e < cnt W 2) (hle : l.length ≤ 40) {y kn : Int32} (k : ∀ d', Ch σ hpL d d' → refR σ np nh d' (l.foldl (hapS W np nh) (rs0 W)) → K0 d') : ∃ N, l_X11_goes_69 E (σ 87) y kn K0 N 0 d := by
  obtain ⟨eW, hW, tw, e0, e1, n0, n1, hnp, hnh⟩ := id g
  refine ⟨nh + 1, loopG (S := Int32 × Dy) (l := fun N z => l_X11_goes_69 E (σ 87) y kn K0 N z.1 z.2) (b := fun kk z => b_X11_goes_69 E (σ 87) y kn K0 (fun a b => kk (a, b)) z.1 z.2) (fun _ _ => rfl)
    (μ := fun z => nh - z.1.toNatClampNeg) (P := fun z => ∃ j, j ≤ nh ∧ nI j = z.1 ∧ Ch σ [98, 99, 100] d z.2 ∧ bgH σ W z.2 j) ?_ nh (0, d) ⟨0, by omega, rfl, Ch_rf, fun a ha => absurd ha (Nat.not_lt_zero a)⟩ (Nat.sub_le _ _)⟩
  rintro kk ⟨v, d3⟩ ⟨j, hj, rfl, c3, b3⟩ hk
  have c3 : Ch σ [98, 99, 100] d d3 := c3
  have b3 : bgH σ W d3 j := b3
  have g3 := gW_ch g c3 (by decide)
  refine r_huts h ?_
  rw [g3.1, e1]
  simp only [x_87_21 h, x_87_22 h, x_87_23 h, en_98 h, en_99 h, en_100 h, z_nn (show j < 2147483648 by omega)]
  rw [z_le (by omega) (by omega)]
  refine ⟨fun hc => ?_, fun hc => r_ofHut (c := 1) h (by omega) (by decide) ?_⟩
  · have : j = nh := by omega
    subst this
    refine r_goes_113 h g3 ?_ b3 (srR_ch sr c3 (by decide) (by decide)) hl hle (fun d4 c4 R4 => k d4 (Ch_tr (Ch_w c3 (by decide)) c4) R4)
    unfold bgP
    rw [Ch_A c3 (by decide) (by decide), Ch_A c3 (by decide) (by decide), Ch_A c3 (by decide) (by decide)]; exact bp
  · rw [g3.1, show 50 + 7 * j + 1 = 51 + 7 * j by omega]
    have n1 : σ 98 ≠ σ 99 := Env_ne h (by decide) (by decide) (by decide)
    have n2 : σ 98 ≠ σ 100 := Env_ne h (by decide) (by decide) (by decide)
    have n3 : σ 99 ≠ σ 100 := Env_ne h (by decide) (by decide) (by decide)
    rw [z_a1]
    refine ⟨vpi (by omega) (by decide), vpi (by omega) (by decide), vpi (by omega) (by decide), hk (nI (j + 1), _) ⟨j + 1, by omega, rfl, Ch_tr c3 (Ch_tr (Ch_tr (Ch_pA h (i := 98) (by decide) (by decide)) (Ch_pA h (i := 99) (by decide) (by decide))) (Ch_pA h (i := 100) (by decide) (by decide))), fun a ha => ?_⟩ (by simp only [z_nn (show j + 1 < 2147483648 by omega), z_nn (show j < 2147483648 by omega)]; omega)⟩
    show gA (pA (pA (pA d3 (σ 98) j (W (51 + 7 * j))) (σ 99) j 1900) (σ 100) j (nI j)) (σ 98) a = _ ∧ gA (pA (pA (pA d3 (σ 98) j (W (51 + 7 * j))) (σ 99) j 1900) (σ 100) j (nI j)) (σ 99) a = _ ∧ gA (pA (pA (pA d3 (σ 98) j (W (51 + 7 * j))) (σ 99) j 1900) (σ 100) j (nI j)) (σ 100) a = _
    rw [gA_pA_ne _ _ _ n2, gA_pA_ne _ _ _ n1, gA_pA, gA_pA_ne _ _ _ n3, gA_pA, gA_pA_ne _ _ _ (fun q => n1 q.symm), gA_pA, gA_pA_ne _ _ _ (fun q => n3 q.symm), gA_pA_ne _ _ _ (fun q => n2 q.symm)]
    show (if a = j then W (51 + 7 * j) else gA d3 (σ 98) a) = _ ∧ (if a = j then (1900 : Int32) else gA d3 (σ 99) a) = _ ∧ (if a = j then nI j else gA d3 (σ 100) a) = _
    by_cases q : a = j
    · subst q; rw [if_pos rfl, if_pos rfl, if_pos rfl]; exact ⟨rfl, rfl, rfl⟩
    · rw [if_neg q, if_neg q, if_neg q]; exact b3 a (by omega)
theorem r_goes (h : Env σ E) (g : gW σ d W np nh) {Y : Nat} {kn : Int32} (hY1 : 1900 ≤ Y) (hY2 : Y ≤ 2099) (k : ∀ d', Ch σ goL d d' → same17 σ d d' → refR σ np nh d' (repS W np nh Y kn) → K0 d') : w_X11_goes E (σ 87) (nI Y) kn d K0 := by
  obtain ⟨eW, hW, tw, e0, e1, n0, n1, hnp, hnh⟩ := id g
  refine ⟨eo_87 h, r_sorts h g hY1 hY2 (fun d1 c1 s1 r1 => ?_)⟩
  have hle : (evs W Y kn).length ≤ 40 := by
    have := List.length_filter_le (fun e => decide (W (125 + 6 * e) ≤ kn)) (upto (kyI W 2) (cnt W 2) Y)
    have h2 := List.length_filter_le (fun e => decide ((kyI W 2 e).toNatClampNeg ≤ Y)) (ordr (kyI W 2) (cnt W 2))
    rw [ordr_len] at h2
    have h3 : cnt W 2 ≤ 40 := (hW.1 2 (by decide) (by decide)).2
    unfold evs
    unfold upto at this
    unfold upto
    omega
  have g1 := gW_ch g c1 (by decide)
  have kf : ∀ d2, Ch σ [95, 96, 97] d1 d2 → bgP σ np d2 np → ∃ N, l_X11_goes_69 E (σ 87) (nI Y) kn K0 N 0 d2 := fun d2 c2 b2 =>
    r_goes_69 h (gW_ch g1 c2 (by decide)) b2 (srR_ch r1 c2 (by decide) (by decide)) (fun e he => evs_lt he) hle (fun d3 c3 R3 => k d3 (Ch_tr (Ch_w c1 (by decide)) (Ch_tr (Ch_w c2 (by decide)) (Ch_w c3 (by decide)))) (same17_ch (same17_ch s1 c2 (by decide)) c3 (by decide)) R3)
  refine ⟨np + 1, loopG (S := Int32 × Dy) (l := fun N z => l_X11_goes_8 E (σ 87) (nI Y) kn K0 N z.1 z.2) (b := fun kk z => b_X11_goes_8 E (σ 87) (nI Y) kn K0 (fun a b => kk (a, b)) z.1 z.2) (fun _ _ => rfl)
    (μ := fun z => np - z.1.toNatClampNeg) (P := fun z => ∃ j, j ≤ np ∧ nI j = z.1 ∧ Ch σ [95, 96, 97] d1 z.2 ∧ bgP σ np z.2 j) ?_ np (0, d1) ⟨0, by omega, rfl, Ch_rf, fun a ha => absurd ha (Nat.not_lt_zero a)⟩ (Nat.sub_le _ _)⟩
  rintro kk ⟨v, d3⟩ ⟨j, hj, rfl, c3, b3⟩ hk
  have c3 : Ch σ [95, 96, 97] d1 d3 := c3
  have b3 : bgP σ np d3 j := b3
  have g3 := gW_ch g1 c3 (by decide)
  refine r_persons h ?_
  rw [g3.1, e0]
  show (nI np ≤ nI j → _) ∧ (¬ nI np ≤ nI j → _)
  rw [z_le (by omega) (by omega)]
  refine ⟨fun hc => ?_, fun hc => ?_⟩
  · have : j = np := by omega
    subst this
    exact kf d3 c3 b3
  · simp only [x_87_18 h, x_87_19 h, en_95 h, en_96 h, z_nn (show j < 2147483648 by omega), vpnB.2]
    refine ⟨vpi (by omega) (by decide), vpi (by omega) (by decide), ?_⟩
    have m1 : σ 95 ≠ σ 96 := Env_ne h (by decide) (by decide) (by decide)
    have m2 : σ 95 ≠ σ 97 := Env_ne h (by decide) (by decide) (by decide)
    have m3 : σ 96 ≠ σ 97 := Env_ne h (by decide) (by decide) (by decide)
    have c4 : Ch σ [95, 96, 97] d1 (pA (pA d3 (σ 95) j 1) (σ 96) j (-1)) := Ch_tr c3 (Ch_tr (Ch_pA h (i := 95) (by decide) (by decide)) (Ch_pA h (i := 96) (by decide) (by decide)))
    have b4 : bgP σ np (pA (pA d3 (σ 95) j 1) (σ 96) j (-1)) j ∧ gA (pA (pA d3 (σ 95) j 1) (σ 96) j (-1)) (σ 95) j = 1 ∧ gA (pA (pA d3 (σ 95) j 1) (σ 96) j (-1)) (σ 96) j = -1 := by
      unfold bgP
      rw [gA_pA_ne _ _ _ m1, gA_pA, gA_pA, gA_pA_ne _ _ _ (fun q => m1 q.symm), gA_pA_ne _ _ _ (fun q => m3 q.symm), gA_pA_ne _ _ _ (fun q => m2 q.symm)]
      refine ⟨fun a ha => ?_, ?_, ?_⟩
      · show (if a = j then (1 : Int32) else gA d3 (σ 95) a) = 1 ∧ (if a = j then (-1 : Int32) else gA d3 (σ 96) a) = -1 ∧ _
        rw [if_neg (by omega), if_neg (by omega)]; exact b3 a ha
      · show (if j = j then (1 : Int32) else gA d3 (σ 95) j) = 1
        rw [if_pos rfl]
      · show (if j = j then (-1 : Int32) else gA d3 (σ 96) j) = -1
        rw [if_pos rfl]
    generalize pA (pA d3 (σ 95) j 1) (σ 96) j (-1) = d4 at c4 b4
    refine ⟨np + 1, loopG (S := Int32 × Int32 × Dy) (l := fun N s => l_X11_goes_33 E (σ 87) (nI Y) kn K0 _ N s.1 s.2.1 s.2.2) (b := fun k2 s => b_X11_goes_33 E (σ 87) (nI Y) kn K0 _ (fun a b c => k2 (a, b, c)) s.1 s.2.1 s.2.2) (fun _ _ => rfl)
      (μ := fun s => np - s.2.1.toNatClampNeg) (P := fun s => nI j = s.1 ∧ ∃ i, i ≤ np ∧ nI i = s.2.1 ∧ Ch σ [95, 96, 97] d1 s.2.2 ∧ bgP σ np s.2.2 j ∧ gA s.2.2 (σ 95) j = 1 ∧ gA s.2.2 (σ 96) j = -1 ∧ ∀ b, b < i → gA s.2.2 (σ 97) (12 * j + b) = 0) ?_ np (nI j, 0, d4) ⟨rfl, 0, by omega, rfl, c4, b4.1, b4.2.1, b4.2.2, fun a ha => absurd ha (Nat.not_lt_zero a)⟩ (Nat.sub_le _ _)⟩
    clear c4 b4 d4
    rintro k2 ⟨vj, v, d4⟩ ⟨rfl, i, hi, rfl, c4, b4, b5, b6, b7⟩ hk2
    have c4 : Ch σ [95, 96, 97] d1 d4 := c4
    have b4 : bgP σ np d4 j := b4
    have b5 : gA d4 (σ 95) j = 1 := b5
    have b6 : gA d4 (σ 96) j = -1 := b6
    have b7 : ∀ b, b < i → gA d4 (σ 97) (12 * j + b) = 0 := b7
    refine r_persons h ?_
    rw [(gW_ch g1 c4 (by decide)).1, e0]
    show (nI np ≤ nI i → _) ∧ (¬ nI np ≤ nI i → _)
    rw [z_le (by omega) (by omega)]
    have e2 : (12 : Int32) * nI j + nI i = nI (12 * j + i) := by rw [show (12 : Int32) = nI 12 from rfl, z_mul, z_add]
    refine ⟨fun hc2 => ?_, fun hc2 => ?_⟩
    · have : i = np := by omega
      subst this
      rw [z_a1]
      refine hk (nI (j + 1), d4) ⟨j + 1, by omega, rfl, c4, fun a ha => ?_⟩ (by simp only [z_nn (show j + 1 < 2147483648 by omega), z_nn (show j < 2147483648 by omega)]; omega)
      by_cases q : a = j
      · subst q; exact ⟨b5, b6, b7⟩
      · exact b4 a (by omega)
    · simp only [x_87_20 h, en_97 h, e2, z_nn (show 12 * j + i < 2147483648 by omega), vpnB.1]
      rw [z_a1]
      refine ⟨vpi (by omega) (by decide), hk2 (nI j, nI (i + 1), _) ⟨rfl, i + 1, by omega, rfl, Ch_tr c4 (Ch_pA h (i := 97) (by decide) (by decide)), fun a ha => ?_, ?_, ?_, fun b hb => ?_⟩ (by simp only [z_nn (show i + 1 < 2147483648 by omega), z_nn (show i < 2147483648 by omega)]; omega)⟩
      · rw [gA_pA_ne _ _ _ m2, gA_pA_ne _ _ _ m3, gA_pA]
        refine ⟨(b4 a ha).1, (b4 a ha).2.1, fun b hb => ?_⟩
        show (if 12 * a + b = 12 * j + i then (0 : Int32) else gA d4 (σ 97) (12 * a + b)) = 0
        rw [if_neg (by omega)]; exact (b4 a ha).2.2 b hb
      · rw [gA_pA_ne _ _ _ m2]; exact b5
      · rw [gA_pA_ne _ _ _ m3]; exact b6
      · rw [gA_pA]
        show (if 12 * j + b = 12 * j + i then (0 : Int32) else gA d4 (σ 97) (12 * j + b)) = 0
        by_cases q : b = i
        · rw [if_pos (by omega)]
        · rw [if_neg (by omega)]; exact b7 b (by omega)
end
