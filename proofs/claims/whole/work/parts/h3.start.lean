def rfOK (rf : Nat → Nat → Option Nat) (n : Nat) : Prop := ∀ i, i < n → ∀ q ∈ rT.getD i [], rf i q.1 = some q.2
def vlOK (vl : Nat → Nat → Int32) : Prop := (∀ q ∈ tabL, vl q.1 0 = nI q.2.1 ∧ vl q.1 1 = nI q.2.2) ∧ vl 1 0 = 1980 ∧ (∀ i, i < 10 → vl (2 + 2 * i) 3 = if i = 5 then nI 60 else 0) ∧ vl 0 2 = 0 ∧ vl 0 4 = -1 ∧ vl 45 1 = 0
section
variable {σ : Nat → Nat} {b k : Nat} {rf : Nat → Nat → Option Nat} {vl : Nat → Nat → Int32} {E : En} {d : Dy} {K : En → Dy → Prop} {a0 : Nat}
/-- a new object, and its label -/
theorem ps_obj (p : PS σ k rf vl E d) {q t : Nat} (hq : q ∉ eL E) (ht : kT.getD k 0 = t) (hn : nT.getD k 0 = 0) : ∃ σ', PS σ' (k + 1) rf vl (nE E q t 0) (nD d q) ∧ q = σ' k ∧ ∀ i, i < k → σ' i = σ i :=
  ⟨upN σ k q, ps_new p hq ht hn, by unfold upN; rw [if_pos rfl], fun i hi => by unfold upN; rw [if_neg (by omega)]⟩
theorem ps_R' (p : PS σ k rf vl E d) {f i j a : Nat} (ea : a = σ i) (hi : i < k) (e : rf i f = some j) : eR E a f = some (σ j) := by rw [ea]; exact ps_R p hi e
theorem ps_O' (p : PS σ k rf vl E d) {i ci a : Nat} (ea : a = σ i) (hi : i < k) (hk : kT.getD i 0 = ci) (hc : ci < 12) : okO E a ci := by rw [ea]; exact ps_okO p hi hk hc
theorem i_X1 {a1 a2 : Nat} (p : PS σ (b + 1) rf vl E d) (ea : a0 = σ b) (e1 : a1 = σ 1) (e2 : a2 = σ 50) (hb : 50 < b + 1) (hk : kT.getD b 0 = 1) (h2 : tbOK [(10, 4)] (b + 1))
    (kk : ∀ σ' E' d', PS σ' (b + 3) (u2 (u2 (tbR b [(10, 4)] 2 (b + 1) rf) b 0 (some 1)) b 1 (some 50)) (tbV [(10, 4)] (b + 1) vl) E' d' → (∀ i, i < b + 1 → σ' i = σ i) → K E' d') : w_X1_init E a0 a1 a2 d K := by
  refine ⟨ps_O' p ea (by omega) hk (by decide), ps_O' (i := 1) p e1 (by omega) rfl (by decide), ps_O' (i := 50) p e2 (by omega) rfl (by decide), ?_⟩
  show tabs a0 [(10, 4)] 2 E d (fun E d => K (sR (sR E a0 0 (some a1)) a0 1 (some a2)) d)
  refine i_tabs (b := b) [(10, 4)] 2 σ (b + 1) _ _ E d p (by omega) ea h2 (fun σ1 E1 d1 p1 ag => ?_)
  have o1 : a0 = σ1 b := by rw [ag b (by omega)]; exact ea
  exact kk σ1 _ _ (ps_ref (f := 1) (ps_ref (f := 0) p1 (show b < b + 3 by omega) (show 1 < b + 3 by omega) o1 (by rw [ag 1 (by omega)]; exact e1)) (show b < b + 3 by omega) (show 50 < b + 3 by omega) o1 (by rw [ag 50 (by omega)]; exact e2)) ag
theorem i_X9 (p : PS σ (b + 1) rf vl E d) (ea : a0 = σ b) (hk : kT.getD b 0 = 9) (h2 : arOK [(0, 13, 7), (1, 13, 7), (2, 13, 7), (3, 13, 7), (4, 13, 7), (5, 13, 4)] (b + 1))
    (kk : ∀ σ' E' d', PS σ' (b + 7) (arR b [(0, 13, 7), (1, 13, 7), (2, 13, 7), (3, 13, 7), (4, 13, 7), (5, 13, 4)] (b + 1) rf) vl E' d' → (∀ i, i < b + 1 → σ' i = σ i) → K E' d') : w_X9_init E a0 d K := by
  refine ⟨ps_O' p ea (by omega) hk (by decide), ?_⟩
  show arrs a0 [(0, 13, 7), (1, 13, 7), (2, 13, 7), (3, 13, 7), (4, 13, 7), (5, 13, 4)] E d K
  exact i_arrs (b := b) _ σ (b + 1) _ _ E d p (by omega) ea h2 kk
theorem i_X5 {a1 : Nat} (p : PS σ (b + 1) rf vl E d) (ea : a0 = σ b) (e1 : a1 = σ 1) (hb : 1 < b + 1) (hk : kT.getD b 0 = 5) (h2 : arOK [(1, 13, 10), (2, 13, 10), (3, 13, 10), (4, 13, 10)] (b + 1))
    (kk : ∀ σ' E' d', PS σ' (b + 5) (u2 (arR b [(1, 13, 10), (2, 13, 10), (3, 13, 10), (4, 13, 10)] (b + 1) rf) b 0 (some 1)) vl E' d' → (∀ i, i < b + 1 → σ' i = σ i) → K E' d') : w_X5_init E a0 a1 d K := by
  refine ⟨ps_O' p ea (by omega) hk (by decide), ps_O' (i := 1) p e1 (by omega) rfl (by decide), ?_⟩
  show arrs a0 [(1, 13, 10), (2, 13, 10), (3, 13, 10), (4, 13, 10)] E d (fun E d => K (sR E a0 0 (some a1)) d)
  refine i_arrs (b := b) _ σ (b + 1) _ _ E d p (by omega) ea h2 (fun σ1 E1 d1 p1 ag => ?_)
  exact kk σ1 _ _ (ps_ref (f := 0) p1 (show b < b + 5 by omega) (show 1 < b + 5 by omega) (by rw [ag b (by omega)]; exact ea) (by rw [ag 1 (by omega)]; exact e1)) ag
theorem i_X4 {a1 a2 : Nat} (p : PS σ (b + 1) rf vl E d) (ea : a0 = σ b) (e1 : a1 = σ 1) (e2 : a2 = σ 50) (hb : 50 < b + 1) (hk : kT.getD b 0 = 4) (h2 : arOK [(2, 14, 256)] (b + 1))
    (kk : ∀ σ' E' d', PS σ' (b + 2) (u2 (u2 (arR b [(2, 14, 256)] (b + 1) rf) b 0 (some 1)) b 1 (some 50)) vl E' d' → (∀ i, i < b + 1 → σ' i = σ i) → K E' d') : w_X4_init E a0 a1 a2 d K := by
  refine ⟨ps_O' p ea (by omega) hk (by decide), ps_O' (i := 1) p e1 (by omega) rfl (by decide), ps_O' (i := 50) p e2 (by omega) rfl (by decide), ?_⟩
  show arrs a0 [(2, 14, 256)] E d (fun E d => K (sR (sR E a0 0 (some a1)) a0 1 (some a2)) d)
  refine i_arrs (b := b) _ σ (b + 1) _ _ E d p (by omega) ea h2 (fun σ1 E1 d1 p1 ag => ?_)
  have o1 : a0 = σ1 b := by rw [ag b (by omega)]; exact ea
  exact kk σ1 _ _ (ps_ref (f := 1) (ps_ref (f := 0) p1 (show b < b + 2 by omega) (show 1 < b + 2 by omega) o1 (by rw [ag 1 (by omega)]; exact e1)) (show b < b + 2 by omega) (show 50 < b + 2 by omega) o1 (by rw [ag 50 (by omega)]; exact e2)) ag
theorem i_X10 (p : PS σ 1 (fun _ _ => none) (fun _ _ => 0) E d) (ea : a0 = σ 0) (kk : ∀ σ' E' d' rf vl, PS σ' 87 rf vl E' d' → a0 = σ' 0 → rfOK rf 87 → vlOK vl → K E' d') : w_X10_init E a0 d K := by
  refine ⟨by rw [ea]; exact ps_okO (i := 0) p (by decide) rfl (by decide), fun q1 h1 => ?_⟩
  obtain ⟨s1, p1, e1, g1⟩ := ps_obj p h1 rfl rfl
  refine i_X8 (b := 1) p1 e1 rfl (by simp only [tolL, tbOK]; (repeat' apply And.intro) <;> first | exact trivial | rfl | decide) rfl rfl rfl rfl rfl rfl rfl rfl (fun s2 E2 d2 p2 g2 => ?_)
  have o2 : a0 = s2 0 := by rw [g2 0 (by decide), g1 0 (by decide)]; exact ea
  have p3 := ps_ref (f := 0) p2 (show 0 < 23 by decide) (show 1 < 23 by decide) o2 (show q1 = s2 1 by rw [g2 1 (by decide)]; exact e1)
  intro q7 h7
  obtain ⟨s4, p4, e4, g4⟩ := ps_obj p3 h7 rfl rfl
  have o4 : a0 = s4 0 := by rw [g4 0 (by decide)]; exact o2
  refine i_X8 (b := 23) p4 e4 rfl (by simp only [tolL, tbOK]; (repeat' apply And.intro) <;> first | exact trivial | rfl | decide) rfl rfl rfl rfl rfl rfl rfl rfl (fun s5 E5 d5 p5 g5 => ?_)
  have o5 : a0 = s5 0 := by rw [g5 0 (by decide)]; exact o4
  have p6 := ps_ref (f := 1) p5 (show 0 < 45 by decide) (show 23 < 45 by decide) o5 (show q7 = s5 23 by rw [g5 23 (by decide)]; exact e4)
  intro q13 h13
  obtain ⟨s7, p7, e7, g7⟩ := ps_obj p6 h13 rfl rfl
  have o7 : a0 = s7 0 := by rw [g7 0 (by decide)]; exact o5
  refine i_X2 (b := 45) p7 e7 rfl (by simp only [arOK]; (repeat' apply And.intro) <;> first | exact trivial | rfl | decide) (by simp only [tbOK]; (repeat' apply And.intro) <;> first | exact trivial | rfl | decide) (by simp only [arOK]; (repeat' apply And.intro) <;> first | exact trivial | rfl | decide) (fun s8 E8 d8 p8 g8 => ?_)
  have o8 : a0 = s8 0 := by rw [g8 0 (by decide)]; exact o7
  have p9 := ps_pI (f := 4) (v := -1) (ps_ref (f := 3) p8 (show 0 < 50 by decide) (show 45 < 50 by decide) o8 (show q13 = s8 45 by rw [g8 45 (by decide)]; exact e7)) (show 0 < 50 by decide) o8
  intro q19 h19
  obtain ⟨t1, u1, v1, w1⟩ := ps_obj p9 h19 rfl rfl
  have x1 : a0 = t1 0 := by rw [w1 0 (by decide)]; exact o8
  refine ⟨t1 1, ps_R' (f := 0) (j := 1) u1 x1 (by decide) rfl, ps_okO (i := 1) u1 (by decide) rfl (by decide), ?_⟩
  refine i_X3 (b := 50) u1 v1 rfl (by decide) rfl (by simp only [tbOK]; (repeat' apply And.intro) <;> first | exact trivial | rfl | decide) rfl rfl (by simp only [arOK]; (repeat' apply And.intro) <;> first | exact trivial | rfl | decide) (fun t2 E9 d9 u2' w2 => ?_)
  have x2 : a0 = t2 0 := by rw [w2 0 (by decide)]; exact x1
  have u3 := ps_ref (f := 5) u2' (show 0 < 60 by decide) (show 50 < 60 by decide) x2 (show q19 = t2 50 by rw [w2 50 (by decide)]; exact v1)
  intro q28 h28
  obtain ⟨t4, u4, v4, w4⟩ := ps_obj u3 h28 rfl rfl
  have x4 : a0 = t4 0 := by rw [w4 0 (by decide)]; exact x2
  refine ⟨t4 1, ps_R' (f := 0) (j := 1) u4 x4 (by decide) rfl, ps_okO (i := 1) u4 (by decide) rfl (by decide), ?_⟩
  refine i_X3 (b := 60) u4 v4 rfl (by decide) rfl (by simp only [tbOK]; (repeat' apply And.intro) <;> first | exact trivial | rfl | decide) rfl rfl (by simp only [arOK]; (repeat' apply And.intro) <;> first | exact trivial | rfl | decide) (fun t5 E10 d10 u5 w5 => ?_)
  have x5 : a0 = t5 0 := by rw [w5 0 (by decide)]; exact x4
  have u6 := ps_ref (f := 6) u5 (show 0 < 70 by decide) (show 60 < 70 by decide) x5 (show q28 = t5 60 by rw [w5 60 (by decide)]; exact v4)
  intro q37 h37
  obtain ⟨t7, u7, v7, w7⟩ := ps_obj u6 h37 rfl rfl
  have x7 : a0 = t7 0 := by rw [w7 0 (by decide)]; exact x5
  refine ⟨t7 1, ps_R' (f := 0) (j := 1) u7 x7 (by decide) rfl, ps_okO (i := 1) u7 (by decide) rfl (by decide), t7 50, ps_R' (f := 5) (j := 50) u7 x7 (by decide) rfl, ps_okO (i := 50) u7 (by decide) rfl (by decide), ?_⟩
  refine i_X1 (b := 70) u7 v7 rfl rfl (by decide) rfl (by simp only [tbOK]; (repeat' apply And.intro) <;> first | exact trivial | rfl | decide) (fun t8 E11 d11 u8 w8 => ?_)
  have x8 : a0 = t8 0 := by rw [w8 0 (by decide)]; exact x7
  have u9 := ps_ref (f := 7) u8 (show 0 < 73 by decide) (show 70 < 73 by decide) x8 (show q37 = t8 70 by rw [w8 70 (by decide)]; exact v7)
  intro q49 h49
  obtain ⟨r1, a1, b1, c1⟩ := ps_obj u9 h49 rfl rfl
  have z1 : a0 = r1 0 := by rw [c1 0 (by decide)]; exact x8
  refine i_X9 (b := 73) a1 b1 rfl (by simp only [arOK]; (repeat' apply And.intro) <;> first | exact trivial | rfl | decide) (fun r2 E12 d12 a2 c2 => ?_)
  have z2 : a0 = r2 0 := by rw [c2 0 (by decide)]; exact z1
  have a3 := ps_ref (f := 8) a2 (show 0 < 80 by decide) (show 73 < 80 by decide) z2 (show q49 = r2 73 by rw [c2 73 (by decide)]; exact b1)
  intro q55 h55
  obtain ⟨r4, a4, b4, c4⟩ := ps_obj a3 h55 rfl rfl
  have z4 : a0 = r4 0 := by rw [c4 0 (by decide)]; exact z2
  refine ⟨r4 1, ps_R' (f := 0) (j := 1) a4 z4 (by decide) rfl, ps_okO (i := 1) a4 (by decide) rfl (by decide), ?_⟩
  refine i_X5 (b := 80) a4 b4 rfl (by decide) rfl (by simp only [arOK]; (repeat' apply And.intro) <;> first | exact trivial | rfl | decide) (fun r5 E13 d13 a5 c5 => ?_)
  have z5 : a0 = r5 0 := by rw [c5 0 (by decide)]; exact z4
  have a6 := ps_ref (f := 9) a5 (show 0 < 85 by decide) (show 80 < 85 by decide) z5 (show q55 = r5 80 by rw [c5 80 (by decide)]; exact b4)
  intro q64 h64
  obtain ⟨r7, a7, b7, c7⟩ := ps_obj a6 h64 rfl rfl
  have z7 : a0 = r7 0 := by rw [c7 0 (by decide)]; exact z5
  refine ⟨r7 1, ps_R' (f := 0) (j := 1) a7 z7 (by decide) rfl, ps_okO (i := 1) a7 (by decide) rfl (by decide), r7 50, ps_R' (f := 5) (j := 50) a7 z7 (by decide) rfl, ps_okO (i := 50) a7 (by decide) rfl (by decide), ?_⟩
  refine i_X4 (b := 85) a7 b7 rfl rfl (by decide) rfl (by simp only [arOK]; (repeat' apply And.intro) <;> first | exact trivial | rfl | decide) (fun r8 E14 d14 a8 c8 => ?_)
  have z8 : a0 = r8 0 := by rw [c8 0 (by decide)]; exact z7
  have a9 := ps_ref (f := 10) a8 (show 0 < 87 by decide) (show 85 < 87 by decide) z8 (show q64 = r8 85 by rw [c8 85 (by decide)]; exact b7)
  exact kk r8 _ _ _ _ a9 z8 (by unfold rfOK; decide +kernel) (by unfold vlOK; decide +kernel)
end
