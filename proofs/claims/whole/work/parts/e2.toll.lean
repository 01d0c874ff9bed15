def tolE (W : Nat → Int32) (np nh : Nat) (kn y x : Int32) (e : Nat) : Int32 := if W (120 + 6 * e) = y ∧ rsS (kS W np nh kn (cnt W 2)) e = true then (W (124 + 6 * e) * x) / 100 else 0
section
variable {σ : Nat → Nat} {E : En} {d d' d2 d3 : Dy} {W : Nat → Int32} {np nh L n : Nat} {S : RS} {K : Int32 → Dy → Prop} {K0 : Dy → Prop} {X : String → Dy → Prop} {kc : En → Dy → Prop} {v4 : Int32} {xs : Nat → Int32} {p1 p2 : Int32}
/-- the class's replay stands behind j events -/
def stj (σ : Nat → Nat) (B : Nat) (d : Dy) (W : Nat → Int32) (np nh : Nat) (kn : Int32) (j : Nat) : Prop := gI d (σ B) 1 = kn ∧ gI d (σ B) 3 = nI j ∧ clsR σ B np nh d (kS W np nh kn j)
theorem stj_ch {P : List Nat} {j : Nat} {kn : Int32} {B : Nat} (hB : RB B) (s : stj σ B d W np nh kn j) (c : Ch σ P d d') (hP : ∀ i, i < 7 → B + i ∉ P) : stj σ B d' W np nh kn j := by
  have e := Ch_I c (i := B) (yB0 hB) (by have := hP 0 (by decide); simpa using this)
  exact ⟨by rw [e]; exact s.1, by rw [e]; exact s.2.1, clsR_ch s.2.2 hB c hP⟩
theorem k_stepj (c : cW σ E d W np nh) {j : Nat} {kn : Int32} {B : Nat} (hB : RB B) (hj : j < cnt W 2) (s : stj σ B d W np nh kn j) (k : ∀ d', Ch σ (cL B) d d' → stj σ B d' W np nh kn (j + 1) → K0 d') : w_X3_step E (σ B) d K0 := by
  have g := cW_gW c
  have ok : rsOK np nh (kS W np nh kn j) := by have := kS_ok g.2.1 (kn := kn) (j := j); rw [← c.2.2.1, ← c.2.2.2.1] at this; exact this
  exact k_step c hB s.2.2 ok hj s.1 s.2.1 (fun d4 c4 t1 t3 C4 => k d4 c4 ⟨t1, t3, by rw [kS_succ hj]; exact C4⟩)
theorem k_nev (c : cW σ E d W np nh) (k : K (nI (cnt W 2)) d) : w_X6_size E (σ 6) d K := by
  have t := td_6 c.1
  rw [c.2.1] at t
  exact T_size (te_6 c.1.1) t k
theorem k_toll30 (c : cW σ E d W np nh) {kn y x : Int32} (s : stj σ 50 d W np nh kn 0) (k : ∀ d', Ch σ (cL 50) d d' → K (sumL (tolE W np nh kn y x) (List.range (cnt W 2)) 0) d') : ∃ N, l_X10_toll_30 E (σ 0) y x K X N 0 0 d := by
  have h := c.1.1
  have g := cW_gW c
  have n40 : cnt W 2 ≤ 40 := (g.2.1.1 2 (by decide) (by decide)).2
  refine ⟨cnt W 2 + 1, loopG (S := Int32 × Int32 × Dy) (l := fun N z => l_X10_toll_30 E (σ 0) y x K X N z.1 z.2.1 z.2.2) (b := fun kk z => b_X10_toll_30 E (σ 0) y x K X (fun a b c => kk (a, b, c)) z.1 z.2.1 z.2.2) (fun _ _ => rfl)
    (μ := fun z => cnt W 2 - z.2.1.toNatClampNeg) (P := fun z => Ch σ (cL 50) d z.2.2 ∧ ∃ j, j ≤ cnt W 2 ∧ nI j = z.2.1 ∧ sumL (tolE W np nh kn y x) ((ordr (kyI W 2) (cnt W 2)).take j) 0 = z.1 ∧ stj σ 50 z.2.2 W np nh kn j) ?_ (cnt W 2) (0, 0, d) ⟨Ch_rf, 0, by omega, rfl, rfl, s⟩ (Nat.sub_le _ _)⟩
  rintro kk ⟨a, v, dz⟩ ⟨cz, j, hj, rfl, ea, sj⟩ hk
  have cz : Ch σ (cL 50) d dz := cz
  have ea : sumL (tolE W np nh kn y x) ((ordr (kyI W 2) (cnt W 2)).take j) 0 = a := ea
  have sj : stj σ 50 dz W np nh kn j := sj
  have wz := cW_ch c rb50 cz
  simp only [b_X10_toll_30, x_0_0 h, x_1_3 h, x_0_5 h]
  refine k_nev wz ?_
  rw [z_le (by omega) (by omega), z_a1 j]
  refine ⟨fun hc => ?_, fun hc => ?_⟩
  · have : j = cnt W 2 := by omega
    subst this
    rw [List.take_of_length_le (by rw [ordr_len]; exact Nat.le_refl _), sum_perm (ordr_perm _ _)] at ea
    rw [← ea]; exact k dz cz
  · have hjn : j < cnt W 2 := by omega
    have ok : rsOK np nh (kS W np nh kn j) := by have := kS_ok g.2.1 (kn := kn) (j := j); rw [← c.2.2.1, ← c.2.2.2.1] at this; exact this
    have sold := (kS_SD (W := W) (np := np) (nh := nh) (kn := kn) hjn (cnt W 2) (Nat.le_refl _)).1
    rw [show decide (j < cnt W 2) = true by simpa using hjn, Bool.true_and] at sold
    have nx : ∀ de b, Ch σ (cL 50) dz de → stj σ 50 de W np nh kn (j + 1) → b = a + tolE W np nh kn y x (roI W 2 j) → kk (b, nI (j + 1), de) := fun de b ue se eb =>
      hk (b, nI (j + 1), de) ⟨Ch_tr cz ue, j + 1, by omega, rfl, by rw [take_ro hjn, sum_app, ea, eb], se⟩ (by simp only [z_nn (show j + 1 < 2147483648 by omega), z_nn (show j < 2147483648 by omega)]; omega)
    refine k_evt (cc := 0) (m := 0) wz hjn (by decide) rfl (by decide) ?_
    rw [show 120 + 6 * roI W 2 j + 0 = 120 + 6 * roI W 2 j by omega]
    refine ⟨fun l1 => k_stepj wz rb50 hjn sj (fun de ue se => nx de _ ue se ?_), fun l1 => k_sells wz rb50 sj.2.2 ok hjn sj.1 ⟨fun l2 => k_stepj wz rb50 hjn sj (fun de ue se => nx de _ ue se ?_), fun l2 => k_evt (cc := 4) (m := 5) wz hjn (by decide) rfl (by decide) (k_stepj wz rb50 hjn sj (fun de ue se => nx de _ ue se ?_))⟩⟩
    · unfold tolE; rw [if_neg (fun z => l1 z.1), Int32.add_zero]
    · rw [b2i_0] at l2
      unfold tolE; rw [sold, l2, if_neg (fun z => (nomatch z.2)), Int32.add_zero]
    · rw [b2i_1] at l2
      unfold tolE; rw [sold, l2, if_pos ⟨l1, rfl⟩, show 120 + 6 * roI W 2 j + 4 = 124 + 6 * roI W 2 j by omega]
theorem r_toll58 (h : Env σ E) (g : gW σ d W np nh) {Y : Nat} {kn x : Int32} (hY2 : Y ≤ 2099) (R : refR σ np nh d (repS W np nh Y kn)) (k : K (sumL (tolE W np nh kn (nI Y) x) (List.range (cnt W 2)) 0) d) : ∃ N, l_X11_toll_58 E (σ 87) (nI Y) x K N 0 0 d := by
  obtain ⟨eW, hW, tw, e0, e1, n0, n1, hnp, hnh⟩ := id g
  have w2 : W 2 = nI (cnt W 2) ∧ cnt W 2 ≤ 40 := hW.1 2 (by decide) (by decide)
  obtain ⟨J, hJ, eJ, -, hJi⟩ := rep_kS hW np nh Y kn
  refine ⟨cnt W 2 + 1, loopG (S := Int32 × Int32 × Dy) (l := fun N z => l_X11_toll_58 E (σ 87) (nI Y) x K N z.1 z.2.1 z.2.2) (b := fun kk z => b_X11_toll_58 E (σ 87) (nI Y) x K (fun a b c => kk (a, b, c)) z.1 z.2.1 z.2.2) (fun _ _ => rfl)
    (μ := fun z => cnt W 2 - z.2.1.toNatClampNeg) (P := fun z => d = z.2.2 ∧ ∃ j, j ≤ cnt W 2 ∧ nI j = z.2.1 ∧ sumL (tolE W np nh kn (nI Y) x) (List.range j) 0 = z.1) ?_ (cnt W 2) (0, 0, d) ⟨rfl, 0, by omega, rfl, rfl⟩ (Nat.sub_le _ _)⟩
  rintro kk ⟨a, v, dz⟩ ⟨rfl, j, hj, rfl, ea⟩ hk
  have ea : sumL (tolE W np nh kn (nI Y) x) (List.range j) 0 = a := ea
  simp only [b_X11_toll_58, x_87_1 h, x_87_24 h, en_88 h, en_101 h, show (2 : Int32).toNatClampNeg = 2 from rfl, z_nn (show j < 2147483648 by omega), eW, w2.1]
  rw [z_le (by omega) (by omega), z_a1 j]
  refine ⟨vpi (k := 2) (by decide) (by decide), fun hc => ?_, fun hc => ⟨vpi (by omega) (by decide), ?_⟩⟩
  · have : j = cnt W 2 := by omega
    subst this; rw [← ea]; exact k
  · have hjn : j < cnt W 2 := by omega
    obtain ⟨i, hi, ei⟩ := ro_sur hjn
    have s1 := (kS_SD (W := W) (np := np) (nh := nh) (kn := kn) hi J hJ).1
    have s2 := (kS_SD (W := W) (np := np) (nh := nh) (kn := kn) hi (cnt W 2) (Nat.le_refl _)).1
    rw [show decide (i < cnt W 2) = true by simpa using hi, Bool.true_and] at s2
    rw [← s2, ei] at s1
    have hiJ := hJi i hi
    rw [ei] at hiJ
    rw [(R.2.2.2 j (by omega)).1, eJ, b2i_0]
    have nx : ∀ b, b = a + tolE W np nh kn (nI Y) x j → kk (b, nI (j + 1), d) := fun b eb =>
      hk (b, nI (j + 1), d) ⟨rfl, j + 1, by omega, rfl, by rw [List.range_succ, sum_app, ea, eb]⟩ (by simp only [z_nn (show j + 1 < 2147483648 by omega), z_nn (show j < 2147483648 by omega)]; omega)
    have yr : W (120 + 6 * j) = nI Y → i < J := fun z => hiJ.mpr (by show (W (120 + 6 * j)).toNatClampNeg ≤ Y; rw [z, z_nn (by omega)]; exact Nat.le_refl _)
    refine ⟨fun l1 => nx _ ?_, fun l1 => r_ofEvent (c := 0) h (by omega) (by decide) ?_⟩
    · unfold tolE
      rw [if_neg, Int32.add_zero]
      rintro ⟨z1, z2⟩
      rw [l1, z2, show decide (i < J) = true by simpa using yr z1] at s1
      exact nomatch s1
    · rw [eW, show 120 + 6 * j + 0 = 120 + 6 * j by omega]
      refine ⟨fun l2 => nx _ ?_, fun l2 => r_ofEvent (c := 4) h (by omega) (by decide) (nx _ ?_)⟩
      · unfold tolE; rw [if_neg (fun z => l2 z.1), Int32.add_zero]
      · rw [eW, show 120 + 6 * j + 4 = 124 + 6 * j by omega]
        have l1 : rsS (kS W np nh kn J) j = true := by simpa using l1
        rw [l1, show decide (i < J) = true by simpa using yr l2, Bool.true_and] at s1
        unfold tolE; rw [if_pos ⟨l2, s1.symm⟩]
theorem p_toll (I : Inv σ E d) (k : ∀ E' d', Inv σ E' d' → kc E' d') (hK : ∀ v d2, w_X11_toll E (σ 87) p1 p2 d2 (fun r d => cmpO σ E kc v r d) → K v d2) : w_L_toll E (σ 0) p1 p2 (σ 115) d K := by
  have h := I.1
  have c := cW_I I
  by_cases b1 : bw p1 1900 2099
  · by_cases b2 : bw p2 0 100
    · obtain ⟨Y, hY1, hY2, eY⟩ := bw_n (a := 1900) (b := 2099) b1 (by decide) (by decide)
      simp only [w_L_toll, w_X10_toll, x_0_0 h, x_0_5 h]
      refine ⟨eo_0 h, eo_115 h, eo_0 h, ny1 b1 (nb1 b2 ?_)⟩
      rw [td_3 I]
      refine k_begin c rb50 (fun d1 c1 s1 s3 C1 => ?_)
      rw [eY] at hK b1 ⊢
      have w1 := cW_ch c rb50 c1
      refine k_toll30 w1 (kn := gA d (σ 88) 3) ⟨s1, s3, C1⟩ (fun d4 c4 => ⟨v0_115 h, ?_⟩)
      have w4 := cW_ch w1 rb50 c4
      have cc : Ch σ scr d d4 := Ch_w (Ch_tr c1 c4) (cL_scr rb50)
      refine hK _ _ ⟨eo_87 h, ry1 b1 (rt0 h ⟨fun q => absurd rfl q, fun _ => ri1 b2 ⟨fun _ => ⟨eo_87 h, rt0 h ⟨fun _ => ?_, fun q => absurd rfl q⟩⟩, fun q => absurd q (by decide)⟩⟩)⟩
      simp only [x_87_1 h, en_88 h, show (3 : Int32).toNatClampNeg = 3 from rfl, gA_pI_x, gA_pJ_x, w4.2.1]
      refine ⟨vpi (k := 3) (by decide) (by decide), q_goes I k cc (cW_gW w4) hY1 hY2 (fun d3 g3 R3 fin => ?_)⟩
      exact r_toll58 h g3 hY2 R3 (fin [] d3 (by decide) (by decide) Ch_rf)
    · exact ⟨eo_0 h, eo_115 h, eo_0 h, ny1 b1 (nb0 b2 (Or.inr ⟨rfl, hK _ _ ⟨eo_87 h, ry1 b1 (rt0 h ⟨fun q => absurd rfl q, fun _ => ri0 b2 ⟨fun q => absurd rfl q, fun _ => ⟨eo_87 h, rt1 h ⟨fun q => absurd q (by decide), fun _ => fail_O I (by decide) k⟩⟩⟩⟩)⟩⟩))⟩
  · exact ⟨eo_0 h, eo_115 h, eo_0 h, ny0 b1 (Or.inl ⟨rfl, hK _ _ ⟨eo_87 h, ry0 b1 (rt1 h ⟨fun _ => fail_O I (by decide) k, fun q => absurd q (by decide)⟩)⟩⟩)⟩
theorem c_toll (I : Inv σ E d) (hv : v5 v4 L) (k : ∀ E' d', Inv σ E' d' → kc E' d') : lw_1647 E (σ 0) (σ 87) (σ 115) v4 xs L kc d :=
  ⟨eo_0 I.1, eo_87 I.1, eo_115 I.1, hv.1, hv.2.1, p_toll I k (fun v d2 hk => ⟨hv.1, hv.2.1, hk⟩)⟩
end
