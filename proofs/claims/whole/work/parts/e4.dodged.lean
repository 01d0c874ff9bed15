section
variable {σ : Nat → Nat} {E : En} {d d' d2 d3 : Dy} {W : Nat → Int32} {np nh L n : Nat} {S : RS} {K : Int32 → Dy → Prop} {K0 : Dy → Prop} {X : String → Dy → Prop} {kc : En → Dy → Prop} {v4 : Int32} {xs : Nat → Int32} {p1 p2 : Int32}
theorem cst_ch {P : List Nat} {Y B : Nat} {kn : Int32} (hB : RB B) (s : cst σ B d W np nh kn Y) (c : Ch σ P d d') (hP : ∀ i, i < 7 → B + i ∉ P) : cst σ B d' W np nh kn Y := by
  have e := Ch_I c (i := B) (yB0 hB) (by have := hP 0 (by decide); simpa using this)
  obtain ⟨s1, j, s2, s3, s4, s5⟩ := s
  exact ⟨by rw [e]; exact s1, j, s2, by rw [e]; exact s3, s4, clsR_ch s5 hB c hP⟩
theorem ro_srt (hW : WI W) {i j : Nat} (hij : i ≤ j) (hj : j < cnt W 2) : yrN W (roI W 2 i) ≤ yrN W (roI W 2 j) := by
  by_cases e : i = j
  · subst e; exact Nat.le_refl _
  · have hl := ordr_len (kyI W 2) (cnt W 2)
    have pw := List.pairwise_iff_getElem.mp (ordr_nat (y := kyI W 2) (n := cnt W 2) (fun e he => by obtain ⟨m, _, hm, e2⟩ := ky_nat hW e he; rw [e2]; exact z_pos (by omega)))
    have := pw i j (by omega) (by omega) (by omega)
    have hi2 : roI W 2 i = (ordr (kyI W 2) (cnt W 2)).getD i 0 := rfl
    have hj2 : roI W 2 j = (ordr (kyI W 2) (cnt W 2)).getD j 0 := rfl
    rw [hi2, hj2, getD_lt (by omega), getD_lt (by omega)]
    have u : ∀ x, ((kyI W 2) x).toNatClampNeg = yrN W x := fun x => rfl
    rw [u, u] at this
    omega
def dgL : List Nat := [50, 51, 52, 53, 54, 55, 56, 57, 58, 59, 60, 61, 62, 63, 64, 65, 66, 67, 68, 69]
theorem dg5 : ∀ i ∈ cL 50, i ∈ dgL := by decide
theorem dg6 : ∀ i ∈ cL 60, i ∈ dgL := by decide
theorem dg_scr : ∀ i ∈ dgL, i ∈ scr := by decide
theorem cW_dg (c : cW σ E d W np nh) (h : Ch σ dgL d d') : cW σ E d' W np nh := ⟨Inv_ch c.1 (Ch_w h dg_scr), (Ch_A h (by decide) (by decide)).trans c.2.1, c.2.2⟩
theorem k_dodged39 (c : cW σ E d W np nh) {kn : Int32} {t : Nat} (ht : t ≤ 99) (s : stj σ 50 d W np nh kn 0) (s6 : cst σ 60 d W np nh kn 1899) (k : ∀ d', Ch σ dgL d d' → K (sumL (dodE W np nh kn t) (List.range (cnt W 2)) 0) d') : ∃ N, l_X10_dodged_39 E (σ 0) (nI t) K X N 0 0 d := by
  have h := c.1.1
  have g := cW_gW c
  have n40 : cnt W 2 ≤ 40 := (g.2.1.1 2 (by decide) (by decide)).2
  refine ⟨cnt W 2 + 1, loopG (S := Int32 × Int32 × Dy) (l := fun N z => l_X10_dodged_39 E (σ 0) (nI t) K X N z.1 z.2.1 z.2.2) (b := fun kk z => b_X10_dodged_39 E (σ 0) (nI t) K X (fun a b c => kk (a, b, c)) z.1 z.2.1 z.2.2) (fun _ _ => rfl)
    (μ := fun z => cnt W 2 - z.2.1.toNatClampNeg) (P := fun z => Ch σ dgL d z.2.2 ∧ ∃ j, j ≤ cnt W 2 ∧ nI j = z.2.1 ∧ sumL (dodE W np nh kn t) ((ordr (kyI W 2) (cnt W 2)).take j) 0 = z.1 ∧ stj σ 50 z.2.2 W np nh kn j ∧ ∃ Y0, cst σ 60 z.2.2 W np nh kn Y0 ∧ ∀ i, j ≤ i → i < cnt W 2 → Y0 + 1 ≤ yrN W (roI W 2 i)) ?_ (cnt W 2) (0, 0, d) ⟨Ch_rf, 0, by omega, rfl, rfl, s, 1899, s6, fun i _ hi => (ev_yr g.2.1 (ro2_lt hi)).2.1⟩ (Nat.sub_le _ _)⟩
  rintro kk ⟨a, v, dz⟩ ⟨cz, j, hj, rfl, ea, sj, Y0, sb, hY0⟩ hk
  have cz : Ch σ dgL d dz := cz
  have ea : sumL (dodE W np nh kn t) ((ordr (kyI W 2) (cnt W 2)).take j) 0 = a := ea
  have sj : stj σ 50 dz W np nh kn j := sj
  have sb : cst σ 60 dz W np nh kn Y0 := sb
  have wz := cW_dg c cz
  simp only [b_X10_dodged_39, x_0_0 h, x_1_3 h, x_0_5 h, x_0_6 h]
  refine k_nev wz ?_
  rw [z_le (by omega) (by omega), z_a1 j]
  refine ⟨fun hc => ?_, fun hc => ?_⟩
  · have : j = cnt W 2 := by omega
    subst this
    rw [List.take_of_length_le (by rw [ordr_len]; exact Nat.le_refl _), sum_perm (ordr_perm _ _)] at ea
    rw [← ea]; exact k dz cz
  · have hjn : j < cnt W 2 := by omega
    have ok : rsOK np nh (kS W np nh kn j) := by have := kS_ok g.2.1 (kn := kn) (j := j); rw [← c.2.2.1, ← c.2.2.2.1] at this; exact this
    obtain ⟨sold, dodg⟩ := kS_SD (W := W) (np := np) (nh := nh) (kn := kn) hjn (cnt W 2) (Nat.le_refl _)
    rw [show decide (j < cnt W 2) = true by simpa using hjn, Bool.true_and] at sold
    obtain ⟨y1, y2, y3⟩ := ev_yr g.2.1 (ro2_lt hjn)
    refine k_evt (cc := 0) (m := 0) wz hjn (by decide) rfl (by decide) ?_
    rw [show 120 + 6 * roI W 2 j + 0 = 120 + 6 * roI W 2 j by omega, y1, show (1 : Int32) = nI 1 from rfl, z_sub (by omega), show nI 1 = (1 : Int32) from rfl]
    refine k_goTo wz rb60 sb (by have := hY0 j (Nat.le_refl _) hjn; omega) (by omega) (fun da ua ya sa => ?_)
    have wa := cW_ch wz rb60 ua
    have sja := stj_ch rb50 sj ua (by decide)
    have nx : ∀ db, Ch σ [67, 68, 69] da db → ∀ de b, Ch σ (cL 50) db de → stj σ 50 de W np nh kn (j + 1) → b = a + dodE W np nh kn t (roI W 2 j) → kk (b, nI (j + 1), de) := fun db ub de b ue se eb =>
      hk (b, nI (j + 1), de) ⟨Ch_tr cz (Ch_tr (Ch_w ua dg6) (Ch_tr (Ch_w ub (by decide)) (Ch_w ue dg5))), j + 1, by omega, rfl, by rw [take_ro hjn, sum_app, ea, eb], se, _, cst_ch rb60 (cst_ch rb60 sa ub (by decide)) ue (by decide), fun i hi1 hi2 => by have := ro_srt g.2.1 (i := j) (j := i) (by omega) hi2; omega⟩ (by simp only [z_nn (show j + 1 < 2147483648 by omega), z_nn (show j < 2147483648 by omega)]; omega)
    refine k_sells wa rb50 sja.2.2 ok hjn sja.1 ⟨fun l2 => k_stepj wa rb50 hjn sja (fun de ue se => nx da Ch_rf de _ ue se ?_), fun l2 => ?_⟩
    · rw [b2i_0] at l2
      unfold dodE; rw [sold, l2, Bool.false_and, Bool.false_and, if_neg (by decide), Int32.add_zero]
    · rw [b2i_1] at l2
      refine k_toKin wa sja.2.2 ok hjn l2 ⟨fun l3 => k_stepj wa rb50 hjn sja (fun de ue se => nx da Ch_rf de _ ue se ?_), fun l3 => k_isCheap wa hjn ht l2 ya sa.2.choose_spec.2.2.2 (fun db ub => ?_)⟩
      · rw [b2i_1, Bool.not_eq_true'] at l3
        unfold dodE; rw [sold, dodg hjn l2, l3, Bool.and_false, Bool.false_and, if_neg (by decide), Int32.add_zero]
      · rw [b2i_0, Bool.not_eq_false'] at l3
        have wb := cW_ch wa rb60 (Ch_w ub (by decide))
        have sjb := stj_ch rb50 sja ub (by decide)
        refine ⟨fun l4 => k_stepj wb rb50 hjn sjb (fun de ue se => nx db ub de _ ue se ?_), fun l4 => k_stepj wb rb50 hjn sjb (fun de ue se => nx db ub de _ ue se ?_)⟩
        · rw [b2i_0] at l4
          unfold dodE; rw [l4, Bool.and_false, if_neg (by decide), Int32.add_zero]
        · rw [b2i_1] at l4
          unfold dodE; rw [sold, dodg hjn l2, l2, l3, l4, Bool.and_self, Bool.and_self, if_pos rfl]
theorem r_dodged102 (h : Env σ E) (g : gW σ d W np nh) (hbit : ∀ p, p < np → W (16 + 3 * p) = 0 ∨ W (16 + 3 * p) = 1) {t : Nat} (ht : t ≤ 99) {kn : Int32} (hkn : W 3 = kn) (A : ∀ e, e < cnt W 2 → gA d (σ 106) e = b2i (askB W np nh kn e)) (k : ∀ d', Ch σ goL d d' → gI d' (σ 87) 0 = gI d (σ 87) 0 → K (sumL (dodE W np nh kn t) (List.range (cnt W 2)) 0) d') : ∃ N, l_X11_dodged_102 E (σ 87) (nI t) K N 0 0 d := by
  obtain ⟨eW, hW, tw, e0, e1, n0, n1, hnp, hnh⟩ := id g
  have w2 : W 2 = nI (cnt W 2) ∧ cnt W 2 ≤ 40 := hW.1 2 (by decide) (by decide)
  refine ⟨cnt W 2 + 1, loopG (S := Int32 × Int32 × Dy) (l := fun N z => l_X11_dodged_102 E (σ 87) (nI t) K N z.1 z.2.1 z.2.2) (b := fun kk z => b_X11_dodged_102 E (σ 87) (nI t) K (fun a b c => kk (a, b, c)) z.1 z.2.1 z.2.2) (fun _ _ => rfl)
    (μ := fun z => cnt W 2 - z.2.1.toNatClampNeg) (P := fun z => Ch σ goL d z.2.2 ∧ gI z.2.2 (σ 87) 0 = gI d (σ 87) 0 ∧ ∃ j, j ≤ cnt W 2 ∧ nI j = z.2.1 ∧ sumL (dodE W np nh kn t) (List.range j) 0 = z.1) ?_ (cnt W 2) (0, 0, d) ⟨Ch_rf, rfl, 0, by omega, rfl, rfl⟩ (Nat.sub_le _ _)⟩
  rintro kk ⟨a, v, dz⟩ ⟨cz, tz, j, hj, rfl, ea⟩ hk
  have cz : Ch σ goL d dz := cz
  have tz : gI dz (σ 87) 0 = gI d (σ 87) 0 := tz
  have ea : sumL (dodE W np nh kn t) (List.range j) 0 = a := ea
  have gz := gW_ch g cz (by decide)
  simp only [b_X11_dodged_102, x_87_1 h, x_87_30 h, en_88 h, en_106 h, show (2 : Int32).toNatClampNeg = 2 from rfl, z_nn (show j < 2147483648 by omega), gz.1, w2.1]
  rw [z_le (by omega) (by omega), z_a1 j]
  refine ⟨vpi (k := 2) (by decide) (by decide), fun hc => ?_, fun hc => ⟨vpi (by omega) (by decide), ?_⟩⟩
  · have : j = cnt W 2 := by omega
    subst this; rw [← ea]; exact k dz cz tz
  · have hjn : j < cnt W 2 := by omega
    have nx : ∀ de b, Ch σ goL dz de → gI de (σ 87) 0 = gI dz (σ 87) 0 → b = a + dodE W np nh kn t j → kk (b, nI (j + 1), de) := fun de b ue te eb =>
      hk (b, nI (j + 1), de) ⟨Ch_tr cz ue, te.trans tz, j + 1, by omega, rfl, by rw [List.range_succ, sum_app, ea, eb]⟩ (by simp only [z_nn (show j + 1 < 2147483648 by omega), z_nn (show j < 2147483648 by omega)]; omega)
    rw [Ch_A cz (by decide) (by decide), A j hjn]
    refine ⟨fun l1 => r_ofEvent (c := 0) h (by omega) (by decide) ⟨vpi (k := 3) (by decide) (by decide), ?_⟩, fun l1 => nx dz a Ch_rf rfl ?_⟩
    · rw [b2i_1] at l1
      unfold askB at l1
      simp only [Bool.and_eq_true, decide_eq_true_eq] at l1
      obtain ⟨⟨l1, l2⟩, l3⟩ := l1
      obtain ⟨y1, y2, y3⟩ := ev_yr hW hjn
      obtain ⟨pr1, pr2⟩ := ev_price hW hjn
      obtain ⟨i, hi, ei⟩ := ro_sur hjn
      have sold := (kS_SD (W := W) (np := np) (nh := nh) (kn := kn) hi (cnt W 2) (Nat.le_refl _)).1
      rw [ei, l1] at sold
      have sold := (Bool.and_eq_true _ _ ▸ sold.symm : _ ∧ _).2
      obtain ⟨⟨a1, a2⟩, -⟩ := sell_facts hW hjn sold
      rw [← n1] at a1
      rw [gz.1, show (3 : Int32).toNatClampNeg = 3 from rfl, hkn, show 120 + 6 * j + 0 = 120 + 6 * j by omega, y1, show (1 : Int32) = nI 1 from rfl, z_sub (by omega), show nI 1 = (1 : Int32) from rfl]
      refine r_goes h gz (show 1900 ≤ yrN W j - 1 by omega) (by omega) (fun da ua sa ra => ?_)
      have ga := gW_ch gz ua (by decide)
      have okR : rsOK np nh (repS W np nh (yrN W j - 1) kn) := by rw [n0, n1]; exact rep_ok hW
      refine r_ofEvent (c := 4) h (by omega) (by decide) (r_ofEvent (c := 2) h (by omega) (by decide) ?_)
      rw [ga.1, show 120 + 6 * j + 4 = 124 + 6 * j by omega, show 120 + 6 * j + 2 = 122 + 6 * j by omega, a2, pr1]
      refine r_rentOf h ga hbit ra okR a1 (fun db ub => ?_)
      obtain ⟨r, hr1, hr2⟩ := rent_n hW tw n1 a1 (rep_f hW) (rp_spec okR a1).2 (show 1900 ≤ yrN W j - 1 by omega) (by omega)
      rw [hr2, lgN (by omega) (by omega) (by omega)]
      have ee : dodE W np nh kn t j = if cnt W (124 + 6 * j) < t * r then 1 else 0 := by
        unfold dodE cheB
        rw [l1, l2, show decide (1900 < yrN W j) = true from by simpa using l3, hr2, z_nn (by omega)]
        simp only [Bool.true_and, decide_eq_true_eq, Nat.mul_comm r t]
      have cb : Ch σ goL dz db := Ch_tr ua (Ch_w ub (by decide))
      have tb : gI db (σ 87) 0 = gI dz (σ 87) 0 := (congrFun (Ch_I ub (by decide) (by decide)) 0).trans (sa 0 (by decide))
      exact ⟨fun l4 => nx db _ cb tb (by rw [ee, if_neg l4]), fun l4 => nx db _ cb tb (by rw [ee, if_pos (by simpa using l4)])⟩
    · rw [b2i_0] at l1
      unfold askB at l1
      unfold dodE cheB
      rw [← Bool.and_assoc, l1, Bool.false_and, if_neg (by decide), Int32.add_zero]
theorem r_dodged45 (h : Env σ E) (g : gW σ d W np nh) (hbit : ∀ p, p < np → W (16 + 3 * p) = 0 ∨ W (16 + 3 * p) = 1) {t : Nat} (ht : t ≤ 99) {kn : Int32} (hkn : W 3 = kn) (R : refR σ np nh d (repS W np nh 2099 kn)) (k : ∀ d', Ch σ refL d d' → gI d' (σ 87) 0 = gI d (σ 87) 0 → K (sumL (dodE W np nh kn t) (List.range (cnt W 2)) 0) d') : ∃ N, l_X11_dodged_45 E (σ 87) (nI t) K N 0 d := by
  obtain ⟨eW, hW, tw, e0, e1, n0, n1, hnp, hnh⟩ := id g
  have w2 : W 2 = nI (cnt W 2) ∧ cnt W 2 ≤ 40 := hW.1 2 (by decide) (by decide)
  rw [rep_last hW] at R
  obtain ⟨N, hN⟩ : ∃ N : Nat, N = 40 := ⟨_, rfl⟩
  refine ⟨N + 1, loopG (S := Int32 × Dy) (l := fun N z => l_X11_dodged_45 E (σ 87) (nI t) K N z.1 z.2) (b := fun kk z => b_X11_dodged_45 E (σ 87) (nI t) K (fun a b => kk (a, b)) z.1 z.2) (fun _ _ => rfl)
    (μ := fun z => N - z.1.toNatClampNeg) (P := fun z => Ch σ [106] d z.2 ∧ ∃ j, j ≤ N ∧ nI j = z.1 ∧ ∀ e, e < j → e < cnt W 2 → gA z.2 (σ 106) e = b2i (askB W np nh kn e)) ?_ N (0, d) ⟨Ch_rf, 0, by omega, rfl, fun e he => absurd he (Nat.not_lt_zero _)⟩ (Nat.sub_le _ _)⟩
  rintro kk ⟨v, dz⟩ ⟨cz, j, hj, rfl, az⟩ hk
  have cz : Ch σ [106] d dz := cz
  have az : ∀ e, e < j → e < cnt W 2 → gA dz (σ 106) e = b2i (askB W np nh kn e) := az
  have gz := gW_ch g cz (by decide)
  have rz := refR_ch R cz (by decide)
  simp only [b_X11_dodged_45, x_87_24 h, x_87_25 h, x_87_30 h, en_101 h, en_102 h, en_106 h, z_nn (show j < 2147483648 by omega)]
  rw [show (40 : Int32) = nI 40 from rfl, z_le (by decide) (by omega), z_a1 j]
  refine ⟨fun hc => ?_, fun hc => ⟨vpi (by omega) (by decide), ?_⟩⟩
  · exact r_dodged102 h gz hbit ht hkn (fun e he => az e (by omega) he) (fun d' c' t' => k d' (Ch_tr (Ch_w cz (by decide)) (Ch_w c' (by decide))) (t'.trans (congrFun (Ch_I cz (by decide) (by decide)) 0)))
  · have nx : ∀ b, (j < cnt W 2 → b = b2i (askB W np nh kn j)) → kk (nI (j + 1), pA dz (σ 106) j b) := fun b eb =>
      hk (nI (j + 1), pA dz (σ 106) j b) ⟨Ch_tr cz (Ch_pA h (by decide) (by decide)), j + 1, by omega, rfl, fun e he1 he2 => by
        rw [gA_pA_x, if_pos rfl]
        by_cases q : e = j
        · subst q; rw [if_pos rfl]; exact eb he2
        · rw [if_neg q]; exact az e (by omega) he2⟩ (by simp only [z_nn (show j + 1 < 2147483648 by omega), z_nn (show j < 2147483648 by omega)]; omega)
    rw [(rz.2.2.2 j (by omega)).1, (rz.2.2.2 j (by omega)).2, vpnB.1, vpnB.2]
    refine ⟨fun l1 => ⟨vpi (by omega) (by decide), nx 0 (fun hjn => ?_)⟩, fun l1 => ⟨vpi (by omega) (by decide), fun l2 => ⟨vpi (by omega) (by decide), nx 0 (fun hjn => ?_)⟩, fun l2 => r_ofEvent (c := 0) h (by omega) (by decide) ⟨fun l3 => ⟨vpi (by omega) (by decide), nx 0 (fun hjn => ?_)⟩, fun l3 => ⟨vpi (by omega) (by decide), nx 1 (fun hjn => ?_)⟩⟩⟩⟩
    · rw [b2i_0] at l1; unfold askB; rw [l1]; rfl
    · rw [b2i_0] at l2; unfold askB; rw [l2, Bool.and_false]; rfl
    · obtain ⟨y1, y2, y3⟩ := ev_yr hW hjn
      rw [gz.1, show 120 + 6 * j + 0 = 120 + 6 * j by omega, y1, show (1900 : Int32) = nI 1900 from rfl, z_le (by omega) (by decide)] at l3
      unfold askB; rw [show decide (1900 < yrN W j) = false from by simp; omega, Bool.and_false]; rfl
    · obtain ⟨y1, y2, y3⟩ := ev_yr hW hjn
      rw [gz.1, show 120 + 6 * j + 0 = 120 + 6 * j by omega, y1, show (1900 : Int32) = nI 1900 from rfl, z_le (by omega) (by decide)] at l3
      rw [b2i_1] at l1 l2
      unfold askB; rw [l1, l2, show decide (1900 < yrN W j) = true from by simp; omega]; rfl
theorem p_dodged (I : Inv σ E d) (k : ∀ E' d', Inv σ E' d' → kc E' d') (hK : ∀ v d2, w_X11_dodged E (σ 87) p1 d2 (fun r d => cmpO σ E kc v r d) → K v d2) : w_L_dodged E (σ 0) p1 (σ 115) d K := by
  have h := I.1
  have c := cW_I I
  by_cases b1 : bw p1 1 99
  · obtain ⟨t, ht1, ht2, et⟩ := bw_n (a := 1) (b := 99) b1 (by decide) (by decide)
    simp only [w_L_dodged, w_X10_dodged, x_0_0 h, x_0_5 h, x_0_6 h]
    refine ⟨eo_0 h, eo_115 h, eo_0 h, nb1 b1 ?_⟩
    rw [td_3 I]
    refine k_begin c rb50 (fun d1 c1 s1 s3 C1 => ?_)
    rw [et] at hK b1 ⊢
    have w1 := cW_ch c rb50 c1
    rw [td_3 w1.1, w1.2.1]
    refine k_begin w1 rb60 (fun d2 c2 u1 u3 U1 => ?_)
    have w2 := cW_ch w1 rb60 c2
    have g2 := cW_gW w2
    refine k_dodged39 w2 ht2 (kn := gA d (σ 88) 3) (stj_ch rb50 (j := 0) ⟨s1, s3, C1⟩ c2 (by decide)) (cst_begin g2.2.1 u1 u3 U1) (fun d4 c4 => ⟨v0_115 h, ?_⟩)
    have w4 := cW_dg w2 c4
    have cc : Ch σ scr d d4 := Ch_w (Ch_tr (Ch_w c1 dg5) (Ch_tr (Ch_w c2 dg6) c4)) dg_scr
    refine hK _ _ ⟨eo_87 h, ri1 b1 ⟨fun _ => ⟨eo_87 h, rt0 h ⟨fun _ => ?_, fun q => absurd rfl q⟩⟩, fun q => absurd q (by decide)⟩⟩
    simp only [x_87_1 h, en_88 h, show (3 : Int32).toNatClampNeg = 3 from rfl, gA_pI_x, gA_pJ_x, w4.2.1]
    refine ⟨vpi (k := 3) (by decide) (by decide), q_goes2 (Y := 2099) I k cc (cW_gW w4) (by decide) (by decide) (fun d3 g3 R3 fin => ?_)⟩
    exact r_dodged45 h g3 (fun p hp => k_bit2 c hp) ht2 rfl R3 fin
  · exact ⟨eo_0 h, eo_115 h, eo_0 h, nb0 b1 ⟨rfl, hK _ _ ⟨eo_87 h, ri0 b1 ⟨fun q => absurd rfl q, fun _ => ⟨eo_87 h, rt1 h ⟨fun q => absurd q (by decide), fun _ => fail_O I (by decide) k⟩⟩⟩⟩⟩⟩
theorem c_dodged (I : Inv σ E d) (hv : v5 v4 L) (k : ∀ E' d', Inv σ E' d' → kc E' d') : lw_1715 E (σ 0) (σ 87) (σ 115) v4 xs L kc d :=
  ⟨eo_0 I.1, eo_87 I.1, eo_115 I.1, hv.1, p_dodged I k (fun v d2 hk => ⟨hv.1, hk⟩)⟩
end
