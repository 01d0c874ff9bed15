def yaL : List Nat := [73, 74, 75, 76, 77, 78, 79]
section
variable {σ : Nat → Nat} {E : En} {d d' d2 d3 : Dy} {W : Nat → Int32} {np nh L n P : Nat} {S : RS} {K : Int32 → Dy → Prop} {K0 : Dy → Prop} {XX : String → Dy → Prop} {kc : En → Dy → Prop} {v4 : Int32} {xs : Nat → Int32} {how p1 p2 p3 p4 : Int32}
theorem ya_scr : ∀ i ∈ yaL, i ∈ scr := by decide
theorem cW_ya (c : cW σ E d W np nh) (h : Ch σ yaL d d') : cW σ E d' W np nh := ⟨Inv_ch c.1 (Ch_w h ya_scr), (Ch_A h (by decide) (by decide)).trans c.2.1, c.2.2⟩
theorem C_ya (C : clsR σ 50 np nh d S) (h : Ch σ yaL d d') : clsR σ 50 np nh d' S := clsR_ch C rb50 h (by decide)
theorem k_pileOf (h : Env σ E) {hu : Nat → Nat} (hn : n ≤ 7) (g6 : gI d (σ 73) 6 = nI n) (a74 : ∀ k, k < n → gA d (σ 74) k = nI (hu k)) {A : Nat} (a78 : ∀ k, k < n → gA d (σ 78) k = nI (dgN P n k A)) (k : K (fndA P n A hu p4) d) : w_X9_pileOf E (σ 73) p4 d K := by
  unfold fndA at k
  refine ⟨eo_73 h, n + 1, loopG (S := Int32 × Dy) (l := fun M z => l_X9_pileOf_2 E (σ 73) p4 K M z.1 z.2) (b := fun kk z => b_X9_pileOf_2 E (σ 73) p4 K (fun a b => kk (a, b)) z.1 z.2) (fun _ _ => rfl)
    (μ := fun z => n - z.1.toNatClampNeg) (P := fun z => d = z.2 ∧ ∃ j, j ≤ n ∧ nI j = z.1 ∧ fstN (fun k => decide (nI (hu k) = p4)) j = none) ?_ n (0, d) ⟨rfl, 0, by omega, rfl, rfl⟩ (Nat.sub_le _ _)⟩
  rintro kk ⟨v, dz⟩ ⟨e_0, j, hj, e_1, ej⟩ hk
  subst e_0 e_1
  simp only [b_X9_pileOf_2, x_73_0 h, x_73_4 h, en_74 h, en_78 h, z_nn (show j < 2147483648 by omega)]
  rw [g6, z_le (by omega) (by omega)]
  refine ⟨fun hc => ?_, fun hc => ⟨vpi (by omega) (by decide), ?_⟩⟩
  · have : j = n := by omega
    subst this; rw [ej] at k; exact k
  · rw [a74 j (by omega), a78 j (by omega)]
    refine ⟨fun l1 => ?_, fun l1 => ⟨vpi (by omega) (by decide), ?_⟩⟩
    · rw [z_a1]
      exact hk (nI (j + 1), d) ⟨rfl, j + 1, by omega, rfl, fst_f ej (by simpa using l1)⟩ (by simp only [z_nn (show j + 1 < 2147483648 by omega), z_nn (show j < 2147483648 by omega)]; omega)
    · rw [fst_t ej (show j < n by omega) (by simpa using l1)] at k; exact k
/-- the huts that were brought -/
def brg (σ : Nat → Nat) (d : Dy) (W : Nat → Int32) (S : RS) (how : Int32) (X P j : Nat) : Prop :=
  gI d (σ 73) 6 = nI (itL X S j).length ∧ gI d (σ 73) 7 = nI P ∧ (∀ q, q < 4 → gA d (σ 79) q = 2147483647) ∧ ∀ k, k < (itL X S j).length → gA d (σ 74) k = nI (rsO S ((itL X S j).getD k 0)) ∧ gA d (σ 75) k = W (50 + 7 * rsO S ((itL X S j).getD k 0)) ∧ gA d (σ 76) k = rkF how S ((itL X S j).getD k 0)
theorem k_bring (h : Env σ E) {X j : Nat} (h7 : (itL X S j).length < 7) (q : X.testBit (rsO S j) = true) (b : brg σ d W S how X P j) (k : ∀ d', Ch σ yaL d d' → brg σ d' W S how X P (j + 1) → K0 d') : w_X9_bring E (σ 73) (nI (rsO S j)) (W (50 + 7 * rsO S j)) (rkF how S j) d K0 := by
  have s1 := (it_snoc (k := 0) q).1
  simp only [w_X9_bring, x_73_0 h, x_73_1 h, x_73_2 h, en_74 h, en_75 h, en_76 h, gI_pA_x]
  rw [b.1, show (7 : Int32) = nI 7 from rfl, z_le (by decide) (by omega), z_nn (by omega), z_a1]
  refine ⟨eo_73 h, fun z => by omega, fun _ => ⟨vpi (by omega) (by decide), vpi (by omega) (by decide), vpi (by omega) (by decide), ?_⟩⟩
  refine k _ (Ch_tr (Ch_tr (Ch_tr (Ch_pA h (by decide) (by decide)) (Ch_pA h (by decide) (by decide))) (Ch_pA h (by decide) (by decide))) (Ch_pI h (by decide) (by decide) (by decide))) ⟨?_, ?_, fun q2 hq2 => ?_, fun k2 hk2 => ?_⟩
  · rw [gI_pI, s1]
  · rw [gI_pI_k _ _ _ (by decide)]; exact b.2.1
  · simp only [gA_pA_x, gA_pI_x, gA_pJ_x, gA_sA_x, gA_pQ_x, gI_pA_x, gI_pI_x, gI_pJ_x, gI_sA_x, gI_pQ_x, gJ_pA_x, gJ_pI_x, gJ_pJ_x, gJ_sA_x, gJ_pQ_x, gQ_pA_x, gQ_pI_x, gQ_pJ_x, gQ_sA_x, gQ_pQ_x, gA_sJ_x, gI_sJ_x, gJ_sJ_x, gQ_sJ_x, sg h, Nat.reduceLT, Nat.reduceEqDiff, if_false]
    exact b.2.2.1 q2 hq2
  · simp only [gA_pA_x, gA_pI_x, gA_pJ_x, gA_sA_x, gA_pQ_x, gI_pA_x, gI_pI_x, gI_pJ_x, gI_sA_x, gI_pQ_x, gJ_pA_x, gJ_pI_x, gJ_pJ_x, gJ_sA_x, gJ_pQ_x, gQ_pA_x, gQ_pI_x, gQ_pJ_x, gQ_sA_x, gQ_pQ_x, gA_sJ_x, gI_sJ_x, gJ_sJ_x, gQ_sJ_x, sg h, Nat.reduceLT, Nat.reduceEqDiff, if_false, if_true]
    by_cases e : k2 = (itL X S j).length
    · rw [if_pos e, if_pos e, if_pos e, e, (it_snoc (k := 0) q).2.2]; exact ⟨rfl, rfl, rfl⟩
    · rw [if_neg e, if_neg e, if_neg e, (it_snoc q).2.1 (by omega)]; exact b.2.2.2 k2 (by omega)
theorem k_l92 (c : cW σ E d W np nh) (C : clsR σ 50 np nh d S) (ok : rsOK np nh S) {X : Nat} (hX : X < 2 ^ nh) (h7 : (itL X S nh).length ≤ 7) (hP1 : 1 ≤ P) (hP4 : P ≤ 4) (hw : how = 0 ∨ how = 1 ∨ how = 2) (b0 : brg σ d W S how X P 0)
    (k : ∀ d' A, Ch σ yaL d d' → LMn (coN P (rkI how X S nh) (szI W X S nh) (itL X S nh).length 0 (fun _ => 2147483647)) (P ^ (itL X S nh).length) A → K (if p4 = -1 then nI (coN P (rkI how X S nh) (szI W X S nh) (itL X S nh).length 0 (fun _ => 2147483647) A) else fndA P (itL X S nh).length A (huI X S nh) p4) d') : ∃ N, l_X10_lift_92 E (σ 0) p1 p2 how p4 K XX N (nI X) 0 d := by
  have h := c.1.1
  obtain ⟨eW, hW, tw, e0, e1, n0, n1, hnp, hnh⟩ := cW_gW c
  have hX2 : X < 2 ^ 10 := Nat.lt_of_lt_of_le hX (Nat.pow_le_pow_right (by decide) hnh)
  have mono : ∀ j, j ≤ nh → (itL X S j).length ≤ (itL X S nh).length := fun j hj => by
    rw [it_len, it_len]
    have : ∀ m, cntN (fun i => X.testBit (rsO S i)) j ≤ cntN (fun i => X.testBit (rsO S i)) (j + m) := fun m => by
      induction m with
      | zero => exact Nat.le_refl _
      | succ m ihm => exact Nat.le_trans ihm (Nat.le_add_right _ _)
    have := this (nh - j)
    rwa [show j + (nh - j) = nh by omega] at this
  refine ⟨nh + 1, loopG (S := Int32 × Int32 × Dy) (l := fun M z => l_X10_lift_92 E (σ 0) p1 p2 how p4 K XX M z.1 z.2.1 z.2.2) (b := fun kk z => b_X10_lift_92 E (σ 0) p1 p2 how p4 K XX (fun a b c => kk (a, b, c)) z.1 z.2.1 z.2.2) (fun _ _ => rfl)
    (μ := fun z => nh - z.2.1.toNatClampNeg) (P := fun z => nI X = z.1 ∧ ∃ j, j ≤ nh ∧ nI j = z.2.1 ∧ Ch σ yaL d z.2.2 ∧ brg σ z.2.2 W S how X P j) ?_ nh (nI X, 0, d) ⟨rfl, 0, by omega, rfl, Ch_rf, b0⟩ (Nat.sub_le _ _)⟩
  rintro kk ⟨a1, a2, dz⟩ ⟨e_1, j, hj, e_2, cz, bz⟩ hk
  subst e_1 e_2
  have cz : Ch σ yaL d dz := cz
  have bz : brg σ dz W S how X P j := bz
  have wz := cW_ya c cz
  have Cz := C_ya C cz
  simp only [b_X10_lift_92, b_X10_lift_150, w_X3_hutAt, x_0_0 h, x_0_5 h, x_0_8 h, x_1_2 h, x_50_7 h]
  refine k_nhuts wz ?_
  rw [z_le (by omega) (by omega), z_a1 j]
  refine ⟨fun hc => ?_, fun hc => ⟨eo_50 h, k_gO wz rb50 Cz (by omega) ?_⟩⟩
  · have ej : j = nh := by omega
    subst ej
    have szi := sz_it (X := X) hW n1 ok
    refine ⟨eo_73 h, ?_⟩
    have c1 : Ch σ yaL dz (pI dz (σ 73) 8 2147483647) := Ch_pI h (by decide) (by decide) (by decide)
    have y1 : yD σ (pI dz (σ 73) 8 2147483647) (itL X S j).length P (rkI how X S j) (szI W X S j) := by
      refine ⟨?_, ?_, fun q hq => ?_⟩
      · rw [gI_pI_k _ _ _ (by decide)]; exact bz.1
      · rw [gI_pI_k _ _ _ (by decide)]; exact bz.2.1
      · rw [gA_pI_x]
        obtain ⟨-, r2, r3⟩ := bz.2.2.2 q hq
        exact ⟨r2.trans (szi.1 q hq), r3⟩
    have g8 : gI (pI dz (σ 73) 8 2147483647) (σ 73) 8 = nI 2147483647 := gI_pI _ _ _ _
    have f79 : ∀ q, q < 4 → gA (pI dz (σ 73) 8 2147483647) (σ 79) q = 2147483647 := bz.2.2.1
    have a74 : ∀ k, k < (itL X S j).length → gA (pI dz (σ 73) 8 2147483647) (σ 74) k = nI (huI X S j k) := fun k hk => (bz.2.2.2 k hk).1
    generalize pI dz (σ 73) 8 2147483647 = da at c1 y1 g8 f79 a74
    refine k_pile (P := P) h h7 hP1 hP4 szi.2 (itL X S j).length 60 0 0 0 2147483647 (fun _ => 2147483647) (fun _ => 0) da _ (by omega) (by omega) (by omega) (by omega) (by decide) y1 g8 (fun q hq => f79 q (by omega)) (fun _ _ _ => rfl) (fun q hq => absurd hq (Nat.not_lt_zero _)) (fun db ub yb fb2 wb rb => ?_)
    have a74b : ∀ k, k < (itL X S j).length → gA db (σ 74) k = nI (huI X S j k) := fun k hk => by rw [Ch_A ub (by decide) (by decide)]; exact a74 k hk
    rcases rb with ⟨q1, -, -⟩ | ⟨A, q1, q2, q3, -, q5⟩
    · have := q1 0 (Nat.pow_pos hP1)
      have := co_le (P := P) (rk := rkI how X S j) szi.2 (itL X S j).length 0 (fun _ => 2147483647) 0
      omega
    · have kA := k db A (Ch_tr cz (Ch_tr c1 (Ch_w ub (by decide)))) q1
      refine ⟨fun l4 => ?_, fun l4 => ⟨eo_73 h, ?_⟩⟩
      · rw [if_neg l4] at kA
        exact k_pileOf h h7 yb.1 a74b (fun k hk => by have := q5 k hk; rw [Nat.zero_add] at this; exact this) kA
      · rw [if_pos l4] at kA
        rw [q3, Nat.zero_add]; exact kA
  · have hjn : j < nh := by omega
    have hr := ok.2.2.1 j hjn
    have m1 := mono (j + 1) (by omega)
    rw [(Cz.2.2.2 j hjn).2.2, b_bit (by omega) (by omega)]
    have nx : ∀ de, Ch σ yaL dz de → brg σ de W S how X P (j + 1) → kk (nI X, nI (j + 1), de) := fun de ue be =>
      hk (nI X, nI (j + 1), de) ⟨rfl, j + 1, by omega, rfl, Ch_tr cz ue, be⟩ (by simp only [z_nn (show j + 1 < 2147483648 by omega), z_nn (show j < 2147483648 by omega)]; omega)
    refine ⟨fun l1 => nx dz Ch_rf ?_, fun l1 => ?_⟩
    · have q : X.testBit (rsO S j) = false := by
        cases z : X.testBit (rsO S j)
        · rfl
        · rw [z] at l1; exact absurd l1 (by decide)
      unfold brg; rw [it_skip q]; exact bz
    · have q : X.testBit (rsO S j) = true := by
        cases z : X.testBit (rsO S j)
        · rw [z] at l1; exact absurd rfl l1
        · rfl
      have s1 := (it_snoc (k := 0) q).1
      have go : ∀ s, s = rkF how S j → w_X6_get E (σ 4) (nI (rsO S j)) 0 dz (fun r_11 d_10 => w_X9_bring E (σ 73) (nI (rsO S j)) r_11 s d_10 (fun d_12 => kk (nI X, nI (j + 1), d_12))) := fun s es => by
        refine k_hut (j := 0) wz hr (by decide) ?_
        rw [es, show 50 + 7 * rsO S j + 0 = 50 + 7 * rsO S j by omega]
        exact k_bring h (by omega) q bz nx
      refine ⟨fun l2 => ⟨fun l3 => go _ ?_, fun l3 => go _ ?_⟩, fun l2 => go _ ?_⟩
      · unfold rkF; rw [if_neg l2, if_neg l3]
      · unfold rkF; rw [if_neg l2, if_pos l3]
      · unfold rkF; rw [if_pos l2]
theorem p_lift (I : Inv σ E d) (k : ∀ E' d', Inv σ E' d' → kc E' d') (hK : ∀ v d2, w_X11_lift E (σ 87) p1 p2 p3 p4 d2 (fun r d => cmpO σ E kc v r d) → K v d2) : w_L_lift E (σ 0) p1 p2 p3 p4 (σ 115) d K := by
  have h := I.1
  have c := cW_I I
  have wc := wc_1 I
  have g := cW_gW c
  have rf : ∀ {K1 d2}, (p4 = -1 ∨ lx p4 (cnt (gA d (σ 88)) 1)) → gA d2 (σ 88) = gA d (σ 88) → b_X11_lift_26 E (σ 87) p1 p2 p3 p4 K1 (σ 87) 0 (pI d2 (σ 87) 0 0) → w_X11_lift E (σ 87) p1 p2 p3 p4 d2 K1 := fun b0 e q => by
    refine ⟨eo_87 h, fun l1 => ⟨eo_87 h, q⟩, fun l1 => rhn1 h (by rw [gA_pI_x, e]; exact wc.1) (by omega) (b0.resolve_left l1) ⟨fun _ => ⟨eo_87 h, q⟩, fun z => absurd rfl z⟩⟩
  have bad2 : (p4 = -1 ∨ lx p4 (cnt (gA d (σ 88)) 1)) → b_X11_lift_81 E (σ 87) p1 p2 p3 p4 (fun r d => cmpO σ E kc 2 r d) (p1 &&& (((1 : Int32) <<< (nI (cnt (gA d (σ 88)) 1) &&& 31)) - 1)) (σ 87) 1 (pI d (σ 87) 0 0) := fun _ => ⟨eo_87 h, rt1 h ⟨fun q => absurd q (by decide), fun _ => fail_O I (by decide) k⟩⟩
  have hutn : ∀ {K1 : Int32 → Dy → Prop} {d2}, gA d2 (σ 88) = gA d (σ 88) → K1 (nI (cnt (gA d (σ 88)) 1)) d2 → w_X11_huts E (σ 87) d2 K1 := fun e q => r_huts h (by rw [e, wc.1]; exact q)
  have body : (p4 = -1 ∨ lx p4 (cnt (gA d (σ 88)) 1)) → b_X10_lift_12 E (σ 0) p1 p2 p3 p4 (fun r_2 d_1 => vp_in 0 (eN E (σ 115)) ∧ K 0 (pJ d_1 (σ 115) ((0 : Int32)).toNatClampNeg r_2.toInt64)) (fun Ex d_3 => (Ex = "java/lang/IndexOutOfBoundsException" ∧ K 1 d_3) ∨ (Ex = "java/lang/IllegalArgumentException" ∧ K 2 d_3)) d := fun b0 => by
    by_cases b2 : bw p2 1 4
    · by_cases b3 : bw p3 0 2
      · obtain ⟨P, hP1, hP4, eP⟩ := bw_n (a := 1) (b := 4) b2 (by decide) (by decide)
        have hw : p3 = 0 ∨ p3 = 1 ∨ p3 = 2 := by
          obtain ⟨m, -, hm, em⟩ := bw_n (a := 0) (b := 2) b3 (by decide) (by decide)
          have : m = 0 ∨ m = 1 ∨ m = 2 := by omega
          rcases this with rfl | rfl | rfl
          · exact Or.inl em
          · exact Or.inr (Or.inl em)
          · exact Or.inr (Or.inr em)
        have mk := b_mask p1 (k := cnt (gA d (σ 88)) 1) (by omega)
        have hX : p1.toBitVec.toNat % 2 ^ cnt (gA d (σ 88)) 1 < 2 ^ cnt (gA d (σ 88)) 1 := Nat.mod_lt _ (Nat.two_pow_pos _)
        generalize p1.toBitVec.toNat % 2 ^ cnt (gA d (σ 88)) 1 = X at mk hX
        have hX2 : X < 4096 := Nat.lt_of_lt_of_le hX (Nat.le_trans (Nat.pow_le_pow_right (by decide) wc.2) (by decide))
        have pl := pop_le X 12
        simp only [b_X10_lift_12, b_X10_lift_50, w_X8_hutBits, x_0_0 h, x_0_5 h, x_0_8 h, x_1_2 h]
        refine nb1 b2 (nb1 b3 ⟨eo_1 h, k_nhuts c (k_bc ?_)⟩)
        rw [mk, bc_all _ hX2, show (7 : Int32) = nI 7 from rfl, z_lt (by decide) (by omega)]
        have r26 : ∀ {K1 d2}, gA d2 (σ 88) = gA d (σ 88) → ((popN X 12 ≤ 7 → b_X11_lift_81 E (σ 87) p1 p2 p3 p4 K1 (nI X) (σ 87) 0 d2) ∧ (¬ popN X 12 ≤ 7 → b_X11_lift_81 E (σ 87) p1 p2 p3 p4 K1 (nI X) (σ 87) 1 d2)) → b_X11_lift_26 E (σ 87) p1 p2 p3 p4 K1 (σ 87) 0 d2 := fun {K1 d2} e q => by
          refine ⟨eo_87 h, rt0 h ⟨fun _ => hutn e (ri1 b2 ⟨fun z => absurd z (by decide), fun _ => ri1 b3 ⟨fun z => absurd z (by decide), fun _ => k_bc ?_⟩⟩), fun z => absurd rfl z⟩⟩
          rw [mk, bc_all _ hX2, show (7 : Int32) = nI 7 from rfl, z_le (by omega) (by decide)]
          exact ⟨q.1, fun z => ⟨eo_87 h, q.2 z⟩⟩
        refine ⟨fun l7 => ⟨fun z => absurd rfl z, fun _ => Or.inr ⟨rfl, hK _ _ (rf b0 rfl (r26 rfl ⟨fun z => by omega, fun _ => ⟨eo_87 h, rt1 h ⟨fun q => absurd q (by decide), fun _ => fail_O I (by decide) k⟩⟩⟩))⟩⟩, fun l7 => ⟨fun _ => k_today c (fun d1 c1 C1 => ?_), fun z => absurd z (by decide)⟩⟩
        have w1 := cW_ch c rb50 c1
        have okR := rep_ok (cW_gW w1).2.1 (Y := cnt (gA d (σ 88)) 3) (kn := gA d (σ 88) 3)
        have it7 := it_7 okR hX wc.2 (show popN X 12 ≤ 7 by omega)
        simp only [w_X9_clear, x_73_5 h]
        have e4 : (if (4 : Int32) < p2 then 4 else p2) = nI P := by
          rw [eP, if_neg]
          rw [show (4 : Int32) = nI 4 from rfl, z_lt (by decide) (by omega)]; omega
        rw [e4]
        have u1 : Ch σ yaL d1 (pI (pI d1 (σ 73) 7 (nI P)) (σ 73) 6 0) := Ch_tr (Ch_pI h (by decide) (by decide) (by decide)) (Ch_pI h (by decide) (by decide) (by decide))
        have v6 : gI (pI (pI d1 (σ 73) 7 (nI P)) (σ 73) 6 0) (σ 73) 6 = nI 0 := gI_pI _ _ _ _
        have v7 : gI (pI (pI d1 (σ 73) 7 (nI P)) (σ 73) 6 0) (σ 73) 7 = nI P := by rw [gI_pI_k _ _ _ (by decide), gI_pI]
        generalize pI (pI d1 (σ 73) 7 (nI P)) (σ 73) 6 0 = d2 at u1 v6 v7
        refine ⟨eo_73 h, k_fill h (by decide) (eo_79 h) (en_79 h) (by decide) (fun d3 c3 f3 => ?_)⟩
        have u3 : Ch σ yaL d1 d3 := Ch_tr u1 (Ch_w c3 (by decide))
        have w3 := cW_ya w1 u3
        refine k_l92 w3 (C_ya C1 u3) okR hX it7 hP1 hP4 hw ⟨?_, ?_, f3, fun q hq => absurd hq (Nat.not_lt_zero _)⟩ (fun d4 A c4 lmA => ⟨v0_115 h, ?_⟩)
        · rw [Ch_I c3 (by decide) (by decide)]; exact v6
        · rw [Ch_I c3 (by decide) (by decide)]; exact v7
        · have w4 := cW_ya w3 c4
          have g4 := cW_gW w4
          have cc : Ch σ scr d d4 := Ch_tr (Ch_w c1 (cL_scr rb50)) (Ch_w (Ch_tr u3 c4) ya_scr)
          rw [eP] at hK rf r26
          refine hK _ _ (rf b0 w4.2.1 (r26 w4.2.1 ⟨fun _ => ⟨eo_87 h, rt0 h ⟨fun _ => ?_, fun z => absurd rfl z⟩⟩, fun z => by omega⟩))
          refine r_today h (d := pI (pJ d4 (σ 115) 0 _) (σ 87) 0 0) ⟨g4.1, g4.2⟩ (fun d5 c5 t5 R5 => ?_)
          have g5 := gW_ch (d := pI (pJ d4 (σ 115) 0 _) (σ 87) 0 0) ⟨g4.1, g4.2⟩ c5 (by decide)
          refine r_l102 h g5 R5 okR hX it7 (fun d6 c6 t6 l6 => ?_)
          have g6 := gW_ch g5 c6 (by decide)
          have szi := sz_it (X := X) g4.2.1 rfl okR
          refine r_l167 (rk := rkI p3 X _ _) (sz := szI (gA d (σ 88)) X _ _) h g6 it7 hP1 hP4 l6 (fun q hq => okR.2.2.1 _ (it_lt hq)) (fun q hq => ⟨szi.1 q hq, szi.2 q⟩) (fun x q hx hq => rk_ah okR wc.2 hw hx hq) (fun d7 A2 c7 lm2 => ?_)
          rw [LM_uniq lm2 lmA]
          refine q_end I k cc (Ch_tr (ch_thr h) (Ch_tr (Ch_w c5 (by decide)) (Ch_tr (Ch_w c6 (by decide)) (Ch_w c7 (by decide))))) ?_
          exact (congrFun (Ch_I c7 (by decide) (by decide)) 0).trans (t6.trans (t5.trans (gI_pI _ _ _ _)))
      · refine nb1 b2 (nb0 b3 (Or.inr ⟨rfl, hK _ _ (rf b0 rfl ⟨eo_87 h, rt0 h ⟨fun _ => hutn rfl (ri1 b2 ⟨fun z => absurd z (by decide), fun _ => ri0 b3 ⟨fun _ => ⟨eo_87 h, bad2 b0⟩, fun z => absurd rfl z⟩⟩), fun z => absurd rfl z⟩⟩)⟩))
    · refine nb0 b2 (Or.inr ⟨rfl, hK _ _ (rf b0 rfl ⟨eo_87 h, rt0 h ⟨fun _ => hutn rfl (ri0 b2 ⟨fun _ => ⟨eo_87 h, bad2 b0⟩, fun z => absurd rfl z⟩), fun z => absurd rfl z⟩⟩)⟩)
  refine ⟨eo_0 h, eo_115 h, eo_0 h, fun l1 => body (Or.inl l1), fun l1 => ?_⟩
  by_cases b0 : lx p4 (cnt (gA d (σ 88)) 1)
  · exact nh1 h (td_4 I) b0 (body (Or.inr b0))
  · refine nh0 h (td_4 I) b0 (Or.inl ⟨rfl, hK _ _ ⟨eo_87 h, fun z => absurd z l1, fun _ => rhn0 h (by rw [gA_pI_x]; exact wc.1) (by omega) b0 ⟨fun z => absurd z (by decide), fun _ => ⟨eo_87 h, rt1 h ⟨fun z => absurd z (by decide), fun _ => fail_O I (by decide) k⟩⟩⟩⟩⟩)
theorem c_lift (I : Inv σ E d) (hv : v5 v4 L) (k : ∀ E' d', Inv σ E' d' → kc E' d') : lw_1771 E (σ 0) (σ 87) (σ 115) v4 xs L kc d :=
  ⟨eo_0 I.1, eo_87 I.1, eo_115 I.1, hv.1, hv.2.1, hv.2.2.1, hv.2.2.2.1, p_lift I k (fun v d2 hk => ⟨hv.1, hv.2.1, hv.2.2.1, hv.2.2.2.1, hk⟩)⟩
end
