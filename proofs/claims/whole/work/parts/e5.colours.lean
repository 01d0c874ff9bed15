/-! paint that is allowed -/
def colS (W : Nat → Int32) (F : Nat → Int32) : Nat → Int32
  | 0 => 0
  | i + 1 => if hdS W 3 i F = true then colS W F i ||| ((1 : Int32) <<< (W (3151 + 5 * i) &&& 31)) else colS W F i
def allS (W : Nat → Int32) (S : RS) (nh i : Nat) (y : Int32) : Int32 := if W 13 = 0 then 255 else colS W (huF W S nh i y) (cnt W 3149)
theorem col_congr {W : Nat → Int32} {n : Nat} {F G : Nat → Int32} (t : TW W 3 n) (a : fAg 3 F G) : ∀ i, i ≤ n → colS W F i = colS W G i
  | 0, _ => rfl
  | i + 1, hi => by
    have e1 := col_congr t a i (by omega)
    show (if hdS W 3 i F = true then colS W F i ||| ((1 : Int32) <<< (W (3151 + 5 * i) &&& 31)) else colS W F i) = (if hdS W 3 i G = true then colS W G i ||| ((1 : Int32) <<< (W (3151 + 5 * i) &&& 31)) else colS W G i)
    rw [e1, hd_congr t (by omega) a]
theorem fs3 : ∀ f, f < 8 → fsB 3 f = true → f = 3 ∨ f = 4 ∨ f = 5 := by decide
section
variable {σ : Nat → Nat} {E : En} {d d' d2 d3 : Dy} {W : Nat → Int32} {np nh L n : Nat} {S : RS} {K : Int32 → Dy → Prop} {K0 : Dy → Prop} {X : String → Dy → Prop} {kc : En → Dy → Prop} {v4 : Int32} {xs : Nat → Int32} {p1 p2 : Int32}
theorem k_colours (h : Env σ E) {q n : Nat} (hx : TX σ E d q W 3) (hn : W 3149 = nI n) (hn2 : n ≤ 10) (k : ∀ d', Ch σ [57, 59] d d' → K (colS W (gA d (σ 58)) n) d') : w_X7_colours E q (σ 57) d K := by
  obtain ⟨tl0, -, -, -, -, -, ho, h2, -, h4, -⟩ := id hx
  refine ⟨ho, eo_57 h, n + 1, loopG (S := Int32 × Int32 × Dy) (l := fun N z => l_X7_colours_4 E q (σ 57) K N z.1 z.2.1 z.2.2) (b := fun kk z => b_X7_colours_4 E q (σ 57) K (fun a b c => kk (a, b, c)) z.1 z.2.1 z.2.2) (fun _ _ => rfl)
    (μ := fun z => n - z.2.1.toNatClampNeg) (P := fun z => ∃ i, i ≤ n ∧ nI i = z.2.1 ∧ colS W (gA d (σ 58)) i = z.1 ∧ Ch σ [57, 59] d z.2.2) ?_ n (0, 0, d) ⟨0, by omega, rfl, rfl, Ch_rf⟩ (Nat.sub_le _ _)⟩
  rintro kk ⟨a, v, dz⟩ ⟨i, hi, rfl, rfl, cz⟩ hk
  have cz : Ch σ [57, 59] d dz := cz
  have fz : gA dz (σ 58) = gA d (σ 58) := Ch_A cz (by decide) (by decide)
  have hxz := TX_ch hx cz
  refine k_tsz hxz hn hn2 ?_
  show (nI n ≤ nI i → _) ∧ (¬ nI n ≤ nI i → _)
  rw [z_le (by omega) (by omega)]
  refine ⟨fun hc => ?_, fun hc => ?_⟩
  · have : i = n := by omega
    subst this; exact k dz cz
  · have hin : i < n := by omega
    have nx : ∀ x (de : Dy), x = colS W (gA d (σ 58)) (i + 1) → Ch σ [57, 59] d de → kk (x, nI i + 1, de) := fun x de ex ue => by
      rw [z_a1]; exact hk (x, nI (i + 1), de) ⟨i + 1, by omega, rfl, ex.symm, ue⟩ (by simp only [z_nn (show i + 1 < 2147483648 by omega), z_nn (show i < 2147483648 by omega)]; omega)
    have es : colS W (gA d (σ 58)) (i + 1) = if hdS W 3 i (gA d (σ 58)) = true then colS W (gA d (σ 58)) i ||| ((1 : Int32) <<< (W (3151 + 5 * i) &&& 31)) else colS W (gA d (σ 58)) i := rfl
    refine k_holds h rb50 hxz hn hn2 hin (fun z => absurd rfl z) (fun de ue => ?_)
    rw [fz]
    have hxe := TX_ch hxz ue
    refine ⟨fun h0 => nx _ _ ?_ (Ch_tr cz ue), fun h0 => k_tget (j := 0) hxe hn hn2 hin (by decide) (fun tl tb len e0 o0 ln => nx _ _ ?_ (Ch_tr cz ue))⟩
    · rw [b2i_0] at h0; rw [es, if_neg (by rw [h0]; decide)]
    · rw [b2i_1] at h0
      unfold LnR at ln
      rw [if_neg (by decide), if_pos rfl] at ln
      have l1 : gA de tb (i * 5) = W (597 + 851 * 3 + 5 * i + 1) := ln.1.1
      rw [show 597 + 851 * 3 + 5 * i + 1 = 3151 + 5 * i by omega] at l1
      rw [es, if_pos h0, show i * 5 + 0 = i * 5 from rfl, l1]
theorem k_coloursOf (c : cW σ E d W np nh) (C : clsR σ 50 np nh d S) (ok : rsOK np nh S) {i : Nat} {y : Int32} (hi : i < nh) (hy : gI d (σ 50) 2 = y) (k : ∀ d', Ch σ [57, 58, 59] d d' → K (allS W S nh i y) d') : w_X3_coloursOf E (σ 50) (nI i) d K := by
  have h := c.1.1
  have tw := (cW_gW c).2.2.1 3 (by decide)
  unfold allS at k
  simp only [w_X3_coloursOf, y_8 h rb50, y_0 h rb50]
  refine ⟨eo_50 h, k_inForce (s := 3) c (by decide) (fun q0 => ⟨fun _ => ?_, fun q q2 => nomatch q2⟩) (fun q q0 tx => ⟨fun q2 => (nomatch q2), fun b hb => ?_⟩)⟩
  · have := k d Ch_rf
    rw [if_pos q0] at this; exact this
  · cases hb
    have q0 : W 13 = 1 := q0
    obtain ⟨n, tw⟩ : ∃ n, TW W 3 n := by
      rcases tw with q | ⟨-, q⟩
      · have q : W 13 = 0 := q
        rw [q0] at q; exact absurd q (by decide)
      · exact q
    have hn10 := tw.2.1
    have en : cnt W 3149 = n := by have e : W 3149 = nI n := tw.1; unfold cnt; rw [e, z_nn (by omega)]
    rw [if_neg (by rw [q0]; decide), en] at k
    obtain ⟨-, -, -, -, -, -, ho, -⟩ := id tx
    refine ⟨ho, k_knowHut c rb50 C ok hi hy (fun d2 c2 g2 => ?_)⟩
    have fa : fAg 3 (gA d2 (σ (50 + 8))) (huF W S nh i y) := ⟨fun f hf hb => g2 f (by have := fs3 f hf hb; omega), fun z => absurd rfl z⟩
    refine k_colours h (TX_ch tx c2) tw.1 hn10 (fun d3 c3 => ?_)
    rw [col_congr tw fa n (Nat.le_refl n)]
    exact k d3 (Ch_tr c2 (Ch_w c3 (by decide)))
theorem r_allowedIn (h : Env σ E) (g : gW σ d W np nh) {i Y : Nat} (hi : i < nh) (hY1 : 1900 ≤ Y) (hY2 : Y ≤ 2099) (k : ∀ d', Ch σ goL d d' → gI d' (σ 87) 0 = gI d (σ 87) 0 → K (allS W (repS W np nh Y (W 3)) nh i (nI Y)) d') : w_X11_allowedIn E (σ 87) (nI i) (nI Y) d K := by
  obtain ⟨eW, hW, tw, e0, e1, n0, n1, hnp, hnh⟩ := id g
  have tw := tw 3 (by decide)
  have okR : rsOK np nh (repS W np nh Y (W 3)) := by rw [n0, n1]; exact rep_ok hW
  unfold allS at k
  simp only [w_X11_allowedIn, x_87_1 h, x_87_14 h, en_88 h, en_92 h, eW, show (13 : Int32).toNatClampNeg = 13 from rfl, show (3 : Int32).toNatClampNeg = 3 from rfl, show (4 : Int32).toNatClampNeg = 4 from rfl, show (5 : Int32).toNatClampNeg = 5 from rfl]
  refine ⟨eo_87 h, vpi (k := 13) (by decide) (by decide), fun q => ⟨vpi (k := 3) (by decide) (by decide), ?_⟩, fun q => ?_⟩
  · obtain ⟨n, tw⟩ : ∃ n, TW W 3 n := tw.elim (fun q2 => absurd q2 q) (fun q2 => q2.2)
    have hn10 := tw.2.1
    have t1 : W 3149 = nI n := tw.1
    have en : cnt W 3149 = n := by unfold cnt; rw [t1, z_nn (by omega)]
    rw [if_neg q, en] at k
    refine r_goes h g hY1 hY2 (fun da ua sa ra => r_ofHut (c := 0) h (by omega) (by decide) ⟨vpi (k := 4) (by decide) (by decide), ?_⟩)
    have ga := gW_ch g ua (by decide)
    rw [ga.1, show 50 + 7 * i + 0 = 50 + 7 * i by omega]
    have kch : ∀ {d0 : Dy} {f : Nat} {x : Int32}, Ch σ [92, 93] d0 (pA d0 (σ 92) f x) := fun {d0 f x} => Ch_pA h (by decide) (by simp)
    have kg : ∀ {d0 : Dy} {f j : Nat} {x : Int32}, gA (pA d0 (σ 92) f x) (σ 92) j = if j = f then x else gA d0 (σ 92) j := fun {d0 f j x} => by rw [gA_pA_x, if_pos rfl]
    have u1 : Ch σ [92, 93] da (pA da (σ 92) 4 (W (50 + 7 * i))) := kch
    have f1 : ∀ j, gA (pA da (σ 92) 4 (W (50 + 7 * i))) (σ 92) j = if j = 4 then W (50 + 7 * i) else gA da (σ 92) j := fun j => kg
    generalize pA da (σ 92) 4 (W (50 + 7 * i)) = db at u1 f1
    refine r_rowPlace h hnh (refR_ch ra u1 (by decide)) okR hi ⟨vpi (k := 5) (by decide) (by decide), vpi (k := 3) (by decide) (by decide), ?_⟩
    have u2 : Ch σ [92, 93] da (pA (pA db (σ 92) 5 (nI (rpS (repS W np nh Y (W 3)) nh i))) (σ 92) 3 (nI Y)) := Ch_tr u1 (Ch_tr kch kch)
    have f2 : ∀ j, gA (pA (pA db (σ 92) 5 (nI (rpS (repS W np nh Y (W 3)) nh i))) (σ 92) 3 (nI Y)) (σ 92) j = if j = 3 then nI Y else if j = 5 then nI (rpS (repS W np nh Y (W 3)) nh i) else gA db (σ 92) j := fun j => by rw [kg, kg]
    generalize pA (pA db (σ 92) 5 (nI (rpS (repS W np nh Y (W 3)) nh i))) (σ 92) 3 (nI Y) = de at u2 f2
    have fa : fAg 3 (gA de (σ 92)) (huF W (repS W np nh Y (W 3)) nh i (nI Y)) := ⟨fun f hf hb => by
      rw [f2, f1]
      rcases fs3 f hf hb with rfl | rfl | rfl <;> simp [huF], fun z => absurd rfl z⟩
    have ge := gW_ch ga u2 (by decide)
    refine ⟨n + 1, loopG (S := Int32 × Int32 × Dy) (l := fun N z => l_X11_allowedIn_60 E (σ 87) (nI i) (nI Y) K N z.1 z.2.1 z.2.2) (b := fun kk z => b_X11_allowedIn_60 E (σ 87) (nI i) (nI Y) K (fun a b c => kk (a, b, c)) z.1 z.2.1 z.2.2) (fun _ _ => rfl)
      (μ := fun z => n - z.2.1.toNatClampNeg) (P := fun z => ∃ j, j ≤ n ∧ nI j = z.2.1 ∧ colS W (gA de (σ 92)) j = z.1 ∧ Ch σ [93] de z.2.2) ?_ n (0, 0, de) ⟨0, by omega, rfl, rfl, Ch_rf⟩ (Nat.sub_le _ _)⟩
    rintro kk ⟨a, v, dz⟩ ⟨j, hj, rfl, rfl, cz⟩ hk
    have cz : Ch σ [93] de dz := cz
    have ez : gA dz (σ 88) = W := (Ch_A cz (by decide) (by decide)).trans ge.1
    have fz : gA dz (σ 92) = gA de (σ 92) := Ch_A cz (by decide) (by decide)
    have x3 : (596 : Int32) + 851 * 3 = nI 3149 := by decide
    simp only [b_X11_allowedIn_60, w_X11_textAt, x3, x_87_1 h, en_88 h, z_nn (show 3149 < 2147483648 by decide), ez, t1]
    rw [z_le (by omega) (by omega)]
    refine ⟨vpi (k := 3149) (by decide) (by decide), fun hc => ?_, fun hc => ?_⟩
    · have : j = n := by omega
      subst this
      have ct : Ch σ goL d dz := Ch_tr ua (Ch_tr (Ch_w u2 (by decide)) (Ch_w cz (by decide)))
      have kk2 := k dz ct ((congrFun (Ch_I cz (by decide) (by decide)) 0).trans ((congrFun (Ch_I u2 (by decide) (by decide)) 0).trans (sa 0 (by decide))))
      rw [← col_congr tw fa j (Nat.le_refl _)] at kk2; exact kk2
    · have hjn : j < n := by omega
      have nx : ∀ x (df : Dy), x = colS W (gA de (σ 92)) (j + 1) → Ch σ [93] de df → kk (x, nI j + 1, df) := fun x df ex uf => by
        rw [z_a1]; exact hk (x, nI (j + 1), df) ⟨j + 1, by omega, rfl, ex.symm, uf⟩ (by simp only [z_nn (show j + 1 < 2147483648 by omega), z_nn (show j < 2147483648 by omega)]; omega)
      have es : colS W (gA de (σ 92)) (j + 1) = if hdS W 3 j (gA de (σ 92)) = true then colS W (gA de (σ 92)) j ||| ((1 : Int32) <<< (W (3151 + 5 * j) &&& 31)) else colS W (gA de (σ 92)) j := rfl
      refine r_holds (s := 3) h (by decide) ez tw hjn (fun z => absurd rfl z) (fun df uf => ?_)
      rw [fz]
      have ef : gA df (σ 88) = W := (Ch_A uf (by decide) (by decide)).trans ez
      refine ⟨fun h0 => nx _ _ ?_ (Ch_tr cz uf), fun h0 => ?_⟩
      · rw [b2i_0] at h0; rw [es, if_neg (by rw [h0]; decide)]
      · rw [b2i_1] at h0
        have x4 : nI 3149 + 1 + 5 * nI j = nI (3150 + 5 * j) := by rw [show (5 : Int32) = nI 5 from rfl, z_mul, show (1 : Int32) = nI 1 from rfl, z_add, z_add]
        have x5 : nI (3150 + 5 * j) + 1 = nI (3151 + 5 * j) := by rw [show 3151 + 5 * j = 3150 + 5 * j + 1 by omega]; exact z_add _ 1
        simp only [w_X11_lineAt, w_X11_textAt, x3, x4, x5, x_87_1 h, en_88 h, z_nn (show 3151 + 5 * j < 2147483648 by omega), ef]
        exact ⟨vpw (by omega), nx _ _ (by rw [es, if_pos h0]) (Ch_tr cz uf)⟩
  · have := k d Ch_rf rfl
    rw [if_pos q] at this; exact this
theorem p_allowed (I : Inv σ E d) (k : ∀ E' d', Inv σ E' d' → kc E' d') (hK : ∀ v d2, w_X11_allowed E (σ 87) p1 p2 d2 (fun r d => cmpO σ E kc v r d) → K v d2) : w_L_allowed E (σ 0) p1 p2 (σ 115) d K := by
  have h := I.1
  have c := cW_I I
  have wc := wc_1 I
  have bad : b_X11_allowed_21 E (σ 87) p1 p2 (fun r d => cmpO σ E kc 1 r d) (σ 87) (pI d (σ 87) 0 0) := ⟨eo_87 h, eo_87 h, rt1 h ⟨fun q => absurd q (by decide), fun _ => fail_O I (by decide) k⟩⟩
  by_cases b1 : lx p1 (cnt (gA d (σ 88)) 1)
  · by_cases b2 : bw p2 1900 2099
    · obtain ⟨Y, hY1, hY2, eY⟩ := bw_n (a := 1900) (b := 2099) b2 (by decide) (by decide)
      obtain ⟨i, hi, ei⟩ := id b1
      simp only [w_L_allowed, w_X10_allowed, x_0_0 h, x_0_5 h]
      refine ⟨eo_0 h, eo_115 h, eo_0 h, nh1 h (td_4 I) b1 (ny1 b2 ?_)⟩
      rw [td_3 I]
      refine k_begin c rb50 (fun d1 c1 s1 s3 C1 => ?_)
      rw [eY] at hK b2 ⊢
      rw [ei] at hK b1 ⊢
      have w1 := cW_ch c rb50 c1
      refine k_goTo' w1 rb50 hY1 hY2 s1 s3 C1 (fun d2 c2 y2 s2 => ?_)
      have w2 := cW_ch w1 rb50 c2
      obtain ⟨-, -, -, -, -, C2⟩ := s2
      have g2 := cW_gW w2
      have okR := rep_ok g2.2.1 (Y := Y) (kn := gA d (σ 88) 3)
      refine k_coloursOf w2 C2 okR hi y2 (fun d4 c4 => ⟨v0_115 h, ?_⟩)
      have w4 := c789 w2 c4
      have cc : Ch σ scr d d4 := Ch_w (Ch_tr c1 (Ch_tr c2 (Ch_w c4 (by decide)))) (cL_scr rb50)
      refine hK _ _ ⟨eo_87 h, rhn1 h (by rw [gA_pI_x, gA_pJ_x, w4.2.1]; exact wc.1) (by omega) b1 ⟨fun q => absurd rfl q, fun _ => ry1 b2 ⟨fun _ => ⟨eo_87 h, rt0 h ⟨fun _ => ?_, fun q => absurd rfl q⟩⟩, fun q => absurd rfl q⟩⟩⟩
      have g4 := cW_gW w4
      refine r_allowedIn h (d := pI (pJ d4 (σ 115) 0 _) (σ 87) 0 0) ⟨g4.1, g4.2⟩ hi hY1 hY2 (fun d5 c5 t5 => q_end I k cc (Ch_tr (ch_thr h) (Ch_w c5 (by decide))) (t5.trans (gI_pI _ _ _ _)))
    · exact ⟨eo_0 h, eo_115 h, eo_0 h, nh1 h (td_4 I) b1 (ny0 b2 ⟨rfl, hK _ _ ⟨eo_87 h, rhn1 h (by rw [gA_pI_x]; exact wc.1) (by omega) b1 ⟨fun q => absurd rfl q, fun _ => ry0 b2 ⟨fun q => absurd q (by decide), fun _ => bad⟩⟩⟩⟩)⟩
  · exact ⟨eo_0 h, eo_115 h, eo_0 h, nh0 h (td_4 I) b1 ⟨rfl, hK _ _ ⟨eo_87 h, rhn0 h (by rw [gA_pI_x]; exact wc.1) (by omega) b1 ⟨fun _ => bad, fun q => absurd q (by decide)⟩⟩⟩⟩
theorem c_allowed (I : Inv σ E d) (hv : v5 v4 L) (k : ∀ E' d', Inv σ E' d' → kc E' d') : lw_2725 E (σ 0) (σ 87) (σ 115) v4 xs L kc d :=
  ⟨eo_0 I.1, eo_87 I.1, eo_115 I.1, hv.1, hv.2.1, p_allowed I k (fun v d2 hk => ⟨hv.1, hv.2.1, hk⟩)⟩
end
