/-! text: the call -/
section
variable {σ : Nat → Nat} {E E' : En} {d dz D : Dy}
theorem cut0 (v : Int32) : (if 0 < (if v < 0 then v else 0) then (if v < 0 then v else 0) else 0) = (0 : Int32) := by
  by_cases q : v < 0
  · simp only [if_pos q]
    rw [if_neg (fun w => by have a := Int32.lt_iff_toInt_lt.mp q; have b := Int32.lt_iff_toInt_lt.mp w; omega)]
  · simp only [if_neg q, ite_self]
theorem tape_B (t : Tape σ d) : ∃ (B : Nat → Nat) (tl : Nat), tpC σ d B tl ∧ gI d (σ 87) 5 = nI tl ∧ ∀ k, k < tl → gA d (σ 90) k = sx (nI (B k)) := by
  obtain ⟨tl, t1, t2, t3, t4⟩ := t
  have ex : ∀ k, k < tl → ∃ n : Nat, n < 256 ∧ gA d (σ 46) k = nI n := fun k hk => by
    obtain ⟨⟨b1, b2⟩, -⟩ := t4 k hk
    obtain ⟨n, hn, e⟩ := z_ex b1
    refine ⟨n, ?_, e⟩
    rw [e] at b2
    by_cases q : n < 256
    · exact q
    · exact absurd ((z_lt (a := 255) (by decide) hn).mpr (by omega)) b2
  have cell : ∀ k, k < tl → gA d (σ 46) k = nI (if k < tl then (gA d (σ 46) k).toNatClampNeg else 0) := fun k hk => by
    obtain ⟨n, hn, e⟩ := ex k hk
    rw [if_pos hk, e, z_nn (by omega)]
  refine ⟨fun k => if k < tl then (gA d (σ 46) k).toNatClampNeg else 0, tl, ⟨t1, fun k => ?_, t2, cell⟩, t3, fun k hk => ?_⟩
  · by_cases q : k < tl
    · obtain ⟨n, hn, e⟩ := ex k q
      show (if k < tl then (gA d (σ 46) k).toNatClampNeg else 0) < 256
      rw [if_pos q, e, z_nn (by omega)]; exact hn
    · show (if k < tl then (gA d (σ 46) k).toNatClampNeg else 0) < 256
      rw [if_neg q]; decide
  · show gA d (σ 90) k = sx (nI (if k < tl then (gA d (σ 46) k).toNatClampNeg else 0))
    rw [← cell k hk]; exact (t4 k hk).2
theorem tx_cx (h : Env σ E) (c : Cx σ E d dz) {v : Int32} (ch : Ch σ [87, 88] (pI (pI dz (σ 87) 5 0) (σ 87) 10 v) D) : Cx σ E d D :=
  cx_tr c (cx_tr (cx_tr (cx_pI (i := 87) (k := 5) h (by decide) (by decide) (by decide) (by decide)) (cx_pI (i := 87) (k := 10) h (by decide) (by decide) (by decide) (by decide))) (cx_Ch ch (by decide) (by decide)))
theorem tx_end (I : Inv σ E d) (x : ExE E E') (c : Cx σ E d dz) (t45 : gI dz (σ 45) 1 = 0) {v : Int32} (f4 : gI dz (σ 0) 4 = v) (ch : Ch σ [87, 88] (pI (pI dz (σ 87) 5 0) (σ 87) 10 v) D) (e : txN (gA d (σ 88)) (gA D (σ 88))) (tx : TXs σ E' D 22 (gA D (σ 88))) : Inv σ E' D := by
  have h := I.1
  have p5 : gI D (σ 87) 5 = _ := ch.2.1 (87, 5) (by decide)
  have p10 : gI D (σ 87) 10 = _ := ch.2.1 (87, 10) (by decide)
  refine Inv_x I x (tx_cx h c ch) e tx ?_ ?_ ?_
  · rw [Ch_I ch (i := 45) (by decide) (by decide), gI_pI_a _ _ _ (Env_ne h (by decide) (by decide) (by decide)), gI_pI_a _ _ _ (Env_ne h (by decide) (by decide) (by decide))]; exact t45
  · rw [p5]; exact (gI_pI_k _ _ _ (by decide)).trans (gI_pI _ _ _ _)
  · rw [p10, Ch_I ch (i := 0) (by decide) (by decide), gI_pI_a _ _ _ (Env_ne h (by decide) (by decide) (by decide)), gI_pI_a _ _ _ (Env_ne h (by decide) (by decide) (by decide)), f4]; exact (gI_pI _ _ _ _).symm
end
theorem c_text : TextOK := by
  intro σ E d kc v4 xs L I hv k
  have h := I.1
  obtain ⟨B, tl, tc, t3, t4⟩ := tape_B I.2.2.2.2.1
  have htl := tc.1
  have hB := tc.2.1
  have m : ∀ i, i < 116 → σ i ∈ eL E := fun i hi => (h.2.1 i hi).1
  simp only [lw_326]
  generalize xs (v4 + 1).toNatClampNeg = p
  refine ⟨eo_0 h, eo_87 h, eo_115 h, hv.1, eo_0 h, eo_115 h, ?_⟩
  by_cases hp : bw p 0 3
  · obtain ⟨s, hs2, rfl⟩ := z_ex hp.1
    have hs : s < 4 := by
      by_cases q : s < 4
      · exact q
      · exact absurd ((z_lt (a := 3) (by decide) hs2).mpr (by omega)) hp.2
    refine ⟨eo_0 h, fun q => absurd q hp.1, fun _ => ⟨fun _ => (x_0_3 h).mpr ?_, fun q => absurd ((z_lt (b := 4) hs2 (by decide)).mpr hs) q⟩⟩
    have st := I.2.1 (47, 5, 10) (by decide)
    refine k_reads h tc st.1 st.2 hs ?_
    have sh := fun bb ls c => sh_Tx (B := B) (s := s) htl (b1 := bb) (ls' := ls) (c' := c)
    have ty := fun bb ls c => ty_Tx (tl := tl) (s := s) hB (b1 := bb) (ls' := ls) (c' := c)
    generalize hR : pTx B tl s = R at sh ty
    obtain ⟨bb, o⟩ := R
    intro d1 c1
    have cx1 : Cx σ E d d1 := cx_Ch c1 (by decide) (by decide)
    cases o with
    | none =>
      refine ⟨fun _ g3 => (x_0_3 h).mpr ⟨eo_45 h, fun _ => (x_0_3 h).mpr ⟨eo_45 h, eo_0 h, fun w => absurd rfl w, fun _ => ⟨rfl, hv.1, ?_⟩⟩, fun w => absurd rfl w⟩, fun _ _ w => (nomatch w)⟩
      rw [cut0]
      have g3 : gI d1 (σ 45) 3 = nI bb := g3
      have e3 : gI (pI d1 (σ 45) 1 0) (σ 45) 3 = nI bb := by rw [gI_pI_k _ _ _ (by decide)]; exact g3
      rw [e3]
      have cz : Cx σ E d (pI (pI d1 (σ 45) 1 0) (σ 0) 4 (nI bb)) := cx_tr cx1 (cx_tr (cx_pI (i := 45) (k := 1) h (by decide) (by decide) (by decide) (by decide)) (cx_pI (i := 0) (k := 4) h (by decide) (by decide) (by decide) (by decide)))
      have z45 : gI (pI (pI d1 (σ 45) 1 0) (σ 0) 4 (nI bb)) (σ 45) 1 = 0 := by rw [gI_pI_a _ _ _ (Env_ne h (by decide) (by decide) (by decide)), gI_pI]
      have z4 : gI (pI (pI d1 (σ 45) 1 0) (σ 0) 4 (nI bb)) (σ 0) 4 = nI bb := gI_pI _ _ _ _
      have z87 : gI (pI (pI d1 (σ 45) 1 0) (σ 0) 4 (nI bb)) (σ 87) = gI d (σ 87) := by rw [gI_pI_a _ _ _ (Env_ne h (by decide) (by decide) (by decide)), gI_pI_a _ _ _ (Env_ne h (by decide) (by decide) (by decide)), Ch_I c1 (by decide) (by decide)]
      have z90 : gA (pI (pI d1 (σ 45) 1 0) (σ 0) 4 (nI bb)) (σ 90) = gA d (σ 90) := Ch_A c1 (by decide) (by decide)
      have z88 : gA (pI (pI d1 (σ 45) 1 0) (σ 0) 4 (nI bb)) (σ 88) = gA d (σ 88) := Ch_A c1 (by decide) (by decide)
      have zq : gQ (pI (pI d1 (σ 45) 1 0) (σ 0) 4 (nI bb)) = gQ d := c1.2.2.2
      generalize pI (pI d1 (σ 45) 1 0) (σ 0) 4 (nI bb) = dz at cz z45 z4 z87 z90 z88 zq
      refine r_text (B := B) (tl := tl) h (by rw [z87]; exact t3) htl hB hs (by rw [z90]; exact t4) (fun bb' D e ch z w => ?_) (fun bb' ls c D e => by rw [hR] at e; exact nomatch e)
      rw [hR] at e
      cases e
      rw [z88] at w
      refine tl_out h z (fun q => absurd q (by decide)) (k E D (tx_end I xe_rf cz z45 z4 ch (fun j h1 _ => w j (by omega)) (fun s' hs' => TX_x1 I.2.2.1.2.2 hs' xe_rf (tx_cx h cz ch).2.2.1 ?_ (w _ (by omega)) (fun j h1 h2 => w j (by omega)))))
      rw [ch.2.2.2]
      exact congrFun (congrFun zq _) _
    | some o =>
      obtain ⟨ls, c⟩ := o
      obtain ⟨lo, co, hl, -⟩ := ty bb ls c rfl
      have hc := sh bb ls c rfl
      refine ⟨fun w => (nomatch w), fun ls' c' w cs lt => ?_⟩
      cases w
      refine (x_0_3 h).mpr ⟨eo_45 h, fun w => absurd w (by decide), fun _ => ⟨eo_0 h, fun _ => (x_0_3 h).mpr ?_, fun w => absurd w (by decide)⟩⟩
      rw [cut0]
      have cb : Cx σ E d (pI (pI d1 (σ 45) 1 0) (σ 0) 4 (-1)) := cx_tr cx1 (cx_tr (cx_pI (i := 45) (k := 1) h (by decide) (by decide) (by decide) (by decide)) (cx_pI (i := 0) (k := 4) h (by decide) (by decide) (by decide) (by decide)))
      have b45 : gI (pI (pI d1 (σ 45) 1 0) (σ 0) 4 (-1)) (σ 45) 1 = 0 := by rw [gI_pI_a _ _ _ (Env_ne h (by decide) (by decide) (by decide)), gI_pI]
      have g9 : gI (pI (pI d1 (σ 45) 1 0) (σ 0) 4 (-1)) (σ 45) 9 = nI c.length := by rw [gI_pI_a _ _ _ (Env_ne h (by decide) (by decide) (by decide)), gI_pI_k _ _ _ (by decide)]; exact cs.2.2.2.2.1.1
      have b4 : gI (pI (pI d1 (σ 45) 1 0) (σ 0) 4 (-1)) (σ 0) 4 = -1 := gI_pI _ _ _ _
      have b87 : gI (pI (pI d1 (σ 45) 1 0) (σ 0) 4 (-1)) (σ 87) = gI d (σ 87) := by rw [gI_pI_a _ _ _ (Env_ne h (by decide) (by decide) (by decide)), gI_pI_a _ _ _ (Env_ne h (by decide) (by decide) (by decide)), Ch_I c1 (by decide) (by decide)]
      have td : TD (pI (pI d1 (σ 45) 1 0) (σ 0) 4 (-1)) (σ 47) 5 10 ls.length := by
        unfold TD
        rw [gI_pI_a _ _ _ (Env_ne h (by decide) (by decide) (by decide)), gI_pI_a _ _ _ (Env_ne h (by decide) (by decide) (by decide))]; exact lt.1
      have b48 : ∀ i l, ls[i]? = some l → lrC s (gA (pI (pI d1 (σ 45) 1 0) (σ 0) 4 (-1)) (σ 48)) (i * 5) l := lt.2
      have b49 : ∀ i x, c[i]? = some x → gA (pI (pI d1 (σ 45) 1 0) (σ 0) 4 (-1)) (σ 49) i = stp (nI x.1) (nI x.2) := cs.2.2.2.2.1.2
      have b90 : gA (pI (pI d1 (σ 45) 1 0) (σ 0) 4 (-1)) (σ 90) = gA d (σ 90) := Ch_A c1 (by decide) (by decide)
      have b88 : gA (pI (pI d1 (σ 45) 1 0) (σ 0) 4 (-1)) (σ 88) = gA d (σ 88) := Ch_A c1 (by decide) (by decide)
      have bq : gQ (pI (pI d1 (σ 45) 1 0) (σ 0) 4 (-1)) = gQ d := c1.2.2.2
      generalize pI (pI d1 (σ 45) 1 0) (σ 0) 4 (-1) = db at cb b45 g9 b4 b87 td b48 b49 b90 b88 bq
      refine k_compiled h td g9 hc (fun q E' d2 x y nq oq fr => ?_)
      obtain ⟨ta, tb, tq, na, nb, nc, r0, r1, te, td2, oc, lc, wb, wc⟩ := fr
      have h' := xe_Env h x
      refine ⟨oq, (x_0_0 h').mpr ⟨eo_1 h', oq, fun w => absurd w (z_pos hs2), fun _ => ⟨fun w => absurd ((z_le (a := 4) (by decide) hs2).mp w) (by omega), fun _ => (x_1_11 h').mpr ⟨?_, oq, ta, r0, te.1, te.1, ?_⟩⟩⟩⟩
      · rw [en_22 h']; exact vpi hs (by decide)
      rw [show gI (pQ d2 (σ 22) (nI s).toNatClampNeg (some q)) ta 3 = nI ls.length from td2.2.2.1, z_nn hs2]
      refine ⟨by rw [en_115 h']; exact vpi (k := 0) (by decide) (by decide), hv.1, ?_⟩
      have y87 : gI d2 (σ 87) = gI d (σ 87) := (y _ (m 87 (by decide))).1.trans b87
      have y90 : gA d2 (σ 90) = gA d (σ 90) := (y _ (m 90 (by decide))).2.1.trans b90
      have y88 : gA d2 (σ 88) = gA d (σ 88) := (y _ (m 88 (by decide))).2.1.trans b88
      have y45 : gI d2 (σ 45) 1 = 0 := by rw [(y _ (m 45 (by decide))).1]; exact b45
      have y4 : gI d2 (σ 0) 4 = -1 := by rw [(y _ (m 0 (by decide))).1]; exact b4
      have y22 : gQ d2 (σ 22) = gQ d (σ 22) := by rw [(y _ (m 22 (by decide))).2.2.2, bq]
      have cz : Cx σ E d (pJ (pQ d2 (σ 22) s (some q)) (σ 115) ((0 : Int32)).toNatClampNeg (nI ls.length).toInt64) := cx_tr (cx_tr cb (cx_x h y)) (cx_tr (cx_pQ h) cx_pJ)
      have zI : gI (pJ (pQ d2 (σ 22) s (some q)) (σ 115) ((0 : Int32)).toNatClampNeg (nI ls.length).toInt64) = gI d2 := rfl
      have zA : gA (pJ (pQ d2 (σ 22) s (some q)) (σ 115) ((0 : Int32)).toNatClampNeg (nI ls.length).toInt64) = gA d2 := rfl
      have zJ : gJ (pJ (pQ d2 (σ 22) s (some q)) (σ 115) ((0 : Int32)).toNatClampNeg (nI ls.length).toInt64) (σ 115) 0 = (nI ls.length).toInt64 := by rw [gJ_pJ_x, if_pos rfl]; exact if_pos rfl
      have zQ : ∀ j, gQ (pJ (pQ d2 (σ 22) s (some q)) (σ 115) ((0 : Int32)).toNatClampNeg (nI ls.length).toInt64) (σ 22) j = if j = s then some q else gQ d (σ 22) j := fun j => by rw [gQ_pJ_x, gQ_pQ_x, if_pos rfl, y22]
      generalize pJ (pQ d2 (σ 22) s (some q)) (σ 115) ((0 : Int32)).toNatClampNeg (nI ls.length).toInt64 = dz at cz zI zA zJ zQ
      refine r_text (B := B) (tl := tl) h' (by rw [zI, y87]; exact t3) htl hB hs (by rw [zA, y90]; exact t4) (fun bb' D e => by rw [hR] at e; exact nomatch e) (fun bb' ls' c' D e ch z tw => ?_)
      rw [hR] at e
      cases e
      rw [zA, y88] at tw
      have cD := tx_cx h cz ch
      have oth : ∀ a, a ∉ eL E → gI D a = gI d2 a ∧ gA D a = gA d2 a := fun a ha => by
        have na : ∀ i, i < 116 → a ≠ σ i := fun i hi e => ha (e ▸ m i hi)
        have g := ch.2.2.1 a na
        rw [gI_pI_a _ _ _ (na 87 (by decide)), gI_pI_a _ _ _ (na 87 (by decide)), zI] at g
        exact ⟨g.1, g.2.trans (congrFun zA a)⟩
      have ne : ∀ i, i < 116 → q ≠ σ i ∧ ta ≠ σ i ∧ tb ≠ σ i ∧ tq ≠ σ i := fun i hi => ⟨fun e => nq (e ▸ m i hi), fun e => na (e ▸ m i hi), fun e => nb (e ▸ m i hi), fun e => nc (e ▸ m i hi)⟩
      have tD : TD D ta 5 ls.length ls.length := by unfold TD; rw [(oth ta na).1]; exact td2
      have dQ : ∀ j, gQ D (σ 22) j = if j = s then some q else gQ d (σ 22) j := fun j => by rw [ch.2.2.2]; exact zQ j
      have new : TX σ E' D q (gA D (σ 88)) s := by
        refine tx_made ne oq r0 r1 te tD oc lc (by omega) hl tw.2.2.1 lo co (fun i l hi => ?_) tw.2.2.2.1 (fun i x hi => ?_) tw.2.2.2.2
        · have il : i < ls.length := (List.getElem?_eq_some_iff.mp hi).1
          exact lrC_g (b48 i l hi) (fun j h1 h2 => by rw [(oth tb nb).2]; exact wb j (by omega))
        · have il : i < c.length := (List.getElem?_eq_some_iff.mp hi).1
          rw [(oth tq nc).2, wc i il]; exact b49 i x hi
      refine tl_out h' z (fun _ => ?_) (k E' D (tx_end I x cz (by rw [zI]; exact y45) (by rw [zI]; exact y4) ch (fun j h1 h2 => tw.2.1 j (by omega) (by omega) (by omega)) (fun s' hs' => ?_)))
      · rw [Ch_J ch (by decide) (by decide)]; exact zJ
      · by_cases es : s' = s
        · subst es
          exact Or.inr ⟨tw.1, q, by rw [dQ, if_pos rfl], new⟩
        · exact TX_x1 I.2.2.1.2.2 hs' x cD.2.2.1 (by rw [dQ, if_neg es]) (tw.2.1 _ (by omega) (by omega) (by omega)) (fun j h1 h2 => tw.2.1 j (by omega) (by omega) (by omega))
  · have nine : b_X10_text_9 E (σ 0) p (fun r_2 E_5 d_1 => vp_in 0 (eN E_5 (σ 115)) ∧ vp_in (v4 + 1) L ∧ w_X11_text E_5 (σ 87) p (pJ d_1 (σ 115) ((0 : Int32)).toNatClampNeg r_2.toInt64) (fun r_8 d_7 => w_X11_thrown E_5 (σ 87) d_7 (fun r_10 d_9 => ((r_10 = 0 → ((¬ (0 : Int32) = 0 → kc E_5 d_9) ∧ ((0 : Int32) = 0 → vp_in 0 (eN E_5 (σ 115)) ∧ (((lg_cmp (gJ d_9 (σ 115) ((0 : Int32)).toNatClampNeg) r_8.toInt64) = 0 → kc E_5 d_9) ∧ (¬ (lg_cmp (gJ d_9 (σ 115) ((0 : Int32)).toNatClampNeg) r_8.toInt64) = 0 → False))))) ∧ (¬ r_10 = 0 → False))))) (fun Ex d_3 => (Ex = "java/lang/IllegalArgumentException" ∧ vp_in (v4 + 1) L ∧ w_X11_text E (σ 87) p d_3 (fun r_8 d_7 => w_X11_thrown E (σ 87) d_7 (fun r_10 d_9 => ((r_10 = 1 → ((¬ (1 : Int32) = 0 → kc E d_9) ∧ ((1 : Int32) = 0 → vp_in 0 (eN E (σ 115)) ∧ (((lg_cmp (gJ d_9 (σ 115) ((0 : Int32)).toNatClampNeg) r_8.toInt64) = 0 → kc E d_9) ∧ (¬ (lg_cmp (gJ d_9 (σ 115) ((0 : Int32)).toNatClampNeg) r_8.toInt64) = 0 → False))))) ∧ (¬ r_10 = 1 → False)))))) d := by
      refine (x_0_3 h).mpr ⟨eo_45 h, rfl, hv.1, eo_87 h, ri0 hp ⟨fun w => absurd rfl w, fun _ => ⟨eo_87 h, rt1 h ⟨fun w => absurd w (by decide), fun _ => ?_⟩⟩⟩⟩
      rw [cut0]
      generalize gI (pI (pI d (σ 45) 1 0) (σ 87) 0 0) (σ 87) 5 = v
      have cz : Cx σ E d (pI (pI (pI (pI (pI d (σ 45) 1 0) (σ 87) 0 0) (σ 87) 7 v) (σ 87) 5 0) (σ 87) 0 1) := cx_tr (cx_tr (cx_tr (cx_tr (cx_pI (i := 45) (k := 1) h (by decide) (by decide) (by decide) (by decide)) (cx_pI (i := 87) (k := 0) h (by decide) (by decide) (by decide) (by decide))) (cx_pI (i := 87) (k := 7) h (by decide) (by decide) (by decide) (by decide))) (cx_pI (i := 87) (k := 5) h (by decide) (by decide) (by decide) (by decide))) (cx_pI (i := 87) (k := 0) h (by decide) (by decide) (by decide) (by decide))
      have n45 := Env_ne h (i := 45) (j := 87) (by decide) (by decide) (by decide)
      have n0 := Env_ne h (i := 0) (j := 87) (by decide) (by decide) (by decide)
      have n87 := Env_ne h (i := 87) (j := 45) (by decide) (by decide) (by decide)
      have n05 := Env_ne h (i := 0) (j := 45) (by decide) (by decide) (by decide)
      refine tl_out h (gI_pI _ _ _ _) (fun q => absurd q (by decide)) (k E _ (Inv_x I xe_rf cz (fun _ _ _ => rfl) (fun s' hs' => TX_x1 I.2.2.1.2.2 hs' xe_rf cz.2.2.1 rfl rfl (fun _ _ _ => rfl)) ?_ ?_ ?_))
      · rw [gI_pI_a _ _ _ n45, gI_pI_a _ _ _ n45, gI_pI_a _ _ _ n45, gI_pI_a _ _ _ n45, gI_pI]
      · rw [gI_pI_k _ _ _ (by decide), gI_pI]
      · rw [gI_pI_a _ _ _ n0, gI_pI_a _ _ _ n0, gI_pI_a _ _ _ n0, gI_pI_a _ _ _ n0, gI_pI_a _ _ _ n05, gI_pI_k _ _ _ (by decide), gI_pI_k _ _ _ (by decide), gI_pI_k _ _ _ (by decide), gI_pI_k _ _ _ (by decide), gI_pI_a _ _ _ n87]
        exact I.2.2.2.2.2
    refine ⟨eo_0 h, fun _ => nine, fun q1 => ⟨fun q2 => absurd ⟨q1, fun w => ?_⟩ hp, fun _ => nine⟩⟩
    obtain ⟨n, hn, rfl⟩ := z_ex q1
    have := (z_lt (b := 4) hn (by decide)).mp q2
    have := (z_lt (a := 3) (by decide) hn).mp w
    omega
