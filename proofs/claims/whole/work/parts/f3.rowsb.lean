theorem st_congr {w w' : Nat → Nat} {may lost n : Nat} {s : Nat} (hs : s < 2 ^ n) (h : ∀ q, q < 2 ^ n → w q = w' q) : stW w may lost s = stW w' may lost s := by
  unfold stW
  have : ∀ m, sumN (stF w may lost s) m = sumN (stF w' may lost s) m := fun m => by
    induction m with
    | zero => rfl
    | succ m ihm =>
      show sumN (stF w may lost s) m + stF w may lost s m = sumN (stF w' may lost s) m + stF w' may lost s m
      rw [ihm]
      unfold stF
      rw [h _ (Nat.lt_of_le_of_lt sb_le hs)]
  exact this _
theorem may_rows {W : Nat → Int32} {S : RS} {nh i : Nat} (hn : cnt W 6 ≤ 8) : mayN W S nh (-1) (-1) i = btN (canB W S nh i) (cnt W 6) := by
  unfold mayN
  exact bt_congr (fun q hq => by unfold mayB; rw [show decide (nI q ≠ -1) = true from by simpa using z_ne1 (show q < 2147483648 by omega)]; simp)
theorem wy_rows {W : Nat → Int32} {S : RS} {nh : Nat} (hn : cnt W 6 ≤ 8) : ∀ i s, s < 2 ^ cnt W 6 → wyN (mayN W S nh (-1) (-1)) (losN W) i s = wyN (fitN W S nh) (losN W) i s
  | 0, s, hs => rfl
  | i + 1, s, hs => by
    have q := p256 hn
    show stW (wyN (mayN W S nh (-1) (-1)) (losN W) i) (mayN W S nh (-1) (-1) i) (losN W i) s = stW (wyN (fitN W S nh) (losN W) i) (fitN W S nh i) (losN W i) s
    rw [st_congr hs (wy_rows hn i), may_rows hn]
    unfold fitN
    by_cases e : losN W i = 0
    · rw [if_pos e, st_none (by omega) (Or.inl e), st_none (by omega) (Or.inl e)]
    · rw [if_neg e]
section
variable {σ : Nat → Nat} {E : En} {d d' d2 d3 : Dy} {W : Nat → Int32} {np nh L n : Nat} {S : RS} {K : Int32 → Dy → Prop} {K0 : Dy → Prop} {KJ : Int64 → Dy → Prop} {X : String → Dy → Prop} {kc : En → Dy → Prop} {v4 : Int32} {xs : Nat → Int32} {p1 p2 : Int32} {w : Nat → Nat}
theorem k_today (c : cW σ E d W np nh) (k : ∀ d', Ch σ (cL 50) d d' → clsR σ 50 np nh d' (repS W np nh (cnt W 3) (W 3)) → K0 d') : w_X3_begin E (σ 50) (gI d (σ 1) 0) d (fun d7 => w_X3_goTo E (σ 50) (gI d7 (σ 1) 0) d7 K0) := by
  have today : gI d (σ 1) 0 = W 3 := by rw [td_3 c.1, c.2.1]
  obtain ⟨t1, t2, t3⟩ := (cW_gW c).2.1.2.1
  rw [today]
  refine k_begin c rb50 (fun d1 c1 s1 s3 C1 => ?_)
  have w1 := cW_ch c rb50 c1
  rw [Ch_I c1 (by decide) (by decide), today]
  have gt : w_X3_goTo E (σ 50) (nI (cnt W 3)) d1 K0 → w_X3_goTo E (σ 50) (W 3) d1 K0 := fun hh => by rw [t1]; exact hh
  refine gt (k_goTo' w1 rb50 (by omega) t3 s1 s3 C1 (fun d2 c2 y2 s2 => ?_))
  obtain ⟨-, -, -, -, -, C2⟩ := s2
  exact k d2 (Ch_tr c1 c2) C2
theorem r_today (h : Env σ E) (g : gW σ d W np nh) (k : ∀ d', Ch σ goL d d' → gI d' (σ 87) 0 = gI d (σ 87) 0 → refR σ np nh d' (repS W np nh (cnt W 3) (W 3)) → K0 d') : w_X11_goesToday E (σ 87) d K0 := by
  obtain ⟨t1, t2, t3⟩ := g.2.1.2.1
  simp only [w_X11_goesToday, x_87_1 h, en_88 h, g.1, show (3 : Int32).toNatClampNeg = 3 from rfl]
  refine ⟨eo_87 h, vpi (k := 3) (by decide) (by decide), vpi (k := 3) (by decide) (by decide), ?_⟩
  have go := r_goes h g (kn := W 3) (Y := cnt W 3) (K0 := K0) (by omega) t3 (fun d3 c3 s3 R3 => k d3 c3 (s3 0 (by decide)) R3)
  rw [← t1] at go
  exact go
theorem c_rows (I : Inv σ E d) (hv : v5 v4 L) (k : ∀ E' d', Inv σ E' d' → kc E' d') : lw_2575 E (σ 0) (σ 87) (σ 115) v4 xs L kc d := by
  have h := I.1
  have c := cW_I I
  have hn := (w6_pl (cW_gW c).2.1).2
  obtain ⟨q1, q2⟩ := p256 hn
  refine ⟨eo_0 h, eo_87 h, eo_115 h, ?_⟩
  simp only [w_X10_rows, x_0_0 h, x_0_5 h, x_0_10 h]
  refine ⟨eo_0 h, k_today c (fun d1 c1 C1 => ?_)⟩
  have w1 := cW_ch c rb50 c1
  have okR := rep_ok (cW_gW w1).2.1 (Y := cnt (gA d (σ 88)) 3) (kn := gA d (σ 88) 3)
  refine k_ways w1 C1 okR (fun d2 c2 => ?_)
  have w2 := cW_rd w1 c2
  have g2 := cW_gW w2
  refine ⟨eo_87 h, r_today h (d := pI d2 (σ 87) 0 0) ⟨g2.1, g2.2⟩ (fun d3 c3 t3 R3 => ?_)⟩
  refine r_allWays h (gW_ch (d := pI d2 (σ 87) 0 0) ⟨g2.1, g2.2⟩ c3 (by decide)) R3 okR (fun d4 c4 => ⟨fun _ => ?_, fun q => q ?_⟩)
  · exact k _ _ (Inv_ch I (Ch_tr (Ch_w c1 (cL_scr rb50)) (Ch_tr (Ch_w c2 rd_scr) (Ch_tr (Ch_w (ch_thr h) ref_scr) (Ch_tr (Ch_w c3 (by decide)) (Ch_w c4 (by decide)))))))
  · rw [wy_rows hn _ _ (by omega)]
    unfold lg_cmp
    rw [if_neg (fun z => Int64.lt_irrefl z), if_pos rfl]
end
