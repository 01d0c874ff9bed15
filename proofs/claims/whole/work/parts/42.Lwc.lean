def lw_2435 (E : En) (a1 a2 a3 : Nat) (v4 : Int32) (xs : Nat → Int32) (L : Nat) (kc : En → Dy → Prop) (d : Dy) : Prop := okO E a1 10 ∧ okO E a2 11 ∧ okA E a3 14 ∧ vp_in (v4 + 1) L ∧ vp_in (v4 + 2) L ∧ vp_in (v4 + 3) L ∧ w_L_lost E a1 (xs (v4 + 1).toNatClampNeg) (xs (v4 + 2).toNatClampNeg) (xs (v4 + 3).toNatClampNeg) d (fun r_5 d_4 => vp_in (v4 + 1) L ∧ vp_in (v4 + 2) L ∧ vp_in (v4 + 3) L ∧ w_X11_lost E a2 (xs (v4 + 1).toNatClampNeg) (xs (v4 + 2).toNatClampNeg) (xs (v4 + 3).toNatClampNeg) d_4 (fun d_9 => w_X11_thrown E a2 d_9 (fun r_12 d_11 => ((r_12 = r_5 → kc E d_11) ∧ (¬ r_12 = r_5 → False)))))
set_option maxRecDepth 100000 in
set_option maxHeartbeats 4000000 in
theorem lc_2435 {p : Program} {l : Launch} {e : Env} {s : State} {m : MethodId} {below : List Frame} {meth : Method} {c : Code} {Q : State → Prop} {D : va_G} {cs : Nat → ClassId} {b L : Nat} {xs : Nat → Int32} {T0 : Cond} (hst : l.stackTraces = false) (S : CallFix p m c cL_law 7 s #[Value.ref b] (T0 :: wsL_law) RL) (hX : va_X b L xs s s.heap) (hbl : b < s.heap.size) {E : En} {a1 a2 a3 : Nat} {v4 : Int32} {d : Dy} {H : Heap} {locs : List Loc} {ls : Array Slot} {cl sl : Nat} {kc : En → Dy → Prop} (hcl : cl + 60 ≤ 634061) (hsl : sl + 1400 ≤ 7193921)
    (hk : ∀ (E9 : En) (d9 : Dy) (H : Heap) (locs : List Loc) (ls : Array Slot), kc E9 d9 → Wd D cs (fun q => s.heap.size ≤ q) s.heap s E9 d9 H locs → lv_has ls 7 [(0, .ref b), (1, .ref a1), (2, .ref a2), (3, .ref a3), (4, .int v4)] → W p l e room_1 s m #[Value.ref b] below meth c H locs (cl + 60) (sl + 1400) Q (F0 m 3051 ls [])) (h : lw_2435 E a1 a2 a3 v4 xs L kc d) (hw : Wd D cs (fun q => s.heap.size ≤ q) s.heap s E d H locs) (hl : lv_has ls 7 [(0, .ref b), (1, .ref a1), (2, .ref a2), (3, .ref a3), (4, .int v4)]) : W p l e room_1 s m #[Value.ref b] below meth c H locs cl sl Q (F0 m 2435 ls []) := by
  have hbA : ¬ (fun q : Nat => s.heap.size ≤ q) b := Nat.not_le.mpr hbl
  unfold lw_2435 at h
  obtain ⟨ha1, ha2, ha3, h⟩ := h
  refine lv_aload_n S.1 S.2.1 (dd_at ddL_law_x5 13 rfl) rfl (lv_at hl 1 rfl) ?_
  refine lv_aload_n S.1 S.2.1 (dd_at ddL_law_x5 14 rfl) rfl (lv_at hl 0 rfl) ?_
  refine lv_iload S.1 S.2.1 (dd_at ddL_law_x5 15 rfl) (lv_at hl 4 rfl) ?_
  refine lv_iconst (v := 1) S.1 S.2.1 (dd_at ddL_law_x5 16 rfl) (by decide) ?_
  refine lv_iadd S.1 S.2.1 (dd_at ddL_law_x5 17 rfl) ?_
  obtain ⟨hx_1, h⟩ := h
  refine va_sld S.1 S.2.1 hX hbl hbA hw.2.2.2.1 hx_1 (dd_at ddL_law_x5 18 rfl) ?_
  refine lv_aload_n S.1 S.2.1 (dd_at ddL_law_x5 19 rfl) rfl (lv_at hl 0 rfl) ?_
  refine lv_iload S.1 S.2.1 (dd_at ddL_law_x6 0 rfl) (lv_at hl 4 rfl) ?_
  refine lv_iconst (v := 2) S.1 S.2.1 (dd_at ddL_law_x6 1 rfl) (by decide) ?_
  refine lv_iadd S.1 S.2.1 (dd_at ddL_law_x6 2 rfl) ?_
  obtain ⟨hx_2, h⟩ := h
  refine va_sld S.1 S.2.1 hX hbl hbA hw.2.2.2.1 hx_2 (dd_at ddL_law_x6 3 rfl) ?_
  refine lv_aload_n S.1 S.2.1 (dd_at ddL_law_x6 4 rfl) rfl (lv_at hl 0 rfl) ?_
  refine lv_iload S.1 S.2.1 (dd_at ddL_law_x6 5 rfl) (lv_at hl 4 rfl) ?_
  refine lv_iconst (v := 3) S.1 S.2.1 (dd_at ddL_law_x6 6 rfl) (by decide) ?_
  refine lv_iadd S.1 S.2.1 (dd_at ddL_law_x6 7 rfl) ?_
  obtain ⟨hx_3, h⟩ := h
  refine va_sld S.1 S.2.1 hX hbl hbA hw.2.2.2.1 hx_3 (dd_at ddL_law_x6 8 rfl) ?_
  refine r_callI hw (r_runSW (As := [.ref a1, .int (xs (v4 + 1).toNatClampNeg), .int (xs (v4 + 2).toNatClampNeg), .int (xs (v4 + 3).toNatClampNeg)]) (rest := []) S hw (m_L_lost l hst D cs E d H.size a1 (xs (v4 + 1).toNatClampNeg) (xs (v4 + 2).toNatClampNeg) (xs (v4 + 3).toNatClampNeg) _) (vx_cwSW 4 S.2.2.2.2 (gSW wg1329 wg1330 wg221 wg1331) rfl rfl rfl (by decide +kernel) ⟨Nat.le_of_ble_eq_true rfl, Nat.le_of_ble_eq_true rfl⟩) h rfl hl.1 rfl (Nat.le_of_ble_eq_true rfl) (dd_at ddL_law_x6 9 rfl) ⟨Nat.le_trans (Nat.add_le_add_left (Nat.le_of_ble_eq_true rfl) cl) hcl, Nat.le_trans (Nat.add_le_add_left (Nat.le_of_ble_eq_true rfl) sl) hsl⟩) (fun r_5 d_4 H locs h hw => ?_)
  refine W.widen (k := cl + 60) (n := sl + 1400) (Nat.add_le_add_left (Nat.le_of_ble_eq_true rfl) cl) (Nat.add_le_add_left (Nat.le_of_ble_eq_true rfl) sl) ?_
  refine lv_istore (lv' := [(5, .int r_5), (0, .ref b), (1, .ref a1), (2, .ref a2), (3, .ref a3), (4, .int v4)]) S.1 S.2.1 (dd_at ddL_law_x6 10 rfl) hl (by decide) rfl (fun ls hl => ?_)
  refine lv_aload_n S.1 S.2.1 (dd_at ddL_law_x6 11 rfl) rfl (lv_at hl 3 rfl) ?_
  refine lv_aload_n S.1 S.2.1 (dd_at ddL_law_x6 12 rfl) rfl (lv_at hl 1 rfl) ?_
  refine lv_iload S.1 S.2.1 (dd_at ddL_law_x6 13 rfl) (lv_at hl 5 rfl) ?_
  refine lv_iconst (v := 1) S.1 S.2.1 (dd_at ddL_law_x6 14 rfl) (by decide) ?_
  refine lv_iadd S.1 S.2.1 (dd_at ddL_law_x6 15 rfl) ?_
  obtain ⟨hx_6, h⟩ := h
  refine va_sld S.1 S.2.1 hX hbl hbA hw.2.2.2.1 hx_6 (dd_at ddL_law_x6 16 rfl) ?_
  refine lv_aload_n S.1 S.2.1 (dd_at ddL_law_x6 17 rfl) rfl (lv_at hl 1 rfl) ?_
  refine lv_iload S.1 S.2.1 (dd_at ddL_law_x6 18 rfl) (lv_at hl 5 rfl) ?_
  refine lv_iconst (v := 2) S.1 S.2.1 (dd_at ddL_law_x6 19 rfl) (by decide) ?_
  refine lv_iadd S.1 S.2.1 (dd_at ddL_law_x7 0 rfl) ?_
  obtain ⟨hx_7, h⟩ := h
  refine va_sld S.1 S.2.1 hX hbl hbA hw.2.2.2.1 hx_7 (dd_at ddL_law_x7 1 rfl) ?_
  refine lv_aload_n S.1 S.2.1 (dd_at ddL_law_x7 2 rfl) rfl (lv_at hl 1 rfl) ?_
  refine lv_iload S.1 S.2.1 (dd_at ddL_law_x7 3 rfl) (lv_at hl 5 rfl) ?_
  refine lv_iconst (v := 3) S.1 S.2.1 (dd_at ddL_law_x7 4 rfl) (by decide) ?_
  refine lv_iadd S.1 S.2.1 (dd_at ddL_law_x7 5 rfl) ?_
  obtain ⟨hx_8, h⟩ := h
  refine va_sld S.1 S.2.1 hX hbl hbA hw.2.2.2.1 hx_8 (dd_at ddL_law_x7 6 rfl) ?_
  refine r_callV hw (r_runV (As := [.int (xs (v4 + 1).toNatClampNeg), .int (xs (v4 + 2).toNatClampNeg), .int (xs (v4 + 3).toNatClampNeg)]) (rest := []) S hw (m_X11_lost l D cs E d_4 H.size a2 (xs (v4 + 1).toNatClampNeg) (xs (v4 + 2).toNatClampNeg) (xs (v4 + 3).toNatClampNeg) _) (cwV 3 S.2.2.2.2 (gV wg1336 wg1337 wg1338 wg5 wg1339) rfl rfl rfl (by decide +kernel) ⟨Nat.le_of_ble_eq_true rfl, Nat.le_of_ble_eq_true rfl⟩) (ci := 11) rfl ha2 h rfl hl.1 rfl (Nat.le_of_ble_eq_true rfl) (dd_at ddL_law_x7 7 rfl) ⟨hcl, hsl⟩) (fun d_9 H locs h hw => ?_)
  refine lv_aload_n S.1 S.2.1 (dd_at ddL_law_x7 8 rfl) rfl (lv_at hl 3 rfl) ?_
  refine r_callI hw (r_runV (As := []) (rest := []) S hw (m_X11_thrown l D cs E d_9 H.size a2 _) (cwV 0 S.2.2.2.2 (gV wg506 wg507 wg508 wg5 wg509) rfl rfl rfl (by decide +kernel) ⟨Nat.le_of_ble_eq_true rfl, Nat.le_of_ble_eq_true rfl⟩) (ci := 11) rfl ha2 h rfl hl.1 rfl (Nat.le_of_ble_eq_true rfl) (dd_at ddL_law_x7 9 rfl) ⟨hcl, hsl⟩) (fun r_12 d_11 H locs h hw => ?_)
  refine lv_iload S.1 S.2.1 (dd_at ddL_law_x7 10 rfl) (lv_at hl 0 rfl) ?_
  refine lv_icmp_eq (tgt := 2492) S.1 S.2.1 (dd_at ddL_law_x7 11 rfl) (by decide) (fun hc_13 => ?_) (fun hc_13 => ?_)
  · have h := h.1 hc_13
    refine lv_goto (tgt := 3051) S.1 S.2.1 (dd_at ddL_law_x7 14 rfl) (by decide) ?_
    exact hk _ _ _ _ _ h hw (lv_sub hl [1, 2, 3, 4, 5] rfl)
  · have h := h.2 hc_13
    refine lv_iconst (v := 0) S.1 S.2.1 (dd_at ddL_law_x7 12 rfl) (by decide) ?_
    exact absurd h id

def lw_2495 (E : En) (a1 a2 a3 : Nat) (v4 : Int32) (xs : Nat → Int32) (L : Nat) (kc : En → Dy → Prop) (d : Dy) : Prop := okO E a1 10 ∧ okO E a2 11 ∧ okA E a3 14 ∧ vp_in (v4 + 1) L ∧ vp_in (v4 + 2) L ∧ vp_in (v4 + 3) L ∧ w_L_plank E a1 (xs (v4 + 1).toNatClampNeg) (xs (v4 + 2).toNatClampNeg) (xs (v4 + 3).toNatClampNeg) a3 d (fun r_5 d_4 => vp_in (v4 + 1) L ∧ vp_in (v4 + 2) L ∧ vp_in (v4 + 3) L ∧ w_X11_plank E a2 (xs (v4 + 1).toNatClampNeg) (xs (v4 + 2).toNatClampNeg) (xs (v4 + 3).toNatClampNeg) d_4 (fun r_10 d_9 => w_X11_thrown E a2 d_9 (fun r_12 d_11 => ((r_12 = r_5 → ((¬ r_5 = 0 → kc E d_11) ∧ (r_5 = 0 → vp_in 0 (eN E a3) ∧ (((lg_cmp (gJ d_11 a3 ((0 : Int32)).toNatClampNeg) r_10.toInt64) = 0 → kc E d_11) ∧ (¬ (lg_cmp (gJ d_11 a3 ((0 : Int32)).toNatClampNeg) r_10.toInt64) = 0 → False))))) ∧ (¬ r_12 = r_5 → False)))))
set_option maxRecDepth 100000 in
set_option maxHeartbeats 4000000 in
theorem lc_2495 {p : Program} {l : Launch} {e : Env} {s : State} {m : MethodId} {below : List Frame} {meth : Method} {c : Code} {Q : State → Prop} {D : va_G} {cs : Nat → ClassId} {b L : Nat} {xs : Nat → Int32} {T0 : Cond} (hst : l.stackTraces = false) (S : CallFix p m c cL_law 7 s #[Value.ref b] (T0 :: wsL_law) RL) (hX : va_X b L xs s s.heap) (hbl : b < s.heap.size) {E : En} {a1 a2 a3 : Nat} {v4 : Int32} {d : Dy} {H : Heap} {locs : List Loc} {ls : Array Slot} {cl sl : Nat} {kc : En → Dy → Prop} (hcl : cl + 60 ≤ 634061) (hsl : sl + 1400 ≤ 7193921)
    (hk : ∀ (E9 : En) (d9 : Dy) (H : Heap) (locs : List Loc) (ls : Array Slot), kc E9 d9 → Wd D cs (fun q => s.heap.size ≤ q) s.heap s E9 d9 H locs → lv_has ls 7 [(0, .ref b), (1, .ref a1), (2, .ref a2), (3, .ref a3), (4, .int v4)] → W p l e room_1 s m #[Value.ref b] below meth c H locs (cl + 60) (sl + 1400) Q (F0 m 3051 ls [])) (h : lw_2495 E a1 a2 a3 v4 xs L kc d) (hw : Wd D cs (fun q => s.heap.size ≤ q) s.heap s E d H locs) (hl : lv_has ls 7 [(0, .ref b), (1, .ref a1), (2, .ref a2), (3, .ref a3), (4, .int v4)]) : W p l e room_1 s m #[Value.ref b] below meth c H locs cl sl Q (F0 m 2495 ls []) := by
  have hbA : ¬ (fun q : Nat => s.heap.size ≤ q) b := Nat.not_le.mpr hbl
  unfold lw_2495 at h
  obtain ⟨ha1, ha2, ha3, h⟩ := h
  refine lv_aload_n S.1 S.2.1 (dd_at ddL_law_x7 15 rfl) rfl (lv_at hl 1 rfl) ?_
  refine lv_aload_n S.1 S.2.1 (dd_at ddL_law_x7 16 rfl) rfl (lv_at hl 0 rfl) ?_
  refine lv_iload S.1 S.2.1 (dd_at ddL_law_x7 17 rfl) (lv_at hl 4 rfl) ?_
  refine lv_iconst (v := 1) S.1 S.2.1 (dd_at ddL_law_x7 18 rfl) (by decide) ?_
  refine lv_iadd S.1 S.2.1 (dd_at ddL_law_x7 19 rfl) ?_
  obtain ⟨hx_1, h⟩ := h
  refine va_sld S.1 S.2.1 hX hbl hbA hw.2.2.2.1 hx_1 (dd_at ddL_law_x8 0 rfl) ?_
  refine lv_aload_n S.1 S.2.1 (dd_at ddL_law_x8 1 rfl) rfl (lv_at hl 0 rfl) ?_
  refine lv_iload S.1 S.2.1 (dd_at ddL_law_x8 2 rfl) (lv_at hl 4 rfl) ?_
  refine lv_iconst (v := 2) S.1 S.2.1 (dd_at ddL_law_x8 3 rfl) (by decide) ?_
  refine lv_iadd S.1 S.2.1 (dd_at ddL_law_x8 4 rfl) ?_
  obtain ⟨hx_2, h⟩ := h
  refine va_sld S.1 S.2.1 hX hbl hbA hw.2.2.2.1 hx_2 (dd_at ddL_law_x8 5 rfl) ?_
  refine lv_aload_n S.1 S.2.1 (dd_at ddL_law_x8 6 rfl) rfl (lv_at hl 0 rfl) ?_
  refine lv_iload S.1 S.2.1 (dd_at ddL_law_x8 7 rfl) (lv_at hl 4 rfl) ?_
  refine lv_iconst (v := 3) S.1 S.2.1 (dd_at ddL_law_x8 8 rfl) (by decide) ?_
  refine lv_iadd S.1 S.2.1 (dd_at ddL_law_x8 9 rfl) ?_
  obtain ⟨hx_3, h⟩ := h
  refine va_sld S.1 S.2.1 hX hbl hbA hw.2.2.2.1 hx_3 (dd_at ddL_law_x8 10 rfl) ?_
  refine lv_aload_n S.1 S.2.1 (dd_at ddL_law_x8 11 rfl) rfl (lv_at hl 3 rfl) ?_
  refine r_callI hw (r_runSW (As := [.ref a1, .int (xs (v4 + 1).toNatClampNeg), .int (xs (v4 + 2).toNatClampNeg), .int (xs (v4 + 3).toNatClampNeg), .ref a3]) (rest := []) S hw (m_L_plank l hst D cs E d H.size a1 (xs (v4 + 1).toNatClampNeg) (xs (v4 + 2).toNatClampNeg) (xs (v4 + 3).toNatClampNeg) a3 _) (vx_cwSW 5 S.2.2.2.2 (gSW wg1340 wg1341 wg221 wg1342) rfl rfl rfl (by decide +kernel) ⟨Nat.le_of_ble_eq_true rfl, Nat.le_of_ble_eq_true rfl⟩) h rfl hl.1 rfl (Nat.le_of_ble_eq_true rfl) (dd_at ddL_law_x8 12 rfl) ⟨Nat.le_trans (Nat.add_le_add_left (Nat.le_of_ble_eq_true rfl) cl) hcl, Nat.le_trans (Nat.add_le_add_left (Nat.le_of_ble_eq_true rfl) sl) hsl⟩) (fun r_5 d_4 H locs h hw => ?_)
  refine W.widen (k := cl + 60) (n := sl + 1400) (Nat.add_le_add_left (Nat.le_of_ble_eq_true rfl) cl) (Nat.add_le_add_left (Nat.le_of_ble_eq_true rfl) sl) ?_
  refine lv_istore (lv' := [(5, .int r_5), (0, .ref b), (1, .ref a1), (2, .ref a2), (3, .ref a3), (4, .int v4)]) S.1 S.2.1 (dd_at ddL_law_x8 13 rfl) hl (by decide) rfl (fun ls hl => ?_)
  refine lv_aload_n S.1 S.2.1 (dd_at ddL_law_x8 14 rfl) rfl (lv_at hl 3 rfl) ?_
  refine lv_aload_n S.1 S.2.1 (dd_at ddL_law_x8 15 rfl) rfl (lv_at hl 1 rfl) ?_
  refine lv_iload S.1 S.2.1 (dd_at ddL_law_x8 16 rfl) (lv_at hl 5 rfl) ?_
  refine lv_iconst (v := 1) S.1 S.2.1 (dd_at ddL_law_x8 17 rfl) (by decide) ?_
  refine lv_iadd S.1 S.2.1 (dd_at ddL_law_x8 18 rfl) ?_
  obtain ⟨hx_6, h⟩ := h
  refine va_sld S.1 S.2.1 hX hbl hbA hw.2.2.2.1 hx_6 (dd_at ddL_law_x8 19 rfl) ?_
  refine lv_aload_n S.1 S.2.1 (dd_at ddL_law_x9 0 rfl) rfl (lv_at hl 1 rfl) ?_
  refine lv_iload S.1 S.2.1 (dd_at ddL_law_x9 1 rfl) (lv_at hl 5 rfl) ?_
  refine lv_iconst (v := 2) S.1 S.2.1 (dd_at ddL_law_x9 2 rfl) (by decide) ?_
  refine lv_iadd S.1 S.2.1 (dd_at ddL_law_x9 3 rfl) ?_
  obtain ⟨hx_7, h⟩ := h
  refine va_sld S.1 S.2.1 hX hbl hbA hw.2.2.2.1 hx_7 (dd_at ddL_law_x9 4 rfl) ?_
  refine lv_aload_n S.1 S.2.1 (dd_at ddL_law_x9 5 rfl) rfl (lv_at hl 1 rfl) ?_
  refine lv_iload S.1 S.2.1 (dd_at ddL_law_x9 6 rfl) (lv_at hl 5 rfl) ?_
  refine lv_iconst (v := 3) S.1 S.2.1 (dd_at ddL_law_x9 7 rfl) (by decide) ?_
  refine lv_iadd S.1 S.2.1 (dd_at ddL_law_x9 8 rfl) ?_
  obtain ⟨hx_8, h⟩ := h
  refine va_sld S.1 S.2.1 hX hbl hbA hw.2.2.2.1 hx_8 (dd_at ddL_law_x9 9 rfl) ?_
  refine r_callI hw (r_runV (As := [.int (xs (v4 + 1).toNatClampNeg), .int (xs (v4 + 2).toNatClampNeg), .int (xs (v4 + 3).toNatClampNeg)]) (rest := []) S hw (m_X11_plank l D cs E d_4 H.size a2 (xs (v4 + 1).toNatClampNeg) (xs (v4 + 2).toNatClampNeg) (xs (v4 + 3).toNatClampNeg) _) (cwV 3 S.2.2.2.2 (gV wg1347 wg1348 wg1349 wg5 wg1350) rfl rfl rfl (by decide +kernel) ⟨Nat.le_of_ble_eq_true rfl, Nat.le_of_ble_eq_true rfl⟩) (ci := 11) rfl ha2 h rfl hl.1 rfl (Nat.le_of_ble_eq_true rfl) (dd_at ddL_law_x9 10 rfl) ⟨hcl, hsl⟩) (fun r_10 d_9 H locs h hw => ?_)
  refine lv_istore (lv' := [(6, .int r_10), (5, .int r_5), (0, .ref b), (1, .ref a1), (2, .ref a2), (3, .ref a3), (4, .int v4)]) S.1 S.2.1 (dd_at ddL_law_x9 11 rfl) hl (by decide) rfl (fun ls hl => ?_)
  refine lv_aload_n S.1 S.2.1 (dd_at ddL_law_x9 12 rfl) rfl (lv_at hl 4 rfl) ?_
  refine r_callI hw (r_runV (As := []) (rest := []) S hw (m_X11_thrown l D cs E d_9 H.size a2 _) (cwV 0 S.2.2.2.2 (gV wg506 wg507 wg508 wg5 wg509) rfl rfl rfl (by decide +kernel) ⟨Nat.le_of_ble_eq_true rfl, Nat.le_of_ble_eq_true rfl⟩) (ci := 11) rfl ha2 h rfl hl.1 rfl (Nat.le_of_ble_eq_true rfl) (dd_at ddL_law_x9 13 rfl) ⟨hcl, hsl⟩) (fun r_12 d_11 H locs h hw => ?_)
  refine lv_iload S.1 S.2.1 (dd_at ddL_law_x9 14 rfl) (lv_at hl 1 rfl) ?_
  refine lv_icmp_eq (tgt := 2555) S.1 S.2.1 (dd_at ddL_law_x9 15 rfl) (by decide) (fun hc_13 => ?_) (fun hc_13 => ?_)
  · have h := h.1 hc_13
    refine lv_iload S.1 S.2.1 (dd_at ddL_law_x9 18 rfl) (lv_at hl 1 rfl) ?_
    refine lv_if_ne (tgt := 2572) S.1 S.2.1 (dd_at ddL_law_x9 19 rfl) (by decide) (fun hc_14 => ?_) (fun hc_14 => ?_)
    · have h := h.1 hc_14
      refine lv_goto (tgt := 3051) S.1 S.2.1 (dd_at ddL_law_x10 9 rfl) (by decide) ?_
      exact hk _ _ _ _ _ h hw (lv_sub hl [2, 3, 4, 5, 6] rfl)
    · have h := h.2 hc_14
      refine lv_aload_n S.1 S.2.1 (dd_at ddL_law_x10 0 rfl) rfl (lv_at hl 5 rfl) ?_
      refine lv_iconst (v := 0) S.1 S.2.1 (dd_at ddL_law_x10 1 rfl) (by decide) ?_
      obtain ⟨hx_15, h⟩ := h
      refine r_lald S hw ha3 hx_15 (dd_at ddL_law_x10 2 rfl) ?_
      refine lv_iload S.1 S.2.1 (dd_at ddL_law_x10 3 rfl) (lv_at hl 0 rfl) ?_
      refine lv_i2l S.1 S.2.1 (dd_at ddL_law_x10 4 rfl) rfl ?_
      refine W.lcmp S.1 S.2.1 (dd_at ddL_law_x10 5 rfl) ?_
      refine lv_if_eq (tgt := 2572) S.1 S.2.1 (dd_at ddL_law_x10 6 rfl) (by decide) (fun hc_16 => ?_) (fun hc_16 => ?_)
      · have h := h.1 hc_16
        refine lv_goto (tgt := 3051) S.1 S.2.1 (dd_at ddL_law_x10 9 rfl) (by decide) ?_
        exact hk _ _ _ _ _ h hw (lv_sub hl [2, 3, 4, 5, 6] rfl)
      · have h := h.2 hc_16
        refine lv_iconst (v := 0) S.1 S.2.1 (dd_at ddL_law_x10 7 rfl) (by decide) ?_
        exact absurd h id
  · have h := h.2 hc_13
    refine lv_iconst (v := 0) S.1 S.2.1 (dd_at ddL_law_x9 16 rfl) (by decide) ?_
    exact absurd h id

def lw_2575 (E : En) (a1 a2 a3 : Nat) (v4 : Int32) (xs : Nat → Int32) (L : Nat) (kc : En → Dy → Prop) (d : Dy) : Prop := okO E a1 10 ∧ okO E a2 11 ∧ okA E a3 14 ∧ w_X10_rows E a1 d (fun r_2 d_1 => w_X11_rows E a2 d_1 (fun r_4 d_3 => (((lg_cmp r_2 r_4) = 0 → kc E d_3) ∧ (¬ (lg_cmp r_2 r_4) = 0 → False))))
set_option maxRecDepth 100000 in
set_option maxHeartbeats 4000000 in
theorem lc_2575 {p : Program} {l : Launch} {e : Env} {s : State} {m : MethodId} {below : List Frame} {meth : Method} {c : Code} {Q : State → Prop} {D : va_G} {cs : Nat → ClassId} {b L : Nat} {xs : Nat → Int32} {T0 : Cond} (hst : l.stackTraces = false) (S : CallFix p m c cL_law 7 s #[Value.ref b] (T0 :: wsL_law) RL) (hX : va_X b L xs s s.heap) (hbl : b < s.heap.size) {E : En} {a1 a2 a3 : Nat} {v4 : Int32} {d : Dy} {H : Heap} {locs : List Loc} {ls : Array Slot} {cl sl : Nat} {kc : En → Dy → Prop} (hcl : cl + 60 ≤ 634061) (hsl : sl + 1400 ≤ 7193921)
    (hk : ∀ (E9 : En) (d9 : Dy) (H : Heap) (locs : List Loc) (ls : Array Slot), kc E9 d9 → Wd D cs (fun q => s.heap.size ≤ q) s.heap s E9 d9 H locs → lv_has ls 7 [(0, .ref b), (1, .ref a1), (2, .ref a2), (3, .ref a3), (4, .int v4)] → W p l e room_1 s m #[Value.ref b] below meth c H locs (cl + 60) (sl + 1400) Q (F0 m 3051 ls [])) (h : lw_2575 E a1 a2 a3 v4 xs L kc d) (hw : Wd D cs (fun q => s.heap.size ≤ q) s.heap s E d H locs) (hl : lv_has ls 7 [(0, .ref b), (1, .ref a1), (2, .ref a2), (3, .ref a3), (4, .int v4)]) : W p l e room_1 s m #[Value.ref b] below meth c H locs cl sl Q (F0 m 2575 ls []) := by
  have hbA : ¬ (fun q : Nat => s.heap.size ≤ q) b := Nat.not_le.mpr hbl
  unfold lw_2575 at h
  obtain ⟨ha1, ha2, ha3, h⟩ := h
  refine lv_aload_n S.1 S.2.1 (dd_at ddL_law_x10 10 rfl) rfl (lv_at hl 1 rfl) ?_
  refine r_callJ hw (r_runV (As := []) (rest := []) S hw (m_X10_rows l D cs E d H.size a1 _) (cwV 0 S.2.2.2.2 (gV wg1351 wg1352 wg1353 wg2 wg1354) rfl rfl rfl (by decide +kernel) ⟨Nat.le_of_ble_eq_true rfl, Nat.le_of_ble_eq_true rfl⟩) (ci := 10) rfl ha1 h rfl hl.1 rfl (Nat.le_of_ble_eq_true rfl) (dd_at ddL_law_x10 11 rfl) ⟨Nat.le_trans (Nat.le_add_right cl 60) hcl, Nat.le_trans (Nat.le_add_right sl 1400) hsl⟩) (fun r_2 d_1 H locs h hw => ?_)
  refine lv_aload_n S.1 S.2.1 (dd_at ddL_law_x10 12 rfl) rfl (lv_at hl 2 rfl) ?_
  refine r_callJ hw (r_runV (As := []) (rest := [.long r_2]) S hw (m_X11_rows l D cs E d_1 H.size a2 _) (cwV 0 S.2.2.2.2 (gV wg1383 wg1384 wg1385 wg5 wg1386) rfl rfl rfl (by decide +kernel) ⟨Nat.le_of_ble_eq_true rfl, Nat.le_of_ble_eq_true rfl⟩) (ci := 11) rfl ha2 h rfl hl.1 rfl (Nat.le_of_ble_eq_true rfl) (dd_at ddL_law_x10 13 rfl) ⟨Nat.le_trans (Nat.le_add_right cl 60) hcl, Nat.le_trans (Nat.le_add_right sl 1400) hsl⟩) (fun r_4 d_3 H locs h hw => ?_)
  refine W.lcmp S.1 S.2.1 (dd_at ddL_law_x10 14 rfl) ?_
  refine lv_if_eq (tgt := 3051) S.1 S.2.1 (dd_at ddL_law_x10 15 rfl) (by decide) (fun hc_5 => ?_) (fun hc_5 => ?_)
  · have h := h.1 hc_5
    refine W.widen (k := cl + 60) (n := sl + 1400) (Nat.le_add_right _ _) (Nat.le_add_right _ _) ?_
    exact hk _ _ _ _ _ h hw (lv_sub hl [0, 1, 2, 3, 4] rfl)
  · have h := h.2 hc_5
    refine lv_iconst (v := 0) S.1 S.2.1 (dd_at ddL_law_x10 16 rfl) (by decide) ?_
    exact absurd h id

def lw_2589 (E : En) (a1 a2 a3 : Nat) (v4 : Int32) (xs : Nat → Int32) (L : Nat) (kc : En → Dy → Prop) (d : Dy) : Prop := okO E a1 10 ∧ okO E a2 11 ∧ okA E a3 14 ∧ vp_in (v4 + 1) L ∧ w_L_whose E a1 (xs (v4 + 1).toNatClampNeg) a3 d (fun r_3 d_2 => vp_in (v4 + 1) L ∧ w_X11_whose E a2 (xs (v4 + 1).toNatClampNeg) d_2 (fun r_6 d_5 => w_X11_thrown E a2 d_5 (fun r_8 d_7 => ((r_8 = r_3 → ((¬ r_3 = 0 → kc E d_7) ∧ (r_3 = 0 → vp_in 0 (eN E a3) ∧ (((lg_cmp (gJ d_7 a3 ((0 : Int32)).toNatClampNeg) r_6.toInt64) = 0 → kc E d_7) ∧ (¬ (lg_cmp (gJ d_7 a3 ((0 : Int32)).toNatClampNeg) r_6.toInt64) = 0 → False))))) ∧ (¬ r_8 = r_3 → False)))))
set_option maxRecDepth 100000 in
set_option maxHeartbeats 4000000 in
theorem lc_2589 {p : Program} {l : Launch} {e : Env} {s : State} {m : MethodId} {below : List Frame} {meth : Method} {c : Code} {Q : State → Prop} {D : va_G} {cs : Nat → ClassId} {b L : Nat} {xs : Nat → Int32} {T0 : Cond} (hst : l.stackTraces = false) (S : CallFix p m c cL_law 7 s #[Value.ref b] (T0 :: wsL_law) RL) (hX : va_X b L xs s s.heap) (hbl : b < s.heap.size) {E : En} {a1 a2 a3 : Nat} {v4 : Int32} {d : Dy} {H : Heap} {locs : List Loc} {ls : Array Slot} {cl sl : Nat} {kc : En → Dy → Prop} (hcl : cl + 60 ≤ 634061) (hsl : sl + 1400 ≤ 7193921)
    (hk : ∀ (E9 : En) (d9 : Dy) (H : Heap) (locs : List Loc) (ls : Array Slot), kc E9 d9 → Wd D cs (fun q => s.heap.size ≤ q) s.heap s E9 d9 H locs → lv_has ls 7 [(0, .ref b), (1, .ref a1), (2, .ref a2), (3, .ref a3), (4, .int v4)] → W p l e room_1 s m #[Value.ref b] below meth c H locs (cl + 60) (sl + 1400) Q (F0 m 3051 ls [])) (h : lw_2589 E a1 a2 a3 v4 xs L kc d) (hw : Wd D cs (fun q => s.heap.size ≤ q) s.heap s E d H locs) (hl : lv_has ls 7 [(0, .ref b), (1, .ref a1), (2, .ref a2), (3, .ref a3), (4, .int v4)]) : W p l e room_1 s m #[Value.ref b] below meth c H locs cl sl Q (F0 m 2589 ls []) := by
  have hbA : ¬ (fun q : Nat => s.heap.size ≤ q) b := Nat.not_le.mpr hbl
  unfold lw_2589 at h
  obtain ⟨ha1, ha2, ha3, h⟩ := h
  refine lv_aload_n S.1 S.2.1 (dd_at ddL_law_x10 18 rfl) rfl (lv_at hl 1 rfl) ?_
  refine lv_aload_n S.1 S.2.1 (dd_at ddL_law_x10 19 rfl) rfl (lv_at hl 0 rfl) ?_
  refine lv_iload S.1 S.2.1 (dd_at ddL_law_x11 0 rfl) (lv_at hl 4 rfl) ?_
  refine lv_iconst (v := 1) S.1 S.2.1 (dd_at ddL_law_x11 1 rfl) (by decide) ?_
  refine lv_iadd S.1 S.2.1 (dd_at ddL_law_x11 2 rfl) ?_
  obtain ⟨hx_1, h⟩ := h
  refine va_sld S.1 S.2.1 hX hbl hbA hw.2.2.2.1 hx_1 (dd_at ddL_law_x11 3 rfl) ?_
  refine lv_aload_n S.1 S.2.1 (dd_at ddL_law_x11 4 rfl) rfl (lv_at hl 3 rfl) ?_
  refine r_callI hw (r_runSW (As := [.ref a1, .int (xs (v4 + 1).toNatClampNeg), .ref a3]) (rest := []) S hw (m_L_whose l hst D cs E d H.size a1 (xs (v4 + 1).toNatClampNeg) a3 _) (vx_cwSW 3 S.2.2.2.2 (gSW wg1396 wg1397 wg221 wg1398) rfl rfl rfl (by decide +kernel) ⟨Nat.le_of_ble_eq_true rfl, Nat.le_of_ble_eq_true rfl⟩) h rfl hl.1 rfl (Nat.le_of_ble_eq_true rfl) (dd_at ddL_law_x11 5 rfl) ⟨Nat.le_trans (Nat.add_le_add_left (Nat.le_of_ble_eq_true rfl) cl) hcl, Nat.le_trans (Nat.add_le_add_left (Nat.le_of_ble_eq_true rfl) sl) hsl⟩) (fun r_3 d_2 H locs h hw => ?_)
  refine W.widen (k := cl + 60) (n := sl + 1400) (Nat.add_le_add_left (Nat.le_of_ble_eq_true rfl) cl) (Nat.add_le_add_left (Nat.le_of_ble_eq_true rfl) sl) ?_
  refine lv_istore (lv' := [(5, .int r_3), (0, .ref b), (1, .ref a1), (2, .ref a2), (3, .ref a3), (4, .int v4)]) S.1 S.2.1 (dd_at ddL_law_x11 6 rfl) hl (by decide) rfl (fun ls hl => ?_)
  refine lv_aload_n S.1 S.2.1 (dd_at ddL_law_x11 7 rfl) rfl (lv_at hl 3 rfl) ?_
  refine lv_aload_n S.1 S.2.1 (dd_at ddL_law_x11 8 rfl) rfl (lv_at hl 1 rfl) ?_
  refine lv_iload S.1 S.2.1 (dd_at ddL_law_x11 9 rfl) (lv_at hl 5 rfl) ?_
  refine lv_iconst (v := 1) S.1 S.2.1 (dd_at ddL_law_x11 10 rfl) (by decide) ?_
  refine lv_iadd S.1 S.2.1 (dd_at ddL_law_x11 11 rfl) ?_
  obtain ⟨hx_4, h⟩ := h
  refine va_sld S.1 S.2.1 hX hbl hbA hw.2.2.2.1 hx_4 (dd_at ddL_law_x11 12 rfl) ?_
  refine r_callI hw (r_runV (As := [.int (xs (v4 + 1).toNatClampNeg)]) (rest := []) S hw (m_X11_whose l D cs E d_2 H.size a2 (xs (v4 + 1).toNatClampNeg) _) (cwV 1 S.2.2.2.2 (gV wg1411 wg1412 wg1413 wg5 wg1414) rfl rfl rfl (by decide +kernel) ⟨Nat.le_of_ble_eq_true rfl, Nat.le_of_ble_eq_true rfl⟩) (ci := 11) rfl ha2 h rfl hl.1 rfl (Nat.le_of_ble_eq_true rfl) (dd_at ddL_law_x11 13 rfl) ⟨hcl, hsl⟩) (fun r_6 d_5 H locs h hw => ?_)
  refine lv_istore (lv' := [(6, .int r_6), (5, .int r_3), (0, .ref b), (1, .ref a1), (2, .ref a2), (3, .ref a3), (4, .int v4)]) S.1 S.2.1 (dd_at ddL_law_x11 14 rfl) hl (by decide) rfl (fun ls hl => ?_)
  refine lv_aload_n S.1 S.2.1 (dd_at ddL_law_x11 15 rfl) rfl (lv_at hl 4 rfl) ?_
  refine r_callI hw (r_runV (As := []) (rest := []) S hw (m_X11_thrown l D cs E d_5 H.size a2 _) (cwV 0 S.2.2.2.2 (gV wg506 wg507 wg508 wg5 wg509) rfl rfl rfl (by decide +kernel) ⟨Nat.le_of_ble_eq_true rfl, Nat.le_of_ble_eq_true rfl⟩) (ci := 11) rfl ha2 h rfl hl.1 rfl (Nat.le_of_ble_eq_true rfl) (dd_at ddL_law_x11 16 rfl) ⟨hcl, hsl⟩) (fun r_8 d_7 H locs h hw => ?_)
  refine lv_iload S.1 S.2.1 (dd_at ddL_law_x11 17 rfl) (lv_at hl 1 rfl) ?_
  refine lv_icmp_eq (tgt := 2625) S.1 S.2.1 (dd_at ddL_law_x11 18 rfl) (by decide) (fun hc_9 => ?_) (fun hc_9 => ?_)
  · have h := h.1 hc_9
    refine lv_iload S.1 S.2.1 (dd_at ddL_law_x12 1 rfl) (lv_at hl 1 rfl) ?_
    refine lv_if_ne (tgt := 2642) S.1 S.2.1 (dd_at ddL_law_x12 2 rfl) (by decide) (fun hc_10 => ?_) (fun hc_10 => ?_)
    · have h := h.1 hc_10
      refine lv_goto (tgt := 3051) S.1 S.2.1 (dd_at ddL_law_x12 12 rfl) (by decide) ?_
      exact hk _ _ _ _ _ h hw (lv_sub hl [2, 3, 4, 5, 6] rfl)
    · have h := h.2 hc_10
      refine lv_aload_n S.1 S.2.1 (dd_at ddL_law_x12 3 rfl) rfl (lv_at hl 5 rfl) ?_
      refine lv_iconst (v := 0) S.1 S.2.1 (dd_at ddL_law_x12 4 rfl) (by decide) ?_
      obtain ⟨hx_11, h⟩ := h
      refine r_lald S hw ha3 hx_11 (dd_at ddL_law_x12 5 rfl) ?_
      refine lv_iload S.1 S.2.1 (dd_at ddL_law_x12 6 rfl) (lv_at hl 0 rfl) ?_
      refine lv_i2l S.1 S.2.1 (dd_at ddL_law_x12 7 rfl) rfl ?_
      refine W.lcmp S.1 S.2.1 (dd_at ddL_law_x12 8 rfl) ?_
      refine lv_if_eq (tgt := 2642) S.1 S.2.1 (dd_at ddL_law_x12 9 rfl) (by decide) (fun hc_12 => ?_) (fun hc_12 => ?_)
      · have h := h.1 hc_12
        refine lv_goto (tgt := 3051) S.1 S.2.1 (dd_at ddL_law_x12 12 rfl) (by decide) ?_
        exact hk _ _ _ _ _ h hw (lv_sub hl [2, 3, 4, 5, 6] rfl)
      · have h := h.2 hc_12
        refine lv_iconst (v := 0) S.1 S.2.1 (dd_at ddL_law_x12 10 rfl) (by decide) ?_
        exact absurd h id
  · have h := h.2 hc_9
    refine lv_iconst (v := 0) S.1 S.2.1 (dd_at ddL_law_x11 19 rfl) (by decide) ?_
    exact absurd h id

def lw_2645 (E : En) (a1 a2 a3 : Nat) (v4 : Int32) (xs : Nat → Int32) (L : Nat) (kc : En → Dy → Prop) (d : Dy) : Prop := okO E a1 10 ∧ okO E a2 11 ∧ okA E a3 14 ∧ vp_in (v4 + 1) L ∧ vp_in (v4 + 2) L ∧ vp_in (v4 + 3) L ∧ w_L_photo E a1 (xs (v4 + 1).toNatClampNeg) (xs (v4 + 2).toNatClampNeg) (xs (v4 + 3).toNatClampNeg) a3 d (fun r_5 d_4 => vp_in (v4 + 1) L ∧ vp_in (v4 + 2) L ∧ vp_in (v4 + 3) L ∧ w_X11_photo E a2 (xs (v4 + 1).toNatClampNeg) (xs (v4 + 2).toNatClampNeg) (xs (v4 + 3).toNatClampNeg) d_4 (fun r_10 d_9 => w_X11_thrown E a2 d_9 (fun r_12 d_11 => ((r_12 = r_5 → ((¬ r_5 = 0 → kc E d_11) ∧ (r_5 = 0 → vp_in 0 (eN E a3) ∧ (((lg_cmp (gJ d_11 a3 ((0 : Int32)).toNatClampNeg) r_10.toInt64) = 0 → kc E d_11) ∧ (¬ (lg_cmp (gJ d_11 a3 ((0 : Int32)).toNatClampNeg) r_10.toInt64) = 0 → False))))) ∧ (¬ r_12 = r_5 → False)))))
set_option maxRecDepth 100000 in
set_option maxHeartbeats 4000000 in
theorem lc_2645 {p : Program} {l : Launch} {e : Env} {s : State} {m : MethodId} {below : List Frame} {meth : Method} {c : Code} {Q : State → Prop} {D : va_G} {cs : Nat → ClassId} {b L : Nat} {xs : Nat → Int32} {T0 : Cond} (hst : l.stackTraces = false) (S : CallFix p m c cL_law 7 s #[Value.ref b] (T0 :: wsL_law) RL) (hX : va_X b L xs s s.heap) (hbl : b < s.heap.size) {E : En} {a1 a2 a3 : Nat} {v4 : Int32} {d : Dy} {H : Heap} {locs : List Loc} {ls : Array Slot} {cl sl : Nat} {kc : En → Dy → Prop} (hcl : cl + 60 ≤ 634061) (hsl : sl + 1400 ≤ 7193921)
    (hk : ∀ (E9 : En) (d9 : Dy) (H : Heap) (locs : List Loc) (ls : Array Slot), kc E9 d9 → Wd D cs (fun q => s.heap.size ≤ q) s.heap s E9 d9 H locs → lv_has ls 7 [(0, .ref b), (1, .ref a1), (2, .ref a2), (3, .ref a3), (4, .int v4)] → W p l e room_1 s m #[Value.ref b] below meth c H locs (cl + 60) (sl + 1400) Q (F0 m 3051 ls [])) (h : lw_2645 E a1 a2 a3 v4 xs L kc d) (hw : Wd D cs (fun q => s.heap.size ≤ q) s.heap s E d H locs) (hl : lv_has ls 7 [(0, .ref b), (1, .ref a1), (2, .ref a2), (3, .ref a3), (4, .int v4)]) : W p l e room_1 s m #[Value.ref b] below meth c H locs cl sl Q (F0 m 2645 ls []) := by
  have hbA : ¬ (fun q : Nat => s.heap.size ≤ q) b := Nat.not_le.mpr hbl
  unfold lw_2645 at h
  obtain ⟨ha1, ha2, ha3, h⟩ := h
  refine lv_aload_n S.1 S.2.1 (dd_at ddL_law_x12 13 rfl) rfl (lv_at hl 1 rfl) ?_
  refine lv_aload_n S.1 S.2.1 (dd_at ddL_law_x12 14 rfl) rfl (lv_at hl 0 rfl) ?_
  refine lv_iload S.1 S.2.1 (dd_at ddL_law_x12 15 rfl) (lv_at hl 4 rfl) ?_
  refine lv_iconst (v := 1) S.1 S.2.1 (dd_at ddL_law_x12 16 rfl) (by decide) ?_
  refine lv_iadd S.1 S.2.1 (dd_at ddL_law_x12 17 rfl) ?_
  obtain ⟨hx_1, h⟩ := h
  refine va_sld S.1 S.2.1 hX hbl hbA hw.2.2.2.1 hx_1 (dd_at ddL_law_x12 18 rfl) ?_
  refine lv_aload_n S.1 S.2.1 (dd_at ddL_law_x12 19 rfl) rfl (lv_at hl 0 rfl) ?_
  refine lv_iload S.1 S.2.1 (dd_at ddL_law_x13 0 rfl) (lv_at hl 4 rfl) ?_
  refine lv_iconst (v := 2) S.1 S.2.1 (dd_at ddL_law_x13 1 rfl) (by decide) ?_
  refine lv_iadd S.1 S.2.1 (dd_at ddL_law_x13 2 rfl) ?_
  obtain ⟨hx_2, h⟩ := h
  refine va_sld S.1 S.2.1 hX hbl hbA hw.2.2.2.1 hx_2 (dd_at ddL_law_x13 3 rfl) ?_
  refine lv_aload_n S.1 S.2.1 (dd_at ddL_law_x13 4 rfl) rfl (lv_at hl 0 rfl) ?_
  refine lv_iload S.1 S.2.1 (dd_at ddL_law_x13 5 rfl) (lv_at hl 4 rfl) ?_
  refine lv_iconst (v := 3) S.1 S.2.1 (dd_at ddL_law_x13 6 rfl) (by decide) ?_
  refine lv_iadd S.1 S.2.1 (dd_at ddL_law_x13 7 rfl) ?_
  obtain ⟨hx_3, h⟩ := h
  refine va_sld S.1 S.2.1 hX hbl hbA hw.2.2.2.1 hx_3 (dd_at ddL_law_x13 8 rfl) ?_
  refine lv_aload_n S.1 S.2.1 (dd_at ddL_law_x13 9 rfl) rfl (lv_at hl 3 rfl) ?_
  refine r_callI hw (r_runSW (As := [.ref a1, .int (xs (v4 + 1).toNatClampNeg), .int (xs (v4 + 2).toNatClampNeg), .int (xs (v4 + 3).toNatClampNeg), .ref a3]) (rest := []) S hw (m_L_photo l hst D cs E d H.size a1 (xs (v4 + 1).toNatClampNeg) (xs (v4 + 2).toNatClampNeg) (xs (v4 + 3).toNatClampNeg) a3 _) (vx_cwSW 5 S.2.2.2.2 (gSW wg1415 wg1416 wg221 wg1417) rfl rfl rfl (by decide +kernel) ⟨Nat.le_of_ble_eq_true rfl, Nat.le_of_ble_eq_true rfl⟩) h rfl hl.1 rfl (Nat.le_of_ble_eq_true rfl) (dd_at ddL_law_x13 10 rfl) ⟨Nat.le_trans (Nat.add_le_add_left (Nat.le_of_ble_eq_true rfl) cl) hcl, Nat.le_trans (Nat.add_le_add_left (Nat.le_of_ble_eq_true rfl) sl) hsl⟩) (fun r_5 d_4 H locs h hw => ?_)
  refine W.widen (k := cl + 60) (n := sl + 1400) (Nat.add_le_add_left (Nat.le_of_ble_eq_true rfl) cl) (Nat.add_le_add_left (Nat.le_of_ble_eq_true rfl) sl) ?_
  refine lv_istore (lv' := [(5, .int r_5), (0, .ref b), (1, .ref a1), (2, .ref a2), (3, .ref a3), (4, .int v4)]) S.1 S.2.1 (dd_at ddL_law_x13 11 rfl) hl (by decide) rfl (fun ls hl => ?_)
  refine lv_aload_n S.1 S.2.1 (dd_at ddL_law_x13 12 rfl) rfl (lv_at hl 3 rfl) ?_
  refine lv_aload_n S.1 S.2.1 (dd_at ddL_law_x13 13 rfl) rfl (lv_at hl 1 rfl) ?_
  refine lv_iload S.1 S.2.1 (dd_at ddL_law_x13 14 rfl) (lv_at hl 5 rfl) ?_
  refine lv_iconst (v := 1) S.1 S.2.1 (dd_at ddL_law_x13 15 rfl) (by decide) ?_
  refine lv_iadd S.1 S.2.1 (dd_at ddL_law_x13 16 rfl) ?_
  obtain ⟨hx_6, h⟩ := h
  refine va_sld S.1 S.2.1 hX hbl hbA hw.2.2.2.1 hx_6 (dd_at ddL_law_x13 17 rfl) ?_
  refine lv_aload_n S.1 S.2.1 (dd_at ddL_law_x13 18 rfl) rfl (lv_at hl 1 rfl) ?_
  refine lv_iload S.1 S.2.1 (dd_at ddL_law_x13 19 rfl) (lv_at hl 5 rfl) ?_
  refine lv_iconst (v := 2) S.1 S.2.1 (dd_at ddL_law_x14 0 rfl) (by decide) ?_
  refine lv_iadd S.1 S.2.1 (dd_at ddL_law_x14 1 rfl) ?_
  obtain ⟨hx_7, h⟩ := h
  refine va_sld S.1 S.2.1 hX hbl hbA hw.2.2.2.1 hx_7 (dd_at ddL_law_x14 2 rfl) ?_
  refine lv_aload_n S.1 S.2.1 (dd_at ddL_law_x14 3 rfl) rfl (lv_at hl 1 rfl) ?_
  refine lv_iload S.1 S.2.1 (dd_at ddL_law_x14 4 rfl) (lv_at hl 5 rfl) ?_
  refine lv_iconst (v := 3) S.1 S.2.1 (dd_at ddL_law_x14 5 rfl) (by decide) ?_
  refine lv_iadd S.1 S.2.1 (dd_at ddL_law_x14 6 rfl) ?_
  obtain ⟨hx_8, h⟩ := h
  refine va_sld S.1 S.2.1 hX hbl hbA hw.2.2.2.1 hx_8 (dd_at ddL_law_x14 7 rfl) ?_
  refine r_callI hw (r_runV (As := [.int (xs (v4 + 1).toNatClampNeg), .int (xs (v4 + 2).toNatClampNeg), .int (xs (v4 + 3).toNatClampNeg)]) (rest := []) S hw (m_X11_photo l D cs E d_4 H.size a2 (xs (v4 + 1).toNatClampNeg) (xs (v4 + 2).toNatClampNeg) (xs (v4 + 3).toNatClampNeg) _) (cwV 3 S.2.2.2.2 (gV wg1422 wg1423 wg1424 wg5 wg1425) rfl rfl rfl (by decide +kernel) ⟨Nat.le_of_ble_eq_true rfl, Nat.le_of_ble_eq_true rfl⟩) (ci := 11) rfl ha2 h rfl hl.1 rfl (Nat.le_of_ble_eq_true rfl) (dd_at ddL_law_x14 8 rfl) ⟨hcl, hsl⟩) (fun r_10 d_9 H locs h hw => ?_)
  refine lv_istore (lv' := [(6, .int r_10), (5, .int r_5), (0, .ref b), (1, .ref a1), (2, .ref a2), (3, .ref a3), (4, .int v4)]) S.1 S.2.1 (dd_at ddL_law_x14 9 rfl) hl (by decide) rfl (fun ls hl => ?_)
  refine lv_aload_n S.1 S.2.1 (dd_at ddL_law_x14 10 rfl) rfl (lv_at hl 4 rfl) ?_
  refine r_callI hw (r_runV (As := []) (rest := []) S hw (m_X11_thrown l D cs E d_9 H.size a2 _) (cwV 0 S.2.2.2.2 (gV wg506 wg507 wg508 wg5 wg509) rfl rfl rfl (by decide +kernel) ⟨Nat.le_of_ble_eq_true rfl, Nat.le_of_ble_eq_true rfl⟩) (ci := 11) rfl ha2 h rfl hl.1 rfl (Nat.le_of_ble_eq_true rfl) (dd_at ddL_law_x14 11 rfl) ⟨hcl, hsl⟩) (fun r_12 d_11 H locs h hw => ?_)
  refine lv_iload S.1 S.2.1 (dd_at ddL_law_x14 12 rfl) (lv_at hl 1 rfl) ?_
  refine lv_icmp_eq (tgt := 2705) S.1 S.2.1 (dd_at ddL_law_x14 13 rfl) (by decide) (fun hc_13 => ?_) (fun hc_13 => ?_)
  · have h := h.1 hc_13
    refine lv_iload S.1 S.2.1 (dd_at ddL_law_x14 16 rfl) (lv_at hl 1 rfl) ?_
    refine lv_if_ne (tgt := 2722) S.1 S.2.1 (dd_at ddL_law_x14 17 rfl) (by decide) (fun hc_14 => ?_) (fun hc_14 => ?_)
    · have h := h.1 hc_14
      refine lv_goto (tgt := 3051) S.1 S.2.1 (dd_at ddL_law_x15 7 rfl) (by decide) ?_
      exact hk _ _ _ _ _ h hw (lv_sub hl [2, 3, 4, 5, 6] rfl)
    · have h := h.2 hc_14
      refine lv_aload_n S.1 S.2.1 (dd_at ddL_law_x14 18 rfl) rfl (lv_at hl 5 rfl) ?_
      refine lv_iconst (v := 0) S.1 S.2.1 (dd_at ddL_law_x14 19 rfl) (by decide) ?_
      obtain ⟨hx_15, h⟩ := h
      refine r_lald S hw ha3 hx_15 (dd_at ddL_law_x15 0 rfl) ?_
      refine lv_iload S.1 S.2.1 (dd_at ddL_law_x15 1 rfl) (lv_at hl 0 rfl) ?_
      refine lv_i2l S.1 S.2.1 (dd_at ddL_law_x15 2 rfl) rfl ?_
      refine W.lcmp S.1 S.2.1 (dd_at ddL_law_x15 3 rfl) ?_
      refine lv_if_eq (tgt := 2722) S.1 S.2.1 (dd_at ddL_law_x15 4 rfl) (by decide) (fun hc_16 => ?_) (fun hc_16 => ?_)
      · have h := h.1 hc_16
        refine lv_goto (tgt := 3051) S.1 S.2.1 (dd_at ddL_law_x15 7 rfl) (by decide) ?_
        exact hk _ _ _ _ _ h hw (lv_sub hl [2, 3, 4, 5, 6] rfl)
      · have h := h.2 hc_16
        refine lv_iconst (v := 0) S.1 S.2.1 (dd_at ddL_law_x15 5 rfl) (by decide) ?_
        exact absurd h id
  · have h := h.2 hc_13
    refine lv_iconst (v := 0) S.1 S.2.1 (dd_at ddL_law_x14 14 rfl) (by decide) ?_
    exact absurd h id

def lw_2725 (E : En) (a1 a2 a3 : Nat) (v4 : Int32) (xs : Nat → Int32) (L : Nat) (kc : En → Dy → Prop) (d : Dy) : Prop := okO E a1 10 ∧ okO E a2 11 ∧ okA E a3 14 ∧ vp_in (v4 + 1) L ∧ vp_in (v4 + 2) L ∧ w_L_allowed E a1 (xs (v4 + 1).toNatClampNeg) (xs (v4 + 2).toNatClampNeg) a3 d (fun r_4 d_3 => vp_in (v4 + 1) L ∧ vp_in (v4 + 2) L ∧ w_X11_allowed E a2 (xs (v4 + 1).toNatClampNeg) (xs (v4 + 2).toNatClampNeg) d_3 (fun r_8 d_7 => w_X11_thrown E a2 d_7 (fun r_10 d_9 => ((r_10 = r_4 → ((¬ r_4 = 0 → kc E d_9) ∧ (r_4 = 0 → vp_in 0 (eN E a3) ∧ (((lg_cmp (gJ d_9 a3 ((0 : Int32)).toNatClampNeg) r_8.toInt64) = 0 → kc E d_9) ∧ (¬ (lg_cmp (gJ d_9 a3 ((0 : Int32)).toNatClampNeg) r_8.toInt64) = 0 → False))))) ∧ (¬ r_10 = r_4 → False)))))
set_option maxRecDepth 100000 in
set_option maxHeartbeats 4000000 in
theorem lc_2725 {p : Program} {l : Launch} {e : Env} {s : State} {m : MethodId} {below : List Frame} {meth : Method} {c : Code} {Q : State → Prop} {D : va_G} {cs : Nat → ClassId} {b L : Nat} {xs : Nat → Int32} {T0 : Cond} (hst : l.stackTraces = false) (S : CallFix p m c cL_law 7 s #[Value.ref b] (T0 :: wsL_law) RL) (hX : va_X b L xs s s.heap) (hbl : b < s.heap.size) {E : En} {a1 a2 a3 : Nat} {v4 : Int32} {d : Dy} {H : Heap} {locs : List Loc} {ls : Array Slot} {cl sl : Nat} {kc : En → Dy → Prop} (hcl : cl + 60 ≤ 634061) (hsl : sl + 1400 ≤ 7193921)
    (hk : ∀ (E9 : En) (d9 : Dy) (H : Heap) (locs : List Loc) (ls : Array Slot), kc E9 d9 → Wd D cs (fun q => s.heap.size ≤ q) s.heap s E9 d9 H locs → lv_has ls 7 [(0, .ref b), (1, .ref a1), (2, .ref a2), (3, .ref a3), (4, .int v4)] → W p l e room_1 s m #[Value.ref b] below meth c H locs (cl + 60) (sl + 1400) Q (F0 m 3051 ls [])) (h : lw_2725 E a1 a2 a3 v4 xs L kc d) (hw : Wd D cs (fun q => s.heap.size ≤ q) s.heap s E d H locs) (hl : lv_has ls 7 [(0, .ref b), (1, .ref a1), (2, .ref a2), (3, .ref a3), (4, .int v4)]) : W p l e room_1 s m #[Value.ref b] below meth c H locs cl sl Q (F0 m 2725 ls []) := by
  have hbA : ¬ (fun q : Nat => s.heap.size ≤ q) b := Nat.not_le.mpr hbl
  unfold lw_2725 at h
  obtain ⟨ha1, ha2, ha3, h⟩ := h
  refine lv_aload_n S.1 S.2.1 (dd_at ddL_law_x15 8 rfl) rfl (lv_at hl 1 rfl) ?_
  refine lv_aload_n S.1 S.2.1 (dd_at ddL_law_x15 9 rfl) rfl (lv_at hl 0 rfl) ?_
  refine lv_iload S.1 S.2.1 (dd_at ddL_law_x15 10 rfl) (lv_at hl 4 rfl) ?_
  refine lv_iconst (v := 1) S.1 S.2.1 (dd_at ddL_law_x15 11 rfl) (by decide) ?_
  refine lv_iadd S.1 S.2.1 (dd_at ddL_law_x15 12 rfl) ?_
  obtain ⟨hx_1, h⟩ := h
  refine va_sld S.1 S.2.1 hX hbl hbA hw.2.2.2.1 hx_1 (dd_at ddL_law_x15 13 rfl) ?_
  refine lv_aload_n S.1 S.2.1 (dd_at ddL_law_x15 14 rfl) rfl (lv_at hl 0 rfl) ?_
  refine lv_iload S.1 S.2.1 (dd_at ddL_law_x15 15 rfl) (lv_at hl 4 rfl) ?_
  refine lv_iconst (v := 2) S.1 S.2.1 (dd_at ddL_law_x15 16 rfl) (by decide) ?_
  refine lv_iadd S.1 S.2.1 (dd_at ddL_law_x15 17 rfl) ?_
  obtain ⟨hx_2, h⟩ := h
  refine va_sld S.1 S.2.1 hX hbl hbA hw.2.2.2.1 hx_2 (dd_at ddL_law_x15 18 rfl) ?_
  refine lv_aload_n S.1 S.2.1 (dd_at ddL_law_x15 19 rfl) rfl (lv_at hl 3 rfl) ?_
  refine r_callI hw (r_runSW (As := [.ref a1, .int (xs (v4 + 1).toNatClampNeg), .int (xs (v4 + 2).toNatClampNeg), .ref a3]) (rest := []) S hw (m_L_allowed l hst D cs E d H.size a1 (xs (v4 + 1).toNatClampNeg) (xs (v4 + 2).toNatClampNeg) a3 _) (vx_cwSW 4 S.2.2.2.2 (gSW wg1426 wg1427 wg221 wg1428) rfl rfl rfl (by decide +kernel) ⟨Nat.le_of_ble_eq_true rfl, Nat.le_of_ble_eq_true rfl⟩) h rfl hl.1 rfl (Nat.le_of_ble_eq_true rfl) (dd_at ddL_law_x16 0 rfl) ⟨Nat.le_trans (Nat.add_le_add_left (Nat.le_of_ble_eq_true rfl) cl) hcl, Nat.le_trans (Nat.add_le_add_left (Nat.le_of_ble_eq_true rfl) sl) hsl⟩) (fun r_4 d_3 H locs h hw => ?_)
  refine W.widen (k := cl + 60) (n := sl + 1400) (Nat.add_le_add_left (Nat.le_of_ble_eq_true rfl) cl) (Nat.add_le_add_left (Nat.le_of_ble_eq_true rfl) sl) ?_
  refine lv_istore (lv' := [(5, .int r_4), (0, .ref b), (1, .ref a1), (2, .ref a2), (3, .ref a3), (4, .int v4)]) S.1 S.2.1 (dd_at ddL_law_x16 1 rfl) hl (by decide) rfl (fun ls hl => ?_)
  refine lv_aload_n S.1 S.2.1 (dd_at ddL_law_x16 2 rfl) rfl (lv_at hl 3 rfl) ?_
  refine lv_aload_n S.1 S.2.1 (dd_at ddL_law_x16 3 rfl) rfl (lv_at hl 1 rfl) ?_
  refine lv_iload S.1 S.2.1 (dd_at ddL_law_x16 4 rfl) (lv_at hl 5 rfl) ?_
  refine lv_iconst (v := 1) S.1 S.2.1 (dd_at ddL_law_x16 5 rfl) (by decide) ?_
  refine lv_iadd S.1 S.2.1 (dd_at ddL_law_x16 6 rfl) ?_
  obtain ⟨hx_5, h⟩ := h
  refine va_sld S.1 S.2.1 hX hbl hbA hw.2.2.2.1 hx_5 (dd_at ddL_law_x16 7 rfl) ?_
  refine lv_aload_n S.1 S.2.1 (dd_at ddL_law_x16 8 rfl) rfl (lv_at hl 1 rfl) ?_
  refine lv_iload S.1 S.2.1 (dd_at ddL_law_x16 9 rfl) (lv_at hl 5 rfl) ?_
  refine lv_iconst (v := 2) S.1 S.2.1 (dd_at ddL_law_x16 10 rfl) (by decide) ?_
  refine lv_iadd S.1 S.2.1 (dd_at ddL_law_x16 11 rfl) ?_
  obtain ⟨hx_6, h⟩ := h
  refine va_sld S.1 S.2.1 hX hbl hbA hw.2.2.2.1 hx_6 (dd_at ddL_law_x16 12 rfl) ?_
  refine r_callI hw (r_runV (As := [.int (xs (v4 + 1).toNatClampNeg), .int (xs (v4 + 2).toNatClampNeg)]) (rest := []) S hw (m_X11_allowed l D cs E d_3 H.size a2 (xs (v4 + 1).toNatClampNeg) (xs (v4 + 2).toNatClampNeg) _) (cwV 2 S.2.2.2.2 (gV wg1441 wg1442 wg1443 wg5 wg1444) rfl rfl rfl (by decide +kernel) ⟨Nat.le_of_ble_eq_true rfl, Nat.le_of_ble_eq_true rfl⟩) (ci := 11) rfl ha2 h rfl hl.1 rfl (Nat.le_of_ble_eq_true rfl) (dd_at ddL_law_x16 13 rfl) ⟨hcl, hsl⟩) (fun r_8 d_7 H locs h hw => ?_)
  refine lv_istore (lv' := [(6, .int r_8), (5, .int r_4), (0, .ref b), (1, .ref a1), (2, .ref a2), (3, .ref a3), (4, .int v4)]) S.1 S.2.1 (dd_at ddL_law_x16 14 rfl) hl (by decide) rfl (fun ls hl => ?_)
  refine lv_aload_n S.1 S.2.1 (dd_at ddL_law_x16 15 rfl) rfl (lv_at hl 4 rfl) ?_
  refine r_callI hw (r_runV (As := []) (rest := []) S hw (m_X11_thrown l D cs E d_7 H.size a2 _) (cwV 0 S.2.2.2.2 (gV wg506 wg507 wg508 wg5 wg509) rfl rfl rfl (by decide +kernel) ⟨Nat.le_of_ble_eq_true rfl, Nat.le_of_ble_eq_true rfl⟩) (ci := 11) rfl ha2 h rfl hl.1 rfl (Nat.le_of_ble_eq_true rfl) (dd_at ddL_law_x16 16 rfl) ⟨hcl, hsl⟩) (fun r_10 d_9 H locs h hw => ?_)
  refine lv_iload S.1 S.2.1 (dd_at ddL_law_x16 17 rfl) (lv_at hl 1 rfl) ?_
  refine lv_icmp_eq (tgt := 2773) S.1 S.2.1 (dd_at ddL_law_x16 18 rfl) (by decide) (fun hc_11 => ?_) (fun hc_11 => ?_)
  · have h := h.1 hc_11
    refine lv_iload S.1 S.2.1 (dd_at ddL_law_x17 1 rfl) (lv_at hl 1 rfl) ?_
    refine lv_if_ne (tgt := 2790) S.1 S.2.1 (dd_at ddL_law_x17 2 rfl) (by decide) (fun hc_12 => ?_) (fun hc_12 => ?_)
    · have h := h.1 hc_12
      refine lv_goto (tgt := 3051) S.1 S.2.1 (dd_at ddL_law_x17 12 rfl) (by decide) ?_
      exact hk _ _ _ _ _ h hw (lv_sub hl [2, 3, 4, 5, 6] rfl)
    · have h := h.2 hc_12
      refine lv_aload_n S.1 S.2.1 (dd_at ddL_law_x17 3 rfl) rfl (lv_at hl 5 rfl) ?_
      refine lv_iconst (v := 0) S.1 S.2.1 (dd_at ddL_law_x17 4 rfl) (by decide) ?_
      obtain ⟨hx_13, h⟩ := h
      refine r_lald S hw ha3 hx_13 (dd_at ddL_law_x17 5 rfl) ?_
      refine lv_iload S.1 S.2.1 (dd_at ddL_law_x17 6 rfl) (lv_at hl 0 rfl) ?_
      refine lv_i2l S.1 S.2.1 (dd_at ddL_law_x17 7 rfl) rfl ?_
      refine W.lcmp S.1 S.2.1 (dd_at ddL_law_x17 8 rfl) ?_
      refine lv_if_eq (tgt := 2790) S.1 S.2.1 (dd_at ddL_law_x17 9 rfl) (by decide) (fun hc_14 => ?_) (fun hc_14 => ?_)
      · have h := h.1 hc_14
        refine lv_goto (tgt := 3051) S.1 S.2.1 (dd_at ddL_law_x17 12 rfl) (by decide) ?_
        exact hk _ _ _ _ _ h hw (lv_sub hl [2, 3, 4, 5, 6] rfl)
      · have h := h.2 hc_14
        refine lv_iconst (v := 0) S.1 S.2.1 (dd_at ddL_law_x17 10 rfl) (by decide) ?_
        exact absurd h id
  · have h := h.2 hc_11
    refine lv_iconst (v := 0) S.1 S.2.1 (dd_at ddL_law_x16 19 rfl) (by decide) ?_
    exact absurd h id

def lw_2793 (E : En) (a1 a2 a3 : Nat) (v4 : Int32) (xs : Nat → Int32) (L : Nat) (kc : En → Dy → Prop) (d : Dy) : Prop := okO E a1 10 ∧ okO E a2 11 ∧ okA E a3 14 ∧ vp_in (v4 + 1) L ∧ w_L_breaches E a1 (xs (v4 + 1).toNatClampNeg) a3 d (fun r_3 d_2 => vp_in (v4 + 1) L ∧ w_X11_breaches E a2 (xs (v4 + 1).toNatClampNeg) d_2 (fun r_6 d_5 => w_X11_thrown E a2 d_5 (fun r_8 d_7 => ((r_8 = r_3 → ((¬ r_3 = 0 → kc E d_7) ∧ (r_3 = 0 → vp_in 0 (eN E a3) ∧ (((lg_cmp (gJ d_7 a3 ((0 : Int32)).toNatClampNeg) r_6.toInt64) = 0 → kc E d_7) ∧ (¬ (lg_cmp (gJ d_7 a3 ((0 : Int32)).toNatClampNeg) r_6.toInt64) = 0 → False))))) ∧ (¬ r_8 = r_3 → False)))))
set_option maxRecDepth 100000 in
set_option maxHeartbeats 4000000 in
theorem lc_2793 {p : Program} {l : Launch} {e : Env} {s : State} {m : MethodId} {below : List Frame} {meth : Method} {c : Code} {Q : State → Prop} {D : va_G} {cs : Nat → ClassId} {b L : Nat} {xs : Nat → Int32} {T0 : Cond} (hst : l.stackTraces = false) (S : CallFix p m c cL_law 7 s #[Value.ref b] (T0 :: wsL_law) RL) (hX : va_X b L xs s s.heap) (hbl : b < s.heap.size) {E : En} {a1 a2 a3 : Nat} {v4 : Int32} {d : Dy} {H : Heap} {locs : List Loc} {ls : Array Slot} {cl sl : Nat} {kc : En → Dy → Prop} (hcl : cl + 60 ≤ 634061) (hsl : sl + 1400 ≤ 7193921)
    (hk : ∀ (E9 : En) (d9 : Dy) (H : Heap) (locs : List Loc) (ls : Array Slot), kc E9 d9 → Wd D cs (fun q => s.heap.size ≤ q) s.heap s E9 d9 H locs → lv_has ls 7 [(0, .ref b), (1, .ref a1), (2, .ref a2), (3, .ref a3), (4, .int v4)] → W p l e room_1 s m #[Value.ref b] below meth c H locs (cl + 60) (sl + 1400) Q (F0 m 3051 ls [])) (h : lw_2793 E a1 a2 a3 v4 xs L kc d) (hw : Wd D cs (fun q => s.heap.size ≤ q) s.heap s E d H locs) (hl : lv_has ls 7 [(0, .ref b), (1, .ref a1), (2, .ref a2), (3, .ref a3), (4, .int v4)]) : W p l e room_1 s m #[Value.ref b] below meth c H locs cl sl Q (F0 m 2793 ls []) := by
  have hbA : ¬ (fun q : Nat => s.heap.size ≤ q) b := Nat.not_le.mpr hbl
  unfold lw_2793 at h
  obtain ⟨ha1, ha2, ha3, h⟩ := h
  refine lv_aload_n S.1 S.2.1 (dd_at ddL_law_x17 13 rfl) rfl (lv_at hl 1 rfl) ?_
  refine lv_aload_n S.1 S.2.1 (dd_at ddL_law_x17 14 rfl) rfl (lv_at hl 0 rfl) ?_
  refine lv_iload S.1 S.2.1 (dd_at ddL_law_x17 15 rfl) (lv_at hl 4 rfl) ?_
  refine lv_iconst (v := 1) S.1 S.2.1 (dd_at ddL_law_x17 16 rfl) (by decide) ?_
  refine lv_iadd S.1 S.2.1 (dd_at ddL_law_x17 17 rfl) ?_
  obtain ⟨hx_1, h⟩ := h
  refine va_sld S.1 S.2.1 hX hbl hbA hw.2.2.2.1 hx_1 (dd_at ddL_law_x17 18 rfl) ?_
  refine lv_aload_n S.1 S.2.1 (dd_at ddL_law_x17 19 rfl) rfl (lv_at hl 3 rfl) ?_
  refine r_callI hw (r_runSW (As := [.ref a1, .int (xs (v4 + 1).toNatClampNeg), .ref a3]) (rest := []) S hw (m_L_breaches l hst D cs E d H.size a1 (xs (v4 + 1).toNatClampNeg) a3 _) (vx_cwSW 3 S.2.2.2.2 (gSW wg1449 wg1450 wg221 wg1451) rfl rfl rfl (by decide +kernel) ⟨Nat.le_of_ble_eq_true rfl, Nat.le_of_ble_eq_true rfl⟩) h rfl hl.1 rfl (Nat.le_of_ble_eq_true rfl) (dd_at ddL_law_x18 0 rfl) ⟨Nat.le_trans (Nat.add_le_add_left (Nat.le_of_ble_eq_true rfl) cl) hcl, Nat.le_trans (Nat.add_le_add_left (Nat.le_of_ble_eq_true rfl) sl) hsl⟩) (fun r_3 d_2 H locs h hw => ?_)
  refine W.widen (k := cl + 60) (n := sl + 1400) (Nat.add_le_add_left (Nat.le_of_ble_eq_true rfl) cl) (Nat.add_le_add_left (Nat.le_of_ble_eq_true rfl) sl) ?_
  refine lv_istore (lv' := [(5, .int r_3), (0, .ref b), (1, .ref a1), (2, .ref a2), (3, .ref a3), (4, .int v4)]) S.1 S.2.1 (dd_at ddL_law_x18 1 rfl) hl (by decide) rfl (fun ls hl => ?_)
  refine lv_aload_n S.1 S.2.1 (dd_at ddL_law_x18 2 rfl) rfl (lv_at hl 3 rfl) ?_
  refine lv_aload_n S.1 S.2.1 (dd_at ddL_law_x18 3 rfl) rfl (lv_at hl 1 rfl) ?_
  refine lv_iload S.1 S.2.1 (dd_at ddL_law_x18 4 rfl) (lv_at hl 5 rfl) ?_
  refine lv_iconst (v := 1) S.1 S.2.1 (dd_at ddL_law_x18 5 rfl) (by decide) ?_
  refine lv_iadd S.1 S.2.1 (dd_at ddL_law_x18 6 rfl) ?_
  obtain ⟨hx_4, h⟩ := h
  refine va_sld S.1 S.2.1 hX hbl hbA hw.2.2.2.1 hx_4 (dd_at ddL_law_x18 7 rfl) ?_
  refine r_callI hw (r_runV (As := [.int (xs (v4 + 1).toNatClampNeg)]) (rest := []) S hw (m_X11_breaches l D cs E d_2 H.size a2 (xs (v4 + 1).toNatClampNeg) _) (cwV 1 S.2.2.2.2 (gV wg1456 wg1457 wg1458 wg5 wg1459) rfl rfl rfl (by decide +kernel) ⟨Nat.le_of_ble_eq_true rfl, Nat.le_of_ble_eq_true rfl⟩) (ci := 11) rfl ha2 h rfl hl.1 rfl (Nat.le_of_ble_eq_true rfl) (dd_at ddL_law_x18 8 rfl) ⟨hcl, hsl⟩) (fun r_6 d_5 H locs h hw => ?_)
  refine lv_istore (lv' := [(6, .int r_6), (5, .int r_3), (0, .ref b), (1, .ref a1), (2, .ref a2), (3, .ref a3), (4, .int v4)]) S.1 S.2.1 (dd_at ddL_law_x18 9 rfl) hl (by decide) rfl (fun ls hl => ?_)
  refine lv_aload_n S.1 S.2.1 (dd_at ddL_law_x18 10 rfl) rfl (lv_at hl 4 rfl) ?_
  refine r_callI hw (r_runV (As := []) (rest := []) S hw (m_X11_thrown l D cs E d_5 H.size a2 _) (cwV 0 S.2.2.2.2 (gV wg506 wg507 wg508 wg5 wg509) rfl rfl rfl (by decide +kernel) ⟨Nat.le_of_ble_eq_true rfl, Nat.le_of_ble_eq_true rfl⟩) (ci := 11) rfl ha2 h rfl hl.1 rfl (Nat.le_of_ble_eq_true rfl) (dd_at ddL_law_x18 11 rfl) ⟨hcl, hsl⟩) (fun r_8 d_7 H locs h hw => ?_)
  refine lv_iload S.1 S.2.1 (dd_at ddL_law_x18 12 rfl) (lv_at hl 1 rfl) ?_
  refine lv_icmp_eq (tgt := 2829) S.1 S.2.1 (dd_at ddL_law_x18 13 rfl) (by decide) (fun hc_9 => ?_) (fun hc_9 => ?_)
  · have h := h.1 hc_9
    refine lv_iload S.1 S.2.1 (dd_at ddL_law_x18 16 rfl) (lv_at hl 1 rfl) ?_
    refine lv_if_ne (tgt := 2846) S.1 S.2.1 (dd_at ddL_law_x18 17 rfl) (by decide) (fun hc_10 => ?_) (fun hc_10 => ?_)
    · have h := h.1 hc_10
      refine lv_goto (tgt := 3051) S.1 S.2.1 (dd_at ddL_law_x19 7 rfl) (by decide) ?_
      exact hk _ _ _ _ _ h hw (lv_sub hl [2, 3, 4, 5, 6] rfl)
    · have h := h.2 hc_10
      refine lv_aload_n S.1 S.2.1 (dd_at ddL_law_x18 18 rfl) rfl (lv_at hl 5 rfl) ?_
      refine lv_iconst (v := 0) S.1 S.2.1 (dd_at ddL_law_x18 19 rfl) (by decide) ?_
      obtain ⟨hx_11, h⟩ := h
      refine r_lald S hw ha3 hx_11 (dd_at ddL_law_x19 0 rfl) ?_
      refine lv_iload S.1 S.2.1 (dd_at ddL_law_x19 1 rfl) (lv_at hl 0 rfl) ?_
      refine lv_i2l S.1 S.2.1 (dd_at ddL_law_x19 2 rfl) rfl ?_
      refine W.lcmp S.1 S.2.1 (dd_at ddL_law_x19 3 rfl) ?_
      refine lv_if_eq (tgt := 2846) S.1 S.2.1 (dd_at ddL_law_x19 4 rfl) (by decide) (fun hc_12 => ?_) (fun hc_12 => ?_)
      · have h := h.1 hc_12
        refine lv_goto (tgt := 3051) S.1 S.2.1 (dd_at ddL_law_x19 7 rfl) (by decide) ?_
        exact hk _ _ _ _ _ h hw (lv_sub hl [2, 3, 4, 5, 6] rfl)
      · have h := h.2 hc_12
        refine lv_iconst (v := 0) S.1 S.2.1 (dd_at ddL_law_x19 5 rfl) (by decide) ?_
        exact absurd h id
  · have h := h.2 hc_9
    refine lv_iconst (v := 0) S.1 S.2.1 (dd_at ddL_law_x18 14 rfl) (by decide) ?_
    exact absurd h id

def lw_2849 (E : En) (a1 a2 a3 : Nat) (v4 : Int32) (xs : Nat → Int32) (L : Nat) (kc : En → Dy → Prop) (d : Dy) : Prop := okO E a1 10 ∧ okO E a2 11 ∧ okA E a3 14 ∧ vp_in (v4 + 1) L ∧ w_L_painted E a1 (xs (v4 + 1).toNatClampNeg) a3 d (fun r_3 d_2 => vp_in (v4 + 1) L ∧ w_X11_painted E a2 (xs (v4 + 1).toNatClampNeg) d_2 (fun r_6 d_5 => w_X11_thrown E a2 d_5 (fun r_8 d_7 => ((r_8 = r_3 → ((¬ r_3 = 0 → kc E d_7) ∧ (r_3 = 0 → vp_in 0 (eN E a3) ∧ (((lg_cmp (gJ d_7 a3 ((0 : Int32)).toNatClampNeg) r_6.toInt64) = 0 → kc E d_7) ∧ (¬ (lg_cmp (gJ d_7 a3 ((0 : Int32)).toNatClampNeg) r_6.toInt64) = 0 → False))))) ∧ (¬ r_8 = r_3 → False)))))
set_option maxRecDepth 100000 in
set_option maxHeartbeats 4000000 in
theorem lc_2849 {p : Program} {l : Launch} {e : Env} {s : State} {m : MethodId} {below : List Frame} {meth : Method} {c : Code} {Q : State → Prop} {D : va_G} {cs : Nat → ClassId} {b L : Nat} {xs : Nat → Int32} {T0 : Cond} (hst : l.stackTraces = false) (S : CallFix p m c cL_law 7 s #[Value.ref b] (T0 :: wsL_law) RL) (hX : va_X b L xs s s.heap) (hbl : b < s.heap.size) {E : En} {a1 a2 a3 : Nat} {v4 : Int32} {d : Dy} {H : Heap} {locs : List Loc} {ls : Array Slot} {cl sl : Nat} {kc : En → Dy → Prop} (hcl : cl + 60 ≤ 634061) (hsl : sl + 1400 ≤ 7193921)
    (hk : ∀ (E9 : En) (d9 : Dy) (H : Heap) (locs : List Loc) (ls : Array Slot), kc E9 d9 → Wd D cs (fun q => s.heap.size ≤ q) s.heap s E9 d9 H locs → lv_has ls 7 [(0, .ref b), (1, .ref a1), (2, .ref a2), (3, .ref a3), (4, .int v4)] → W p l e room_1 s m #[Value.ref b] below meth c H locs (cl + 60) (sl + 1400) Q (F0 m 3051 ls [])) (h : lw_2849 E a1 a2 a3 v4 xs L kc d) (hw : Wd D cs (fun q => s.heap.size ≤ q) s.heap s E d H locs) (hl : lv_has ls 7 [(0, .ref b), (1, .ref a1), (2, .ref a2), (3, .ref a3), (4, .int v4)]) : W p l e room_1 s m #[Value.ref b] below meth c H locs cl sl Q (F0 m 2849 ls []) := by
  have hbA : ¬ (fun q : Nat => s.heap.size ≤ q) b := Nat.not_le.mpr hbl
  unfold lw_2849 at h
  obtain ⟨ha1, ha2, ha3, h⟩ := h
  refine lv_aload_n S.1 S.2.1 (dd_at ddL_law_x19 8 rfl) rfl (lv_at hl 1 rfl) ?_
  refine lv_aload_n S.1 S.2.1 (dd_at ddL_law_x19 9 rfl) rfl (lv_at hl 0 rfl) ?_
  refine lv_iload S.1 S.2.1 (dd_at ddL_law_x19 10 rfl) (lv_at hl 4 rfl) ?_
  refine lv_iconst (v := 1) S.1 S.2.1 (dd_at ddL_law_x19 11 rfl) (by decide) ?_
  refine lv_iadd S.1 S.2.1 (dd_at ddL_law_x19 12 rfl) ?_
  obtain ⟨hx_1, h⟩ := h
  refine va_sld S.1 S.2.1 hX hbl hbA hw.2.2.2.1 hx_1 (dd_at ddL_law_x19 13 rfl) ?_
  refine lv_aload_n S.1 S.2.1 (dd_at ddL_law_x19 14 rfl) rfl (lv_at hl 3 rfl) ?_
  refine r_callI hw (r_runSW (As := [.ref a1, .int (xs (v4 + 1).toNatClampNeg), .ref a3]) (rest := []) S hw (m_L_painted l hst D cs E d H.size a1 (xs (v4 + 1).toNatClampNeg) a3 _) (vx_cwSW 3 S.2.2.2.2 (gSW wg1460 wg1461 wg221 wg1462) rfl rfl rfl (by decide +kernel) ⟨Nat.le_of_ble_eq_true rfl, Nat.le_of_ble_eq_true rfl⟩) h rfl hl.1 rfl (Nat.le_of_ble_eq_true rfl) (dd_at ddL_law_x19 15 rfl) ⟨Nat.le_trans (Nat.add_le_add_left (Nat.le_of_ble_eq_true rfl) cl) hcl, Nat.le_trans (Nat.add_le_add_left (Nat.le_of_ble_eq_true rfl) sl) hsl⟩) (fun r_3 d_2 H locs h hw => ?_)
  refine W.widen (k := cl + 60) (n := sl + 1400) (Nat.add_le_add_left (Nat.le_of_ble_eq_true rfl) cl) (Nat.add_le_add_left (Nat.le_of_ble_eq_true rfl) sl) ?_
  refine lv_istore (lv' := [(5, .int r_3), (0, .ref b), (1, .ref a1), (2, .ref a2), (3, .ref a3), (4, .int v4)]) S.1 S.2.1 (dd_at ddL_law_x19 16 rfl) hl (by decide) rfl (fun ls hl => ?_)
  refine lv_aload_n S.1 S.2.1 (dd_at ddL_law_x19 17 rfl) rfl (lv_at hl 3 rfl) ?_
  refine lv_aload_n S.1 S.2.1 (dd_at ddL_law_x19 18 rfl) rfl (lv_at hl 1 rfl) ?_
  refine lv_iload S.1 S.2.1 (dd_at ddL_law_x19 19 rfl) (lv_at hl 5 rfl) ?_
  refine lv_iconst (v := 1) S.1 S.2.1 (dd_at ddL_law_x20 0 rfl) (by decide) ?_
  refine lv_iadd S.1 S.2.1 (dd_at ddL_law_x20 1 rfl) ?_
  obtain ⟨hx_4, h⟩ := h
  refine va_sld S.1 S.2.1 hX hbl hbA hw.2.2.2.1 hx_4 (dd_at ddL_law_x20 2 rfl) ?_
  refine r_callI hw (r_runV (As := [.int (xs (v4 + 1).toNatClampNeg)]) (rest := []) S hw (m_X11_painted l D cs E d_2 H.size a2 (xs (v4 + 1).toNatClampNeg) _) (cwV 1 S.2.2.2.2 (gV wg1467 wg1468 wg1469 wg5 wg1470) rfl rfl rfl (by decide +kernel) ⟨Nat.le_of_ble_eq_true rfl, Nat.le_of_ble_eq_true rfl⟩) (ci := 11) rfl ha2 h rfl hl.1 rfl (Nat.le_of_ble_eq_true rfl) (dd_at ddL_law_x20 3 rfl) ⟨hcl, hsl⟩) (fun r_6 d_5 H locs h hw => ?_)
  refine lv_istore (lv' := [(6, .int r_6), (5, .int r_3), (0, .ref b), (1, .ref a1), (2, .ref a2), (3, .ref a3), (4, .int v4)]) S.1 S.2.1 (dd_at ddL_law_x20 4 rfl) hl (by decide) rfl (fun ls hl => ?_)
  refine lv_aload_n S.1 S.2.1 (dd_at ddL_law_x20 5 rfl) rfl (lv_at hl 4 rfl) ?_
  refine r_callI hw (r_runV (As := []) (rest := []) S hw (m_X11_thrown l D cs E d_5 H.size a2 _) (cwV 0 S.2.2.2.2 (gV wg506 wg507 wg508 wg5 wg509) rfl rfl rfl (by decide +kernel) ⟨Nat.le_of_ble_eq_true rfl, Nat.le_of_ble_eq_true rfl⟩) (ci := 11) rfl ha2 h rfl hl.1 rfl (Nat.le_of_ble_eq_true rfl) (dd_at ddL_law_x20 6 rfl) ⟨hcl, hsl⟩) (fun r_8 d_7 H locs h hw => ?_)
  refine lv_iload S.1 S.2.1 (dd_at ddL_law_x20 7 rfl) (lv_at hl 1 rfl) ?_
  refine lv_icmp_eq (tgt := 2885) S.1 S.2.1 (dd_at ddL_law_x20 8 rfl) (by decide) (fun hc_9 => ?_) (fun hc_9 => ?_)
  · have h := h.1 hc_9
    refine lv_iload S.1 S.2.1 (dd_at ddL_law_x20 11 rfl) (lv_at hl 1 rfl) ?_
    refine lv_if_ne (tgt := 2902) S.1 S.2.1 (dd_at ddL_law_x20 12 rfl) (by decide) (fun hc_10 => ?_) (fun hc_10 => ?_)
    · have h := h.1 hc_10
      refine lv_goto (tgt := 3051) S.1 S.2.1 (dd_at ddL_law_x21 2 rfl) (by decide) ?_
      exact hk _ _ _ _ _ h hw (lv_sub hl [2, 3, 4, 5, 6] rfl)
    · have h := h.2 hc_10
      refine lv_aload_n S.1 S.2.1 (dd_at ddL_law_x20 13 rfl) rfl (lv_at hl 5 rfl) ?_
      refine lv_iconst (v := 0) S.1 S.2.1 (dd_at ddL_law_x20 14 rfl) (by decide) ?_
      obtain ⟨hx_11, h⟩ := h
      refine r_lald S hw ha3 hx_11 (dd_at ddL_law_x20 15 rfl) ?_
      refine lv_iload S.1 S.2.1 (dd_at ddL_law_x20 16 rfl) (lv_at hl 0 rfl) ?_
      refine lv_i2l S.1 S.2.1 (dd_at ddL_law_x20 17 rfl) rfl ?_
      refine W.lcmp S.1 S.2.1 (dd_at ddL_law_x20 18 rfl) ?_
      refine lv_if_eq (tgt := 2902) S.1 S.2.1 (dd_at ddL_law_x20 19 rfl) (by decide) (fun hc_12 => ?_) (fun hc_12 => ?_)
      · have h := h.1 hc_12
        refine lv_goto (tgt := 3051) S.1 S.2.1 (dd_at ddL_law_x21 2 rfl) (by decide) ?_
        exact hk _ _ _ _ _ h hw (lv_sub hl [2, 3, 4, 5, 6] rfl)
      · have h := h.2 hc_12
        refine lv_iconst (v := 0) S.1 S.2.1 (dd_at ddL_law_x21 0 rfl) (by decide) ?_
        exact absurd h id
  · have h := h.2 hc_9
    refine lv_iconst (v := 0) S.1 S.2.1 (dd_at ddL_law_x20 9 rfl) (by decide) ?_
    exact absurd h id

def lw_2905 (E : En) (a1 a2 a3 : Nat) (v4 : Int32) (xs : Nat → Int32) (L : Nat) (kc : En → Dy → Prop) (d : Dy) : Prop := okO E a1 10 ∧ okO E a2 11 ∧ okA E a3 14 ∧ vp_in (v4 + 1) L ∧ w_L_thief E a1 (xs (v4 + 1).toNatClampNeg) a3 d (fun r_3 d_2 => vp_in (v4 + 1) L ∧ w_X11_thief E a2 (xs (v4 + 1).toNatClampNeg) d_2 (fun r_6 d_5 => w_X11_thrown E a2 d_5 (fun r_8 d_7 => ((r_8 = r_3 → ((¬ r_3 = 0 → kc E d_7) ∧ (r_3 = 0 → vp_in 0 (eN E a3) ∧ (((lg_cmp (gJ d_7 a3 ((0 : Int32)).toNatClampNeg) r_6.toInt64) = 0 → kc E d_7) ∧ (¬ (lg_cmp (gJ d_7 a3 ((0 : Int32)).toNatClampNeg) r_6.toInt64) = 0 → False))))) ∧ (¬ r_8 = r_3 → False)))))
set_option maxRecDepth 100000 in
set_option maxHeartbeats 4000000 in
theorem lc_2905 {p : Program} {l : Launch} {e : Env} {s : State} {m : MethodId} {below : List Frame} {meth : Method} {c : Code} {Q : State → Prop} {D : va_G} {cs : Nat → ClassId} {b L : Nat} {xs : Nat → Int32} {T0 : Cond} (hst : l.stackTraces = false) (S : CallFix p m c cL_law 7 s #[Value.ref b] (T0 :: wsL_law) RL) (hX : va_X b L xs s s.heap) (hbl : b < s.heap.size) {E : En} {a1 a2 a3 : Nat} {v4 : Int32} {d : Dy} {H : Heap} {locs : List Loc} {ls : Array Slot} {cl sl : Nat} {kc : En → Dy → Prop} (hcl : cl + 60 ≤ 634061) (hsl : sl + 1400 ≤ 7193921)
    (hk : ∀ (E9 : En) (d9 : Dy) (H : Heap) (locs : List Loc) (ls : Array Slot), kc E9 d9 → Wd D cs (fun q => s.heap.size ≤ q) s.heap s E9 d9 H locs → lv_has ls 7 [(0, .ref b), (1, .ref a1), (2, .ref a2), (3, .ref a3), (4, .int v4)] → W p l e room_1 s m #[Value.ref b] below meth c H locs (cl + 60) (sl + 1400) Q (F0 m 3051 ls [])) (h : lw_2905 E a1 a2 a3 v4 xs L kc d) (hw : Wd D cs (fun q => s.heap.size ≤ q) s.heap s E d H locs) (hl : lv_has ls 7 [(0, .ref b), (1, .ref a1), (2, .ref a2), (3, .ref a3), (4, .int v4)]) : W p l e room_1 s m #[Value.ref b] below meth c H locs cl sl Q (F0 m 2905 ls []) := by
  have hbA : ¬ (fun q : Nat => s.heap.size ≤ q) b := Nat.not_le.mpr hbl
  unfold lw_2905 at h
  obtain ⟨ha1, ha2, ha3, h⟩ := h
  refine lv_aload_n S.1 S.2.1 (dd_at ddL_law_x21 3 rfl) rfl (lv_at hl 1 rfl) ?_
  refine lv_aload_n S.1 S.2.1 (dd_at ddL_law_x21 4 rfl) rfl (lv_at hl 0 rfl) ?_
  refine lv_iload S.1 S.2.1 (dd_at ddL_law_x21 5 rfl) (lv_at hl 4 rfl) ?_
  refine lv_iconst (v := 1) S.1 S.2.1 (dd_at ddL_law_x21 6 rfl) (by decide) ?_
  refine lv_iadd S.1 S.2.1 (dd_at ddL_law_x21 7 rfl) ?_
  obtain ⟨hx_1, h⟩ := h
  refine va_sld S.1 S.2.1 hX hbl hbA hw.2.2.2.1 hx_1 (dd_at ddL_law_x21 8 rfl) ?_
  refine lv_aload_n S.1 S.2.1 (dd_at ddL_law_x21 9 rfl) rfl (lv_at hl 3 rfl) ?_
  refine r_callI hw (r_runSW (As := [.ref a1, .int (xs (v4 + 1).toNatClampNeg), .ref a3]) (rest := []) S hw (m_L_thief l hst D cs E d H.size a1 (xs (v4 + 1).toNatClampNeg) a3 _) (vx_cwSW 3 S.2.2.2.2 (gSW wg1471 wg1472 wg221 wg1473) rfl rfl rfl (by decide +kernel) ⟨Nat.le_of_ble_eq_true rfl, Nat.le_of_ble_eq_true rfl⟩) h rfl hl.1 rfl (Nat.le_of_ble_eq_true rfl) (dd_at ddL_law_x21 10 rfl) ⟨Nat.le_trans (Nat.add_le_add_left (Nat.le_of_ble_eq_true rfl) cl) hcl, Nat.le_trans (Nat.add_le_add_left (Nat.le_of_ble_eq_true rfl) sl) hsl⟩) (fun r_3 d_2 H locs h hw => ?_)
  refine W.widen (k := cl + 60) (n := sl + 1400) (Nat.add_le_add_left (Nat.le_of_ble_eq_true rfl) cl) (Nat.add_le_add_left (Nat.le_of_ble_eq_true rfl) sl) ?_
  refine lv_istore (lv' := [(5, .int r_3), (0, .ref b), (1, .ref a1), (2, .ref a2), (3, .ref a3), (4, .int v4)]) S.1 S.2.1 (dd_at ddL_law_x21 11 rfl) hl (by decide) rfl (fun ls hl => ?_)
  refine lv_aload_n S.1 S.2.1 (dd_at ddL_law_x21 12 rfl) rfl (lv_at hl 3 rfl) ?_
  refine lv_aload_n S.1 S.2.1 (dd_at ddL_law_x21 13 rfl) rfl (lv_at hl 1 rfl) ?_
  refine lv_iload S.1 S.2.1 (dd_at ddL_law_x21 14 rfl) (lv_at hl 5 rfl) ?_
  refine lv_iconst (v := 1) S.1 S.2.1 (dd_at ddL_law_x21 15 rfl) (by decide) ?_
  refine lv_iadd S.1 S.2.1 (dd_at ddL_law_x21 16 rfl) ?_
  obtain ⟨hx_4, h⟩ := h
  refine va_sld S.1 S.2.1 hX hbl hbA hw.2.2.2.1 hx_4 (dd_at ddL_law_x21 17 rfl) ?_
  refine r_callI hw (r_runV (As := [.int (xs (v4 + 1).toNatClampNeg)]) (rest := []) S hw (m_X11_thief l D cs E d_2 H.size a2 (xs (v4 + 1).toNatClampNeg) _) (cwV 1 S.2.2.2.2 (gV wg1478 wg1479 wg1480 wg5 wg1481) rfl rfl rfl (by decide +kernel) ⟨Nat.le_of_ble_eq_true rfl, Nat.le_of_ble_eq_true rfl⟩) (ci := 11) rfl ha2 h rfl hl.1 rfl (Nat.le_of_ble_eq_true rfl) (dd_at ddL_law_x21 18 rfl) ⟨hcl, hsl⟩) (fun r_6 d_5 H locs h hw => ?_)
  refine lv_istore (lv' := [(6, .int r_6), (5, .int r_3), (0, .ref b), (1, .ref a1), (2, .ref a2), (3, .ref a3), (4, .int v4)]) S.1 S.2.1 (dd_at ddL_law_x21 19 rfl) hl (by decide) rfl (fun ls hl => ?_)
  refine lv_aload_n S.1 S.2.1 (dd_at ddL_law_x22 0 rfl) rfl (lv_at hl 4 rfl) ?_
  refine r_callI hw (r_runV (As := []) (rest := []) S hw (m_X11_thrown l D cs E d_5 H.size a2 _) (cwV 0 S.2.2.2.2 (gV wg506 wg507 wg508 wg5 wg509) rfl rfl rfl (by decide +kernel) ⟨Nat.le_of_ble_eq_true rfl, Nat.le_of_ble_eq_true rfl⟩) (ci := 11) rfl ha2 h rfl hl.1 rfl (Nat.le_of_ble_eq_true rfl) (dd_at ddL_law_x22 1 rfl) ⟨hcl, hsl⟩) (fun r_8 d_7 H locs h hw => ?_)
  refine lv_iload S.1 S.2.1 (dd_at ddL_law_x22 2 rfl) (lv_at hl 1 rfl) ?_
  refine lv_icmp_eq (tgt := 2941) S.1 S.2.1 (dd_at ddL_law_x22 3 rfl) (by decide) (fun hc_9 => ?_) (fun hc_9 => ?_)
  · have h := h.1 hc_9
    refine lv_iload S.1 S.2.1 (dd_at ddL_law_x22 6 rfl) (lv_at hl 1 rfl) ?_
    refine lv_if_ne (tgt := 2958) S.1 S.2.1 (dd_at ddL_law_x22 7 rfl) (by decide) (fun hc_10 => ?_) (fun hc_10 => ?_)
    · have h := h.1 hc_10
      refine lv_goto (tgt := 3051) S.1 S.2.1 (dd_at ddL_law_x22 17 rfl) (by decide) ?_
      exact hk _ _ _ _ _ h hw (lv_sub hl [2, 3, 4, 5, 6] rfl)
    · have h := h.2 hc_10
      refine lv_aload_n S.1 S.2.1 (dd_at ddL_law_x22 8 rfl) rfl (lv_at hl 5 rfl) ?_
      refine lv_iconst (v := 0) S.1 S.2.1 (dd_at ddL_law_x22 9 rfl) (by decide) ?_
      obtain ⟨hx_11, h⟩ := h
      refine r_lald S hw ha3 hx_11 (dd_at ddL_law_x22 10 rfl) ?_
      refine lv_iload S.1 S.2.1 (dd_at ddL_law_x22 11 rfl) (lv_at hl 0 rfl) ?_
      refine lv_i2l S.1 S.2.1 (dd_at ddL_law_x22 12 rfl) rfl ?_
      refine W.lcmp S.1 S.2.1 (dd_at ddL_law_x22 13 rfl) ?_
      refine lv_if_eq (tgt := 2958) S.1 S.2.1 (dd_at ddL_law_x22 14 rfl) (by decide) (fun hc_12 => ?_) (fun hc_12 => ?_)
      · have h := h.1 hc_12
        refine lv_goto (tgt := 3051) S.1 S.2.1 (dd_at ddL_law_x22 17 rfl) (by decide) ?_
        exact hk _ _ _ _ _ h hw (lv_sub hl [2, 3, 4, 5, 6] rfl)
      · have h := h.2 hc_12
        refine lv_iconst (v := 0) S.1 S.2.1 (dd_at ddL_law_x22 15 rfl) (by decide) ?_
        exact absurd h id
  · have h := h.2 hc_9
    refine lv_iconst (v := 0) S.1 S.2.1 (dd_at ddL_law_x22 4 rfl) (by decide) ?_
    exact absurd h id

def b_Lw_2976 (E : En) (a1 a2 a3 : Nat) (v4 : Int32) (xs : Nat → Int32) (L : Nat) (kc : En → Dy → Prop) (s0 : Nat) (s1 : Int32) (d : Dy) : Prop := okO E s0 10 ∧ w_X10_thieves E s0 s1 d (fun r_2 d_1 => vp_in (v4 + 1) L ∧ (((xs (v4 + 1).toNatClampNeg) = 0 → w_X11_thieves E a2 0 d_1 (fun r_6 d_5 => ((r_2 = r_6 → kc E d_5) ∧ (¬ r_2 = r_6 → False)))) ∧ (¬ (xs (v4 + 1).toNatClampNeg) = 0 → w_X11_thieves E a2 1 d_1 (fun r_9 d_8 => ((r_2 = r_9 → kc E d_8) ∧ (¬ r_2 = r_9 → False))))))
def lw_2961 (E : En) (a1 a2 a3 : Nat) (v4 : Int32) (xs : Nat → Int32) (L : Nat) (kc : En → Dy → Prop) (d : Dy) : Prop := okO E a1 10 ∧ okO E a2 11 ∧ okA E a3 14 ∧ vp_in (v4 + 1) L ∧ (((xs (v4 + 1).toNatClampNeg) = 0 → b_Lw_2976 E a1 a2 a3 v4 xs L kc a1 0 d) ∧ (¬ (xs (v4 + 1).toNatClampNeg) = 0 → b_Lw_2976 E a1 a2 a3 v4 xs L kc a1 1 d))
set_option maxRecDepth 100000 in
set_option maxHeartbeats 4000000 in
theorem lc_2961 {p : Program} {l : Launch} {e : Env} {s : State} {m : MethodId} {below : List Frame} {meth : Method} {c : Code} {Q : State → Prop} {D : va_G} {cs : Nat → ClassId} {b L : Nat} {xs : Nat → Int32} {T0 : Cond} (hst : l.stackTraces = false) (S : CallFix p m c cL_law 7 s #[Value.ref b] (T0 :: wsL_law) RL) (hX : va_X b L xs s s.heap) (hbl : b < s.heap.size) {E : En} {a1 a2 a3 : Nat} {v4 : Int32} {d : Dy} {H : Heap} {locs : List Loc} {ls : Array Slot} {cl sl : Nat} {kc : En → Dy → Prop} (hcl : cl + 60 ≤ 634061) (hsl : sl + 1400 ≤ 7193921)
    (hk : ∀ (E9 : En) (d9 : Dy) (H : Heap) (locs : List Loc) (ls : Array Slot), kc E9 d9 → Wd D cs (fun q => s.heap.size ≤ q) s.heap s E9 d9 H locs → lv_has ls 7 [(0, .ref b), (1, .ref a1), (2, .ref a2), (3, .ref a3), (4, .int v4)] → W p l e room_1 s m #[Value.ref b] below meth c H locs (cl + 60) (sl + 1400) Q (F0 m 3051 ls [])) (h : lw_2961 E a1 a2 a3 v4 xs L kc d) (hw : Wd D cs (fun q => s.heap.size ≤ q) s.heap s E d H locs) (hl : lv_has ls 7 [(0, .ref b), (1, .ref a1), (2, .ref a2), (3, .ref a3), (4, .int v4)]) : W p l e room_1 s m #[Value.ref b] below meth c H locs cl sl Q (F0 m 2961 ls []) := by
  have hbA : ¬ (fun q : Nat => s.heap.size ≤ q) b := Nat.not_le.mpr hbl
  unfold lw_2961 at h
  obtain ⟨ha1, ha2, ha3, h⟩ := h
  have tb2976 : ∀ (s0 : Nat) (s1 : Int32) (d : Dy) (H : Heap) (locs : List Loc) (ls : Array Slot), b_Lw_2976 E a1 a2 a3 v4 xs L kc s0 s1 d → Wd D cs (fun q => s.heap.size ≤ q) s.heap s E d H locs → lv_has ls 7 [(0, .ref b), (1, .ref a1), (2, .ref a2), (3, .ref a3), (4, .int v4)] → W p l e room_1 s m #[Value.ref b] below meth c H locs cl sl Q (F0 m 2976 ls [.int s1, .ref s0]) := by
    intro s0 s1 d H locs ls h hw hl
    unfold b_Lw_2976 at h
    obtain ⟨hos0, h⟩ := h
    refine r_callI hw (r_runV (As := [.int s1]) (rest := []) S hw (m_X10_thieves l D cs E d H.size s0 s1 _) (cwV 1 S.2.2.2.2 (gV wg1482 wg1483 wg1484 wg2 wg1485) rfl rfl rfl (by decide +kernel) ⟨Nat.le_of_ble_eq_true rfl, Nat.le_of_ble_eq_true rfl⟩) (ci := 10) rfl hos0 h rfl hl.1 rfl (Nat.le_of_ble_eq_true rfl) (dd_at ddL_law_x23 8 rfl) ⟨Nat.le_trans (Nat.le_add_right cl 60) hcl, Nat.le_trans (Nat.le_add_right sl 1400) hsl⟩) (fun r_2 d_1 H locs h hw => ?_)
    refine lv_aload_n S.1 S.2.1 (dd_at ddL_law_x23 9 rfl) rfl (lv_at hl 2 rfl) ?_
    refine lv_aload_n S.1 S.2.1 (dd_at ddL_law_x23 10 rfl) rfl (lv_at hl 0 rfl) ?_
    refine lv_iload S.1 S.2.1 (dd_at ddL_law_x23 11 rfl) (lv_at hl 4 rfl) ?_
    refine lv_iconst (v := 1) S.1 S.2.1 (dd_at ddL_law_x23 12 rfl) (by decide) ?_
    refine lv_iadd S.1 S.2.1 (dd_at ddL_law_x23 13 rfl) ?_
    obtain ⟨hx_3, h⟩ := h
    refine va_sld S.1 S.2.1 hX hbl hbA hw.2.2.2.1 hx_3 (dd_at ddL_law_x23 14 rfl) ?_
    refine lv_if_eq (tgt := 2993) S.1 S.2.1 (dd_at ddL_law_x23 15 rfl) (by decide) (fun hc_4 => ?_) (fun hc_4 => ?_)
    · have h := h.1 hc_4
      refine lv_iconst (v := 0) S.1 S.2.1 (dd_at ddL_law_x23 18 rfl) (by decide) ?_
      refine r_callI hw (r_runV (As := [.int 0]) (rest := [.int r_2]) S hw (m_X11_thieves l D cs E d_1 H.size a2 0 _) (cwV 1 S.2.2.2.2 (gV wg1490 wg1491 wg1492 wg5 wg1493) rfl rfl rfl (by decide +kernel) ⟨Nat.le_of_ble_eq_true rfl, Nat.le_of_ble_eq_true rfl⟩) (ci := 11) rfl ha2 h rfl hl.1 rfl (Nat.le_of_ble_eq_true rfl) (dd_at ddL_law_x23 19 rfl) ⟨Nat.le_trans (Nat.le_add_right cl 60) hcl, Nat.le_trans (Nat.le_add_right sl 1400) hsl⟩) (fun r_6 d_5 H locs h hw => ?_)
      refine lv_icmp_eq (tgt := 3051) S.1 S.2.1 (dd_at ddL_law_x24 0 rfl) (by decide) (fun hc_7 => ?_) (fun hc_7 => ?_)
      · have h := h.1 hc_7
        refine W.widen (k := cl + 60) (n := sl + 1400) (Nat.le_add_right _ _) (Nat.le_add_right _ _) ?_
        exact hk _ _ _ _ _ h hw (lv_sub hl [0, 1, 2, 3, 4] rfl)
      · have h := h.2 hc_7
        refine lv_iconst (v := 0) S.1 S.2.1 (dd_at ddL_law_x24 1 rfl) (by decide) ?_
        exact absurd h id
    · have h := h.2 hc_4
      refine lv_iconst (v := 1) S.1 S.2.1 (dd_at ddL_law_x23 16 rfl) (by decide) ?_
      refine lv_goto (tgt := 2994) S.1 S.2.1 (dd_at ddL_law_x23 17 rfl) (by decide) ?_
      refine r_callI hw (r_runV (As := [.int 1]) (rest := [.int r_2]) S hw (m_X11_thieves l D cs E d_1 H.size a2 1 _) (cwV 1 S.2.2.2.2 (gV wg1490 wg1491 wg1492 wg5 wg1493) rfl rfl rfl (by decide +kernel) ⟨Nat.le_of_ble_eq_true rfl, Nat.le_of_ble_eq_true rfl⟩) (ci := 11) rfl ha2 h rfl hl.1 rfl (Nat.le_of_ble_eq_true rfl) (dd_at ddL_law_x23 19 rfl) ⟨Nat.le_trans (Nat.le_add_right cl 60) hcl, Nat.le_trans (Nat.le_add_right sl 1400) hsl⟩) (fun r_9 d_8 H locs h hw => ?_)
      refine lv_icmp_eq (tgt := 3051) S.1 S.2.1 (dd_at ddL_law_x24 0 rfl) (by decide) (fun hc_10 => ?_) (fun hc_10 => ?_)
      · have h := h.1 hc_10
        refine W.widen (k := cl + 60) (n := sl + 1400) (Nat.le_add_right _ _) (Nat.le_add_right _ _) ?_
        exact hk _ _ _ _ _ h hw (lv_sub hl [0, 1, 2, 3, 4] rfl)
      · have h := h.2 hc_10
        refine lv_iconst (v := 0) S.1 S.2.1 (dd_at ddL_law_x24 1 rfl) (by decide) ?_
        exact absurd h id
  refine lv_aload_n S.1 S.2.1 (dd_at ddL_law_x22 18 rfl) rfl (lv_at hl 1 rfl) ?_
  refine lv_aload_n S.1 S.2.1 (dd_at ddL_law_x22 19 rfl) rfl (lv_at hl 0 rfl) ?_
  refine lv_iload S.1 S.2.1 (dd_at ddL_law_x23 0 rfl) (lv_at hl 4 rfl) ?_
  refine lv_iconst (v := 1) S.1 S.2.1 (dd_at ddL_law_x23 1 rfl) (by decide) ?_
  refine lv_iadd S.1 S.2.1 (dd_at ddL_law_x23 2 rfl) ?_
  obtain ⟨hx_11, h⟩ := h
  refine va_sld S.1 S.2.1 hX hbl hbA hw.2.2.2.1 hx_11 (dd_at ddL_law_x23 3 rfl) ?_
  refine lv_if_eq (tgt := 2975) S.1 S.2.1 (dd_at ddL_law_x23 4 rfl) (by decide) (fun hc_12 => ?_) (fun hc_12 => ?_)
  · have h := h.1 hc_12
    refine lv_iconst (v := 0) S.1 S.2.1 (dd_at ddL_law_x23 7 rfl) (by decide) ?_
    exact tb2976 a1 0 d H locs ls h hw (lv_sub hl [0, 1, 2, 3, 4] rfl)
  · have h := h.2 hc_12
    refine lv_iconst (v := 1) S.1 S.2.1 (dd_at ddL_law_x23 5 rfl) (by decide) ?_
    refine lv_goto (tgt := 2976) S.1 S.2.1 (dd_at ddL_law_x23 6 rfl) (by decide) ?_
    exact tb2976 a1 1 d H locs ls h hw (lv_sub hl [0, 1, 2, 3, 4] rfl)

def lw_3002 (E : En) (a1 a2 a3 : Nat) (v4 : Int32) (xs : Nat → Int32) (L : Nat) (kc : En → Dy → Prop) (d : Dy) : Prop := okO E a1 10 ∧ okO E a2 11 ∧ okA E a3 14 ∧ w_X10_image E a1 d (fun d_1 => w_X11_image E a2 d_1 (fun d_3 => kc E d_3))
set_option maxRecDepth 100000 in
set_option maxHeartbeats 4000000 in
theorem lc_3002 {p : Program} {l : Launch} {e : Env} {s : State} {m : MethodId} {below : List Frame} {meth : Method} {c : Code} {Q : State → Prop} {D : va_G} {cs : Nat → ClassId} {b L : Nat} {xs : Nat → Int32} {T0 : Cond} (hst : l.stackTraces = false) (S : CallFix p m c cL_law 7 s #[Value.ref b] (T0 :: wsL_law) RL) (hX : va_X b L xs s s.heap) (hbl : b < s.heap.size) {E : En} {a1 a2 a3 : Nat} {v4 : Int32} {d : Dy} {H : Heap} {locs : List Loc} {ls : Array Slot} {cl sl : Nat} {kc : En → Dy → Prop} (hcl : cl + 60 ≤ 634061) (hsl : sl + 1400 ≤ 7193921)
    (hk : ∀ (E9 : En) (d9 : Dy) (H : Heap) (locs : List Loc) (ls : Array Slot), kc E9 d9 → Wd D cs (fun q => s.heap.size ≤ q) s.heap s E9 d9 H locs → lv_has ls 7 [(0, .ref b), (1, .ref a1), (2, .ref a2), (3, .ref a3), (4, .int v4)] → W p l e room_1 s m #[Value.ref b] below meth c H locs (cl + 60) (sl + 1400) Q (F0 m 3051 ls [])) (h : lw_3002 E a1 a2 a3 v4 xs L kc d) (hw : Wd D cs (fun q => s.heap.size ≤ q) s.heap s E d H locs) (hl : lv_has ls 7 [(0, .ref b), (1, .ref a1), (2, .ref a2), (3, .ref a3), (4, .int v4)]) : W p l e room_1 s m #[Value.ref b] below meth c H locs cl sl Q (F0 m 3002 ls []) := by
  have hbA : ¬ (fun q : Nat => s.heap.size ≤ q) b := Nat.not_le.mpr hbl
  unfold lw_3002 at h
  obtain ⟨ha1, ha2, ha3, h⟩ := h
  refine lv_aload_n S.1 S.2.1 (dd_at ddL_law_x24 3 rfl) rfl (lv_at hl 1 rfl) ?_
  refine r_callV hw (r_runV (As := []) (rest := []) S hw (m_X10_image l D cs E d H.size a1 _) (cwV 0 S.2.2.2.2 (gV wg1494 wg1495 wg1496 wg2 wg1497) rfl rfl rfl (by decide +kernel) ⟨Nat.le_of_ble_eq_true rfl, Nat.le_of_ble_eq_true rfl⟩) (ci := 10) rfl ha1 h rfl hl.1 rfl (Nat.le_of_ble_eq_true rfl) (dd_at ddL_law_x24 4 rfl) ⟨Nat.le_trans (Nat.le_add_right cl 60) hcl, Nat.le_trans (Nat.le_add_right sl 1400) hsl⟩) (fun d_1 H locs h hw => ?_)
  refine lv_aload_n S.1 S.2.1 (dd_at ddL_law_x24 5 rfl) rfl (lv_at hl 2 rfl) ?_
  refine r_callV hw (r_runV (As := []) (rest := []) S hw (m_X11_image l D cs E d_1 H.size a2 _) (cwV 0 S.2.2.2.2 (gV wg1504 wg1505 wg1506 wg5 wg1507) rfl rfl rfl (by decide +kernel) ⟨Nat.le_of_ble_eq_true rfl, Nat.le_of_ble_eq_true rfl⟩) (ci := 11) rfl ha2 h rfl hl.1 rfl (Nat.le_of_ble_eq_true rfl) (dd_at ddL_law_x24 6 rfl) ⟨Nat.le_trans (Nat.le_add_right cl 60) hcl, Nat.le_trans (Nat.le_add_right sl 1400) hsl⟩) (fun d_3 H locs h hw => ?_)
  refine lv_goto (tgt := 3051) S.1 S.2.1 (dd_at ddL_law_x24 7 rfl) (by decide) ?_
  refine W.widen (k := cl + 60) (n := sl + 1400) (Nat.le_add_right _ _) (Nat.le_add_right _ _) ?_
  exact hk _ _ _ _ _ h hw (lv_sub hl [0, 1, 2, 3, 4] rfl)

def lw_3013 (E : En) (a1 a2 a3 : Nat) (v4 : Int32) (xs : Nat → Int32) (L : Nat) (kc : En → Dy → Prop) (d : Dy) : Prop := okO E a1 10 ∧ okO E a2 11 ∧ okA E a3 14 ∧ w_X10_back E a1 d (fun r_2 d_1 => w_X11_back E a2 d_1 (fun r_4 d_3 => ((r_2 = r_4 → kc E d_3) ∧ (¬ r_2 = r_4 → False))))
set_option maxRecDepth 100000 in
set_option maxHeartbeats 4000000 in
theorem lc_3013 {p : Program} {l : Launch} {e : Env} {s : State} {m : MethodId} {below : List Frame} {meth : Method} {c : Code} {Q : State → Prop} {D : va_G} {cs : Nat → ClassId} {b L : Nat} {xs : Nat → Int32} {T0 : Cond} (hst : l.stackTraces = false) (S : CallFix p m c cL_law 7 s #[Value.ref b] (T0 :: wsL_law) RL) (hX : va_X b L xs s s.heap) (hbl : b < s.heap.size) {E : En} {a1 a2 a3 : Nat} {v4 : Int32} {d : Dy} {H : Heap} {locs : List Loc} {ls : Array Slot} {cl sl : Nat} {kc : En → Dy → Prop} (hcl : cl + 60 ≤ 634061) (hsl : sl + 1400 ≤ 7193921)
    (hk : ∀ (E9 : En) (d9 : Dy) (H : Heap) (locs : List Loc) (ls : Array Slot), kc E9 d9 → Wd D cs (fun q => s.heap.size ≤ q) s.heap s E9 d9 H locs → lv_has ls 7 [(0, .ref b), (1, .ref a1), (2, .ref a2), (3, .ref a3), (4, .int v4)] → W p l e room_1 s m #[Value.ref b] below meth c H locs (cl + 60) (sl + 1400) Q (F0 m 3051 ls [])) (h : lw_3013 E a1 a2 a3 v4 xs L kc d) (hw : Wd D cs (fun q => s.heap.size ≤ q) s.heap s E d H locs) (hl : lv_has ls 7 [(0, .ref b), (1, .ref a1), (2, .ref a2), (3, .ref a3), (4, .int v4)]) : W p l e room_1 s m #[Value.ref b] below meth c H locs cl sl Q (F0 m 3013 ls []) := by
  have hbA : ¬ (fun q : Nat => s.heap.size ≤ q) b := Nat.not_le.mpr hbl
  unfold lw_3013 at h
  obtain ⟨ha1, ha2, ha3, h⟩ := h
  refine lv_aload_n S.1 S.2.1 (dd_at ddL_law_x24 8 rfl) rfl (lv_at hl 1 rfl) ?_
  refine r_callI hw (r_runV (As := []) (rest := []) S hw (m_X10_back l D cs E d H.size a1 _) (cwV 0 S.2.2.2.2 (gV wg1509 wg1510 wg1511 wg2 wg1512) rfl rfl rfl (by decide +kernel) ⟨Nat.le_of_ble_eq_true rfl, Nat.le_of_ble_eq_true rfl⟩) (ci := 10) rfl ha1 h rfl hl.1 rfl (Nat.le_of_ble_eq_true rfl) (dd_at ddL_law_x24 9 rfl) ⟨Nat.le_trans (Nat.le_add_right cl 60) hcl, Nat.le_trans (Nat.le_add_right sl 1400) hsl⟩) (fun r_2 d_1 H locs h hw => ?_)
  refine lv_aload_n S.1 S.2.1 (dd_at ddL_law_x24 10 rfl) rfl (lv_at hl 2 rfl) ?_
  refine r_callI hw (r_runV (As := []) (rest := [.int r_2]) S hw (m_X11_back l D cs E d_1 H.size a2 _) (cwV 0 S.2.2.2.2 (gV wg1513 wg1514 wg1515 wg5 wg1516) rfl rfl rfl (by decide +kernel) ⟨Nat.le_of_ble_eq_true rfl, Nat.le_of_ble_eq_true rfl⟩) (ci := 11) rfl ha2 h rfl hl.1 rfl (Nat.le_of_ble_eq_true rfl) (dd_at ddL_law_x24 11 rfl) ⟨Nat.le_trans (Nat.le_add_right cl 60) hcl, Nat.le_trans (Nat.le_add_right sl 1400) hsl⟩) (fun r_4 d_3 H locs h hw => ?_)
  refine lv_icmp_eq (tgt := 3051) S.1 S.2.1 (dd_at ddL_law_x24 12 rfl) (by decide) (fun hc_5 => ?_) (fun hc_5 => ?_)
  · have h := h.1 hc_5
    refine W.widen (k := cl + 60) (n := sl + 1400) (Nat.le_add_right _ _) (Nat.le_add_right _ _) ?_
    exact hk _ _ _ _ _ h hw (lv_sub hl [0, 1, 2, 3, 4] rfl)
  · have h := h.2 hc_5
    refine lv_iconst (v := 0) S.1 S.2.1 (dd_at ddL_law_x24 13 rfl) (by decide) ?_
    exact absurd h id

def lw_3026 (E : En) (a1 a2 a3 : Nat) (v4 : Int32) (xs : Nat → Int32) (L : Nat) (kc : En → Dy → Prop) (d : Dy) : Prop := okO E a1 10 ∧ okO E a2 11 ∧ okA E a3 14 ∧ vp_in (v4 + 1) L ∧ w_X10_count E a1 (xs (v4 + 1).toNatClampNeg) d (fun r_3 d_2 => vp_in (v4 + 1) L ∧ w_X11_count E a2 (xs (v4 + 1).toNatClampNeg) d_2 (fun r_6 d_5 => ((r_3 = r_6 → kc E d_5) ∧ (¬ r_3 = r_6 → False))))
set_option maxRecDepth 100000 in
set_option maxHeartbeats 4000000 in
theorem lc_3026 {p : Program} {l : Launch} {e : Env} {s : State} {m : MethodId} {below : List Frame} {meth : Method} {c : Code} {Q : State → Prop} {D : va_G} {cs : Nat → ClassId} {b L : Nat} {xs : Nat → Int32} {T0 : Cond} (hst : l.stackTraces = false) (S : CallFix p m c cL_law 7 s #[Value.ref b] (T0 :: wsL_law) RL) (hX : va_X b L xs s s.heap) (hbl : b < s.heap.size) {E : En} {a1 a2 a3 : Nat} {v4 : Int32} {d : Dy} {H : Heap} {locs : List Loc} {ls : Array Slot} {cl sl : Nat} {kc : En → Dy → Prop} (hcl : cl + 60 ≤ 634061) (hsl : sl + 1400 ≤ 7193921)
    (hk : ∀ (E9 : En) (d9 : Dy) (H : Heap) (locs : List Loc) (ls : Array Slot), kc E9 d9 → Wd D cs (fun q => s.heap.size ≤ q) s.heap s E9 d9 H locs → lv_has ls 7 [(0, .ref b), (1, .ref a1), (2, .ref a2), (3, .ref a3), (4, .int v4)] → W p l e room_1 s m #[Value.ref b] below meth c H locs (cl + 60) (sl + 1400) Q (F0 m 3051 ls [])) (h : lw_3026 E a1 a2 a3 v4 xs L kc d) (hw : Wd D cs (fun q => s.heap.size ≤ q) s.heap s E d H locs) (hl : lv_has ls 7 [(0, .ref b), (1, .ref a1), (2, .ref a2), (3, .ref a3), (4, .int v4)]) : W p l e room_1 s m #[Value.ref b] below meth c H locs cl sl Q (F0 m 3026 ls []) := by
  have hbA : ¬ (fun q : Nat => s.heap.size ≤ q) b := Nat.not_le.mpr hbl
  unfold lw_3026 at h
  obtain ⟨ha1, ha2, ha3, h⟩ := h
  refine lv_aload_n S.1 S.2.1 (dd_at ddL_law_x24 15 rfl) rfl (lv_at hl 1 rfl) ?_
  refine lv_aload_n S.1 S.2.1 (dd_at ddL_law_x24 16 rfl) rfl (lv_at hl 0 rfl) ?_
  refine lv_iload S.1 S.2.1 (dd_at ddL_law_x24 17 rfl) (lv_at hl 4 rfl) ?_
  refine lv_iconst (v := 1) S.1 S.2.1 (dd_at ddL_law_x24 18 rfl) (by decide) ?_
  refine lv_iadd S.1 S.2.1 (dd_at ddL_law_x24 19 rfl) ?_
  obtain ⟨hx_1, h⟩ := h
  refine va_sld S.1 S.2.1 hX hbl hbA hw.2.2.2.1 hx_1 (dd_at ddL_law_x25 0 rfl) ?_
  refine r_callI hw (r_runV (As := [.int (xs (v4 + 1).toNatClampNeg)]) (rest := []) S hw (m_X10_count l D cs E d H.size a1 (xs (v4 + 1).toNatClampNeg) _) (cwV 1 S.2.2.2.2 (gV wg1517 wg1518 wg1519 wg2 wg1520) rfl rfl rfl (by decide +kernel) ⟨Nat.le_of_ble_eq_true rfl, Nat.le_of_ble_eq_true rfl⟩) (ci := 10) rfl ha1 h rfl hl.1 rfl (Nat.le_of_ble_eq_true rfl) (dd_at ddL_law_x25 1 rfl) ⟨Nat.le_trans (Nat.le_add_right cl 60) hcl, Nat.le_trans (Nat.le_add_right sl 1400) hsl⟩) (fun r_3 d_2 H locs h hw => ?_)
  refine lv_aload_n S.1 S.2.1 (dd_at ddL_law_x25 2 rfl) rfl (lv_at hl 2 rfl) ?_
  refine lv_aload_n S.1 S.2.1 (dd_at ddL_law_x25 3 rfl) rfl (lv_at hl 0 rfl) ?_
  refine lv_iload S.1 S.2.1 (dd_at ddL_law_x25 4 rfl) (lv_at hl 4 rfl) ?_
  refine lv_iconst (v := 1) S.1 S.2.1 (dd_at ddL_law_x25 5 rfl) (by decide) ?_
  refine lv_iadd S.1 S.2.1 (dd_at ddL_law_x25 6 rfl) ?_
  obtain ⟨hx_4, h⟩ := h
  refine va_sld S.1 S.2.1 hX hbl hbA hw.2.2.2.1 hx_4 (dd_at ddL_law_x25 7 rfl) ?_
  refine r_callI hw (r_runV (As := [.int (xs (v4 + 1).toNatClampNeg)]) (rest := [.int r_3]) S hw (m_X11_count l D cs E d_2 H.size a2 (xs (v4 + 1).toNatClampNeg) _) (cwV 1 S.2.2.2.2 (gV wg1529 wg1530 wg1531 wg5 wg1532) rfl rfl rfl (by decide +kernel) ⟨Nat.le_of_ble_eq_true rfl, Nat.le_of_ble_eq_true rfl⟩) (ci := 11) rfl ha2 h rfl hl.1 rfl (Nat.le_of_ble_eq_true rfl) (dd_at ddL_law_x25 8 rfl) ⟨Nat.le_trans (Nat.le_add_right cl 60) hcl, Nat.le_trans (Nat.le_add_right sl 1400) hsl⟩) (fun r_6 d_5 H locs h hw => ?_)
  refine lv_icmp_eq (tgt := 3051) S.1 S.2.1 (dd_at ddL_law_x25 9 rfl) (by decide) (fun hc_7 => ?_) (fun hc_7 => ?_)
  · have h := h.1 hc_7
    refine W.widen (k := cl + 60) (n := sl + 1400) (Nat.le_add_right _ _) (Nat.le_add_right _ _) ?_
    exact hk _ _ _ _ _ h hw (lv_sub hl [0, 1, 2, 3, 4] rfl)
  · have h := h.2 hc_7
    refine lv_iconst (v := 0) S.1 S.2.1 (dd_at ddL_law_x25 10 rfl) (by decide) ?_
    exact absurd h id
