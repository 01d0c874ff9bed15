def lw_1359 (E : En) (a1 a2 a3 : Nat) (v4 : Int32) (xs : Nat → Int32) (L : Nat) (kc : En → Dy → Prop) (d : Dy) : Prop := okO E a1 10 ∧ okO E a2 11 ∧ okA E a3 14 ∧ vp_in (v4 + 1) L ∧ vp_in (v4 + 2) L ∧ w_L_waits E a1 (xs (v4 + 1).toNatClampNeg) (xs (v4 + 2).toNatClampNeg) a3 d (fun r_4 d_3 => vp_in (v4 + 1) L ∧ vp_in (v4 + 2) L ∧ w_X11_waits E a2 (xs (v4 + 1).toNatClampNeg) (xs (v4 + 2).toNatClampNeg) d_3 (fun r_8 d_7 => w_X11_thrown E a2 d_7 (fun r_10 d_9 => ((r_10 = r_4 → ((¬ r_4 = 0 → kc E d_9) ∧ (r_4 = 0 → vp_in 0 (eN E a3) ∧ (((lg_cmp (gJ d_9 a3 ((0 : Int32)).toNatClampNeg) r_8.toInt64) = 0 → kc E d_9) ∧ (¬ (lg_cmp (gJ d_9 a3 ((0 : Int32)).toNatClampNeg) r_8.toInt64) = 0 → False))))) ∧ (¬ r_10 = r_4 → False)))))
set_option maxRecDepth 100000 in
set_option maxHeartbeats 4000000 in
theorem lc_1359 {p : Program} {l : Launch} {e : Env} {s : State} {m : MethodId} {below : List Frame} {meth : Method} {c : Code} {Q : State → Prop} {D : va_G} {cs : Nat → ClassId} {b L : Nat} {xs : Nat → Int32} {T0 : Cond} (hst : l.stackTraces = false) (S : CallFix p m c cL_law 7 s #[Value.ref b] (T0 :: wsL_law) RL) (hX : va_X b L xs s s.heap) (hbl : b < s.heap.size) {E : En} {a1 a2 a3 : Nat} {v4 : Int32} {d : Dy} {H : Heap} {locs : List Loc} {ls : Array Slot} {cl sl : Nat} {kc : En → Dy → Prop} (hcl : cl + 60 ≤ 634061) (hsl : sl + 1400 ≤ 7193921)
    (hk : ∀ (E9 : En) (d9 : Dy) (H : Heap) (locs : List Loc) (ls : Array Slot), kc E9 d9 → Wd D cs (fun q => s.heap.size ≤ q) s.heap s E9 d9 H locs → lv_has ls 7 [(0, .ref b), (1, .ref a1), (2, .ref a2), (3, .ref a3), (4, .int v4)] → W p l e room_1 s m #[Value.ref b] below meth c H locs (cl + 60) (sl + 1400) Q (F0 m 3051 ls [])) (h : lw_1359 E a1 a2 a3 v4 xs L kc d) (hw : Wd D cs (fun q => s.heap.size ≤ q) s.heap s E d H locs) (hl : lv_has ls 7 [(0, .ref b), (1, .ref a1), (2, .ref a2), (3, .ref a3), (4, .int v4)]) : W p l e room_1 s m #[Value.ref b] below meth c H locs cl sl Q (F0 m 1359 ls []) := by
  have hbA : ¬ (fun q : Nat => s.heap.size ≤ q) b := Nat.not_le.mpr hbl
  unfold lw_1359 at h
  obtain ⟨ha1, ha2, ha3, h⟩ := h
  refine lv_aload_n S.1 S.2.1 (dd_at ddL_law_7 99 rfl) rfl (lv_at hl 1 rfl) ?_
  refine lv_aload_n S.1 S.2.1 (dd_at ddL_law_8 0 rfl) rfl (lv_at hl 0 rfl) ?_
  refine lv_iload S.1 S.2.1 (dd_at ddL_law_8 1 rfl) (lv_at hl 4 rfl) ?_
  refine lv_iconst (v := 1) S.1 S.2.1 (dd_at ddL_law_8 2 rfl) (by decide) ?_
  refine lv_iadd S.1 S.2.1 (dd_at ddL_law_8 3 rfl) ?_
  obtain ⟨hx_1, h⟩ := h
  refine va_sld S.1 S.2.1 hX hbl hbA hw.2.2.2.1 hx_1 (dd_at ddL_law_8 4 rfl) ?_
  refine lv_aload_n S.1 S.2.1 (dd_at ddL_law_8 5 rfl) rfl (lv_at hl 0 rfl) ?_
  refine lv_iload S.1 S.2.1 (dd_at ddL_law_8 6 rfl) (lv_at hl 4 rfl) ?_
  refine lv_iconst (v := 2) S.1 S.2.1 (dd_at ddL_law_8 7 rfl) (by decide) ?_
  refine lv_iadd S.1 S.2.1 (dd_at ddL_law_8 8 rfl) ?_
  obtain ⟨hx_2, h⟩ := h
  refine va_sld S.1 S.2.1 hX hbl hbA hw.2.2.2.1 hx_2 (dd_at ddL_law_8 9 rfl) ?_
  refine lv_aload_n S.1 S.2.1 (dd_at ddL_law_8 10 rfl) rfl (lv_at hl 3 rfl) ?_
  refine r_callI hw (r_runSW (As := [.ref a1, .int (xs (v4 + 1).toNatClampNeg), .int (xs (v4 + 2).toNatClampNeg), .ref a3]) (rest := []) S hw (m_L_waits l hst D cs E d H.size a1 (xs (v4 + 1).toNatClampNeg) (xs (v4 + 2).toNatClampNeg) a3 _) (vx_cwSW 4 S.2.2.2.2 (gSW wg1055 wg1056 wg221 wg1057) rfl rfl rfl (by decide +kernel) ⟨Nat.le_of_ble_eq_true rfl, Nat.le_of_ble_eq_true rfl⟩) h rfl hl.1 rfl (Nat.le_of_ble_eq_true rfl) (dd_at ddL_law_8 11 rfl) ⟨Nat.le_trans (Nat.add_le_add_left (Nat.le_of_ble_eq_true rfl) cl) hcl, Nat.le_trans (Nat.add_le_add_left (Nat.le_of_ble_eq_true rfl) sl) hsl⟩) (fun r_4 d_3 H locs h hw => ?_)
  refine W.widen (k := cl + 60) (n := sl + 1400) (Nat.add_le_add_left (Nat.le_of_ble_eq_true rfl) cl) (Nat.add_le_add_left (Nat.le_of_ble_eq_true rfl) sl) ?_
  refine lv_istore (lv' := [(5, .int r_4), (0, .ref b), (1, .ref a1), (2, .ref a2), (3, .ref a3), (4, .int v4)]) S.1 S.2.1 (dd_at ddL_law_8 12 rfl) hl (by decide) rfl (fun ls hl => ?_)
  refine lv_aload_n S.1 S.2.1 (dd_at ddL_law_8 13 rfl) rfl (lv_at hl 3 rfl) ?_
  refine lv_aload_n S.1 S.2.1 (dd_at ddL_law_8 14 rfl) rfl (lv_at hl 1 rfl) ?_
  refine lv_iload S.1 S.2.1 (dd_at ddL_law_8 15 rfl) (lv_at hl 5 rfl) ?_
  refine lv_iconst (v := 1) S.1 S.2.1 (dd_at ddL_law_8 16 rfl) (by decide) ?_
  refine lv_iadd S.1 S.2.1 (dd_at ddL_law_8 17 rfl) ?_
  obtain ⟨hx_5, h⟩ := h
  refine va_sld S.1 S.2.1 hX hbl hbA hw.2.2.2.1 hx_5 (dd_at ddL_law_8 18 rfl) ?_
  refine lv_aload_n S.1 S.2.1 (dd_at ddL_law_8 19 rfl) rfl (lv_at hl 1 rfl) ?_
  refine lv_iload S.1 S.2.1 (dd_at ddL_law_8 20 rfl) (lv_at hl 5 rfl) ?_
  refine lv_iconst (v := 2) S.1 S.2.1 (dd_at ddL_law_8 21 rfl) (by decide) ?_
  refine lv_iadd S.1 S.2.1 (dd_at ddL_law_8 22 rfl) ?_
  obtain ⟨hx_6, h⟩ := h
  refine va_sld S.1 S.2.1 hX hbl hbA hw.2.2.2.1 hx_6 (dd_at ddL_law_8 23 rfl) ?_
  refine r_callI hw (r_runV (As := [.int (xs (v4 + 1).toNatClampNeg), .int (xs (v4 + 2).toNatClampNeg)]) (rest := []) S hw (m_X11_waits l D cs E d_3 H.size a2 (xs (v4 + 1).toNatClampNeg) (xs (v4 + 2).toNatClampNeg) _) (cwV 2 S.2.2.2.2 (gV wg1062 wg1063 wg1064 wg5 wg1065) rfl rfl rfl (by decide +kernel) ⟨Nat.le_of_ble_eq_true rfl, Nat.le_of_ble_eq_true rfl⟩) (ci := 11) rfl ha2 h rfl hl.1 rfl (Nat.le_of_ble_eq_true rfl) (dd_at ddL_law_8 24 rfl) ⟨hcl, hsl⟩) (fun r_8 d_7 H locs h hw => ?_)
  refine lv_istore (lv' := [(6, .int r_8), (5, .int r_4), (0, .ref b), (1, .ref a1), (2, .ref a2), (3, .ref a3), (4, .int v4)]) S.1 S.2.1 (dd_at ddL_law_8 25 rfl) hl (by decide) rfl (fun ls hl => ?_)
  refine lv_aload_n S.1 S.2.1 (dd_at ddL_law_8 26 rfl) rfl (lv_at hl 4 rfl) ?_
  refine r_callI hw (r_runV (As := []) (rest := []) S hw (m_X11_thrown l D cs E d_7 H.size a2 _) (cwV 0 S.2.2.2.2 (gV wg506 wg507 wg508 wg5 wg509) rfl rfl rfl (by decide +kernel) ⟨Nat.le_of_ble_eq_true rfl, Nat.le_of_ble_eq_true rfl⟩) (ci := 11) rfl ha2 h rfl hl.1 rfl (Nat.le_of_ble_eq_true rfl) (dd_at ddL_law_8 27 rfl) ⟨hcl, hsl⟩) (fun r_10 d_9 H locs h hw => ?_)
  refine lv_iload S.1 S.2.1 (dd_at ddL_law_8 28 rfl) (lv_at hl 1 rfl) ?_
  refine lv_icmp_eq (tgt := 1407) S.1 S.2.1 (dd_at ddL_law_8 29 rfl) (by decide) (fun hc_11 => ?_) (fun hc_11 => ?_)
  · have h := h.1 hc_11
    refine lv_iload S.1 S.2.1 (dd_at ddL_law_8 32 rfl) (lv_at hl 1 rfl) ?_
    refine lv_if_ne (tgt := 1424) S.1 S.2.1 (dd_at ddL_law_8 33 rfl) (by decide) (fun hc_12 => ?_) (fun hc_12 => ?_)
    · have h := h.1 hc_12
      refine lv_goto (tgt := 3051) S.1 S.2.1 (dd_at ddL_law_8 43 rfl) (by decide) ?_
      exact hk _ _ _ _ _ h hw (lv_sub hl [2, 3, 4, 5, 6] rfl)
    · have h := h.2 hc_12
      refine lv_aload_n S.1 S.2.1 (dd_at ddL_law_8 34 rfl) rfl (lv_at hl 5 rfl) ?_
      refine lv_iconst (v := 0) S.1 S.2.1 (dd_at ddL_law_8 35 rfl) (by decide) ?_
      obtain ⟨hx_13, h⟩ := h
      refine r_lald S hw ha3 hx_13 (dd_at ddL_law_8 36 rfl) ?_
      refine lv_iload S.1 S.2.1 (dd_at ddL_law_8 37 rfl) (lv_at hl 0 rfl) ?_
      refine lv_i2l S.1 S.2.1 (dd_at ddL_law_8 38 rfl) rfl ?_
      refine W.lcmp S.1 S.2.1 (dd_at ddL_law_8 39 rfl) ?_
      refine lv_if_eq (tgt := 1424) S.1 S.2.1 (dd_at ddL_law_8 40 rfl) (by decide) (fun hc_14 => ?_) (fun hc_14 => ?_)
      · have h := h.1 hc_14
        refine lv_goto (tgt := 3051) S.1 S.2.1 (dd_at ddL_law_8 43 rfl) (by decide) ?_
        exact hk _ _ _ _ _ h hw (lv_sub hl [2, 3, 4, 5, 6] rfl)
      · have h := h.2 hc_14
        refine lv_iconst (v := 0) S.1 S.2.1 (dd_at ddL_law_8 41 rfl) (by decide) ?_
        exact absurd h id
  · have h := h.2 hc_11
    refine lv_iconst (v := 0) S.1 S.2.1 (dd_at ddL_law_8 30 rfl) (by decide) ?_
    exact absurd h id

def lw_1427 (E : En) (a1 a2 a3 : Nat) (v4 : Int32) (xs : Nat → Int32) (L : Nat) (kc : En → Dy → Prop) (d : Dy) : Prop := okO E a1 10 ∧ okO E a2 11 ∧ okA E a3 14 ∧ vp_in (v4 + 1) L ∧ vp_in (v4 + 2) L ∧ vp_in (v4 + 3) L ∧ w_L_order E a1 (xs (v4 + 1).toNatClampNeg) (xs (v4 + 2).toNatClampNeg) (xs (v4 + 3).toNatClampNeg) a3 d (fun r_5 d_4 => vp_in (v4 + 1) L ∧ vp_in (v4 + 2) L ∧ vp_in (v4 + 3) L ∧ w_X11_order E a2 (xs (v4 + 1).toNatClampNeg) (xs (v4 + 2).toNatClampNeg) (xs (v4 + 3).toNatClampNeg) d_4 (fun r_10 d_9 => w_X11_thrown E a2 d_9 (fun r_12 d_11 => ((r_12 = r_5 → ((¬ r_5 = 0 → kc E d_11) ∧ (r_5 = 0 → vp_in 0 (eN E a3) ∧ (((lg_cmp (gJ d_11 a3 ((0 : Int32)).toNatClampNeg) r_10.toInt64) = 0 → kc E d_11) ∧ (¬ (lg_cmp (gJ d_11 a3 ((0 : Int32)).toNatClampNeg) r_10.toInt64) = 0 → False))))) ∧ (¬ r_12 = r_5 → False)))))
set_option maxRecDepth 100000 in
set_option maxHeartbeats 4000000 in
theorem lc_1427 {p : Program} {l : Launch} {e : Env} {s : State} {m : MethodId} {below : List Frame} {meth : Method} {c : Code} {Q : State → Prop} {D : va_G} {cs : Nat → ClassId} {b L : Nat} {xs : Nat → Int32} {T0 : Cond} (hst : l.stackTraces = false) (S : CallFix p m c cL_law 7 s #[Value.ref b] (T0 :: wsL_law) RL) (hX : va_X b L xs s s.heap) (hbl : b < s.heap.size) {E : En} {a1 a2 a3 : Nat} {v4 : Int32} {d : Dy} {H : Heap} {locs : List Loc} {ls : Array Slot} {cl sl : Nat} {kc : En → Dy → Prop} (hcl : cl + 60 ≤ 634061) (hsl : sl + 1400 ≤ 7193921)
    (hk : ∀ (E9 : En) (d9 : Dy) (H : Heap) (locs : List Loc) (ls : Array Slot), kc E9 d9 → Wd D cs (fun q => s.heap.size ≤ q) s.heap s E9 d9 H locs → lv_has ls 7 [(0, .ref b), (1, .ref a1), (2, .ref a2), (3, .ref a3), (4, .int v4)] → W p l e room_1 s m #[Value.ref b] below meth c H locs (cl + 60) (sl + 1400) Q (F0 m 3051 ls [])) (h : lw_1427 E a1 a2 a3 v4 xs L kc d) (hw : Wd D cs (fun q => s.heap.size ≤ q) s.heap s E d H locs) (hl : lv_has ls 7 [(0, .ref b), (1, .ref a1), (2, .ref a2), (3, .ref a3), (4, .int v4)]) : W p l e room_1 s m #[Value.ref b] below meth c H locs cl sl Q (F0 m 1427 ls []) := by
  have hbA : ¬ (fun q : Nat => s.heap.size ≤ q) b := Nat.not_le.mpr hbl
  unfold lw_1427 at h
  obtain ⟨ha1, ha2, ha3, h⟩ := h
  refine lv_aload_n S.1 S.2.1 (dd_at ddL_law_8 44 rfl) rfl (lv_at hl 1 rfl) ?_
  refine lv_aload_n S.1 S.2.1 (dd_at ddL_law_8 45 rfl) rfl (lv_at hl 0 rfl) ?_
  refine lv_iload S.1 S.2.1 (dd_at ddL_law_8 46 rfl) (lv_at hl 4 rfl) ?_
  refine lv_iconst (v := 1) S.1 S.2.1 (dd_at ddL_law_8 47 rfl) (by decide) ?_
  refine lv_iadd S.1 S.2.1 (dd_at ddL_law_8 48 rfl) ?_
  obtain ⟨hx_1, h⟩ := h
  refine va_sld S.1 S.2.1 hX hbl hbA hw.2.2.2.1 hx_1 (dd_at ddL_law_8 49 rfl) ?_
  refine lv_aload_n S.1 S.2.1 (dd_at ddL_law_8 50 rfl) rfl (lv_at hl 0 rfl) ?_
  refine lv_iload S.1 S.2.1 (dd_at ddL_law_8 51 rfl) (lv_at hl 4 rfl) ?_
  refine lv_iconst (v := 2) S.1 S.2.1 (dd_at ddL_law_8 52 rfl) (by decide) ?_
  refine lv_iadd S.1 S.2.1 (dd_at ddL_law_8 53 rfl) ?_
  obtain ⟨hx_2, h⟩ := h
  refine va_sld S.1 S.2.1 hX hbl hbA hw.2.2.2.1 hx_2 (dd_at ddL_law_8 54 rfl) ?_
  refine lv_aload_n S.1 S.2.1 (dd_at ddL_law_8 55 rfl) rfl (lv_at hl 0 rfl) ?_
  refine lv_iload S.1 S.2.1 (dd_at ddL_law_8 56 rfl) (lv_at hl 4 rfl) ?_
  refine lv_iconst (v := 3) S.1 S.2.1 (dd_at ddL_law_8 57 rfl) (by decide) ?_
  refine lv_iadd S.1 S.2.1 (dd_at ddL_law_8 58 rfl) ?_
  obtain ⟨hx_3, h⟩ := h
  refine va_sld S.1 S.2.1 hX hbl hbA hw.2.2.2.1 hx_3 (dd_at ddL_law_8 59 rfl) ?_
  refine lv_aload_n S.1 S.2.1 (dd_at ddL_law_8 60 rfl) rfl (lv_at hl 3 rfl) ?_
  refine r_callI hw (r_runSW (As := [.ref a1, .int (xs (v4 + 1).toNatClampNeg), .int (xs (v4 + 2).toNatClampNeg), .int (xs (v4 + 3).toNatClampNeg), .ref a3]) (rest := []) S hw (m_L_order l hst D cs E d H.size a1 (xs (v4 + 1).toNatClampNeg) (xs (v4 + 2).toNatClampNeg) (xs (v4 + 3).toNatClampNeg) a3 _) (vx_cwSW 5 S.2.2.2.2 (gSW wg1066 wg1067 wg221 wg1068) rfl rfl rfl (by decide +kernel) ⟨Nat.le_of_ble_eq_true rfl, Nat.le_of_ble_eq_true rfl⟩) h rfl hl.1 rfl (Nat.le_of_ble_eq_true rfl) (dd_at ddL_law_8 61 rfl) ⟨Nat.le_trans (Nat.add_le_add_left (Nat.le_of_ble_eq_true rfl) cl) hcl, Nat.le_trans (Nat.add_le_add_left (Nat.le_of_ble_eq_true rfl) sl) hsl⟩) (fun r_5 d_4 H locs h hw => ?_)
  refine W.widen (k := cl + 60) (n := sl + 1400) (Nat.add_le_add_left (Nat.le_of_ble_eq_true rfl) cl) (Nat.add_le_add_left (Nat.le_of_ble_eq_true rfl) sl) ?_
  refine lv_istore (lv' := [(5, .int r_5), (0, .ref b), (1, .ref a1), (2, .ref a2), (3, .ref a3), (4, .int v4)]) S.1 S.2.1 (dd_at ddL_law_8 62 rfl) hl (by decide) rfl (fun ls hl => ?_)
  refine lv_aload_n S.1 S.2.1 (dd_at ddL_law_8 63 rfl) rfl (lv_at hl 3 rfl) ?_
  refine lv_aload_n S.1 S.2.1 (dd_at ddL_law_8 64 rfl) rfl (lv_at hl 1 rfl) ?_
  refine lv_iload S.1 S.2.1 (dd_at ddL_law_8 65 rfl) (lv_at hl 5 rfl) ?_
  refine lv_iconst (v := 1) S.1 S.2.1 (dd_at ddL_law_8 66 rfl) (by decide) ?_
  refine lv_iadd S.1 S.2.1 (dd_at ddL_law_8 67 rfl) ?_
  obtain ⟨hx_6, h⟩ := h
  refine va_sld S.1 S.2.1 hX hbl hbA hw.2.2.2.1 hx_6 (dd_at ddL_law_8 68 rfl) ?_
  refine lv_aload_n S.1 S.2.1 (dd_at ddL_law_8 69 rfl) rfl (lv_at hl 1 rfl) ?_
  refine lv_iload S.1 S.2.1 (dd_at ddL_law_8 70 rfl) (lv_at hl 5 rfl) ?_
  refine lv_iconst (v := 2) S.1 S.2.1 (dd_at ddL_law_8 71 rfl) (by decide) ?_
  refine lv_iadd S.1 S.2.1 (dd_at ddL_law_8 72 rfl) ?_
  obtain ⟨hx_7, h⟩ := h
  refine va_sld S.1 S.2.1 hX hbl hbA hw.2.2.2.1 hx_7 (dd_at ddL_law_8 73 rfl) ?_
  refine lv_aload_n S.1 S.2.1 (dd_at ddL_law_8 74 rfl) rfl (lv_at hl 1 rfl) ?_
  refine lv_iload S.1 S.2.1 (dd_at ddL_law_8 75 rfl) (lv_at hl 5 rfl) ?_
  refine lv_iconst (v := 3) S.1 S.2.1 (dd_at ddL_law_8 76 rfl) (by decide) ?_
  refine lv_iadd S.1 S.2.1 (dd_at ddL_law_8 77 rfl) ?_
  obtain ⟨hx_8, h⟩ := h
  refine va_sld S.1 S.2.1 hX hbl hbA hw.2.2.2.1 hx_8 (dd_at ddL_law_8 78 rfl) ?_
  refine r_callI hw (r_runV (As := [.int (xs (v4 + 1).toNatClampNeg), .int (xs (v4 + 2).toNatClampNeg), .int (xs (v4 + 3).toNatClampNeg)]) (rest := []) S hw (m_X11_order l D cs E d_4 H.size a2 (xs (v4 + 1).toNatClampNeg) (xs (v4 + 2).toNatClampNeg) (xs (v4 + 3).toNatClampNeg) _) (cwV 3 S.2.2.2.2 (gV wg1077 wg1078 wg1079 wg5 wg1080) rfl rfl rfl (by decide +kernel) ⟨Nat.le_of_ble_eq_true rfl, Nat.le_of_ble_eq_true rfl⟩) (ci := 11) rfl ha2 h rfl hl.1 rfl (Nat.le_of_ble_eq_true rfl) (dd_at ddL_law_8 79 rfl) ⟨hcl, hsl⟩) (fun r_10 d_9 H locs h hw => ?_)
  refine lv_istore (lv' := [(6, .int r_10), (5, .int r_5), (0, .ref b), (1, .ref a1), (2, .ref a2), (3, .ref a3), (4, .int v4)]) S.1 S.2.1 (dd_at ddL_law_8 80 rfl) hl (by decide) rfl (fun ls hl => ?_)
  refine lv_aload_n S.1 S.2.1 (dd_at ddL_law_8 81 rfl) rfl (lv_at hl 4 rfl) ?_
  refine r_callI hw (r_runV (As := []) (rest := []) S hw (m_X11_thrown l D cs E d_9 H.size a2 _) (cwV 0 S.2.2.2.2 (gV wg506 wg507 wg508 wg5 wg509) rfl rfl rfl (by decide +kernel) ⟨Nat.le_of_ble_eq_true rfl, Nat.le_of_ble_eq_true rfl⟩) (ci := 11) rfl ha2 h rfl hl.1 rfl (Nat.le_of_ble_eq_true rfl) (dd_at ddL_law_8 82 rfl) ⟨hcl, hsl⟩) (fun r_12 d_11 H locs h hw => ?_)
  refine lv_iload S.1 S.2.1 (dd_at ddL_law_8 83 rfl) (lv_at hl 1 rfl) ?_
  refine lv_icmp_eq (tgt := 1487) S.1 S.2.1 (dd_at ddL_law_8 84 rfl) (by decide) (fun hc_13 => ?_) (fun hc_13 => ?_)
  · have h := h.1 hc_13
    refine lv_iload S.1 S.2.1 (dd_at ddL_law_8 87 rfl) (lv_at hl 1 rfl) ?_
    refine lv_if_ne (tgt := 1504) S.1 S.2.1 (dd_at ddL_law_8 88 rfl) (by decide) (fun hc_14 => ?_) (fun hc_14 => ?_)
    · have h := h.1 hc_14
      refine lv_goto (tgt := 3051) S.1 S.2.1 (dd_at ddL_law_8 98 rfl) (by decide) ?_
      exact hk _ _ _ _ _ h hw (lv_sub hl [2, 3, 4, 5, 6] rfl)
    · have h := h.2 hc_14
      refine lv_aload_n S.1 S.2.1 (dd_at ddL_law_8 89 rfl) rfl (lv_at hl 5 rfl) ?_
      refine lv_iconst (v := 0) S.1 S.2.1 (dd_at ddL_law_8 90 rfl) (by decide) ?_
      obtain ⟨hx_15, h⟩ := h
      refine r_lald S hw ha3 hx_15 (dd_at ddL_law_8 91 rfl) ?_
      refine lv_iload S.1 S.2.1 (dd_at ddL_law_8 92 rfl) (lv_at hl 0 rfl) ?_
      refine lv_i2l S.1 S.2.1 (dd_at ddL_law_8 93 rfl) rfl ?_
      refine W.lcmp S.1 S.2.1 (dd_at ddL_law_8 94 rfl) ?_
      refine lv_if_eq (tgt := 1504) S.1 S.2.1 (dd_at ddL_law_8 95 rfl) (by decide) (fun hc_16 => ?_) (fun hc_16 => ?_)
      · have h := h.1 hc_16
        refine lv_goto (tgt := 3051) S.1 S.2.1 (dd_at ddL_law_8 98 rfl) (by decide) ?_
        exact hk _ _ _ _ _ h hw (lv_sub hl [2, 3, 4, 5, 6] rfl)
      · have h := h.2 hc_16
        refine lv_iconst (v := 0) S.1 S.2.1 (dd_at ddL_law_8 96 rfl) (by decide) ?_
        exact absurd h id
  · have h := h.2 hc_13
    refine lv_iconst (v := 0) S.1 S.2.1 (dd_at ddL_law_8 85 rfl) (by decide) ?_
    exact absurd h id

def lw_1507 (E : En) (a1 a2 a3 : Nat) (v4 : Int32) (xs : Nat → Int32) (L : Nat) (kc : En → Dy → Prop) (d : Dy) : Prop := okO E a1 10 ∧ okO E a2 11 ∧ okA E a3 14 ∧ vp_in (v4 + 1) L ∧ w_L_freed E a1 (xs (v4 + 1).toNatClampNeg) a3 d (fun r_3 d_2 => vp_in (v4 + 1) L ∧ w_X11_freed E a2 (xs (v4 + 1).toNatClampNeg) d_2 (fun r_6 d_5 => w_X11_thrown E a2 d_5 (fun r_8 d_7 => ((r_8 = r_3 → ((¬ r_3 = 0 → kc E d_7) ∧ (r_3 = 0 → vp_in 0 (eN E a3) ∧ (((lg_cmp (gJ d_7 a3 ((0 : Int32)).toNatClampNeg) r_6.toInt64) = 0 → kc E d_7) ∧ (¬ (lg_cmp (gJ d_7 a3 ((0 : Int32)).toNatClampNeg) r_6.toInt64) = 0 → False))))) ∧ (¬ r_8 = r_3 → False)))))
set_option maxRecDepth 100000 in
set_option maxHeartbeats 4000000 in
theorem lc_1507 {p : Program} {l : Launch} {e : Env} {s : State} {m : MethodId} {below : List Frame} {meth : Method} {c : Code} {Q : State → Prop} {D : va_G} {cs : Nat → ClassId} {b L : Nat} {xs : Nat → Int32} {T0 : Cond} (hst : l.stackTraces = false) (S : CallFix p m c cL_law 7 s #[Value.ref b] (T0 :: wsL_law) RL) (hX : va_X b L xs s s.heap) (hbl : b < s.heap.size) {E : En} {a1 a2 a3 : Nat} {v4 : Int32} {d : Dy} {H : Heap} {locs : List Loc} {ls : Array Slot} {cl sl : Nat} {kc : En → Dy → Prop} (hcl : cl + 60 ≤ 634061) (hsl : sl + 1400 ≤ 7193921)
    (hk : ∀ (E9 : En) (d9 : Dy) (H : Heap) (locs : List Loc) (ls : Array Slot), kc E9 d9 → Wd D cs (fun q => s.heap.size ≤ q) s.heap s E9 d9 H locs → lv_has ls 7 [(0, .ref b), (1, .ref a1), (2, .ref a2), (3, .ref a3), (4, .int v4)] → W p l e room_1 s m #[Value.ref b] below meth c H locs (cl + 60) (sl + 1400) Q (F0 m 3051 ls [])) (h : lw_1507 E a1 a2 a3 v4 xs L kc d) (hw : Wd D cs (fun q => s.heap.size ≤ q) s.heap s E d H locs) (hl : lv_has ls 7 [(0, .ref b), (1, .ref a1), (2, .ref a2), (3, .ref a3), (4, .int v4)]) : W p l e room_1 s m #[Value.ref b] below meth c H locs cl sl Q (F0 m 1507 ls []) := by
  have hbA : ¬ (fun q : Nat => s.heap.size ≤ q) b := Nat.not_le.mpr hbl
  unfold lw_1507 at h
  obtain ⟨ha1, ha2, ha3, h⟩ := h
  refine lv_aload_n S.1 S.2.1 (dd_at ddL_law_8 99 rfl) rfl (lv_at hl 1 rfl) ?_
  refine lv_aload_n S.1 S.2.1 (dd_at ddL_law_9 0 rfl) rfl (lv_at hl 0 rfl) ?_
  refine lv_iload S.1 S.2.1 (dd_at ddL_law_9 1 rfl) (lv_at hl 4 rfl) ?_
  refine lv_iconst (v := 1) S.1 S.2.1 (dd_at ddL_law_9 2 rfl) (by decide) ?_
  refine lv_iadd S.1 S.2.1 (dd_at ddL_law_9 3 rfl) ?_
  obtain ⟨hx_1, h⟩ := h
  refine va_sld S.1 S.2.1 hX hbl hbA hw.2.2.2.1 hx_1 (dd_at ddL_law_9 4 rfl) ?_
  refine lv_aload_n S.1 S.2.1 (dd_at ddL_law_9 5 rfl) rfl (lv_at hl 3 rfl) ?_
  refine r_callI hw (r_runSW (As := [.ref a1, .int (xs (v4 + 1).toNatClampNeg), .ref a3]) (rest := []) S hw (m_L_freed l hst D cs E d H.size a1 (xs (v4 + 1).toNatClampNeg) a3 _) (vx_cwSW 3 S.2.2.2.2 (gSW wg1081 wg1082 wg221 wg1083) rfl rfl rfl (by decide +kernel) ⟨Nat.le_of_ble_eq_true rfl, Nat.le_of_ble_eq_true rfl⟩) h rfl hl.1 rfl (Nat.le_of_ble_eq_true rfl) (dd_at ddL_law_9 6 rfl) ⟨Nat.le_trans (Nat.add_le_add_left (Nat.le_of_ble_eq_true rfl) cl) hcl, Nat.le_trans (Nat.add_le_add_left (Nat.le_of_ble_eq_true rfl) sl) hsl⟩) (fun r_3 d_2 H locs h hw => ?_)
  refine W.widen (k := cl + 60) (n := sl + 1400) (Nat.add_le_add_left (Nat.le_of_ble_eq_true rfl) cl) (Nat.add_le_add_left (Nat.le_of_ble_eq_true rfl) sl) ?_
  refine lv_istore (lv' := [(5, .int r_3), (0, .ref b), (1, .ref a1), (2, .ref a2), (3, .ref a3), (4, .int v4)]) S.1 S.2.1 (dd_at ddL_law_9 7 rfl) hl (by decide) rfl (fun ls hl => ?_)
  refine lv_aload_n S.1 S.2.1 (dd_at ddL_law_9 8 rfl) rfl (lv_at hl 3 rfl) ?_
  refine lv_aload_n S.1 S.2.1 (dd_at ddL_law_9 9 rfl) rfl (lv_at hl 1 rfl) ?_
  refine lv_iload S.1 S.2.1 (dd_at ddL_law_9 10 rfl) (lv_at hl 5 rfl) ?_
  refine lv_iconst (v := 1) S.1 S.2.1 (dd_at ddL_law_9 11 rfl) (by decide) ?_
  refine lv_iadd S.1 S.2.1 (dd_at ddL_law_9 12 rfl) ?_
  obtain ⟨hx_4, h⟩ := h
  refine va_sld S.1 S.2.1 hX hbl hbA hw.2.2.2.1 hx_4 (dd_at ddL_law_9 13 rfl) ?_
  refine r_callI hw (r_runV (As := [.int (xs (v4 + 1).toNatClampNeg)]) (rest := []) S hw (m_X11_freed l D cs E d_2 H.size a2 (xs (v4 + 1).toNatClampNeg) _) (cwV 1 S.2.2.2.2 (gV wg1088 wg1089 wg1090 wg5 wg1091) rfl rfl rfl (by decide +kernel) ⟨Nat.le_of_ble_eq_true rfl, Nat.le_of_ble_eq_true rfl⟩) (ci := 11) rfl ha2 h rfl hl.1 rfl (Nat.le_of_ble_eq_true rfl) (dd_at ddL_law_9 14 rfl) ⟨hcl, hsl⟩) (fun r_6 d_5 H locs h hw => ?_)
  refine lv_istore (lv' := [(6, .int r_6), (5, .int r_3), (0, .ref b), (1, .ref a1), (2, .ref a2), (3, .ref a3), (4, .int v4)]) S.1 S.2.1 (dd_at ddL_law_9 15 rfl) hl (by decide) rfl (fun ls hl => ?_)
  refine lv_aload_n S.1 S.2.1 (dd_at ddL_law_9 16 rfl) rfl (lv_at hl 4 rfl) ?_
  refine r_callI hw (r_runV (As := []) (rest := []) S hw (m_X11_thrown l D cs E d_5 H.size a2 _) (cwV 0 S.2.2.2.2 (gV wg506 wg507 wg508 wg5 wg509) rfl rfl rfl (by decide +kernel) ⟨Nat.le_of_ble_eq_true rfl, Nat.le_of_ble_eq_true rfl⟩) (ci := 11) rfl ha2 h rfl hl.1 rfl (Nat.le_of_ble_eq_true rfl) (dd_at ddL_law_9 17 rfl) ⟨hcl, hsl⟩) (fun r_8 d_7 H locs h hw => ?_)
  refine lv_iload S.1 S.2.1 (dd_at ddL_law_9 18 rfl) (lv_at hl 1 rfl) ?_
  refine lv_icmp_eq (tgt := 1543) S.1 S.2.1 (dd_at ddL_law_9 19 rfl) (by decide) (fun hc_9 => ?_) (fun hc_9 => ?_)
  · have h := h.1 hc_9
    refine lv_iload S.1 S.2.1 (dd_at ddL_law_9 22 rfl) (lv_at hl 1 rfl) ?_
    refine lv_if_ne (tgt := 1560) S.1 S.2.1 (dd_at ddL_law_9 23 rfl) (by decide) (fun hc_10 => ?_) (fun hc_10 => ?_)
    · have h := h.1 hc_10
      refine lv_goto (tgt := 3051) S.1 S.2.1 (dd_at ddL_law_9 33 rfl) (by decide) ?_
      exact hk _ _ _ _ _ h hw (lv_sub hl [2, 3, 4, 5, 6] rfl)
    · have h := h.2 hc_10
      refine lv_aload_n S.1 S.2.1 (dd_at ddL_law_9 24 rfl) rfl (lv_at hl 5 rfl) ?_
      refine lv_iconst (v := 0) S.1 S.2.1 (dd_at ddL_law_9 25 rfl) (by decide) ?_
      obtain ⟨hx_11, h⟩ := h
      refine r_lald S hw ha3 hx_11 (dd_at ddL_law_9 26 rfl) ?_
      refine lv_iload S.1 S.2.1 (dd_at ddL_law_9 27 rfl) (lv_at hl 0 rfl) ?_
      refine lv_i2l S.1 S.2.1 (dd_at ddL_law_9 28 rfl) rfl ?_
      refine W.lcmp S.1 S.2.1 (dd_at ddL_law_9 29 rfl) ?_
      refine lv_if_eq (tgt := 1560) S.1 S.2.1 (dd_at ddL_law_9 30 rfl) (by decide) (fun hc_12 => ?_) (fun hc_12 => ?_)
      · have h := h.1 hc_12
        refine lv_goto (tgt := 3051) S.1 S.2.1 (dd_at ddL_law_9 33 rfl) (by decide) ?_
        exact hk _ _ _ _ _ h hw (lv_sub hl [2, 3, 4, 5, 6] rfl)
      · have h := h.2 hc_12
        refine lv_iconst (v := 0) S.1 S.2.1 (dd_at ddL_law_9 31 rfl) (by decide) ?_
        exact absurd h id
  · have h := h.2 hc_9
    refine lv_iconst (v := 0) S.1 S.2.1 (dd_at ddL_law_9 20 rfl) (by decide) ?_
    exact absurd h id

def b_Lw_1611 (E : En) (a1 a2 a3 : Nat) (v4 : Int32) (xs : Nat → Int32) (L : Nat) (kc : En → Dy → Prop) (v5 : Int32) (s0 : Nat) (s1 : Int32) (s2 : Int32) (d : Dy) : Prop := okO E s0 11 ∧ w_X11_howLong E s0 s1 s2 d (fun r_2 d_1 => w_X11_thrown E a2 d_1 (fun r_4 d_3 => ((r_4 = v5 → ((¬ v5 = 0 → kc E d_3) ∧ (v5 = 0 → vp_in 0 (eN E a3) ∧ (((lg_cmp (gJ d_3 a3 ((0 : Int32)).toNatClampNeg) r_2.toInt64) = 0 → kc E d_3) ∧ (¬ (lg_cmp (gJ d_3 a3 ((0 : Int32)).toNatClampNeg) r_2.toInt64) = 0 → False))))) ∧ (¬ r_4 = v5 → False))))
def b_Lw_1584 (E : En) (a1 a2 a3 : Nat) (v4 : Int32) (xs : Nat → Int32) (L : Nat) (kc : En → Dy → Prop) (s0 : Nat) (s1 : Int32) (s2 : Int32) (d : Dy) : Prop := okO E s0 10 ∧ w_L_howLong E s0 s1 s2 a3 d (fun r_10 d_9 => vp_in (v4 + 1) L ∧ vp_in (v4 + 2) L ∧ (((xs (v4 + 2).toNatClampNeg) = 0 → b_Lw_1611 E a1 a2 a3 v4 xs L kc r_10 a2 (xs (v4 + 1).toNatClampNeg) 0 d_9) ∧ (¬ (xs (v4 + 2).toNatClampNeg) = 0 → b_Lw_1611 E a1 a2 a3 v4 xs L kc r_10 a2 (xs (v4 + 1).toNatClampNeg) 1 d_9)))
def lw_1563 (E : En) (a1 a2 a3 : Nat) (v4 : Int32) (xs : Nat → Int32) (L : Nat) (kc : En → Dy → Prop) (d : Dy) : Prop := okO E a1 10 ∧ okO E a2 11 ∧ okA E a3 14 ∧ vp_in (v4 + 1) L ∧ vp_in (v4 + 2) L ∧ (((xs (v4 + 2).toNatClampNeg) = 0 → b_Lw_1584 E a1 a2 a3 v4 xs L kc a1 (xs (v4 + 1).toNatClampNeg) 0 d) ∧ (¬ (xs (v4 + 2).toNatClampNeg) = 0 → b_Lw_1584 E a1 a2 a3 v4 xs L kc a1 (xs (v4 + 1).toNatClampNeg) 1 d))
set_option maxRecDepth 100000 in
set_option maxHeartbeats 4000000 in
theorem lc_1563 {p : Program} {l : Launch} {e : Env} {s : State} {m : MethodId} {below : List Frame} {meth : Method} {c : Code} {Q : State → Prop} {D : va_G} {cs : Nat → ClassId} {b L : Nat} {xs : Nat → Int32} {T0 : Cond} (hst : l.stackTraces = false) (S : CallFix p m c cL_law 7 s #[Value.ref b] (T0 :: wsL_law) RL) (hX : va_X b L xs s s.heap) (hbl : b < s.heap.size) {E : En} {a1 a2 a3 : Nat} {v4 : Int32} {d : Dy} {H : Heap} {locs : List Loc} {ls : Array Slot} {cl sl : Nat} {kc : En → Dy → Prop} (hcl : cl + 60 ≤ 634061) (hsl : sl + 1400 ≤ 7193921)
    (hk : ∀ (E9 : En) (d9 : Dy) (H : Heap) (locs : List Loc) (ls : Array Slot), kc E9 d9 → Wd D cs (fun q => s.heap.size ≤ q) s.heap s E9 d9 H locs → lv_has ls 7 [(0, .ref b), (1, .ref a1), (2, .ref a2), (3, .ref a3), (4, .int v4)] → W p l e room_1 s m #[Value.ref b] below meth c H locs (cl + 60) (sl + 1400) Q (F0 m 3051 ls [])) (h : lw_1563 E a1 a2 a3 v4 xs L kc d) (hw : Wd D cs (fun q => s.heap.size ≤ q) s.heap s E d H locs) (hl : lv_has ls 7 [(0, .ref b), (1, .ref a1), (2, .ref a2), (3, .ref a3), (4, .int v4)]) : W p l e room_1 s m #[Value.ref b] below meth c H locs cl sl Q (F0 m 1563 ls []) := by
  have hbA : ¬ (fun q : Nat => s.heap.size ≤ q) b := Nat.not_le.mpr hbl
  unfold lw_1563 at h
  obtain ⟨ha1, ha2, ha3, h⟩ := h
  have tb1611 : ∀ (v5 : Int32) (s0 : Nat) (s1 : Int32) (s2 : Int32) (d : Dy) (H : Heap) (locs : List Loc) (ls : Array Slot), b_Lw_1611 E a1 a2 a3 v4 xs L kc v5 s0 s1 s2 d → Wd D cs (fun q => s.heap.size ≤ q) s.heap s E d H locs → lv_has ls 7 [(0, .ref b), (1, .ref a1), (2, .ref a2), (3, .ref a3), (4, .int v4), (5, .int v5)] → W p l e room_1 s m #[Value.ref b] below meth c H locs (cl + 60) (sl + 1400) Q (F0 m 1611 ls [.int s2, .int s1, .ref s0]) := by
    intro v5 s0 s1 s2 d H locs ls h hw hl
    unfold b_Lw_1611 at h
    obtain ⟨hos0, h⟩ := h
    refine r_callI hw (r_runV (As := [.int s1, .int s2]) (rest := []) S hw (m_X11_howLong l D cs E d H.size s0 s1 s2 _) (cwV 2 S.2.2.2.2 (gV wg1101 wg1102 wg1103 wg5 wg1104) rfl rfl rfl (by decide +kernel) ⟨Nat.le_of_ble_eq_true rfl, Nat.le_of_ble_eq_true rfl⟩) (ci := 11) rfl hos0 h rfl hl.1 rfl (Nat.le_of_ble_eq_true rfl) (dd_at ddL_law_9 67 rfl) ⟨hcl, hsl⟩) (fun r_2 d_1 H locs h hw => ?_)
    refine lv_istore (lv' := [(6, .int r_2), (0, .ref b), (1, .ref a1), (2, .ref a2), (3, .ref a3), (4, .int v4), (5, .int v5)]) S.1 S.2.1 (dd_at ddL_law_9 68 rfl) hl (by decide) rfl (fun ls hl => ?_)
    refine lv_aload_n S.1 S.2.1 (dd_at ddL_law_9 69 rfl) rfl (lv_at hl 3 rfl) ?_
    refine r_callI hw (r_runV (As := []) (rest := []) S hw (m_X11_thrown l D cs E d_1 H.size a2 _) (cwV 0 S.2.2.2.2 (gV wg506 wg507 wg508 wg5 wg509) rfl rfl rfl (by decide +kernel) ⟨Nat.le_of_ble_eq_true rfl, Nat.le_of_ble_eq_true rfl⟩) (ci := 11) rfl ha2 h rfl hl.1 rfl (Nat.le_of_ble_eq_true rfl) (dd_at ddL_law_9 70 rfl) ⟨hcl, hsl⟩) (fun r_4 d_3 H locs h hw => ?_)
    refine lv_iload S.1 S.2.1 (dd_at ddL_law_9 71 rfl) (lv_at hl 6 rfl) ?_
    refine lv_icmp_eq (tgt := 1627) S.1 S.2.1 (dd_at ddL_law_9 72 rfl) (by decide) (fun hc_5 => ?_) (fun hc_5 => ?_)
    · have h := h.1 hc_5
      refine lv_iload S.1 S.2.1 (dd_at ddL_law_9 75 rfl) (lv_at hl 6 rfl) ?_
      refine lv_if_ne (tgt := 1644) S.1 S.2.1 (dd_at ddL_law_9 76 rfl) (by decide) (fun hc_6 => ?_) (fun hc_6 => ?_)
      · have h := h.1 hc_6
        refine lv_goto (tgt := 3051) S.1 S.2.1 (dd_at ddL_law_9 86 rfl) (by decide) ?_
        exact hk _ _ _ _ _ h hw (lv_sub hl [1, 2, 3, 4, 5] rfl)
      · have h := h.2 hc_6
        refine lv_aload_n S.1 S.2.1 (dd_at ddL_law_9 77 rfl) rfl (lv_at hl 4 rfl) ?_
        refine lv_iconst (v := 0) S.1 S.2.1 (dd_at ddL_law_9 78 rfl) (by decide) ?_
        obtain ⟨hx_7, h⟩ := h
        refine r_lald S hw ha3 hx_7 (dd_at ddL_law_9 79 rfl) ?_
        refine lv_iload S.1 S.2.1 (dd_at ddL_law_9 80 rfl) (lv_at hl 0 rfl) ?_
        refine lv_i2l S.1 S.2.1 (dd_at ddL_law_9 81 rfl) rfl ?_
        refine W.lcmp S.1 S.2.1 (dd_at ddL_law_9 82 rfl) ?_
        refine lv_if_eq (tgt := 1644) S.1 S.2.1 (dd_at ddL_law_9 83 rfl) (by decide) (fun hc_8 => ?_) (fun hc_8 => ?_)
        · have h := h.1 hc_8
          refine lv_goto (tgt := 3051) S.1 S.2.1 (dd_at ddL_law_9 86 rfl) (by decide) ?_
          exact hk _ _ _ _ _ h hw (lv_sub hl [1, 2, 3, 4, 5] rfl)
        · have h := h.2 hc_8
          refine lv_iconst (v := 0) S.1 S.2.1 (dd_at ddL_law_9 84 rfl) (by decide) ?_
          exact absurd h id
    · have h := h.2 hc_5
      refine lv_iconst (v := 0) S.1 S.2.1 (dd_at ddL_law_9 73 rfl) (by decide) ?_
      exact absurd h id
  have tb1584 : ∀ (s0 : Nat) (s1 : Int32) (s2 : Int32) (d : Dy) (H : Heap) (locs : List Loc) (ls : Array Slot), b_Lw_1584 E a1 a2 a3 v4 xs L kc s0 s1 s2 d → Wd D cs (fun q => s.heap.size ≤ q) s.heap s E d H locs → lv_has ls 7 [(0, .ref b), (1, .ref a1), (2, .ref a2), (3, .ref a3), (4, .int v4)] → W p l e room_1 s m #[Value.ref b] below meth c H locs cl sl Q (F0 m 1584 ls [.int s2, .int s1, .ref s0]) := by
    intro s0 s1 s2 d H locs ls h hw hl
    unfold b_Lw_1584 at h
    obtain ⟨hos0, h⟩ := h
    refine lv_aload_n S.1 S.2.1 (dd_at ddL_law_9 49 rfl) rfl (lv_at hl 3 rfl) ?_
    refine r_callI hw (r_runSW (As := [.ref s0, .int s1, .int s2, .ref a3]) (rest := []) S hw (m_L_howLong l hst D cs E d H.size s0 s1 s2 a3 _) (vx_cwSW 4 S.2.2.2.2 (gSW wg1092 wg1093 wg221 wg1094) rfl rfl rfl (by decide +kernel) ⟨Nat.le_of_ble_eq_true rfl, Nat.le_of_ble_eq_true rfl⟩) h rfl hl.1 rfl (Nat.le_of_ble_eq_true rfl) (dd_at ddL_law_9 50 rfl) ⟨Nat.le_trans (Nat.add_le_add_left (Nat.le_of_ble_eq_true rfl) cl) hcl, Nat.le_trans (Nat.add_le_add_left (Nat.le_of_ble_eq_true rfl) sl) hsl⟩) (fun r_10 d_9 H locs h hw => ?_)
    refine W.widen (k := cl + 60) (n := sl + 1400) (Nat.add_le_add_left (Nat.le_of_ble_eq_true rfl) cl) (Nat.add_le_add_left (Nat.le_of_ble_eq_true rfl) sl) ?_
    refine lv_istore (lv' := [(5, .int r_10), (0, .ref b), (1, .ref a1), (2, .ref a2), (3, .ref a3), (4, .int v4)]) S.1 S.2.1 (dd_at ddL_law_9 51 rfl) hl (by decide) rfl (fun ls hl => ?_)
    refine lv_aload_n S.1 S.2.1 (dd_at ddL_law_9 52 rfl) rfl (lv_at hl 3 rfl) ?_
    refine lv_aload_n S.1 S.2.1 (dd_at ddL_law_9 53 rfl) rfl (lv_at hl 1 rfl) ?_
    refine lv_iload S.1 S.2.1 (dd_at ddL_law_9 54 rfl) (lv_at hl 5 rfl) ?_
    refine lv_iconst (v := 1) S.1 S.2.1 (dd_at ddL_law_9 55 rfl) (by decide) ?_
    refine lv_iadd S.1 S.2.1 (dd_at ddL_law_9 56 rfl) ?_
    obtain ⟨hx_11, h⟩ := h
    refine va_sld S.1 S.2.1 hX hbl hbA hw.2.2.2.1 hx_11 (dd_at ddL_law_9 57 rfl) ?_
    refine lv_aload_n S.1 S.2.1 (dd_at ddL_law_9 58 rfl) rfl (lv_at hl 1 rfl) ?_
    refine lv_iload S.1 S.2.1 (dd_at ddL_law_9 59 rfl) (lv_at hl 5 rfl) ?_
    refine lv_iconst (v := 2) S.1 S.2.1 (dd_at ddL_law_9 60 rfl) (by decide) ?_
    refine lv_iadd S.1 S.2.1 (dd_at ddL_law_9 61 rfl) ?_
    obtain ⟨hx_12, h⟩ := h
    refine va_sld S.1 S.2.1 hX hbl hbA hw.2.2.2.1 hx_12 (dd_at ddL_law_9 62 rfl) ?_
    refine lv_if_eq (tgt := 1610) S.1 S.2.1 (dd_at ddL_law_9 63 rfl) (by decide) (fun hc_13 => ?_) (fun hc_13 => ?_)
    · have h := h.1 hc_13
      refine lv_iconst (v := 0) S.1 S.2.1 (dd_at ddL_law_9 66 rfl) (by decide) ?_
      exact tb1611 r_10 a2 (xs (v4 + 1).toNatClampNeg) 0 d_9 H locs ls h hw (lv_sub hl [1, 2, 3, 4, 5, 0] rfl)
    · have h := h.2 hc_13
      refine lv_iconst (v := 1) S.1 S.2.1 (dd_at ddL_law_9 64 rfl) (by decide) ?_
      refine lv_goto (tgt := 1611) S.1 S.2.1 (dd_at ddL_law_9 65 rfl) (by decide) ?_
      exact tb1611 r_10 a2 (xs (v4 + 1).toNatClampNeg) 1 d_9 H locs ls h hw (lv_sub hl [1, 2, 3, 4, 5, 0] rfl)
  refine lv_aload_n S.1 S.2.1 (dd_at ddL_law_9 34 rfl) rfl (lv_at hl 1 rfl) ?_
  refine lv_aload_n S.1 S.2.1 (dd_at ddL_law_9 35 rfl) rfl (lv_at hl 0 rfl) ?_
  refine lv_iload S.1 S.2.1 (dd_at ddL_law_9 36 rfl) (lv_at hl 4 rfl) ?_
  refine lv_iconst (v := 1) S.1 S.2.1 (dd_at ddL_law_9 37 rfl) (by decide) ?_
  refine lv_iadd S.1 S.2.1 (dd_at ddL_law_9 38 rfl) ?_
  obtain ⟨hx_14, h⟩ := h
  refine va_sld S.1 S.2.1 hX hbl hbA hw.2.2.2.1 hx_14 (dd_at ddL_law_9 39 rfl) ?_
  refine lv_aload_n S.1 S.2.1 (dd_at ddL_law_9 40 rfl) rfl (lv_at hl 0 rfl) ?_
  refine lv_iload S.1 S.2.1 (dd_at ddL_law_9 41 rfl) (lv_at hl 4 rfl) ?_
  refine lv_iconst (v := 2) S.1 S.2.1 (dd_at ddL_law_9 42 rfl) (by decide) ?_
  refine lv_iadd S.1 S.2.1 (dd_at ddL_law_9 43 rfl) ?_
  obtain ⟨hx_15, h⟩ := h
  refine va_sld S.1 S.2.1 hX hbl hbA hw.2.2.2.1 hx_15 (dd_at ddL_law_9 44 rfl) ?_
  refine lv_if_eq (tgt := 1583) S.1 S.2.1 (dd_at ddL_law_9 45 rfl) (by decide) (fun hc_16 => ?_) (fun hc_16 => ?_)
  · have h := h.1 hc_16
    refine lv_iconst (v := 0) S.1 S.2.1 (dd_at ddL_law_9 48 rfl) (by decide) ?_
    exact tb1584 a1 (xs (v4 + 1).toNatClampNeg) 0 d H locs ls h hw (lv_sub hl [0, 1, 2, 3, 4] rfl)
  · have h := h.2 hc_16
    refine lv_iconst (v := 1) S.1 S.2.1 (dd_at ddL_law_9 46 rfl) (by decide) ?_
    refine lv_goto (tgt := 1584) S.1 S.2.1 (dd_at ddL_law_9 47 rfl) (by decide) ?_
    exact tb1584 a1 (xs (v4 + 1).toNatClampNeg) 1 d H locs ls h hw (lv_sub hl [0, 1, 2, 3, 4] rfl)

def lw_1647 (E : En) (a1 a2 a3 : Nat) (v4 : Int32) (xs : Nat → Int32) (L : Nat) (kc : En → Dy → Prop) (d : Dy) : Prop := okO E a1 10 ∧ okO E a2 11 ∧ okA E a3 14 ∧ vp_in (v4 + 1) L ∧ vp_in (v4 + 2) L ∧ w_L_toll E a1 (xs (v4 + 1).toNatClampNeg) (xs (v4 + 2).toNatClampNeg) a3 d (fun r_4 d_3 => vp_in (v4 + 1) L ∧ vp_in (v4 + 2) L ∧ w_X11_toll E a2 (xs (v4 + 1).toNatClampNeg) (xs (v4 + 2).toNatClampNeg) d_3 (fun r_8 d_7 => w_X11_thrown E a2 d_7 (fun r_10 d_9 => ((r_10 = r_4 → ((¬ r_4 = 0 → kc E d_9) ∧ (r_4 = 0 → vp_in 0 (eN E a3) ∧ (((lg_cmp (gJ d_9 a3 ((0 : Int32)).toNatClampNeg) r_8.toInt64) = 0 → kc E d_9) ∧ (¬ (lg_cmp (gJ d_9 a3 ((0 : Int32)).toNatClampNeg) r_8.toInt64) = 0 → False))))) ∧ (¬ r_10 = r_4 → False)))))
set_option maxRecDepth 100000 in
set_option maxHeartbeats 4000000 in
theorem lc_1647 {p : Program} {l : Launch} {e : Env} {s : State} {m : MethodId} {below : List Frame} {meth : Method} {c : Code} {Q : State → Prop} {D : va_G} {cs : Nat → ClassId} {b L : Nat} {xs : Nat → Int32} {T0 : Cond} (hst : l.stackTraces = false) (S : CallFix p m c cL_law 7 s #[Value.ref b] (T0 :: wsL_law) RL) (hX : va_X b L xs s s.heap) (hbl : b < s.heap.size) {E : En} {a1 a2 a3 : Nat} {v4 : Int32} {d : Dy} {H : Heap} {locs : List Loc} {ls : Array Slot} {cl sl : Nat} {kc : En → Dy → Prop} (hcl : cl + 60 ≤ 634061) (hsl : sl + 1400 ≤ 7193921)
    (hk : ∀ (E9 : En) (d9 : Dy) (H : Heap) (locs : List Loc) (ls : Array Slot), kc E9 d9 → Wd D cs (fun q => s.heap.size ≤ q) s.heap s E9 d9 H locs → lv_has ls 7 [(0, .ref b), (1, .ref a1), (2, .ref a2), (3, .ref a3), (4, .int v4)] → W p l e room_1 s m #[Value.ref b] below meth c H locs (cl + 60) (sl + 1400) Q (F0 m 3051 ls [])) (h : lw_1647 E a1 a2 a3 v4 xs L kc d) (hw : Wd D cs (fun q => s.heap.size ≤ q) s.heap s E d H locs) (hl : lv_has ls 7 [(0, .ref b), (1, .ref a1), (2, .ref a2), (3, .ref a3), (4, .int v4)]) : W p l e room_1 s m #[Value.ref b] below meth c H locs cl sl Q (F0 m 1647 ls []) := by
  have hbA : ¬ (fun q : Nat => s.heap.size ≤ q) b := Nat.not_le.mpr hbl
  unfold lw_1647 at h
  obtain ⟨ha1, ha2, ha3, h⟩ := h
  refine lv_aload_n S.1 S.2.1 (dd_at ddL_law_9 87 rfl) rfl (lv_at hl 1 rfl) ?_
  refine lv_aload_n S.1 S.2.1 (dd_at ddL_law_9 88 rfl) rfl (lv_at hl 0 rfl) ?_
  refine lv_iload S.1 S.2.1 (dd_at ddL_law_9 89 rfl) (lv_at hl 4 rfl) ?_
  refine lv_iconst (v := 1) S.1 S.2.1 (dd_at ddL_law_9 90 rfl) (by decide) ?_
  refine lv_iadd S.1 S.2.1 (dd_at ddL_law_9 91 rfl) ?_
  obtain ⟨hx_1, h⟩ := h
  refine va_sld S.1 S.2.1 hX hbl hbA hw.2.2.2.1 hx_1 (dd_at ddL_law_9 92 rfl) ?_
  refine lv_aload_n S.1 S.2.1 (dd_at ddL_law_9 93 rfl) rfl (lv_at hl 0 rfl) ?_
  refine lv_iload S.1 S.2.1 (dd_at ddL_law_9 94 rfl) (lv_at hl 4 rfl) ?_
  refine lv_iconst (v := 2) S.1 S.2.1 (dd_at ddL_law_9 95 rfl) (by decide) ?_
  refine lv_iadd S.1 S.2.1 (dd_at ddL_law_9 96 rfl) ?_
  obtain ⟨hx_2, h⟩ := h
  refine va_sld S.1 S.2.1 hX hbl hbA hw.2.2.2.1 hx_2 (dd_at ddL_law_9 97 rfl) ?_
  refine lv_aload_n S.1 S.2.1 (dd_at ddL_law_9 98 rfl) rfl (lv_at hl 3 rfl) ?_
  refine r_callI hw (r_runSW (As := [.ref a1, .int (xs (v4 + 1).toNatClampNeg), .int (xs (v4 + 2).toNatClampNeg), .ref a3]) (rest := []) S hw (m_L_toll l hst D cs E d H.size a1 (xs (v4 + 1).toNatClampNeg) (xs (v4 + 2).toNatClampNeg) a3 _) (vx_cwSW 4 S.2.2.2.2 (gSW wg1106 wg1107 wg221 wg1108) rfl rfl rfl (by decide +kernel) ⟨Nat.le_of_ble_eq_true rfl, Nat.le_of_ble_eq_true rfl⟩) h rfl hl.1 rfl (Nat.le_of_ble_eq_true rfl) (dd_at ddL_law_9 99 rfl) ⟨Nat.le_trans (Nat.add_le_add_left (Nat.le_of_ble_eq_true rfl) cl) hcl, Nat.le_trans (Nat.add_le_add_left (Nat.le_of_ble_eq_true rfl) sl) hsl⟩) (fun r_4 d_3 H locs h hw => ?_)
  refine W.widen (k := cl + 60) (n := sl + 1400) (Nat.add_le_add_left (Nat.le_of_ble_eq_true rfl) cl) (Nat.add_le_add_left (Nat.le_of_ble_eq_true rfl) sl) ?_
  refine lv_istore (lv' := [(5, .int r_4), (0, .ref b), (1, .ref a1), (2, .ref a2), (3, .ref a3), (4, .int v4)]) S.1 S.2.1 (dd_at ddL_law_10 0 rfl) hl (by decide) rfl (fun ls hl => ?_)
  refine lv_aload_n S.1 S.2.1 (dd_at ddL_law_10 1 rfl) rfl (lv_at hl 3 rfl) ?_
  refine lv_aload_n S.1 S.2.1 (dd_at ddL_law_10 2 rfl) rfl (lv_at hl 1 rfl) ?_
  refine lv_iload S.1 S.2.1 (dd_at ddL_law_10 3 rfl) (lv_at hl 5 rfl) ?_
  refine lv_iconst (v := 1) S.1 S.2.1 (dd_at ddL_law_10 4 rfl) (by decide) ?_
  refine lv_iadd S.1 S.2.1 (dd_at ddL_law_10 5 rfl) ?_
  obtain ⟨hx_5, h⟩ := h
  refine va_sld S.1 S.2.1 hX hbl hbA hw.2.2.2.1 hx_5 (dd_at ddL_law_10 6 rfl) ?_
  refine lv_aload_n S.1 S.2.1 (dd_at ddL_law_10 7 rfl) rfl (lv_at hl 1 rfl) ?_
  refine lv_iload S.1 S.2.1 (dd_at ddL_law_10 8 rfl) (lv_at hl 5 rfl) ?_
  refine lv_iconst (v := 2) S.1 S.2.1 (dd_at ddL_law_10 9 rfl) (by decide) ?_
  refine lv_iadd S.1 S.2.1 (dd_at ddL_law_10 10 rfl) ?_
  obtain ⟨hx_6, h⟩ := h
  refine va_sld S.1 S.2.1 hX hbl hbA hw.2.2.2.1 hx_6 (dd_at ddL_law_10 11 rfl) ?_
  refine r_callI hw (r_runV (As := [.int (xs (v4 + 1).toNatClampNeg), .int (xs (v4 + 2).toNatClampNeg)]) (rest := []) S hw (m_X11_toll l D cs E d_3 H.size a2 (xs (v4 + 1).toNatClampNeg) (xs (v4 + 2).toNatClampNeg) _) (cwV 2 S.2.2.2.2 (gV wg1115 wg1116 wg1117 wg5 wg1118) rfl rfl rfl (by decide +kernel) ⟨Nat.le_of_ble_eq_true rfl, Nat.le_of_ble_eq_true rfl⟩) (ci := 11) rfl ha2 h rfl hl.1 rfl (Nat.le_of_ble_eq_true rfl) (dd_at ddL_law_10 12 rfl) ⟨hcl, hsl⟩) (fun r_8 d_7 H locs h hw => ?_)
  refine lv_istore (lv' := [(6, .int r_8), (5, .int r_4), (0, .ref b), (1, .ref a1), (2, .ref a2), (3, .ref a3), (4, .int v4)]) S.1 S.2.1 (dd_at ddL_law_10 13 rfl) hl (by decide) rfl (fun ls hl => ?_)
  refine lv_aload_n S.1 S.2.1 (dd_at ddL_law_10 14 rfl) rfl (lv_at hl 4 rfl) ?_
  refine r_callI hw (r_runV (As := []) (rest := []) S hw (m_X11_thrown l D cs E d_7 H.size a2 _) (cwV 0 S.2.2.2.2 (gV wg506 wg507 wg508 wg5 wg509) rfl rfl rfl (by decide +kernel) ⟨Nat.le_of_ble_eq_true rfl, Nat.le_of_ble_eq_true rfl⟩) (ci := 11) rfl ha2 h rfl hl.1 rfl (Nat.le_of_ble_eq_true rfl) (dd_at ddL_law_10 15 rfl) ⟨hcl, hsl⟩) (fun r_10 d_9 H locs h hw => ?_)
  refine lv_iload S.1 S.2.1 (dd_at ddL_law_10 16 rfl) (lv_at hl 1 rfl) ?_
  refine lv_icmp_eq (tgt := 1695) S.1 S.2.1 (dd_at ddL_law_10 17 rfl) (by decide) (fun hc_11 => ?_) (fun hc_11 => ?_)
  · have h := h.1 hc_11
    refine lv_iload S.1 S.2.1 (dd_at ddL_law_10 20 rfl) (lv_at hl 1 rfl) ?_
    refine lv_if_ne (tgt := 1712) S.1 S.2.1 (dd_at ddL_law_10 21 rfl) (by decide) (fun hc_12 => ?_) (fun hc_12 => ?_)
    · have h := h.1 hc_12
      refine lv_goto (tgt := 3051) S.1 S.2.1 (dd_at ddL_law_10 31 rfl) (by decide) ?_
      exact hk _ _ _ _ _ h hw (lv_sub hl [2, 3, 4, 5, 6] rfl)
    · have h := h.2 hc_12
      refine lv_aload_n S.1 S.2.1 (dd_at ddL_law_10 22 rfl) rfl (lv_at hl 5 rfl) ?_
      refine lv_iconst (v := 0) S.1 S.2.1 (dd_at ddL_law_10 23 rfl) (by decide) ?_
      obtain ⟨hx_13, h⟩ := h
      refine r_lald S hw ha3 hx_13 (dd_at ddL_law_10 24 rfl) ?_
      refine lv_iload S.1 S.2.1 (dd_at ddL_law_10 25 rfl) (lv_at hl 0 rfl) ?_
      refine lv_i2l S.1 S.2.1 (dd_at ddL_law_10 26 rfl) rfl ?_
      refine W.lcmp S.1 S.2.1 (dd_at ddL_law_10 27 rfl) ?_
      refine lv_if_eq (tgt := 1712) S.1 S.2.1 (dd_at ddL_law_10 28 rfl) (by decide) (fun hc_14 => ?_) (fun hc_14 => ?_)
      · have h := h.1 hc_14
        refine lv_goto (tgt := 3051) S.1 S.2.1 (dd_at ddL_law_10 31 rfl) (by decide) ?_
        exact hk _ _ _ _ _ h hw (lv_sub hl [2, 3, 4, 5, 6] rfl)
      · have h := h.2 hc_14
        refine lv_iconst (v := 0) S.1 S.2.1 (dd_at ddL_law_10 29 rfl) (by decide) ?_
        exact absurd h id
  · have h := h.2 hc_11
    refine lv_iconst (v := 0) S.1 S.2.1 (dd_at ddL_law_10 18 rfl) (by decide) ?_
    exact absurd h id

def lw_1715 (E : En) (a1 a2 a3 : Nat) (v4 : Int32) (xs : Nat → Int32) (L : Nat) (kc : En → Dy → Prop) (d : Dy) : Prop := okO E a1 10 ∧ okO E a2 11 ∧ okA E a3 14 ∧ vp_in (v4 + 1) L ∧ w_L_dodged E a1 (xs (v4 + 1).toNatClampNeg) a3 d (fun r_3 d_2 => vp_in (v4 + 1) L ∧ w_X11_dodged E a2 (xs (v4 + 1).toNatClampNeg) d_2 (fun r_6 d_5 => w_X11_thrown E a2 d_5 (fun r_8 d_7 => ((r_8 = r_3 → ((¬ r_3 = 0 → kc E d_7) ∧ (r_3 = 0 → vp_in 0 (eN E a3) ∧ (((lg_cmp (gJ d_7 a3 ((0 : Int32)).toNatClampNeg) r_6.toInt64) = 0 → kc E d_7) ∧ (¬ (lg_cmp (gJ d_7 a3 ((0 : Int32)).toNatClampNeg) r_6.toInt64) = 0 → False))))) ∧ (¬ r_8 = r_3 → False)))))
set_option maxRecDepth 100000 in
set_option maxHeartbeats 4000000 in
theorem lc_1715 {p : Program} {l : Launch} {e : Env} {s : State} {m : MethodId} {below : List Frame} {meth : Method} {c : Code} {Q : State → Prop} {D : va_G} {cs : Nat → ClassId} {b L : Nat} {xs : Nat → Int32} {T0 : Cond} (hst : l.stackTraces = false) (S : CallFix p m c cL_law 7 s #[Value.ref b] (T0 :: wsL_law) RL) (hX : va_X b L xs s s.heap) (hbl : b < s.heap.size) {E : En} {a1 a2 a3 : Nat} {v4 : Int32} {d : Dy} {H : Heap} {locs : List Loc} {ls : Array Slot} {cl sl : Nat} {kc : En → Dy → Prop} (hcl : cl + 60 ≤ 634061) (hsl : sl + 1400 ≤ 7193921)
    (hk : ∀ (E9 : En) (d9 : Dy) (H : Heap) (locs : List Loc) (ls : Array Slot), kc E9 d9 → Wd D cs (fun q => s.heap.size ≤ q) s.heap s E9 d9 H locs → lv_has ls 7 [(0, .ref b), (1, .ref a1), (2, .ref a2), (3, .ref a3), (4, .int v4)] → W p l e room_1 s m #[Value.ref b] below meth c H locs (cl + 60) (sl + 1400) Q (F0 m 3051 ls [])) (h : lw_1715 E a1 a2 a3 v4 xs L kc d) (hw : Wd D cs (fun q => s.heap.size ≤ q) s.heap s E d H locs) (hl : lv_has ls 7 [(0, .ref b), (1, .ref a1), (2, .ref a2), (3, .ref a3), (4, .int v4)]) : W p l e room_1 s m #[Value.ref b] below meth c H locs cl sl Q (F0 m 1715 ls []) := by
  have hbA : ¬ (fun q : Nat => s.heap.size ≤ q) b := Nat.not_le.mpr hbl
  unfold lw_1715 at h
  obtain ⟨ha1, ha2, ha3, h⟩ := h
  refine lv_aload_n S.1 S.2.1 (dd_at ddL_law_10 32 rfl) rfl (lv_at hl 1 rfl) ?_
  refine lv_aload_n S.1 S.2.1 (dd_at ddL_law_10 33 rfl) rfl (lv_at hl 0 rfl) ?_
  refine lv_iload S.1 S.2.1 (dd_at ddL_law_10 34 rfl) (lv_at hl 4 rfl) ?_
  refine lv_iconst (v := 1) S.1 S.2.1 (dd_at ddL_law_10 35 rfl) (by decide) ?_
  refine lv_iadd S.1 S.2.1 (dd_at ddL_law_10 36 rfl) ?_
  obtain ⟨hx_1, h⟩ := h
  refine va_sld S.1 S.2.1 hX hbl hbA hw.2.2.2.1 hx_1 (dd_at ddL_law_10 37 rfl) ?_
  refine lv_aload_n S.1 S.2.1 (dd_at ddL_law_10 38 rfl) rfl (lv_at hl 3 rfl) ?_
  refine r_callI hw (r_runSW (As := [.ref a1, .int (xs (v4 + 1).toNatClampNeg), .ref a3]) (rest := []) S hw (m_L_dodged l hst D cs E d H.size a1 (xs (v4 + 1).toNatClampNeg) a3 _) (vx_cwSW 3 S.2.2.2.2 (gSW wg1119 wg1120 wg221 wg1121) rfl rfl rfl (by decide +kernel) ⟨Nat.le_of_ble_eq_true rfl, Nat.le_of_ble_eq_true rfl⟩) h rfl hl.1 rfl (Nat.le_of_ble_eq_true rfl) (dd_at ddL_law_10 39 rfl) ⟨Nat.le_trans (Nat.add_le_add_left (Nat.le_of_ble_eq_true rfl) cl) hcl, Nat.le_trans (Nat.add_le_add_left (Nat.le_of_ble_eq_true rfl) sl) hsl⟩) (fun r_3 d_2 H locs h hw => ?_)
  refine W.widen (k := cl + 60) (n := sl + 1400) (Nat.add_le_add_left (Nat.le_of_ble_eq_true rfl) cl) (Nat.add_le_add_left (Nat.le_of_ble_eq_true rfl) sl) ?_
  refine lv_istore (lv' := [(5, .int r_3), (0, .ref b), (1, .ref a1), (2, .ref a2), (3, .ref a3), (4, .int v4)]) S.1 S.2.1 (dd_at ddL_law_10 40 rfl) hl (by decide) rfl (fun ls hl => ?_)
  refine lv_aload_n S.1 S.2.1 (dd_at ddL_law_10 41 rfl) rfl (lv_at hl 3 rfl) ?_
  refine lv_aload_n S.1 S.2.1 (dd_at ddL_law_10 42 rfl) rfl (lv_at hl 1 rfl) ?_
  refine lv_iload S.1 S.2.1 (dd_at ddL_law_10 43 rfl) (lv_at hl 5 rfl) ?_
  refine lv_iconst (v := 1) S.1 S.2.1 (dd_at ddL_law_10 44 rfl) (by decide) ?_
  refine lv_iadd S.1 S.2.1 (dd_at ddL_law_10 45 rfl) ?_
  obtain ⟨hx_4, h⟩ := h
  refine va_sld S.1 S.2.1 hX hbl hbA hw.2.2.2.1 hx_4 (dd_at ddL_law_10 46 rfl) ?_
  refine r_callI hw (r_runV (As := [.int (xs (v4 + 1).toNatClampNeg)]) (rest := []) S hw (m_X11_dodged l D cs E d_2 H.size a2 (xs (v4 + 1).toNatClampNeg) _) (cwV 1 S.2.2.2.2 (gV wg1134 wg1135 wg1136 wg5 wg1137) rfl rfl rfl (by decide +kernel) ⟨Nat.le_of_ble_eq_true rfl, Nat.le_of_ble_eq_true rfl⟩) (ci := 11) rfl ha2 h rfl hl.1 rfl (Nat.le_of_ble_eq_true rfl) (dd_at ddL_law_10 47 rfl) ⟨hcl, hsl⟩) (fun r_6 d_5 H locs h hw => ?_)
  refine lv_istore (lv' := [(6, .int r_6), (5, .int r_3), (0, .ref b), (1, .ref a1), (2, .ref a2), (3, .ref a3), (4, .int v4)]) S.1 S.2.1 (dd_at ddL_law_10 48 rfl) hl (by decide) rfl (fun ls hl => ?_)
  refine lv_aload_n S.1 S.2.1 (dd_at ddL_law_10 49 rfl) rfl (lv_at hl 4 rfl) ?_
  refine r_callI hw (r_runV (As := []) (rest := []) S hw (m_X11_thrown l D cs E d_5 H.size a2 _) (cwV 0 S.2.2.2.2 (gV wg506 wg507 wg508 wg5 wg509) rfl rfl rfl (by decide +kernel) ⟨Nat.le_of_ble_eq_true rfl, Nat.le_of_ble_eq_true rfl⟩) (ci := 11) rfl ha2 h rfl hl.1 rfl (Nat.le_of_ble_eq_true rfl) (dd_at ddL_law_10 50 rfl) ⟨hcl, hsl⟩) (fun r_8 d_7 H locs h hw => ?_)
  refine lv_iload S.1 S.2.1 (dd_at ddL_law_10 51 rfl) (lv_at hl 1 rfl) ?_
  refine lv_icmp_eq (tgt := 1751) S.1 S.2.1 (dd_at ddL_law_10 52 rfl) (by decide) (fun hc_9 => ?_) (fun hc_9 => ?_)
  · have h := h.1 hc_9
    refine lv_iload S.1 S.2.1 (dd_at ddL_law_10 55 rfl) (lv_at hl 1 rfl) ?_
    refine lv_if_ne (tgt := 1768) S.1 S.2.1 (dd_at ddL_law_10 56 rfl) (by decide) (fun hc_10 => ?_) (fun hc_10 => ?_)
    · have h := h.1 hc_10
      refine lv_goto (tgt := 3051) S.1 S.2.1 (dd_at ddL_law_10 66 rfl) (by decide) ?_
      exact hk _ _ _ _ _ h hw (lv_sub hl [2, 3, 4, 5, 6] rfl)
    · have h := h.2 hc_10
      refine lv_aload_n S.1 S.2.1 (dd_at ddL_law_10 57 rfl) rfl (lv_at hl 5 rfl) ?_
      refine lv_iconst (v := 0) S.1 S.2.1 (dd_at ddL_law_10 58 rfl) (by decide) ?_
      obtain ⟨hx_11, h⟩ := h
      refine r_lald S hw ha3 hx_11 (dd_at ddL_law_10 59 rfl) ?_
      refine lv_iload S.1 S.2.1 (dd_at ddL_law_10 60 rfl) (lv_at hl 0 rfl) ?_
      refine lv_i2l S.1 S.2.1 (dd_at ddL_law_10 61 rfl) rfl ?_
      refine W.lcmp S.1 S.2.1 (dd_at ddL_law_10 62 rfl) ?_
      refine lv_if_eq (tgt := 1768) S.1 S.2.1 (dd_at ddL_law_10 63 rfl) (by decide) (fun hc_12 => ?_) (fun hc_12 => ?_)
      · have h := h.1 hc_12
        refine lv_goto (tgt := 3051) S.1 S.2.1 (dd_at ddL_law_10 66 rfl) (by decide) ?_
        exact hk _ _ _ _ _ h hw (lv_sub hl [2, 3, 4, 5, 6] rfl)
      · have h := h.2 hc_12
        refine lv_iconst (v := 0) S.1 S.2.1 (dd_at ddL_law_10 64 rfl) (by decide) ?_
        exact absurd h id
  · have h := h.2 hc_9
    refine lv_iconst (v := 0) S.1 S.2.1 (dd_at ddL_law_10 53 rfl) (by decide) ?_
    exact absurd h id

def lw_1771 (E : En) (a1 a2 a3 : Nat) (v4 : Int32) (xs : Nat → Int32) (L : Nat) (kc : En → Dy → Prop) (d : Dy) : Prop := okO E a1 10 ∧ okO E a2 11 ∧ okA E a3 14 ∧ vp_in (v4 + 1) L ∧ vp_in (v4 + 2) L ∧ vp_in (v4 + 3) L ∧ vp_in (v4 + 4) L ∧ w_L_lift E a1 (xs (v4 + 1).toNatClampNeg) (xs (v4 + 2).toNatClampNeg) (xs (v4 + 3).toNatClampNeg) (xs (v4 + 4).toNatClampNeg) a3 d (fun r_6 d_5 => vp_in (v4 + 1) L ∧ vp_in (v4 + 2) L ∧ vp_in (v4 + 3) L ∧ vp_in (v4 + 4) L ∧ w_X11_lift E a2 (xs (v4 + 1).toNatClampNeg) (xs (v4 + 2).toNatClampNeg) (xs (v4 + 3).toNatClampNeg) (xs (v4 + 4).toNatClampNeg) d_5 (fun r_12 d_11 => w_X11_thrown E a2 d_11 (fun r_14 d_13 => ((r_14 = r_6 → ((¬ r_6 = 0 → kc E d_13) ∧ (r_6 = 0 → vp_in 0 (eN E a3) ∧ (((lg_cmp (gJ d_13 a3 ((0 : Int32)).toNatClampNeg) r_12.toInt64) = 0 → kc E d_13) ∧ (¬ (lg_cmp (gJ d_13 a3 ((0 : Int32)).toNatClampNeg) r_12.toInt64) = 0 → False))))) ∧ (¬ r_14 = r_6 → False)))))
set_option maxRecDepth 100000 in
set_option maxHeartbeats 4000000 in
theorem lc_1771 {p : Program} {l : Launch} {e : Env} {s : State} {m : MethodId} {below : List Frame} {meth : Method} {c : Code} {Q : State → Prop} {D : va_G} {cs : Nat → ClassId} {b L : Nat} {xs : Nat → Int32} {T0 : Cond} (hst : l.stackTraces = false) (S : CallFix p m c cL_law 7 s #[Value.ref b] (T0 :: wsL_law) RL) (hX : va_X b L xs s s.heap) (hbl : b < s.heap.size) {E : En} {a1 a2 a3 : Nat} {v4 : Int32} {d : Dy} {H : Heap} {locs : List Loc} {ls : Array Slot} {cl sl : Nat} {kc : En → Dy → Prop} (hcl : cl + 60 ≤ 634061) (hsl : sl + 1400 ≤ 7193921)
    (hk : ∀ (E9 : En) (d9 : Dy) (H : Heap) (locs : List Loc) (ls : Array Slot), kc E9 d9 → Wd D cs (fun q => s.heap.size ≤ q) s.heap s E9 d9 H locs → lv_has ls 7 [(0, .ref b), (1, .ref a1), (2, .ref a2), (3, .ref a3), (4, .int v4)] → W p l e room_1 s m #[Value.ref b] below meth c H locs (cl + 60) (sl + 1400) Q (F0 m 3051 ls [])) (h : lw_1771 E a1 a2 a3 v4 xs L kc d) (hw : Wd D cs (fun q => s.heap.size ≤ q) s.heap s E d H locs) (hl : lv_has ls 7 [(0, .ref b), (1, .ref a1), (2, .ref a2), (3, .ref a3), (4, .int v4)]) : W p l e room_1 s m #[Value.ref b] below meth c H locs cl sl Q (F0 m 1771 ls []) := by
  have hbA : ¬ (fun q : Nat => s.heap.size ≤ q) b := Nat.not_le.mpr hbl
  unfold lw_1771 at h
  obtain ⟨ha1, ha2, ha3, h⟩ := h
  refine lv_aload_n S.1 S.2.1 (dd_at ddL_law_10 67 rfl) rfl (lv_at hl 1 rfl) ?_
  refine lv_aload_n S.1 S.2.1 (dd_at ddL_law_10 68 rfl) rfl (lv_at hl 0 rfl) ?_
  refine lv_iload S.1 S.2.1 (dd_at ddL_law_10 69 rfl) (lv_at hl 4 rfl) ?_
  refine lv_iconst (v := 1) S.1 S.2.1 (dd_at ddL_law_10 70 rfl) (by decide) ?_
  refine lv_iadd S.1 S.2.1 (dd_at ddL_law_10 71 rfl) ?_
  obtain ⟨hx_1, h⟩ := h
  refine va_sld S.1 S.2.1 hX hbl hbA hw.2.2.2.1 hx_1 (dd_at ddL_law_10 72 rfl) ?_
  refine lv_aload_n S.1 S.2.1 (dd_at ddL_law_10 73 rfl) rfl (lv_at hl 0 rfl) ?_
  refine lv_iload S.1 S.2.1 (dd_at ddL_law_10 74 rfl) (lv_at hl 4 rfl) ?_
  refine lv_iconst (v := 2) S.1 S.2.1 (dd_at ddL_law_10 75 rfl) (by decide) ?_
  refine lv_iadd S.1 S.2.1 (dd_at ddL_law_10 76 rfl) ?_
  obtain ⟨hx_2, h⟩ := h
  refine va_sld S.1 S.2.1 hX hbl hbA hw.2.2.2.1 hx_2 (dd_at ddL_law_10 77 rfl) ?_
  refine lv_aload_n S.1 S.2.1 (dd_at ddL_law_10 78 rfl) rfl (lv_at hl 0 rfl) ?_
  refine lv_iload S.1 S.2.1 (dd_at ddL_law_10 79 rfl) (lv_at hl 4 rfl) ?_
  refine lv_iconst (v := 3) S.1 S.2.1 (dd_at ddL_law_10 80 rfl) (by decide) ?_
  refine lv_iadd S.1 S.2.1 (dd_at ddL_law_10 81 rfl) ?_
  obtain ⟨hx_3, h⟩ := h
  refine va_sld S.1 S.2.1 hX hbl hbA hw.2.2.2.1 hx_3 (dd_at ddL_law_10 82 rfl) ?_
  refine lv_aload_n S.1 S.2.1 (dd_at ddL_law_10 83 rfl) rfl (lv_at hl 0 rfl) ?_
  refine lv_iload S.1 S.2.1 (dd_at ddL_law_10 84 rfl) (lv_at hl 4 rfl) ?_
  refine lv_iconst (v := 4) S.1 S.2.1 (dd_at ddL_law_10 85 rfl) (by decide) ?_
  refine lv_iadd S.1 S.2.1 (dd_at ddL_law_10 86 rfl) ?_
  obtain ⟨hx_4, h⟩ := h
  refine va_sld S.1 S.2.1 hX hbl hbA hw.2.2.2.1 hx_4 (dd_at ddL_law_10 87 rfl) ?_
  refine lv_aload_n S.1 S.2.1 (dd_at ddL_law_10 88 rfl) rfl (lv_at hl 3 rfl) ?_
  refine r_callI hw (r_runSW (As := [.ref a1, .int (xs (v4 + 1).toNatClampNeg), .int (xs (v4 + 2).toNatClampNeg), .int (xs (v4 + 3).toNatClampNeg), .int (xs (v4 + 4).toNatClampNeg), .ref a3]) (rest := []) S hw (m_L_lift l hst D cs E d H.size a1 (xs (v4 + 1).toNatClampNeg) (xs (v4 + 2).toNatClampNeg) (xs (v4 + 3).toNatClampNeg) (xs (v4 + 4).toNatClampNeg) a3 _) (vx_cwSW 6 S.2.2.2.2 (gSW wg1138 wg1139 wg221 wg1140) rfl rfl rfl (by decide +kernel) ⟨Nat.le_of_ble_eq_true rfl, Nat.le_of_ble_eq_true rfl⟩) h rfl hl.1 rfl (Nat.le_of_ble_eq_true rfl) (dd_at ddL_law_10 89 rfl) ⟨Nat.le_trans (Nat.add_le_add_left (Nat.le_of_ble_eq_true rfl) cl) hcl, Nat.le_trans (Nat.add_le_add_left (Nat.le_of_ble_eq_true rfl) sl) hsl⟩) (fun r_6 d_5 H locs h hw => ?_)
  refine W.widen (k := cl + 60) (n := sl + 1400) (Nat.add_le_add_left (Nat.le_of_ble_eq_true rfl) cl) (Nat.add_le_add_left (Nat.le_of_ble_eq_true rfl) sl) ?_
  refine lv_istore (lv' := [(5, .int r_6), (0, .ref b), (1, .ref a1), (2, .ref a2), (3, .ref a3), (4, .int v4)]) S.1 S.2.1 (dd_at ddL_law_10 90 rfl) hl (by decide) rfl (fun ls hl => ?_)
  refine lv_aload_n S.1 S.2.1 (dd_at ddL_law_10 91 rfl) rfl (lv_at hl 3 rfl) ?_
  refine lv_aload_n S.1 S.2.1 (dd_at ddL_law_10 92 rfl) rfl (lv_at hl 1 rfl) ?_
  refine lv_iload S.1 S.2.1 (dd_at ddL_law_10 93 rfl) (lv_at hl 5 rfl) ?_
  refine lv_iconst (v := 1) S.1 S.2.1 (dd_at ddL_law_10 94 rfl) (by decide) ?_
  refine lv_iadd S.1 S.2.1 (dd_at ddL_law_10 95 rfl) ?_
  obtain ⟨hx_7, h⟩ := h
  refine va_sld S.1 S.2.1 hX hbl hbA hw.2.2.2.1 hx_7 (dd_at ddL_law_10 96 rfl) ?_
  refine lv_aload_n S.1 S.2.1 (dd_at ddL_law_10 97 rfl) rfl (lv_at hl 1 rfl) ?_
  refine lv_iload S.1 S.2.1 (dd_at ddL_law_10 98 rfl) (lv_at hl 5 rfl) ?_
  refine lv_iconst (v := 2) S.1 S.2.1 (dd_at ddL_law_10 99 rfl) (by decide) ?_
  refine lv_iadd S.1 S.2.1 (dd_at ddL_law_11 0 rfl) ?_
  obtain ⟨hx_8, h⟩ := h
  refine va_sld S.1 S.2.1 hX hbl hbA hw.2.2.2.1 hx_8 (dd_at ddL_law_11 1 rfl) ?_
  refine lv_aload_n S.1 S.2.1 (dd_at ddL_law_11 2 rfl) rfl (lv_at hl 1 rfl) ?_
  refine lv_iload S.1 S.2.1 (dd_at ddL_law_11 3 rfl) (lv_at hl 5 rfl) ?_
  refine lv_iconst (v := 3) S.1 S.2.1 (dd_at ddL_law_11 4 rfl) (by decide) ?_
  refine lv_iadd S.1 S.2.1 (dd_at ddL_law_11 5 rfl) ?_
  obtain ⟨hx_9, h⟩ := h
  refine va_sld S.1 S.2.1 hX hbl hbA hw.2.2.2.1 hx_9 (dd_at ddL_law_11 6 rfl) ?_
  refine lv_aload_n S.1 S.2.1 (dd_at ddL_law_11 7 rfl) rfl (lv_at hl 1 rfl) ?_
  refine lv_iload S.1 S.2.1 (dd_at ddL_law_11 8 rfl) (lv_at hl 5 rfl) ?_
  refine lv_iconst (v := 4) S.1 S.2.1 (dd_at ddL_law_11 9 rfl) (by decide) ?_
  refine lv_iadd S.1 S.2.1 (dd_at ddL_law_11 10 rfl) ?_
  obtain ⟨hx_10, h⟩ := h
  refine va_sld S.1 S.2.1 hX hbl hbA hw.2.2.2.1 hx_10 (dd_at ddL_law_11 11 rfl) ?_
  refine r_callI hw (r_runV (As := [.int (xs (v4 + 1).toNatClampNeg), .int (xs (v4 + 2).toNatClampNeg), .int (xs (v4 + 3).toNatClampNeg), .int (xs (v4 + 4).toNatClampNeg)]) (rest := []) S hw (m_X11_lift l D cs E d_5 H.size a2 (xs (v4 + 1).toNatClampNeg) (xs (v4 + 2).toNatClampNeg) (xs (v4 + 3).toNatClampNeg) (xs (v4 + 4).toNatClampNeg) _) (cwV 4 S.2.2.2.2 (gV wg1186 wg1187 wg1188 wg5 wg1189) rfl rfl rfl (by decide +kernel) ⟨Nat.le_of_ble_eq_true rfl, Nat.le_of_ble_eq_true rfl⟩) (ci := 11) rfl ha2 h rfl hl.1 rfl (Nat.le_of_ble_eq_true rfl) (dd_at ddL_law_11 12 rfl) ⟨hcl, hsl⟩) (fun r_12 d_11 H locs h hw => ?_)
  refine lv_istore (lv' := [(6, .int r_12), (5, .int r_6), (0, .ref b), (1, .ref a1), (2, .ref a2), (3, .ref a3), (4, .int v4)]) S.1 S.2.1 (dd_at ddL_law_11 13 rfl) hl (by decide) rfl (fun ls hl => ?_)
  refine lv_aload_n S.1 S.2.1 (dd_at ddL_law_11 14 rfl) rfl (lv_at hl 4 rfl) ?_
  refine r_callI hw (r_runV (As := []) (rest := []) S hw (m_X11_thrown l D cs E d_11 H.size a2 _) (cwV 0 S.2.2.2.2 (gV wg506 wg507 wg508 wg5 wg509) rfl rfl rfl (by decide +kernel) ⟨Nat.le_of_ble_eq_true rfl, Nat.le_of_ble_eq_true rfl⟩) (ci := 11) rfl ha2 h rfl hl.1 rfl (Nat.le_of_ble_eq_true rfl) (dd_at ddL_law_11 15 rfl) ⟨hcl, hsl⟩) (fun r_14 d_13 H locs h hw => ?_)
  refine lv_iload S.1 S.2.1 (dd_at ddL_law_11 16 rfl) (lv_at hl 1 rfl) ?_
  refine lv_icmp_eq (tgt := 1843) S.1 S.2.1 (dd_at ddL_law_11 17 rfl) (by decide) (fun hc_15 => ?_) (fun hc_15 => ?_)
  · have h := h.1 hc_15
    refine lv_iload S.1 S.2.1 (dd_at ddL_law_11 20 rfl) (lv_at hl 1 rfl) ?_
    refine lv_if_ne (tgt := 1860) S.1 S.2.1 (dd_at ddL_law_11 21 rfl) (by decide) (fun hc_16 => ?_) (fun hc_16 => ?_)
    · have h := h.1 hc_16
      refine lv_goto (tgt := 3051) S.1 S.2.1 (dd_at ddL_law_11 31 rfl) (by decide) ?_
      exact hk _ _ _ _ _ h hw (lv_sub hl [2, 3, 4, 5, 6] rfl)
    · have h := h.2 hc_16
      refine lv_aload_n S.1 S.2.1 (dd_at ddL_law_11 22 rfl) rfl (lv_at hl 5 rfl) ?_
      refine lv_iconst (v := 0) S.1 S.2.1 (dd_at ddL_law_11 23 rfl) (by decide) ?_
      obtain ⟨hx_17, h⟩ := h
      refine r_lald S hw ha3 hx_17 (dd_at ddL_law_11 24 rfl) ?_
      refine lv_iload S.1 S.2.1 (dd_at ddL_law_11 25 rfl) (lv_at hl 0 rfl) ?_
      refine lv_i2l S.1 S.2.1 (dd_at ddL_law_11 26 rfl) rfl ?_
      refine W.lcmp S.1 S.2.1 (dd_at ddL_law_11 27 rfl) ?_
      refine lv_if_eq (tgt := 1860) S.1 S.2.1 (dd_at ddL_law_11 28 rfl) (by decide) (fun hc_18 => ?_) (fun hc_18 => ?_)
      · have h := h.1 hc_18
        refine lv_goto (tgt := 3051) S.1 S.2.1 (dd_at ddL_law_11 31 rfl) (by decide) ?_
        exact hk _ _ _ _ _ h hw (lv_sub hl [2, 3, 4, 5, 6] rfl)
      · have h := h.2 hc_18
        refine lv_iconst (v := 0) S.1 S.2.1 (dd_at ddL_law_11 29 rfl) (by decide) ?_
        exact absurd h id
  · have h := h.2 hc_15
    refine lv_iconst (v := 0) S.1 S.2.1 (dd_at ddL_law_11 18 rfl) (by decide) ?_
    exact absurd h id

def lw_1863 (E : En) (a1 a2 a3 : Nat) (v4 : Int32) (xs : Nat → Int32) (L : Nat) (kc : En → Dy → Prop) (d : Dy) : Prop := okO E a1 10 ∧ okO E a2 11 ∧ okA E a3 14 ∧ vp_in (v4 + 1) L ∧ vp_in (v4 + 2) L ∧ w_L_wind E a1 (xs (v4 + 1).toNatClampNeg) (xs (v4 + 2).toNatClampNeg) d (fun r_4 d_3 => vp_in (v4 + 1) L ∧ vp_in (v4 + 2) L ∧ w_X11_wind E a2 (xs (v4 + 1).toNatClampNeg) (xs (v4 + 2).toNatClampNeg) d_3 (fun d_7 => w_X11_thrown E a2 d_7 (fun r_10 d_9 => ((r_10 = r_4 → kc E d_9) ∧ (¬ r_10 = r_4 → False)))))
set_option maxRecDepth 100000 in
set_option maxHeartbeats 4000000 in
theorem lc_1863 {p : Program} {l : Launch} {e : Env} {s : State} {m : MethodId} {below : List Frame} {meth : Method} {c : Code} {Q : State → Prop} {D : va_G} {cs : Nat → ClassId} {b L : Nat} {xs : Nat → Int32} {T0 : Cond} (hst : l.stackTraces = false) (S : CallFix p m c cL_law 7 s #[Value.ref b] (T0 :: wsL_law) RL) (hX : va_X b L xs s s.heap) (hbl : b < s.heap.size) {E : En} {a1 a2 a3 : Nat} {v4 : Int32} {d : Dy} {H : Heap} {locs : List Loc} {ls : Array Slot} {cl sl : Nat} {kc : En → Dy → Prop} (hcl : cl + 60 ≤ 634061) (hsl : sl + 1400 ≤ 7193921)
    (hk : ∀ (E9 : En) (d9 : Dy) (H : Heap) (locs : List Loc) (ls : Array Slot), kc E9 d9 → Wd D cs (fun q => s.heap.size ≤ q) s.heap s E9 d9 H locs → lv_has ls 7 [(0, .ref b), (1, .ref a1), (2, .ref a2), (3, .ref a3), (4, .int v4)] → W p l e room_1 s m #[Value.ref b] below meth c H locs (cl + 60) (sl + 1400) Q (F0 m 3051 ls [])) (h : lw_1863 E a1 a2 a3 v4 xs L kc d) (hw : Wd D cs (fun q => s.heap.size ≤ q) s.heap s E d H locs) (hl : lv_has ls 7 [(0, .ref b), (1, .ref a1), (2, .ref a2), (3, .ref a3), (4, .int v4)]) : W p l e room_1 s m #[Value.ref b] below meth c H locs cl sl Q (F0 m 1863 ls []) := by
  have hbA : ¬ (fun q : Nat => s.heap.size ≤ q) b := Nat.not_le.mpr hbl
  unfold lw_1863 at h
  obtain ⟨ha1, ha2, ha3, h⟩ := h
  refine lv_aload_n S.1 S.2.1 (dd_at ddL_law_11 32 rfl) rfl (lv_at hl 1 rfl) ?_
  refine lv_aload_n S.1 S.2.1 (dd_at ddL_law_11 33 rfl) rfl (lv_at hl 0 rfl) ?_
  refine lv_iload S.1 S.2.1 (dd_at ddL_law_11 34 rfl) (lv_at hl 4 rfl) ?_
  refine lv_iconst (v := 1) S.1 S.2.1 (dd_at ddL_law_11 35 rfl) (by decide) ?_
  refine lv_iadd S.1 S.2.1 (dd_at ddL_law_11 36 rfl) ?_
  obtain ⟨hx_1, h⟩ := h
  refine va_sld S.1 S.2.1 hX hbl hbA hw.2.2.2.1 hx_1 (dd_at ddL_law_11 37 rfl) ?_
  refine lv_aload_n S.1 S.2.1 (dd_at ddL_law_11 38 rfl) rfl (lv_at hl 0 rfl) ?_
  refine lv_iload S.1 S.2.1 (dd_at ddL_law_11 39 rfl) (lv_at hl 4 rfl) ?_
  refine lv_iconst (v := 2) S.1 S.2.1 (dd_at ddL_law_11 40 rfl) (by decide) ?_
  refine lv_iadd S.1 S.2.1 (dd_at ddL_law_11 41 rfl) ?_
  obtain ⟨hx_2, h⟩ := h
  refine va_sld S.1 S.2.1 hX hbl hbA hw.2.2.2.1 hx_2 (dd_at ddL_law_11 42 rfl) ?_
  refine r_callI hw (r_runSW (As := [.ref a1, .int (xs (v4 + 1).toNatClampNeg), .int (xs (v4 + 2).toNatClampNeg)]) (rest := []) S hw (m_L_wind l hst D cs E d H.size a1 (xs (v4 + 1).toNatClampNeg) (xs (v4 + 2).toNatClampNeg) _) (vx_cwSW 3 S.2.2.2.2 (gSW wg1204 wg1205 wg221 wg1206) rfl rfl rfl (by decide +kernel) ⟨Nat.le_of_ble_eq_true rfl, Nat.le_of_ble_eq_true rfl⟩) h rfl hl.1 rfl (Nat.le_of_ble_eq_true rfl) (dd_at ddL_law_11 43 rfl) ⟨Nat.le_trans (Nat.add_le_add_left (Nat.le_of_ble_eq_true rfl) cl) hcl, Nat.le_trans (Nat.add_le_add_left (Nat.le_of_ble_eq_true rfl) sl) hsl⟩) (fun r_4 d_3 H locs h hw => ?_)
  refine W.widen (k := cl + 60) (n := sl + 1400) (Nat.add_le_add_left (Nat.le_of_ble_eq_true rfl) cl) (Nat.add_le_add_left (Nat.le_of_ble_eq_true rfl) sl) ?_
  refine lv_istore (lv' := [(5, .int r_4), (0, .ref b), (1, .ref a1), (2, .ref a2), (3, .ref a3), (4, .int v4)]) S.1 S.2.1 (dd_at ddL_law_11 44 rfl) hl (by decide) rfl (fun ls hl => ?_)
  refine lv_aload_n S.1 S.2.1 (dd_at ddL_law_11 45 rfl) rfl (lv_at hl 3 rfl) ?_
  refine lv_aload_n S.1 S.2.1 (dd_at ddL_law_11 46 rfl) rfl (lv_at hl 1 rfl) ?_
  refine lv_iload S.1 S.2.1 (dd_at ddL_law_11 47 rfl) (lv_at hl 5 rfl) ?_
  refine lv_iconst (v := 1) S.1 S.2.1 (dd_at ddL_law_11 48 rfl) (by decide) ?_
  refine lv_iadd S.1 S.2.1 (dd_at ddL_law_11 49 rfl) ?_
  obtain ⟨hx_5, h⟩ := h
  refine va_sld S.1 S.2.1 hX hbl hbA hw.2.2.2.1 hx_5 (dd_at ddL_law_11 50 rfl) ?_
  refine lv_aload_n S.1 S.2.1 (dd_at ddL_law_11 51 rfl) rfl (lv_at hl 1 rfl) ?_
  refine lv_iload S.1 S.2.1 (dd_at ddL_law_11 52 rfl) (lv_at hl 5 rfl) ?_
  refine lv_iconst (v := 2) S.1 S.2.1 (dd_at ddL_law_11 53 rfl) (by decide) ?_
  refine lv_iadd S.1 S.2.1 (dd_at ddL_law_11 54 rfl) ?_
  obtain ⟨hx_6, h⟩ := h
  refine va_sld S.1 S.2.1 hX hbl hbA hw.2.2.2.1 hx_6 (dd_at ddL_law_11 55 rfl) ?_
  refine r_callV hw (r_runV (As := [.int (xs (v4 + 1).toNatClampNeg), .int (xs (v4 + 2).toNatClampNeg)]) (rest := []) S hw (m_X11_wind l D cs E d_3 H.size a2 (xs (v4 + 1).toNatClampNeg) (xs (v4 + 2).toNatClampNeg) _) (cwV 2 S.2.2.2.2 (gV wg1211 wg1212 wg1213 wg5 wg1214) rfl rfl rfl (by decide +kernel) ⟨Nat.le_of_ble_eq_true rfl, Nat.le_of_ble_eq_true rfl⟩) (ci := 11) rfl ha2 h rfl hl.1 rfl (Nat.le_of_ble_eq_true rfl) (dd_at ddL_law_11 56 rfl) ⟨hcl, hsl⟩) (fun d_7 H locs h hw => ?_)
  refine lv_aload_n S.1 S.2.1 (dd_at ddL_law_11 57 rfl) rfl (lv_at hl 3 rfl) ?_
  refine r_callI hw (r_runV (As := []) (rest := []) S hw (m_X11_thrown l D cs E d_7 H.size a2 _) (cwV 0 S.2.2.2.2 (gV wg506 wg507 wg508 wg5 wg509) rfl rfl rfl (by decide +kernel) ⟨Nat.le_of_ble_eq_true rfl, Nat.le_of_ble_eq_true rfl⟩) (ci := 11) rfl ha2 h rfl hl.1 rfl (Nat.le_of_ble_eq_true rfl) (dd_at ddL_law_11 58 rfl) ⟨hcl, hsl⟩) (fun r_10 d_9 H locs h hw => ?_)
  refine lv_iload S.1 S.2.1 (dd_at ddL_law_11 59 rfl) (lv_at hl 0 rfl) ?_
  refine lv_icmp_eq (tgt := 1908) S.1 S.2.1 (dd_at ddL_law_11 60 rfl) (by decide) (fun hc_11 => ?_) (fun hc_11 => ?_)
  · have h := h.1 hc_11
    refine lv_goto (tgt := 3051) S.1 S.2.1 (dd_at ddL_law_11 63 rfl) (by decide) ?_
    exact hk _ _ _ _ _ h hw (lv_sub hl [1, 2, 3, 4, 5] rfl)
  · have h := h.2 hc_11
    refine lv_iconst (v := 0) S.1 S.2.1 (dd_at ddL_law_11 61 rfl) (by decide) ?_
    exact absurd h id

def b_Lw_1983 (E : En) (a1 a2 a3 : Nat) (v4 : Int32) (xs : Nat → Int32) (L : Nat) (kc : En → Dy → Prop) (v5 : Int32) (s0 : Nat) (s1 : Int32) (s2 : Int32) (s3 : Int32) (s4 : Int32) (d : Dy) : Prop := okO E s0 11 ∧ w_X11_crane E s0 s1 s2 s3 s4 d (fun r_2 d_1 => w_X11_thrown E a2 d_1 (fun r_4 d_3 => ((r_4 = v5 → ((¬ v5 = 0 → kc E d_3) ∧ (v5 = 0 → vp_in 0 (eN E a3) ∧ (((lg_cmp (gJ d_3 a3 ((0 : Int32)).toNatClampNeg) r_2.toInt64) = 0 → kc E d_3) ∧ (¬ (lg_cmp (gJ d_3 a3 ((0 : Int32)).toNatClampNeg) r_2.toInt64) = 0 → False))))) ∧ (¬ r_4 = v5 → False))))
def b_Lw_1944 (E : En) (a1 a2 a3 : Nat) (v4 : Int32) (xs : Nat → Int32) (L : Nat) (kc : En → Dy → Prop) (s0 : Nat) (s1 : Int32) (s2 : Int32) (s3 : Int32) (s4 : Int32) (d : Dy) : Prop := okO E s0 10 ∧ w_L_crane E s0 s1 s2 s3 s4 a3 d (fun r_10 d_9 => vp_in (v4 + 1) L ∧ vp_in (v4 + 2) L ∧ vp_in (v4 + 3) L ∧ vp_in (v4 + 4) L ∧ (((xs (v4 + 4).toNatClampNeg) = 0 → b_Lw_1983 E a1 a2 a3 v4 xs L kc r_10 a2 (xs (v4 + 1).toNatClampNeg) (xs (v4 + 2).toNatClampNeg) (xs (v4 + 3).toNatClampNeg) 0 d_9) ∧ (¬ (xs (v4 + 4).toNatClampNeg) = 0 → b_Lw_1983 E a1 a2 a3 v4 xs L kc r_10 a2 (xs (v4 + 1).toNatClampNeg) (xs (v4 + 2).toNatClampNeg) (xs (v4 + 3).toNatClampNeg) 1 d_9)))
def lw_1911 (E : En) (a1 a2 a3 : Nat) (v4 : Int32) (xs : Nat → Int32) (L : Nat) (kc : En → Dy → Prop) (d : Dy) : Prop := okO E a1 10 ∧ okO E a2 11 ∧ okA E a3 14 ∧ vp_in (v4 + 1) L ∧ vp_in (v4 + 2) L ∧ vp_in (v4 + 3) L ∧ vp_in (v4 + 4) L ∧ (((xs (v4 + 4).toNatClampNeg) = 0 → b_Lw_1944 E a1 a2 a3 v4 xs L kc a1 (xs (v4 + 1).toNatClampNeg) (xs (v4 + 2).toNatClampNeg) (xs (v4 + 3).toNatClampNeg) 0 d) ∧ (¬ (xs (v4 + 4).toNatClampNeg) = 0 → b_Lw_1944 E a1 a2 a3 v4 xs L kc a1 (xs (v4 + 1).toNatClampNeg) (xs (v4 + 2).toNatClampNeg) (xs (v4 + 3).toNatClampNeg) 1 d))
set_option maxRecDepth 100000 in
set_option maxHeartbeats 4000000 in
theorem lc_1911 {p : Program} {l : Launch} {e : Env} {s : State} {m : MethodId} {below : List Frame} {meth : Method} {c : Code} {Q : State → Prop} {D : va_G} {cs : Nat → ClassId} {b L : Nat} {xs : Nat → Int32} {T0 : Cond} (hst : l.stackTraces = false) (S : CallFix p m c cL_law 7 s #[Value.ref b] (T0 :: wsL_law) RL) (hX : va_X b L xs s s.heap) (hbl : b < s.heap.size) {E : En} {a1 a2 a3 : Nat} {v4 : Int32} {d : Dy} {H : Heap} {locs : List Loc} {ls : Array Slot} {cl sl : Nat} {kc : En → Dy → Prop} (hcl : cl + 60 ≤ 634061) (hsl : sl + 1400 ≤ 7193921)
    (hk : ∀ (E9 : En) (d9 : Dy) (H : Heap) (locs : List Loc) (ls : Array Slot), kc E9 d9 → Wd D cs (fun q => s.heap.size ≤ q) s.heap s E9 d9 H locs → lv_has ls 7 [(0, .ref b), (1, .ref a1), (2, .ref a2), (3, .ref a3), (4, .int v4)] → W p l e room_1 s m #[Value.ref b] below meth c H locs (cl + 60) (sl + 1400) Q (F0 m 3051 ls [])) (h : lw_1911 E a1 a2 a3 v4 xs L kc d) (hw : Wd D cs (fun q => s.heap.size ≤ q) s.heap s E d H locs) (hl : lv_has ls 7 [(0, .ref b), (1, .ref a1), (2, .ref a2), (3, .ref a3), (4, .int v4)]) : W p l e room_1 s m #[Value.ref b] below meth c H locs cl sl Q (F0 m 1911 ls []) := by
  have hbA : ¬ (fun q : Nat => s.heap.size ≤ q) b := Nat.not_le.mpr hbl
  unfold lw_1911 at h
  obtain ⟨ha1, ha2, ha3, h⟩ := h
  have tb1983 : ∀ (v5 : Int32) (s0 : Nat) (s1 : Int32) (s2 : Int32) (s3 : Int32) (s4 : Int32) (d : Dy) (H : Heap) (locs : List Loc) (ls : Array Slot), b_Lw_1983 E a1 a2 a3 v4 xs L kc v5 s0 s1 s2 s3 s4 d → Wd D cs (fun q => s.heap.size ≤ q) s.heap s E d H locs → lv_has ls 7 [(0, .ref b), (1, .ref a1), (2, .ref a2), (3, .ref a3), (4, .int v4), (5, .int v5)] → W p l e room_1 s m #[Value.ref b] below meth c H locs (cl + 60) (sl + 1400) Q (F0 m 1983 ls [.int s4, .int s3, .int s2, .int s1, .ref s0]) := by
    intro v5 s0 s1 s2 s3 s4 d H locs ls h hw hl
    unfold b_Lw_1983 at h
    obtain ⟨hos0, h⟩ := h
    refine r_callI hw (r_runV (As := [.int s1, .int s2, .int s3, .int s4]) (rest := []) S hw (m_X11_crane l D cs E d H.size s0 s1 s2 s3 s4 _) (cwV 4 S.2.2.2.2 (gV wg1234 wg1235 wg1236 wg5 wg1237) rfl rfl rfl (by decide +kernel) ⟨Nat.le_of_ble_eq_true rfl, Nat.le_of_ble_eq_true rfl⟩) (ci := 11) rfl hos0 h rfl hl.1 rfl (Nat.le_of_ble_eq_true rfl) (dd_at ddL_law_12 17 rfl) ⟨hcl, hsl⟩) (fun r_2 d_1 H locs h hw => ?_)
    refine lv_istore (lv' := [(6, .int r_2), (0, .ref b), (1, .ref a1), (2, .ref a2), (3, .ref a3), (4, .int v4), (5, .int v5)]) S.1 S.2.1 (dd_at ddL_law_12 18 rfl) hl (by decide) rfl (fun ls hl => ?_)
    refine lv_aload_n S.1 S.2.1 (dd_at ddL_law_12 19 rfl) rfl (lv_at hl 3 rfl) ?_
    refine r_callI hw (r_runV (As := []) (rest := []) S hw (m_X11_thrown l D cs E d_1 H.size a2 _) (cwV 0 S.2.2.2.2 (gV wg506 wg507 wg508 wg5 wg509) rfl rfl rfl (by decide +kernel) ⟨Nat.le_of_ble_eq_true rfl, Nat.le_of_ble_eq_true rfl⟩) (ci := 11) rfl ha2 h rfl hl.1 rfl (Nat.le_of_ble_eq_true rfl) (dd_at ddL_law_12 20 rfl) ⟨hcl, hsl⟩) (fun r_4 d_3 H locs h hw => ?_)
    refine lv_iload S.1 S.2.1 (dd_at ddL_law_12 21 rfl) (lv_at hl 6 rfl) ?_
    refine lv_icmp_eq (tgt := 1999) S.1 S.2.1 (dd_at ddL_law_12 22 rfl) (by decide) (fun hc_5 => ?_) (fun hc_5 => ?_)
    · have h := h.1 hc_5
      refine lv_iload S.1 S.2.1 (dd_at ddL_law_12 25 rfl) (lv_at hl 6 rfl) ?_
      refine lv_if_ne (tgt := 2016) S.1 S.2.1 (dd_at ddL_law_12 26 rfl) (by decide) (fun hc_6 => ?_) (fun hc_6 => ?_)
      · have h := h.1 hc_6
        refine lv_goto (tgt := 3051) S.1 S.2.1 (dd_at ddL_law_12 36 rfl) (by decide) ?_
        exact hk _ _ _ _ _ h hw (lv_sub hl [1, 2, 3, 4, 5] rfl)
      · have h := h.2 hc_6
        refine lv_aload_n S.1 S.2.1 (dd_at ddL_law_12 27 rfl) rfl (lv_at hl 4 rfl) ?_
        refine lv_iconst (v := 0) S.1 S.2.1 (dd_at ddL_law_12 28 rfl) (by decide) ?_
        obtain ⟨hx_7, h⟩ := h
        refine r_lald S hw ha3 hx_7 (dd_at ddL_law_12 29 rfl) ?_
        refine lv_iload S.1 S.2.1 (dd_at ddL_law_12 30 rfl) (lv_at hl 0 rfl) ?_
        refine lv_i2l S.1 S.2.1 (dd_at ddL_law_12 31 rfl) rfl ?_
        refine W.lcmp S.1 S.2.1 (dd_at ddL_law_12 32 rfl) ?_
        refine lv_if_eq (tgt := 2016) S.1 S.2.1 (dd_at ddL_law_12 33 rfl) (by decide) (fun hc_8 => ?_) (fun hc_8 => ?_)
        · have h := h.1 hc_8
          refine lv_goto (tgt := 3051) S.1 S.2.1 (dd_at ddL_law_12 36 rfl) (by decide) ?_
          exact hk _ _ _ _ _ h hw (lv_sub hl [1, 2, 3, 4, 5] rfl)
        · have h := h.2 hc_8
          refine lv_iconst (v := 0) S.1 S.2.1 (dd_at ddL_law_12 34 rfl) (by decide) ?_
          exact absurd h id
    · have h := h.2 hc_5
      refine lv_iconst (v := 0) S.1 S.2.1 (dd_at ddL_law_12 23 rfl) (by decide) ?_
      exact absurd h id
  have tb1944 : ∀ (s0 : Nat) (s1 : Int32) (s2 : Int32) (s3 : Int32) (s4 : Int32) (d : Dy) (H : Heap) (locs : List Loc) (ls : Array Slot), b_Lw_1944 E a1 a2 a3 v4 xs L kc s0 s1 s2 s3 s4 d → Wd D cs (fun q => s.heap.size ≤ q) s.heap s E d H locs → lv_has ls 7 [(0, .ref b), (1, .ref a1), (2, .ref a2), (3, .ref a3), (4, .int v4)] → W p l e room_1 s m #[Value.ref b] below meth c H locs cl sl Q (F0 m 1944 ls [.int s4, .int s3, .int s2, .int s1, .ref s0]) := by
    intro s0 s1 s2 s3 s4 d H locs ls h hw hl
    unfold b_Lw_1944 at h
    obtain ⟨hos0, h⟩ := h
    refine lv_aload_n S.1 S.2.1 (dd_at ddL_law_11 89 rfl) rfl (lv_at hl 3 rfl) ?_
    refine r_callI hw (r_runSW (As := [.ref s0, .int s1, .int s2, .int s3, .int s4, .ref a3]) (rest := []) S hw (m_L_crane l hst D cs E d H.size s0 s1 s2 s3 s4 a3 _) (vx_cwSW 6 S.2.2.2.2 (gSW wg1218 wg1219 wg221 wg1220) rfl rfl rfl (by decide +kernel) ⟨Nat.le_of_ble_eq_true rfl, Nat.le_of_ble_eq_true rfl⟩) h rfl hl.1 rfl (Nat.le_of_ble_eq_true rfl) (dd_at ddL_law_11 90 rfl) ⟨Nat.le_trans (Nat.add_le_add_left (Nat.le_of_ble_eq_true rfl) cl) hcl, Nat.le_trans (Nat.add_le_add_left (Nat.le_of_ble_eq_true rfl) sl) hsl⟩) (fun r_10 d_9 H locs h hw => ?_)
    refine W.widen (k := cl + 60) (n := sl + 1400) (Nat.add_le_add_left (Nat.le_of_ble_eq_true rfl) cl) (Nat.add_le_add_left (Nat.le_of_ble_eq_true rfl) sl) ?_
    refine lv_istore (lv' := [(5, .int r_10), (0, .ref b), (1, .ref a1), (2, .ref a2), (3, .ref a3), (4, .int v4)]) S.1 S.2.1 (dd_at ddL_law_11 91 rfl) hl (by decide) rfl (fun ls hl => ?_)
    refine lv_aload_n S.1 S.2.1 (dd_at ddL_law_11 92 rfl) rfl (lv_at hl 3 rfl) ?_
    refine lv_aload_n S.1 S.2.1 (dd_at ddL_law_11 93 rfl) rfl (lv_at hl 1 rfl) ?_
    refine lv_iload S.1 S.2.1 (dd_at ddL_law_11 94 rfl) (lv_at hl 5 rfl) ?_
    refine lv_iconst (v := 1) S.1 S.2.1 (dd_at ddL_law_11 95 rfl) (by decide) ?_
    refine lv_iadd S.1 S.2.1 (dd_at ddL_law_11 96 rfl) ?_
    obtain ⟨hx_11, h⟩ := h
    refine va_sld S.1 S.2.1 hX hbl hbA hw.2.2.2.1 hx_11 (dd_at ddL_law_11 97 rfl) ?_
    refine lv_aload_n S.1 S.2.1 (dd_at ddL_law_11 98 rfl) rfl (lv_at hl 1 rfl) ?_
    refine lv_iload S.1 S.2.1 (dd_at ddL_law_11 99 rfl) (lv_at hl 5 rfl) ?_
    refine lv_iconst (v := 2) S.1 S.2.1 (dd_at ddL_law_12 0 rfl) (by decide) ?_
    refine lv_iadd S.1 S.2.1 (dd_at ddL_law_12 1 rfl) ?_
    obtain ⟨hx_12, h⟩ := h
    refine va_sld S.1 S.2.1 hX hbl hbA hw.2.2.2.1 hx_12 (dd_at ddL_law_12 2 rfl) ?_
    refine lv_aload_n S.1 S.2.1 (dd_at ddL_law_12 3 rfl) rfl (lv_at hl 1 rfl) ?_
    refine lv_iload S.1 S.2.1 (dd_at ddL_law_12 4 rfl) (lv_at hl 5 rfl) ?_
    refine lv_iconst (v := 3) S.1 S.2.1 (dd_at ddL_law_12 5 rfl) (by decide) ?_
    refine lv_iadd S.1 S.2.1 (dd_at ddL_law_12 6 rfl) ?_
    obtain ⟨hx_13, h⟩ := h
    refine va_sld S.1 S.2.1 hX hbl hbA hw.2.2.2.1 hx_13 (dd_at ddL_law_12 7 rfl) ?_
    refine lv_aload_n S.1 S.2.1 (dd_at ddL_law_12 8 rfl) rfl (lv_at hl 1 rfl) ?_
    refine lv_iload S.1 S.2.1 (dd_at ddL_law_12 9 rfl) (lv_at hl 5 rfl) ?_
    refine lv_iconst (v := 4) S.1 S.2.1 (dd_at ddL_law_12 10 rfl) (by decide) ?_
    refine lv_iadd S.1 S.2.1 (dd_at ddL_law_12 11 rfl) ?_
    obtain ⟨hx_14, h⟩ := h
    refine va_sld S.1 S.2.1 hX hbl hbA hw.2.2.2.1 hx_14 (dd_at ddL_law_12 12 rfl) ?_
    refine lv_if_eq (tgt := 1982) S.1 S.2.1 (dd_at ddL_law_12 13 rfl) (by decide) (fun hc_15 => ?_) (fun hc_15 => ?_)
    · have h := h.1 hc_15
      refine lv_iconst (v := 0) S.1 S.2.1 (dd_at ddL_law_12 16 rfl) (by decide) ?_
      exact tb1983 r_10 a2 (xs (v4 + 1).toNatClampNeg) (xs (v4 + 2).toNatClampNeg) (xs (v4 + 3).toNatClampNeg) 0 d_9 H locs ls h hw (lv_sub hl [1, 2, 3, 4, 5, 0] rfl)
    · have h := h.2 hc_15
      refine lv_iconst (v := 1) S.1 S.2.1 (dd_at ddL_law_12 14 rfl) (by decide) ?_
      refine lv_goto (tgt := 1983) S.1 S.2.1 (dd_at ddL_law_12 15 rfl) (by decide) ?_
      exact tb1983 r_10 a2 (xs (v4 + 1).toNatClampNeg) (xs (v4 + 2).toNatClampNeg) (xs (v4 + 3).toNatClampNeg) 1 d_9 H locs ls h hw (lv_sub hl [1, 2, 3, 4, 5, 0] rfl)
  refine lv_aload_n S.1 S.2.1 (dd_at ddL_law_11 64 rfl) rfl (lv_at hl 1 rfl) ?_
  refine lv_aload_n S.1 S.2.1 (dd_at ddL_law_11 65 rfl) rfl (lv_at hl 0 rfl) ?_
  refine lv_iload S.1 S.2.1 (dd_at ddL_law_11 66 rfl) (lv_at hl 4 rfl) ?_
  refine lv_iconst (v := 1) S.1 S.2.1 (dd_at ddL_law_11 67 rfl) (by decide) ?_
  refine lv_iadd S.1 S.2.1 (dd_at ddL_law_11 68 rfl) ?_
  obtain ⟨hx_16, h⟩ := h
  refine va_sld S.1 S.2.1 hX hbl hbA hw.2.2.2.1 hx_16 (dd_at ddL_law_11 69 rfl) ?_
  refine lv_aload_n S.1 S.2.1 (dd_at ddL_law_11 70 rfl) rfl (lv_at hl 0 rfl) ?_
  refine lv_iload S.1 S.2.1 (dd_at ddL_law_11 71 rfl) (lv_at hl 4 rfl) ?_
  refine lv_iconst (v := 2) S.1 S.2.1 (dd_at ddL_law_11 72 rfl) (by decide) ?_
  refine lv_iadd S.1 S.2.1 (dd_at ddL_law_11 73 rfl) ?_
  obtain ⟨hx_17, h⟩ := h
  refine va_sld S.1 S.2.1 hX hbl hbA hw.2.2.2.1 hx_17 (dd_at ddL_law_11 74 rfl) ?_
  refine lv_aload_n S.1 S.2.1 (dd_at ddL_law_11 75 rfl) rfl (lv_at hl 0 rfl) ?_
  refine lv_iload S.1 S.2.1 (dd_at ddL_law_11 76 rfl) (lv_at hl 4 rfl) ?_
  refine lv_iconst (v := 3) S.1 S.2.1 (dd_at ddL_law_11 77 rfl) (by decide) ?_
  refine lv_iadd S.1 S.2.1 (dd_at ddL_law_11 78 rfl) ?_
  obtain ⟨hx_18, h⟩ := h
  refine va_sld S.1 S.2.1 hX hbl hbA hw.2.2.2.1 hx_18 (dd_at ddL_law_11 79 rfl) ?_
  refine lv_aload_n S.1 S.2.1 (dd_at ddL_law_11 80 rfl) rfl (lv_at hl 0 rfl) ?_
  refine lv_iload S.1 S.2.1 (dd_at ddL_law_11 81 rfl) (lv_at hl 4 rfl) ?_
  refine lv_iconst (v := 4) S.1 S.2.1 (dd_at ddL_law_11 82 rfl) (by decide) ?_
  refine lv_iadd S.1 S.2.1 (dd_at ddL_law_11 83 rfl) ?_
  obtain ⟨hx_19, h⟩ := h
  refine va_sld S.1 S.2.1 hX hbl hbA hw.2.2.2.1 hx_19 (dd_at ddL_law_11 84 rfl) ?_
  refine lv_if_eq (tgt := 1943) S.1 S.2.1 (dd_at ddL_law_11 85 rfl) (by decide) (fun hc_20 => ?_) (fun hc_20 => ?_)
  · have h := h.1 hc_20
    refine lv_iconst (v := 0) S.1 S.2.1 (dd_at ddL_law_11 88 rfl) (by decide) ?_
    exact tb1944 a1 (xs (v4 + 1).toNatClampNeg) (xs (v4 + 2).toNatClampNeg) (xs (v4 + 3).toNatClampNeg) 0 d H locs ls h hw (lv_sub hl [0, 1, 2, 3, 4] rfl)
  · have h := h.2 hc_20
    refine lv_iconst (v := 1) S.1 S.2.1 (dd_at ddL_law_11 86 rfl) (by decide) ?_
    refine lv_goto (tgt := 1944) S.1 S.2.1 (dd_at ddL_law_11 87 rfl) (by decide) ?_
    exact tb1944 a1 (xs (v4 + 1).toNatClampNeg) (xs (v4 + 2).toNatClampNeg) (xs (v4 + 3).toNatClampNeg) 1 d H locs ls h hw (lv_sub hl [0, 1, 2, 3, 4] rfl)

def lw_2019 (E : En) (a1 a2 a3 : Nat) (v4 : Int32) (xs : Nat → Int32) (L : Nat) (kc : En → Dy → Prop) (d : Dy) : Prop := okO E a1 10 ∧ okO E a2 11 ∧ okA E a3 14 ∧ vp_in (v4 + 1) L ∧ vp_in (v4 + 2) L ∧ vp_in (v4 + 3) L ∧ w_L_line E a1 (xs (v4 + 1).toNatClampNeg) (xs (v4 + 2).toNatClampNeg) (xs (v4 + 3).toNatClampNeg) d (fun r_5 d_4 => vp_in (v4 + 1) L ∧ vp_in (v4 + 2) L ∧ vp_in (v4 + 3) L ∧ w_X11_line E a2 (xs (v4 + 1).toNatClampNeg) (xs (v4 + 2).toNatClampNeg) (xs (v4 + 3).toNatClampNeg) d_4 (fun d_9 => w_X11_thrown E a2 d_9 (fun r_12 d_11 => ((r_12 = r_5 → kc E d_11) ∧ (¬ r_12 = r_5 → False)))))
set_option maxRecDepth 100000 in
set_option maxHeartbeats 4000000 in
theorem lc_2019 {p : Program} {l : Launch} {e : Env} {s : State} {m : MethodId} {below : List Frame} {meth : Method} {c : Code} {Q : State → Prop} {D : va_G} {cs : Nat → ClassId} {b L : Nat} {xs : Nat → Int32} {T0 : Cond} (hst : l.stackTraces = false) (S : CallFix p m c cL_law 7 s #[Value.ref b] (T0 :: wsL_law) RL) (hX : va_X b L xs s s.heap) (hbl : b < s.heap.size) {E : En} {a1 a2 a3 : Nat} {v4 : Int32} {d : Dy} {H : Heap} {locs : List Loc} {ls : Array Slot} {cl sl : Nat} {kc : En → Dy → Prop} (hcl : cl + 60 ≤ 634061) (hsl : sl + 1400 ≤ 7193921)
    (hk : ∀ (E9 : En) (d9 : Dy) (H : Heap) (locs : List Loc) (ls : Array Slot), kc E9 d9 → Wd D cs (fun q => s.heap.size ≤ q) s.heap s E9 d9 H locs → lv_has ls 7 [(0, .ref b), (1, .ref a1), (2, .ref a2), (3, .ref a3), (4, .int v4)] → W p l e room_1 s m #[Value.ref b] below meth c H locs (cl + 60) (sl + 1400) Q (F0 m 3051 ls [])) (h : lw_2019 E a1 a2 a3 v4 xs L kc d) (hw : Wd D cs (fun q => s.heap.size ≤ q) s.heap s E d H locs) (hl : lv_has ls 7 [(0, .ref b), (1, .ref a1), (2, .ref a2), (3, .ref a3), (4, .int v4)]) : W p l e room_1 s m #[Value.ref b] below meth c H locs cl sl Q (F0 m 2019 ls []) := by
  have hbA : ¬ (fun q : Nat => s.heap.size ≤ q) b := Nat.not_le.mpr hbl
  unfold lw_2019 at h
  obtain ⟨ha1, ha2, ha3, h⟩ := h
  refine lv_aload_n S.1 S.2.1 (dd_at ddL_law_12 37 rfl) rfl (lv_at hl 1 rfl) ?_
  refine lv_aload_n S.1 S.2.1 (dd_at ddL_law_12 38 rfl) rfl (lv_at hl 0 rfl) ?_
  refine lv_iload S.1 S.2.1 (dd_at ddL_law_12 39 rfl) (lv_at hl 4 rfl) ?_
  refine lv_iconst (v := 1) S.1 S.2.1 (dd_at ddL_law_12 40 rfl) (by decide) ?_
  refine lv_iadd S.1 S.2.1 (dd_at ddL_law_12 41 rfl) ?_
  obtain ⟨hx_1, h⟩ := h
  refine va_sld S.1 S.2.1 hX hbl hbA hw.2.2.2.1 hx_1 (dd_at ddL_law_12 42 rfl) ?_
  refine lv_aload_n S.1 S.2.1 (dd_at ddL_law_12 43 rfl) rfl (lv_at hl 0 rfl) ?_
  refine lv_iload S.1 S.2.1 (dd_at ddL_law_12 44 rfl) (lv_at hl 4 rfl) ?_
  refine lv_iconst (v := 2) S.1 S.2.1 (dd_at ddL_law_12 45 rfl) (by decide) ?_
  refine lv_iadd S.1 S.2.1 (dd_at ddL_law_12 46 rfl) ?_
  obtain ⟨hx_2, h⟩ := h
  refine va_sld S.1 S.2.1 hX hbl hbA hw.2.2.2.1 hx_2 (dd_at ddL_law_12 47 rfl) ?_
  refine lv_aload_n S.1 S.2.1 (dd_at ddL_law_12 48 rfl) rfl (lv_at hl 0 rfl) ?_
  refine lv_iload S.1 S.2.1 (dd_at ddL_law_12 49 rfl) (lv_at hl 4 rfl) ?_
  refine lv_iconst (v := 3) S.1 S.2.1 (dd_at ddL_law_12 50 rfl) (by decide) ?_
  refine lv_iadd S.1 S.2.1 (dd_at ddL_law_12 51 rfl) ?_
  obtain ⟨hx_3, h⟩ := h
  refine va_sld S.1 S.2.1 hX hbl hbA hw.2.2.2.1 hx_3 (dd_at ddL_law_12 52 rfl) ?_
  refine r_callI hw (r_runSW (As := [.ref a1, .int (xs (v4 + 1).toNatClampNeg), .int (xs (v4 + 2).toNatClampNeg), .int (xs (v4 + 3).toNatClampNeg)]) (rest := []) S hw (m_L_line l hst D cs E d H.size a1 (xs (v4 + 1).toNatClampNeg) (xs (v4 + 2).toNatClampNeg) (xs (v4 + 3).toNatClampNeg) _) (vx_cwSW 4 S.2.2.2.2 (gSW wg1242 wg1243 wg221 wg1244) rfl rfl rfl (by decide +kernel) ⟨Nat.le_of_ble_eq_true rfl, Nat.le_of_ble_eq_true rfl⟩) h rfl hl.1 rfl (Nat.le_of_ble_eq_true rfl) (dd_at ddL_law_12 53 rfl) ⟨Nat.le_trans (Nat.add_le_add_left (Nat.le_of_ble_eq_true rfl) cl) hcl, Nat.le_trans (Nat.add_le_add_left (Nat.le_of_ble_eq_true rfl) sl) hsl⟩) (fun r_5 d_4 H locs h hw => ?_)
  refine W.widen (k := cl + 60) (n := sl + 1400) (Nat.add_le_add_left (Nat.le_of_ble_eq_true rfl) cl) (Nat.add_le_add_left (Nat.le_of_ble_eq_true rfl) sl) ?_
  refine lv_istore (lv' := [(5, .int r_5), (0, .ref b), (1, .ref a1), (2, .ref a2), (3, .ref a3), (4, .int v4)]) S.1 S.2.1 (dd_at ddL_law_12 54 rfl) hl (by decide) rfl (fun ls hl => ?_)
  refine lv_aload_n S.1 S.2.1 (dd_at ddL_law_12 55 rfl) rfl (lv_at hl 3 rfl) ?_
  refine lv_aload_n S.1 S.2.1 (dd_at ddL_law_12 56 rfl) rfl (lv_at hl 1 rfl) ?_
  refine lv_iload S.1 S.2.1 (dd_at ddL_law_12 57 rfl) (lv_at hl 5 rfl) ?_
  refine lv_iconst (v := 1) S.1 S.2.1 (dd_at ddL_law_12 58 rfl) (by decide) ?_
  refine lv_iadd S.1 S.2.1 (dd_at ddL_law_12 59 rfl) ?_
  obtain ⟨hx_6, h⟩ := h
  refine va_sld S.1 S.2.1 hX hbl hbA hw.2.2.2.1 hx_6 (dd_at ddL_law_12 60 rfl) ?_
  refine lv_aload_n S.1 S.2.1 (dd_at ddL_law_12 61 rfl) rfl (lv_at hl 1 rfl) ?_
  refine lv_iload S.1 S.2.1 (dd_at ddL_law_12 62 rfl) (lv_at hl 5 rfl) ?_
  refine lv_iconst (v := 2) S.1 S.2.1 (dd_at ddL_law_12 63 rfl) (by decide) ?_
  refine lv_iadd S.1 S.2.1 (dd_at ddL_law_12 64 rfl) ?_
  obtain ⟨hx_7, h⟩ := h
  refine va_sld S.1 S.2.1 hX hbl hbA hw.2.2.2.1 hx_7 (dd_at ddL_law_12 65 rfl) ?_
  refine lv_aload_n S.1 S.2.1 (dd_at ddL_law_12 66 rfl) rfl (lv_at hl 1 rfl) ?_
  refine lv_iload S.1 S.2.1 (dd_at ddL_law_12 67 rfl) (lv_at hl 5 rfl) ?_
  refine lv_iconst (v := 3) S.1 S.2.1 (dd_at ddL_law_12 68 rfl) (by decide) ?_
  refine lv_iadd S.1 S.2.1 (dd_at ddL_law_12 69 rfl) ?_
  obtain ⟨hx_8, h⟩ := h
  refine va_sld S.1 S.2.1 hX hbl hbA hw.2.2.2.1 hx_8 (dd_at ddL_law_12 70 rfl) ?_
  refine r_callV hw (r_runV (As := [.int (xs (v4 + 1).toNatClampNeg), .int (xs (v4 + 2).toNatClampNeg), .int (xs (v4 + 3).toNatClampNeg)]) (rest := []) S hw (m_X11_line l D cs E d_4 H.size a2 (xs (v4 + 1).toNatClampNeg) (xs (v4 + 2).toNatClampNeg) (xs (v4 + 3).toNatClampNeg) _) (cwV 3 S.2.2.2.2 (gV wg1249 wg1250 wg1251 wg5 wg1252) rfl rfl rfl (by decide +kernel) ⟨Nat.le_of_ble_eq_true rfl, Nat.le_of_ble_eq_true rfl⟩) (ci := 11) rfl ha2 h rfl hl.1 rfl (Nat.le_of_ble_eq_true rfl) (dd_at ddL_law_12 71 rfl) ⟨hcl, hsl⟩) (fun d_9 H locs h hw => ?_)
  refine lv_aload_n S.1 S.2.1 (dd_at ddL_law_12 72 rfl) rfl (lv_at hl 3 rfl) ?_
  refine r_callI hw (r_runV (As := []) (rest := []) S hw (m_X11_thrown l D cs E d_9 H.size a2 _) (cwV 0 S.2.2.2.2 (gV wg506 wg507 wg508 wg5 wg509) rfl rfl rfl (by decide +kernel) ⟨Nat.le_of_ble_eq_true rfl, Nat.le_of_ble_eq_true rfl⟩) (ci := 11) rfl ha2 h rfl hl.1 rfl (Nat.le_of_ble_eq_true rfl) (dd_at ddL_law_12 73 rfl) ⟨hcl, hsl⟩) (fun r_12 d_11 H locs h hw => ?_)
  refine lv_iload S.1 S.2.1 (dd_at ddL_law_12 74 rfl) (lv_at hl 0 rfl) ?_
  refine lv_icmp_eq (tgt := 2076) S.1 S.2.1 (dd_at ddL_law_12 75 rfl) (by decide) (fun hc_13 => ?_) (fun hc_13 => ?_)
  · have h := h.1 hc_13
    refine lv_goto (tgt := 3051) S.1 S.2.1 (dd_at ddL_law_12 78 rfl) (by decide) ?_
    exact hk _ _ _ _ _ h hw (lv_sub hl [1, 2, 3, 4, 5] rfl)
  · have h := h.2 hc_13
    refine lv_iconst (v := 0) S.1 S.2.1 (dd_at ddL_law_12 76 rfl) (by decide) ?_
    exact absurd h id

def lw_2079 (E : En) (a1 a2 a3 : Nat) (v4 : Int32) (xs : Nat → Int32) (L : Nat) (kc : En → Dy → Prop) (d : Dy) : Prop := okO E a1 10 ∧ okO E a2 11 ∧ okA E a3 14 ∧ vp_in (v4 + 1) L ∧ vp_in (v4 + 2) L ∧ w_L_storm E a1 (xs (v4 + 1).toNatClampNeg) (xs (v4 + 2).toNatClampNeg) a3 d (fun r_4 d_3 => vp_in (v4 + 1) L ∧ vp_in (v4 + 2) L ∧ w_X11_storm E a2 (xs (v4 + 1).toNatClampNeg) (xs (v4 + 2).toNatClampNeg) d_3 (fun r_8 d_7 => w_X11_thrown E a2 d_7 (fun r_10 d_9 => ((r_10 = r_4 → ((¬ r_4 = 0 → kc E d_9) ∧ (r_4 = 0 → vp_in 0 (eN E a3) ∧ (((lg_cmp (gJ d_9 a3 ((0 : Int32)).toNatClampNeg) r_8.toInt64) = 0 → kc E d_9) ∧ (¬ (lg_cmp (gJ d_9 a3 ((0 : Int32)).toNatClampNeg) r_8.toInt64) = 0 → False))))) ∧ (¬ r_10 = r_4 → False)))))
set_option maxRecDepth 100000 in
set_option maxHeartbeats 4000000 in
theorem lc_2079 {p : Program} {l : Launch} {e : Env} {s : State} {m : MethodId} {below : List Frame} {meth : Method} {c : Code} {Q : State → Prop} {D : va_G} {cs : Nat → ClassId} {b L : Nat} {xs : Nat → Int32} {T0 : Cond} (hst : l.stackTraces = false) (S : CallFix p m c cL_law 7 s #[Value.ref b] (T0 :: wsL_law) RL) (hX : va_X b L xs s s.heap) (hbl : b < s.heap.size) {E : En} {a1 a2 a3 : Nat} {v4 : Int32} {d : Dy} {H : Heap} {locs : List Loc} {ls : Array Slot} {cl sl : Nat} {kc : En → Dy → Prop} (hcl : cl + 60 ≤ 634061) (hsl : sl + 1400 ≤ 7193921)
    (hk : ∀ (E9 : En) (d9 : Dy) (H : Heap) (locs : List Loc) (ls : Array Slot), kc E9 d9 → Wd D cs (fun q => s.heap.size ≤ q) s.heap s E9 d9 H locs → lv_has ls 7 [(0, .ref b), (1, .ref a1), (2, .ref a2), (3, .ref a3), (4, .int v4)] → W p l e room_1 s m #[Value.ref b] below meth c H locs (cl + 60) (sl + 1400) Q (F0 m 3051 ls [])) (h : lw_2079 E a1 a2 a3 v4 xs L kc d) (hw : Wd D cs (fun q => s.heap.size ≤ q) s.heap s E d H locs) (hl : lv_has ls 7 [(0, .ref b), (1, .ref a1), (2, .ref a2), (3, .ref a3), (4, .int v4)]) : W p l e room_1 s m #[Value.ref b] below meth c H locs cl sl Q (F0 m 2079 ls []) := by
  have hbA : ¬ (fun q : Nat => s.heap.size ≤ q) b := Nat.not_le.mpr hbl
  unfold lw_2079 at h
  obtain ⟨ha1, ha2, ha3, h⟩ := h
  refine lv_aload_n S.1 S.2.1 (dd_at ddL_law_12 79 rfl) rfl (lv_at hl 1 rfl) ?_
  refine lv_aload_n S.1 S.2.1 (dd_at ddL_law_12 80 rfl) rfl (lv_at hl 0 rfl) ?_
  refine lv_iload S.1 S.2.1 (dd_at ddL_law_12 81 rfl) (lv_at hl 4 rfl) ?_
  refine lv_iconst (v := 1) S.1 S.2.1 (dd_at ddL_law_12 82 rfl) (by decide) ?_
  refine lv_iadd S.1 S.2.1 (dd_at ddL_law_12 83 rfl) ?_
  obtain ⟨hx_1, h⟩ := h
  refine va_sld S.1 S.2.1 hX hbl hbA hw.2.2.2.1 hx_1 (dd_at ddL_law_12 84 rfl) ?_
  refine lv_aload_n S.1 S.2.1 (dd_at ddL_law_12 85 rfl) rfl (lv_at hl 0 rfl) ?_
  refine lv_iload S.1 S.2.1 (dd_at ddL_law_12 86 rfl) (lv_at hl 4 rfl) ?_
  refine lv_iconst (v := 2) S.1 S.2.1 (dd_at ddL_law_12 87 rfl) (by decide) ?_
  refine lv_iadd S.1 S.2.1 (dd_at ddL_law_12 88 rfl) ?_
  obtain ⟨hx_2, h⟩ := h
  refine va_sld S.1 S.2.1 hX hbl hbA hw.2.2.2.1 hx_2 (dd_at ddL_law_12 89 rfl) ?_
  refine lv_aload_n S.1 S.2.1 (dd_at ddL_law_12 90 rfl) rfl (lv_at hl 3 rfl) ?_
  refine r_callI hw (r_runSW (As := [.ref a1, .int (xs (v4 + 1).toNatClampNeg), .int (xs (v4 + 2).toNatClampNeg), .ref a3]) (rest := []) S hw (m_L_storm l hst D cs E d H.size a1 (xs (v4 + 1).toNatClampNeg) (xs (v4 + 2).toNatClampNeg) a3 _) (vx_cwSW 4 S.2.2.2.2 (gSW wg1253 wg1254 wg221 wg1255) rfl rfl rfl (by decide +kernel) ⟨Nat.le_of_ble_eq_true rfl, Nat.le_of_ble_eq_true rfl⟩) h rfl hl.1 rfl (Nat.le_of_ble_eq_true rfl) (dd_at ddL_law_12 91 rfl) ⟨Nat.le_trans (Nat.add_le_add_left (Nat.le_of_ble_eq_true rfl) cl) hcl, Nat.le_trans (Nat.add_le_add_left (Nat.le_of_ble_eq_true rfl) sl) hsl⟩) (fun r_4 d_3 H locs h hw => ?_)
  refine W.widen (k := cl + 60) (n := sl + 1400) (Nat.add_le_add_left (Nat.le_of_ble_eq_true rfl) cl) (Nat.add_le_add_left (Nat.le_of_ble_eq_true rfl) sl) ?_
  refine lv_istore (lv' := [(5, .int r_4), (0, .ref b), (1, .ref a1), (2, .ref a2), (3, .ref a3), (4, .int v4)]) S.1 S.2.1 (dd_at ddL_law_12 92 rfl) hl (by decide) rfl (fun ls hl => ?_)
  refine lv_aload_n S.1 S.2.1 (dd_at ddL_law_12 93 rfl) rfl (lv_at hl 3 rfl) ?_
  refine lv_aload_n S.1 S.2.1 (dd_at ddL_law_12 94 rfl) rfl (lv_at hl 1 rfl) ?_
  refine lv_iload S.1 S.2.1 (dd_at ddL_law_12 95 rfl) (lv_at hl 5 rfl) ?_
  refine lv_iconst (v := 1) S.1 S.2.1 (dd_at ddL_law_12 96 rfl) (by decide) ?_
  refine lv_iadd S.1 S.2.1 (dd_at ddL_law_12 97 rfl) ?_
  obtain ⟨hx_5, h⟩ := h
  refine va_sld S.1 S.2.1 hX hbl hbA hw.2.2.2.1 hx_5 (dd_at ddL_law_12 98 rfl) ?_
  refine lv_aload_n S.1 S.2.1 (dd_at ddL_law_12 99 rfl) rfl (lv_at hl 1 rfl) ?_
  refine lv_iload S.1 S.2.1 (dd_at ddL_law_13 0 rfl) (lv_at hl 5 rfl) ?_
  refine lv_iconst (v := 2) S.1 S.2.1 (dd_at ddL_law_13 1 rfl) (by decide) ?_
  refine lv_iadd S.1 S.2.1 (dd_at ddL_law_13 2 rfl) ?_
  obtain ⟨hx_6, h⟩ := h
  refine va_sld S.1 S.2.1 hX hbl hbA hw.2.2.2.1 hx_6 (dd_at ddL_law_13 3 rfl) ?_
  refine r_callI hw (r_runV (As := [.int (xs (v4 + 1).toNatClampNeg), .int (xs (v4 + 2).toNatClampNeg)]) (rest := []) S hw (m_X11_storm l D cs E d_3 H.size a2 (xs (v4 + 1).toNatClampNeg) (xs (v4 + 2).toNatClampNeg) _) (cwV 2 S.2.2.2.2 (gV wg1260 wg1261 wg1262 wg5 wg1263) rfl rfl rfl (by decide +kernel) ⟨Nat.le_of_ble_eq_true rfl, Nat.le_of_ble_eq_true rfl⟩) (ci := 11) rfl ha2 h rfl hl.1 rfl (Nat.le_of_ble_eq_true rfl) (dd_at ddL_law_13 4 rfl) ⟨hcl, hsl⟩) (fun r_8 d_7 H locs h hw => ?_)
  refine lv_istore (lv' := [(6, .int r_8), (5, .int r_4), (0, .ref b), (1, .ref a1), (2, .ref a2), (3, .ref a3), (4, .int v4)]) S.1 S.2.1 (dd_at ddL_law_13 5 rfl) hl (by decide) rfl (fun ls hl => ?_)
  refine lv_aload_n S.1 S.2.1 (dd_at ddL_law_13 6 rfl) rfl (lv_at hl 4 rfl) ?_
  refine r_callI hw (r_runV (As := []) (rest := []) S hw (m_X11_thrown l D cs E d_7 H.size a2 _) (cwV 0 S.2.2.2.2 (gV wg506 wg507 wg508 wg5 wg509) rfl rfl rfl (by decide +kernel) ⟨Nat.le_of_ble_eq_true rfl, Nat.le_of_ble_eq_true rfl⟩) (ci := 11) rfl ha2 h rfl hl.1 rfl (Nat.le_of_ble_eq_true rfl) (dd_at ddL_law_13 7 rfl) ⟨hcl, hsl⟩) (fun r_10 d_9 H locs h hw => ?_)
  refine lv_iload S.1 S.2.1 (dd_at ddL_law_13 8 rfl) (lv_at hl 1 rfl) ?_
  refine lv_icmp_eq (tgt := 2127) S.1 S.2.1 (dd_at ddL_law_13 9 rfl) (by decide) (fun hc_11 => ?_) (fun hc_11 => ?_)
  · have h := h.1 hc_11
    refine lv_iload S.1 S.2.1 (dd_at ddL_law_13 12 rfl) (lv_at hl 1 rfl) ?_
    refine lv_if_ne (tgt := 2144) S.1 S.2.1 (dd_at ddL_law_13 13 rfl) (by decide) (fun hc_12 => ?_) (fun hc_12 => ?_)
    · have h := h.1 hc_12
      refine lv_goto (tgt := 3051) S.1 S.2.1 (dd_at ddL_law_13 23 rfl) (by decide) ?_
      exact hk _ _ _ _ _ h hw (lv_sub hl [2, 3, 4, 5, 6] rfl)
    · have h := h.2 hc_12
      refine lv_aload_n S.1 S.2.1 (dd_at ddL_law_13 14 rfl) rfl (lv_at hl 5 rfl) ?_
      refine lv_iconst (v := 0) S.1 S.2.1 (dd_at ddL_law_13 15 rfl) (by decide) ?_
      obtain ⟨hx_13, h⟩ := h
      refine r_lald S hw ha3 hx_13 (dd_at ddL_law_13 16 rfl) ?_
      refine lv_iload S.1 S.2.1 (dd_at ddL_law_13 17 rfl) (lv_at hl 0 rfl) ?_
      refine lv_i2l S.1 S.2.1 (dd_at ddL_law_13 18 rfl) rfl ?_
      refine W.lcmp S.1 S.2.1 (dd_at ddL_law_13 19 rfl) ?_
      refine lv_if_eq (tgt := 2144) S.1 S.2.1 (dd_at ddL_law_13 20 rfl) (by decide) (fun hc_14 => ?_) (fun hc_14 => ?_)
      · have h := h.1 hc_14
        refine lv_goto (tgt := 3051) S.1 S.2.1 (dd_at ddL_law_13 23 rfl) (by decide) ?_
        exact hk _ _ _ _ _ h hw (lv_sub hl [2, 3, 4, 5, 6] rfl)
      · have h := h.2 hc_14
        refine lv_iconst (v := 0) S.1 S.2.1 (dd_at ddL_law_13 21 rfl) (by decide) ?_
        exact absurd h id
  · have h := h.2 hc_11
    refine lv_iconst (v := 0) S.1 S.2.1 (dd_at ddL_law_13 10 rfl) (by decide) ?_
    exact absurd h id

def b_Lw_2207 (E : En) (a1 a2 a3 : Nat) (v4 : Int32) (xs : Nat → Int32) (L : Nat) (kc : En → Dy → Prop) (v5 : Int32) (s0 : Nat) (s1 : Int32) (s2 : Int32) (s3 : Int32) (d : Dy) : Prop := okO E s0 11 ∧ w_X11_sea E s0 s1 s2 s3 d (fun r_2 d_1 => w_X11_thrown E a2 d_1 (fun r_4 d_3 => ((r_4 = v5 → ((¬ v5 = 0 → kc E d_3) ∧ (v5 = 0 → vp_in 0 (eN E a3) ∧ (((lg_cmp (gJ d_3 a3 ((0 : Int32)).toNatClampNeg) r_2.toInt64) = 0 → kc E d_3) ∧ (¬ (lg_cmp (gJ d_3 a3 ((0 : Int32)).toNatClampNeg) r_2.toInt64) = 0 → False))))) ∧ (¬ r_4 = v5 → False))))
def b_Lw_2174 (E : En) (a1 a2 a3 : Nat) (v4 : Int32) (xs : Nat → Int32) (L : Nat) (kc : En → Dy → Prop) (s0 : Nat) (s1 : Int32) (s2 : Int32) (s3 : Int32) (d : Dy) : Prop := okO E s0 10 ∧ w_L_sea E s0 s1 s2 s3 a3 d (fun r_10 d_9 => vp_in (v4 + 1) L ∧ vp_in (v4 + 2) L ∧ vp_in (v4 + 3) L ∧ (((xs (v4 + 3).toNatClampNeg) = 0 → b_Lw_2207 E a1 a2 a3 v4 xs L kc r_10 a2 (xs (v4 + 1).toNatClampNeg) (xs (v4 + 2).toNatClampNeg) 0 d_9) ∧ (¬ (xs (v4 + 3).toNatClampNeg) = 0 → b_Lw_2207 E a1 a2 a3 v4 xs L kc r_10 a2 (xs (v4 + 1).toNatClampNeg) (xs (v4 + 2).toNatClampNeg) 1 d_9)))
def lw_2147 (E : En) (a1 a2 a3 : Nat) (v4 : Int32) (xs : Nat → Int32) (L : Nat) (kc : En → Dy → Prop) (d : Dy) : Prop := okO E a1 10 ∧ okO E a2 11 ∧ okA E a3 14 ∧ vp_in (v4 + 1) L ∧ vp_in (v4 + 2) L ∧ vp_in (v4 + 3) L ∧ (((xs (v4 + 3).toNatClampNeg) = 0 → b_Lw_2174 E a1 a2 a3 v4 xs L kc a1 (xs (v4 + 1).toNatClampNeg) (xs (v4 + 2).toNatClampNeg) 0 d) ∧ (¬ (xs (v4 + 3).toNatClampNeg) = 0 → b_Lw_2174 E a1 a2 a3 v4 xs L kc a1 (xs (v4 + 1).toNatClampNeg) (xs (v4 + 2).toNatClampNeg) 1 d))
set_option maxRecDepth 100000 in
set_option maxHeartbeats 4000000 in
theorem lc_2147 {p : Program} {l : Launch} {e : Env} {s : State} {m : MethodId} {below : List Frame} {meth : Method} {c : Code} {Q : State → Prop} {D : va_G} {cs : Nat → ClassId} {b L : Nat} {xs : Nat → Int32} {T0 : Cond} (hst : l.stackTraces = false) (S : CallFix p m c cL_law 7 s #[Value.ref b] (T0 :: wsL_law) RL) (hX : va_X b L xs s s.heap) (hbl : b < s.heap.size) {E : En} {a1 a2 a3 : Nat} {v4 : Int32} {d : Dy} {H : Heap} {locs : List Loc} {ls : Array Slot} {cl sl : Nat} {kc : En → Dy → Prop} (hcl : cl + 60 ≤ 634061) (hsl : sl + 1400 ≤ 7193921)
    (hk : ∀ (E9 : En) (d9 : Dy) (H : Heap) (locs : List Loc) (ls : Array Slot), kc E9 d9 → Wd D cs (fun q => s.heap.size ≤ q) s.heap s E9 d9 H locs → lv_has ls 7 [(0, .ref b), (1, .ref a1), (2, .ref a2), (3, .ref a3), (4, .int v4)] → W p l e room_1 s m #[Value.ref b] below meth c H locs (cl + 60) (sl + 1400) Q (F0 m 3051 ls [])) (h : lw_2147 E a1 a2 a3 v4 xs L kc d) (hw : Wd D cs (fun q => s.heap.size ≤ q) s.heap s E d H locs) (hl : lv_has ls 7 [(0, .ref b), (1, .ref a1), (2, .ref a2), (3, .ref a3), (4, .int v4)]) : W p l e room_1 s m #[Value.ref b] below meth c H locs cl sl Q (F0 m 2147 ls []) := by
  have hbA : ¬ (fun q : Nat => s.heap.size ≤ q) b := Nat.not_le.mpr hbl
  unfold lw_2147 at h
  obtain ⟨ha1, ha2, ha3, h⟩ := h
  have tb2207 : ∀ (v5 : Int32) (s0 : Nat) (s1 : Int32) (s2 : Int32) (s3 : Int32) (d : Dy) (H : Heap) (locs : List Loc) (ls : Array Slot), b_Lw_2207 E a1 a2 a3 v4 xs L kc v5 s0 s1 s2 s3 d → Wd D cs (fun q => s.heap.size ≤ q) s.heap s E d H locs → lv_has ls 7 [(0, .ref b), (1, .ref a1), (2, .ref a2), (3, .ref a3), (4, .int v4), (5, .int v5)] → W p l e room_1 s m #[Value.ref b] below meth c H locs (cl + 60) (sl + 1400) Q (F0 m 2207 ls [.int s3, .int s2, .int s1, .ref s0]) := by
    intro v5 s0 s1 s2 s3 d H locs ls h hw hl
    unfold b_Lw_2207 at h
    obtain ⟨hos0, h⟩ := h
    refine r_callI hw (r_runV (As := [.int s1, .int s2, .int s3]) (rest := []) S hw (m_X11_sea l D cs E d H.size s0 s1 s2 s3 _) (cwV 3 S.2.2.2.2 (gV wg1295 wg1296 wg1297 wg5 wg1298) rfl rfl rfl (by decide +kernel) ⟨Nat.le_of_ble_eq_true rfl, Nat.le_of_ble_eq_true rfl⟩) (ci := 11) rfl hos0 h rfl hl.1 rfl (Nat.le_of_ble_eq_true rfl) (dd_at ddL_law_13 67 rfl) ⟨hcl, hsl⟩) (fun r_2 d_1 H locs h hw => ?_)
    refine lv_istore (lv' := [(6, .int r_2), (0, .ref b), (1, .ref a1), (2, .ref a2), (3, .ref a3), (4, .int v4), (5, .int v5)]) S.1 S.2.1 (dd_at ddL_law_13 68 rfl) hl (by decide) rfl (fun ls hl => ?_)
    refine lv_aload_n S.1 S.2.1 (dd_at ddL_law_13 69 rfl) rfl (lv_at hl 3 rfl) ?_
    refine r_callI hw (r_runV (As := []) (rest := []) S hw (m_X11_thrown l D cs E d_1 H.size a2 _) (cwV 0 S.2.2.2.2 (gV wg506 wg507 wg508 wg5 wg509) rfl rfl rfl (by decide +kernel) ⟨Nat.le_of_ble_eq_true rfl, Nat.le_of_ble_eq_true rfl⟩) (ci := 11) rfl ha2 h rfl hl.1 rfl (Nat.le_of_ble_eq_true rfl) (dd_at ddL_law_13 70 rfl) ⟨hcl, hsl⟩) (fun r_4 d_3 H locs h hw => ?_)
    refine lv_iload S.1 S.2.1 (dd_at ddL_law_13 71 rfl) (lv_at hl 6 rfl) ?_
    refine lv_icmp_eq (tgt := 2223) S.1 S.2.1 (dd_at ddL_law_13 72 rfl) (by decide) (fun hc_5 => ?_) (fun hc_5 => ?_)
    · have h := h.1 hc_5
      refine lv_iload S.1 S.2.1 (dd_at ddL_law_13 75 rfl) (lv_at hl 6 rfl) ?_
      refine lv_if_ne (tgt := 2240) S.1 S.2.1 (dd_at ddL_law_13 76 rfl) (by decide) (fun hc_6 => ?_) (fun hc_6 => ?_)
      · have h := h.1 hc_6
        refine lv_goto (tgt := 3051) S.1 S.2.1 (dd_at ddL_law_13 86 rfl) (by decide) ?_
        exact hk _ _ _ _ _ h hw (lv_sub hl [1, 2, 3, 4, 5] rfl)
      · have h := h.2 hc_6
        refine lv_aload_n S.1 S.2.1 (dd_at ddL_law_13 77 rfl) rfl (lv_at hl 4 rfl) ?_
        refine lv_iconst (v := 0) S.1 S.2.1 (dd_at ddL_law_13 78 rfl) (by decide) ?_
        obtain ⟨hx_7, h⟩ := h
        refine r_lald S hw ha3 hx_7 (dd_at ddL_law_13 79 rfl) ?_
        refine lv_iload S.1 S.2.1 (dd_at ddL_law_13 80 rfl) (lv_at hl 0 rfl) ?_
        refine lv_i2l S.1 S.2.1 (dd_at ddL_law_13 81 rfl) rfl ?_
        refine W.lcmp S.1 S.2.1 (dd_at ddL_law_13 82 rfl) ?_
        refine lv_if_eq (tgt := 2240) S.1 S.2.1 (dd_at ddL_law_13 83 rfl) (by decide) (fun hc_8 => ?_) (fun hc_8 => ?_)
        · have h := h.1 hc_8
          refine lv_goto (tgt := 3051) S.1 S.2.1 (dd_at ddL_law_13 86 rfl) (by decide) ?_
          exact hk _ _ _ _ _ h hw (lv_sub hl [1, 2, 3, 4, 5] rfl)
        · have h := h.2 hc_8
          refine lv_iconst (v := 0) S.1 S.2.1 (dd_at ddL_law_13 84 rfl) (by decide) ?_
          exact absurd h id
    · have h := h.2 hc_5
      refine lv_iconst (v := 0) S.1 S.2.1 (dd_at ddL_law_13 73 rfl) (by decide) ?_
      exact absurd h id
  have tb2174 : ∀ (s0 : Nat) (s1 : Int32) (s2 : Int32) (s3 : Int32) (d : Dy) (H : Heap) (locs : List Loc) (ls : Array Slot), b_Lw_2174 E a1 a2 a3 v4 xs L kc s0 s1 s2 s3 d → Wd D cs (fun q => s.heap.size ≤ q) s.heap s E d H locs → lv_has ls 7 [(0, .ref b), (1, .ref a1), (2, .ref a2), (3, .ref a3), (4, .int v4)] → W p l e room_1 s m #[Value.ref b] below meth c H locs cl sl Q (F0 m 2174 ls [.int s3, .int s2, .int s1, .ref s0]) := by
    intro s0 s1 s2 s3 d H locs ls h hw hl
    unfold b_Lw_2174 at h
    obtain ⟨hos0, h⟩ := h
    refine lv_aload_n S.1 S.2.1 (dd_at ddL_law_13 44 rfl) rfl (lv_at hl 3 rfl) ?_
    refine r_callI hw (r_runSW (As := [.ref s0, .int s1, .int s2, .int s3, .ref a3]) (rest := []) S hw (m_L_sea l hst D cs E d H.size s0 s1 s2 s3 a3 _) (vx_cwSW 5 S.2.2.2.2 (gSW wg1264 wg1265 wg221 wg1266) rfl rfl rfl (by decide +kernel) ⟨Nat.le_of_ble_eq_true rfl, Nat.le_of_ble_eq_true rfl⟩) h rfl hl.1 rfl (Nat.le_of_ble_eq_true rfl) (dd_at ddL_law_13 45 rfl) ⟨Nat.le_trans (Nat.add_le_add_left (Nat.le_of_ble_eq_true rfl) cl) hcl, Nat.le_trans (Nat.add_le_add_left (Nat.le_of_ble_eq_true rfl) sl) hsl⟩) (fun r_10 d_9 H locs h hw => ?_)
    refine W.widen (k := cl + 60) (n := sl + 1400) (Nat.add_le_add_left (Nat.le_of_ble_eq_true rfl) cl) (Nat.add_le_add_left (Nat.le_of_ble_eq_true rfl) sl) ?_
    refine lv_istore (lv' := [(5, .int r_10), (0, .ref b), (1, .ref a1), (2, .ref a2), (3, .ref a3), (4, .int v4)]) S.1 S.2.1 (dd_at ddL_law_13 46 rfl) hl (by decide) rfl (fun ls hl => ?_)
    refine lv_aload_n S.1 S.2.1 (dd_at ddL_law_13 47 rfl) rfl (lv_at hl 3 rfl) ?_
    refine lv_aload_n S.1 S.2.1 (dd_at ddL_law_13 48 rfl) rfl (lv_at hl 1 rfl) ?_
    refine lv_iload S.1 S.2.1 (dd_at ddL_law_13 49 rfl) (lv_at hl 5 rfl) ?_
    refine lv_iconst (v := 1) S.1 S.2.1 (dd_at ddL_law_13 50 rfl) (by decide) ?_
    refine lv_iadd S.1 S.2.1 (dd_at ddL_law_13 51 rfl) ?_
    obtain ⟨hx_11, h⟩ := h
    refine va_sld S.1 S.2.1 hX hbl hbA hw.2.2.2.1 hx_11 (dd_at ddL_law_13 52 rfl) ?_
    refine lv_aload_n S.1 S.2.1 (dd_at ddL_law_13 53 rfl) rfl (lv_at hl 1 rfl) ?_
    refine lv_iload S.1 S.2.1 (dd_at ddL_law_13 54 rfl) (lv_at hl 5 rfl) ?_
    refine lv_iconst (v := 2) S.1 S.2.1 (dd_at ddL_law_13 55 rfl) (by decide) ?_
    refine lv_iadd S.1 S.2.1 (dd_at ddL_law_13 56 rfl) ?_
    obtain ⟨hx_12, h⟩ := h
    refine va_sld S.1 S.2.1 hX hbl hbA hw.2.2.2.1 hx_12 (dd_at ddL_law_13 57 rfl) ?_
    refine lv_aload_n S.1 S.2.1 (dd_at ddL_law_13 58 rfl) rfl (lv_at hl 1 rfl) ?_
    refine lv_iload S.1 S.2.1 (dd_at ddL_law_13 59 rfl) (lv_at hl 5 rfl) ?_
    refine lv_iconst (v := 3) S.1 S.2.1 (dd_at ddL_law_13 60 rfl) (by decide) ?_
    refine lv_iadd S.1 S.2.1 (dd_at ddL_law_13 61 rfl) ?_
    obtain ⟨hx_13, h⟩ := h
    refine va_sld S.1 S.2.1 hX hbl hbA hw.2.2.2.1 hx_13 (dd_at ddL_law_13 62 rfl) ?_
    refine lv_if_eq (tgt := 2206) S.1 S.2.1 (dd_at ddL_law_13 63 rfl) (by decide) (fun hc_14 => ?_) (fun hc_14 => ?_)
    · have h := h.1 hc_14
      refine lv_iconst (v := 0) S.1 S.2.1 (dd_at ddL_law_13 66 rfl) (by decide) ?_
      exact tb2207 r_10 a2 (xs (v4 + 1).toNatClampNeg) (xs (v4 + 2).toNatClampNeg) 0 d_9 H locs ls h hw (lv_sub hl [1, 2, 3, 4, 5, 0] rfl)
    · have h := h.2 hc_14
      refine lv_iconst (v := 1) S.1 S.2.1 (dd_at ddL_law_13 64 rfl) (by decide) ?_
      refine lv_goto (tgt := 2207) S.1 S.2.1 (dd_at ddL_law_13 65 rfl) (by decide) ?_
      exact tb2207 r_10 a2 (xs (v4 + 1).toNatClampNeg) (xs (v4 + 2).toNatClampNeg) 1 d_9 H locs ls h hw (lv_sub hl [1, 2, 3, 4, 5, 0] rfl)
  refine lv_aload_n S.1 S.2.1 (dd_at ddL_law_13 24 rfl) rfl (lv_at hl 1 rfl) ?_
  refine lv_aload_n S.1 S.2.1 (dd_at ddL_law_13 25 rfl) rfl (lv_at hl 0 rfl) ?_
  refine lv_iload S.1 S.2.1 (dd_at ddL_law_13 26 rfl) (lv_at hl 4 rfl) ?_
  refine lv_iconst (v := 1) S.1 S.2.1 (dd_at ddL_law_13 27 rfl) (by decide) ?_
  refine lv_iadd S.1 S.2.1 (dd_at ddL_law_13 28 rfl) ?_
  obtain ⟨hx_15, h⟩ := h
  refine va_sld S.1 S.2.1 hX hbl hbA hw.2.2.2.1 hx_15 (dd_at ddL_law_13 29 rfl) ?_
  refine lv_aload_n S.1 S.2.1 (dd_at ddL_law_13 30 rfl) rfl (lv_at hl 0 rfl) ?_
  refine lv_iload S.1 S.2.1 (dd_at ddL_law_13 31 rfl) (lv_at hl 4 rfl) ?_
  refine lv_iconst (v := 2) S.1 S.2.1 (dd_at ddL_law_13 32 rfl) (by decide) ?_
  refine lv_iadd S.1 S.2.1 (dd_at ddL_law_13 33 rfl) ?_
  obtain ⟨hx_16, h⟩ := h
  refine va_sld S.1 S.2.1 hX hbl hbA hw.2.2.2.1 hx_16 (dd_at ddL_law_13 34 rfl) ?_
  refine lv_aload_n S.1 S.2.1 (dd_at ddL_law_13 35 rfl) rfl (lv_at hl 0 rfl) ?_
  refine lv_iload S.1 S.2.1 (dd_at ddL_law_13 36 rfl) (lv_at hl 4 rfl) ?_
  refine lv_iconst (v := 3) S.1 S.2.1 (dd_at ddL_law_13 37 rfl) (by decide) ?_
  refine lv_iadd S.1 S.2.1 (dd_at ddL_law_13 38 rfl) ?_
  obtain ⟨hx_17, h⟩ := h
  refine va_sld S.1 S.2.1 hX hbl hbA hw.2.2.2.1 hx_17 (dd_at ddL_law_13 39 rfl) ?_
  refine lv_if_eq (tgt := 2173) S.1 S.2.1 (dd_at ddL_law_13 40 rfl) (by decide) (fun hc_18 => ?_) (fun hc_18 => ?_)
  · have h := h.1 hc_18
    refine lv_iconst (v := 0) S.1 S.2.1 (dd_at ddL_law_13 43 rfl) (by decide) ?_
    exact tb2174 a1 (xs (v4 + 1).toNatClampNeg) (xs (v4 + 2).toNatClampNeg) 0 d H locs ls h hw (lv_sub hl [0, 1, 2, 3, 4] rfl)
  · have h := h.2 hc_18
    refine lv_iconst (v := 1) S.1 S.2.1 (dd_at ddL_law_13 41 rfl) (by decide) ?_
    refine lv_goto (tgt := 2174) S.1 S.2.1 (dd_at ddL_law_13 42 rfl) (by decide) ?_
    exact tb2174 a1 (xs (v4 + 1).toNatClampNeg) (xs (v4 + 2).toNatClampNeg) 1 d H locs ls h hw (lv_sub hl [0, 1, 2, 3, 4] rfl)

def b_Lw_2303 (E : En) (a1 a2 a3 : Nat) (v4 : Int32) (xs : Nat → Int32) (L : Nat) (kc : En → Dy → Prop) (v5 : Int32) (s0 : Nat) (s1 : Int32) (s2 : Int32) (s3 : Int32) (d : Dy) : Prop := okO E s0 11 ∧ w_X11_level E s0 s1 s2 s3 d (fun r_2 d_1 => w_X11_thrown E a2 d_1 (fun r_4 d_3 => ((r_4 = v5 → ((¬ v5 = 0 → kc E d_3) ∧ (v5 = 0 → vp_in 0 (eN E a3) ∧ (((lg_cmp (gJ d_3 a3 ((0 : Int32)).toNatClampNeg) r_2.toInt64) = 0 → kc E d_3) ∧ (¬ (lg_cmp (gJ d_3 a3 ((0 : Int32)).toNatClampNeg) r_2.toInt64) = 0 → False))))) ∧ (¬ r_4 = v5 → False))))
def b_Lw_2270 (E : En) (a1 a2 a3 : Nat) (v4 : Int32) (xs : Nat → Int32) (L : Nat) (kc : En → Dy → Prop) (s0 : Nat) (s1 : Int32) (s2 : Int32) (s3 : Int32) (d : Dy) : Prop := okO E s0 10 ∧ w_L_level E s0 s1 s2 s3 a3 d (fun r_10 d_9 => vp_in (v4 + 1) L ∧ vp_in (v4 + 2) L ∧ vp_in (v4 + 3) L ∧ (((xs (v4 + 3).toNatClampNeg) = 0 → b_Lw_2303 E a1 a2 a3 v4 xs L kc r_10 a2 (xs (v4 + 1).toNatClampNeg) (xs (v4 + 2).toNatClampNeg) 0 d_9) ∧ (¬ (xs (v4 + 3).toNatClampNeg) = 0 → b_Lw_2303 E a1 a2 a3 v4 xs L kc r_10 a2 (xs (v4 + 1).toNatClampNeg) (xs (v4 + 2).toNatClampNeg) 1 d_9)))
def lw_2243 (E : En) (a1 a2 a3 : Nat) (v4 : Int32) (xs : Nat → Int32) (L : Nat) (kc : En → Dy → Prop) (d : Dy) : Prop := okO E a1 10 ∧ okO E a2 11 ∧ okA E a3 14 ∧ vp_in (v4 + 1) L ∧ vp_in (v4 + 2) L ∧ vp_in (v4 + 3) L ∧ (((xs (v4 + 3).toNatClampNeg) = 0 → b_Lw_2270 E a1 a2 a3 v4 xs L kc a1 (xs (v4 + 1).toNatClampNeg) (xs (v4 + 2).toNatClampNeg) 0 d) ∧ (¬ (xs (v4 + 3).toNatClampNeg) = 0 → b_Lw_2270 E a1 a2 a3 v4 xs L kc a1 (xs (v4 + 1).toNatClampNeg) (xs (v4 + 2).toNatClampNeg) 1 d))
set_option maxRecDepth 100000 in
set_option maxHeartbeats 4000000 in
theorem lc_2243 {p : Program} {l : Launch} {e : Env} {s : State} {m : MethodId} {below : List Frame} {meth : Method} {c : Code} {Q : State → Prop} {D : va_G} {cs : Nat → ClassId} {b L : Nat} {xs : Nat → Int32} {T0 : Cond} (hst : l.stackTraces = false) (S : CallFix p m c cL_law 7 s #[Value.ref b] (T0 :: wsL_law) RL) (hX : va_X b L xs s s.heap) (hbl : b < s.heap.size) {E : En} {a1 a2 a3 : Nat} {v4 : Int32} {d : Dy} {H : Heap} {locs : List Loc} {ls : Array Slot} {cl sl : Nat} {kc : En → Dy → Prop} (hcl : cl + 60 ≤ 634061) (hsl : sl + 1400 ≤ 7193921)
    (hk : ∀ (E9 : En) (d9 : Dy) (H : Heap) (locs : List Loc) (ls : Array Slot), kc E9 d9 → Wd D cs (fun q => s.heap.size ≤ q) s.heap s E9 d9 H locs → lv_has ls 7 [(0, .ref b), (1, .ref a1), (2, .ref a2), (3, .ref a3), (4, .int v4)] → W p l e room_1 s m #[Value.ref b] below meth c H locs (cl + 60) (sl + 1400) Q (F0 m 3051 ls [])) (h : lw_2243 E a1 a2 a3 v4 xs L kc d) (hw : Wd D cs (fun q => s.heap.size ≤ q) s.heap s E d H locs) (hl : lv_has ls 7 [(0, .ref b), (1, .ref a1), (2, .ref a2), (3, .ref a3), (4, .int v4)]) : W p l e room_1 s m #[Value.ref b] below meth c H locs cl sl Q (F0 m 2243 ls []) := by
  have hbA : ¬ (fun q : Nat => s.heap.size ≤ q) b := Nat.not_le.mpr hbl
  unfold lw_2243 at h
  obtain ⟨ha1, ha2, ha3, h⟩ := h
  have tb2303 : ∀ (v5 : Int32) (s0 : Nat) (s1 : Int32) (s2 : Int32) (s3 : Int32) (d : Dy) (H : Heap) (locs : List Loc) (ls : Array Slot), b_Lw_2303 E a1 a2 a3 v4 xs L kc v5 s0 s1 s2 s3 d → Wd D cs (fun q => s.heap.size ≤ q) s.heap s E d H locs → lv_has ls 7 [(0, .ref b), (1, .ref a1), (2, .ref a2), (3, .ref a3), (4, .int v4), (5, .int v5)] → W p l e room_1 s m #[Value.ref b] below meth c H locs (cl + 60) (sl + 1400) Q (F0 m 2303 ls [.int s3, .int s2, .int s1, .ref s0]) := by
    intro v5 s0 s1 s2 s3 d H locs ls h hw hl
    unfold b_Lw_2303 at h
    obtain ⟨hos0, h⟩ := h
    refine r_callI hw (r_runV (As := [.int s1, .int s2, .int s3]) (rest := []) S hw (m_X11_level l D cs E d H.size s0 s1 s2 s3 _) (cwV 3 S.2.2.2.2 (gV wg1314 wg1315 wg1316 wg5 wg1317) rfl rfl rfl (by decide +kernel) ⟨Nat.le_of_ble_eq_true rfl, Nat.le_of_ble_eq_true rfl⟩) (ci := 11) rfl hos0 h rfl hl.1 rfl (Nat.le_of_ble_eq_true rfl) (dd_at ddL_law_x1 10 rfl) ⟨hcl, hsl⟩) (fun r_2 d_1 H locs h hw => ?_)
    refine lv_istore (lv' := [(6, .int r_2), (0, .ref b), (1, .ref a1), (2, .ref a2), (3, .ref a3), (4, .int v4), (5, .int v5)]) S.1 S.2.1 (dd_at ddL_law_x1 11 rfl) hl (by decide) rfl (fun ls hl => ?_)
    refine lv_aload_n S.1 S.2.1 (dd_at ddL_law_x1 12 rfl) rfl (lv_at hl 3 rfl) ?_
    refine r_callI hw (r_runV (As := []) (rest := []) S hw (m_X11_thrown l D cs E d_1 H.size a2 _) (cwV 0 S.2.2.2.2 (gV wg506 wg507 wg508 wg5 wg509) rfl rfl rfl (by decide +kernel) ⟨Nat.le_of_ble_eq_true rfl, Nat.le_of_ble_eq_true rfl⟩) (ci := 11) rfl ha2 h rfl hl.1 rfl (Nat.le_of_ble_eq_true rfl) (dd_at ddL_law_x1 13 rfl) ⟨hcl, hsl⟩) (fun r_4 d_3 H locs h hw => ?_)
    refine lv_iload S.1 S.2.1 (dd_at ddL_law_x1 14 rfl) (lv_at hl 6 rfl) ?_
    refine lv_icmp_eq (tgt := 2319) S.1 S.2.1 (dd_at ddL_law_x1 15 rfl) (by decide) (fun hc_5 => ?_) (fun hc_5 => ?_)
    · have h := h.1 hc_5
      refine lv_iload S.1 S.2.1 (dd_at ddL_law_x1 18 rfl) (lv_at hl 6 rfl) ?_
      refine lv_if_ne (tgt := 2336) S.1 S.2.1 (dd_at ddL_law_x1 19 rfl) (by decide) (fun hc_6 => ?_) (fun hc_6 => ?_)
      · have h := h.1 hc_6
        refine lv_goto (tgt := 3051) S.1 S.2.1 (dd_at ddL_law_x2 9 rfl) (by decide) ?_
        exact hk _ _ _ _ _ h hw (lv_sub hl [1, 2, 3, 4, 5] rfl)
      · have h := h.2 hc_6
        refine lv_aload_n S.1 S.2.1 (dd_at ddL_law_x2 0 rfl) rfl (lv_at hl 4 rfl) ?_
        refine lv_iconst (v := 0) S.1 S.2.1 (dd_at ddL_law_x2 1 rfl) (by decide) ?_
        obtain ⟨hx_7, h⟩ := h
        refine r_lald S hw ha3 hx_7 (dd_at ddL_law_x2 2 rfl) ?_
        refine lv_iload S.1 S.2.1 (dd_at ddL_law_x2 3 rfl) (lv_at hl 0 rfl) ?_
        refine lv_i2l S.1 S.2.1 (dd_at ddL_law_x2 4 rfl) rfl ?_
        refine W.lcmp S.1 S.2.1 (dd_at ddL_law_x2 5 rfl) ?_
        refine lv_if_eq (tgt := 2336) S.1 S.2.1 (dd_at ddL_law_x2 6 rfl) (by decide) (fun hc_8 => ?_) (fun hc_8 => ?_)
        · have h := h.1 hc_8
          refine lv_goto (tgt := 3051) S.1 S.2.1 (dd_at ddL_law_x2 9 rfl) (by decide) ?_
          exact hk _ _ _ _ _ h hw (lv_sub hl [1, 2, 3, 4, 5] rfl)
        · have h := h.2 hc_8
          refine lv_iconst (v := 0) S.1 S.2.1 (dd_at ddL_law_x2 7 rfl) (by decide) ?_
          exact absurd h id
    · have h := h.2 hc_5
      refine lv_iconst (v := 0) S.1 S.2.1 (dd_at ddL_law_x1 16 rfl) (by decide) ?_
      exact absurd h id
  have tb2270 : ∀ (s0 : Nat) (s1 : Int32) (s2 : Int32) (s3 : Int32) (d : Dy) (H : Heap) (locs : List Loc) (ls : Array Slot), b_Lw_2270 E a1 a2 a3 v4 xs L kc s0 s1 s2 s3 d → Wd D cs (fun q => s.heap.size ≤ q) s.heap s E d H locs → lv_has ls 7 [(0, .ref b), (1, .ref a1), (2, .ref a2), (3, .ref a3), (4, .int v4)] → W p l e room_1 s m #[Value.ref b] below meth c H locs cl sl Q (F0 m 2270 ls [.int s3, .int s2, .int s1, .ref s0]) := by
    intro s0 s1 s2 s3 d H locs ls h hw hl
    unfold b_Lw_2270 at h
    obtain ⟨hos0, h⟩ := h
    refine lv_aload_n S.1 S.2.1 (dd_at ddL_law_x0 7 rfl) rfl (lv_at hl 3 rfl) ?_
    refine r_callI hw (r_runSW (As := [.ref s0, .int s1, .int s2, .int s3, .ref a3]) (rest := []) S hw (m_L_level l hst D cs E d H.size s0 s1 s2 s3 a3 _) (vx_cwSW 5 S.2.2.2.2 (gSW wg1303 wg1304 wg221 wg1305) rfl rfl rfl (by decide +kernel) ⟨Nat.le_of_ble_eq_true rfl, Nat.le_of_ble_eq_true rfl⟩) h rfl hl.1 rfl (Nat.le_of_ble_eq_true rfl) (dd_at ddL_law_x0 8 rfl) ⟨Nat.le_trans (Nat.add_le_add_left (Nat.le_of_ble_eq_true rfl) cl) hcl, Nat.le_trans (Nat.add_le_add_left (Nat.le_of_ble_eq_true rfl) sl) hsl⟩) (fun r_10 d_9 H locs h hw => ?_)
    refine W.widen (k := cl + 60) (n := sl + 1400) (Nat.add_le_add_left (Nat.le_of_ble_eq_true rfl) cl) (Nat.add_le_add_left (Nat.le_of_ble_eq_true rfl) sl) ?_
    refine lv_istore (lv' := [(5, .int r_10), (0, .ref b), (1, .ref a1), (2, .ref a2), (3, .ref a3), (4, .int v4)]) S.1 S.2.1 (dd_at ddL_law_x0 9 rfl) hl (by decide) rfl (fun ls hl => ?_)
    refine lv_aload_n S.1 S.2.1 (dd_at ddL_law_x0 10 rfl) rfl (lv_at hl 3 rfl) ?_
    refine lv_aload_n S.1 S.2.1 (dd_at ddL_law_x0 11 rfl) rfl (lv_at hl 1 rfl) ?_
    refine lv_iload S.1 S.2.1 (dd_at ddL_law_x0 12 rfl) (lv_at hl 5 rfl) ?_
    refine lv_iconst (v := 1) S.1 S.2.1 (dd_at ddL_law_x0 13 rfl) (by decide) ?_
    refine lv_iadd S.1 S.2.1 (dd_at ddL_law_x0 14 rfl) ?_
    obtain ⟨hx_11, h⟩ := h
    refine va_sld S.1 S.2.1 hX hbl hbA hw.2.2.2.1 hx_11 (dd_at ddL_law_x0 15 rfl) ?_
    refine lv_aload_n S.1 S.2.1 (dd_at ddL_law_x0 16 rfl) rfl (lv_at hl 1 rfl) ?_
    refine lv_iload S.1 S.2.1 (dd_at ddL_law_x0 17 rfl) (lv_at hl 5 rfl) ?_
    refine lv_iconst (v := 2) S.1 S.2.1 (dd_at ddL_law_x0 18 rfl) (by decide) ?_
    refine lv_iadd S.1 S.2.1 (dd_at ddL_law_x0 19 rfl) ?_
    obtain ⟨hx_12, h⟩ := h
    refine va_sld S.1 S.2.1 hX hbl hbA hw.2.2.2.1 hx_12 (dd_at ddL_law_x1 0 rfl) ?_
    refine lv_aload_n S.1 S.2.1 (dd_at ddL_law_x1 1 rfl) rfl (lv_at hl 1 rfl) ?_
    refine lv_iload S.1 S.2.1 (dd_at ddL_law_x1 2 rfl) (lv_at hl 5 rfl) ?_
    refine lv_iconst (v := 3) S.1 S.2.1 (dd_at ddL_law_x1 3 rfl) (by decide) ?_
    refine lv_iadd S.1 S.2.1 (dd_at ddL_law_x1 4 rfl) ?_
    obtain ⟨hx_13, h⟩ := h
    refine va_sld S.1 S.2.1 hX hbl hbA hw.2.2.2.1 hx_13 (dd_at ddL_law_x1 5 rfl) ?_
    refine lv_if_eq (tgt := 2302) S.1 S.2.1 (dd_at ddL_law_x1 6 rfl) (by decide) (fun hc_14 => ?_) (fun hc_14 => ?_)
    · have h := h.1 hc_14
      refine lv_iconst (v := 0) S.1 S.2.1 (dd_at ddL_law_x1 9 rfl) (by decide) ?_
      exact tb2303 r_10 a2 (xs (v4 + 1).toNatClampNeg) (xs (v4 + 2).toNatClampNeg) 0 d_9 H locs ls h hw (lv_sub hl [1, 2, 3, 4, 5, 0] rfl)
    · have h := h.2 hc_14
      refine lv_iconst (v := 1) S.1 S.2.1 (dd_at ddL_law_x1 7 rfl) (by decide) ?_
      refine lv_goto (tgt := 2303) S.1 S.2.1 (dd_at ddL_law_x1 8 rfl) (by decide) ?_
      exact tb2303 r_10 a2 (xs (v4 + 1).toNatClampNeg) (xs (v4 + 2).toNatClampNeg) 1 d_9 H locs ls h hw (lv_sub hl [1, 2, 3, 4, 5, 0] rfl)
  refine lv_aload_n S.1 S.2.1 (dd_at ddL_law_13 87 rfl) rfl (lv_at hl 1 rfl) ?_
  refine lv_aload_n S.1 S.2.1 (dd_at ddL_law_13 88 rfl) rfl (lv_at hl 0 rfl) ?_
  refine lv_iload S.1 S.2.1 (dd_at ddL_law_13 89 rfl) (lv_at hl 4 rfl) ?_
  refine lv_iconst (v := 1) S.1 S.2.1 (dd_at ddL_law_13 90 rfl) (by decide) ?_
  refine lv_iadd S.1 S.2.1 (dd_at ddL_law_13 91 rfl) ?_
  obtain ⟨hx_15, h⟩ := h
  refine va_sld S.1 S.2.1 hX hbl hbA hw.2.2.2.1 hx_15 (dd_at ddL_law_13 92 rfl) ?_
  refine lv_aload_n S.1 S.2.1 (dd_at ddL_law_13 93 rfl) rfl (lv_at hl 0 rfl) ?_
  refine lv_iload S.1 S.2.1 (dd_at ddL_law_13 94 rfl) (lv_at hl 4 rfl) ?_
  refine lv_iconst (v := 2) S.1 S.2.1 (dd_at ddL_law_13 95 rfl) (by decide) ?_
  refine lv_iadd S.1 S.2.1 (dd_at ddL_law_13 96 rfl) ?_
  obtain ⟨hx_16, h⟩ := h
  refine va_sld S.1 S.2.1 hX hbl hbA hw.2.2.2.1 hx_16 (dd_at ddL_law_13 97 rfl) ?_
  refine lv_aload_n S.1 S.2.1 (dd_at ddL_law_13 98 rfl) rfl (lv_at hl 0 rfl) ?_
  refine lv_iload S.1 S.2.1 (dd_at ddL_law_13 99 rfl) (lv_at hl 4 rfl) ?_
  refine lv_iconst (v := 3) S.1 S.2.1 (dd_at ddL_law_x0 0 rfl) (by decide) ?_
  refine lv_iadd S.1 S.2.1 (dd_at ddL_law_x0 1 rfl) ?_
  obtain ⟨hx_17, h⟩ := h
  refine va_sld S.1 S.2.1 hX hbl hbA hw.2.2.2.1 hx_17 (dd_at ddL_law_x0 2 rfl) ?_
  refine lv_if_eq (tgt := 2269) S.1 S.2.1 (dd_at ddL_law_x0 3 rfl) (by decide) (fun hc_18 => ?_) (fun hc_18 => ?_)
  · have h := h.1 hc_18
    refine lv_iconst (v := 0) S.1 S.2.1 (dd_at ddL_law_x0 6 rfl) (by decide) ?_
    exact tb2270 a1 (xs (v4 + 1).toNatClampNeg) (xs (v4 + 2).toNatClampNeg) 0 d H locs ls h hw (lv_sub hl [0, 1, 2, 3, 4] rfl)
  · have h := h.2 hc_18
    refine lv_iconst (v := 1) S.1 S.2.1 (dd_at ddL_law_x0 4 rfl) (by decide) ?_
    refine lv_goto (tgt := 2270) S.1 S.2.1 (dd_at ddL_law_x0 5 rfl) (by decide) ?_
    exact tb2270 a1 (xs (v4 + 1).toNatClampNeg) (xs (v4 + 2).toNatClampNeg) 1 d H locs ls h hw (lv_sub hl [0, 1, 2, 3, 4] rfl)

def b_Lw_2399 (E : En) (a1 a2 a3 : Nat) (v4 : Int32) (xs : Nat → Int32) (L : Nat) (kc : En → Dy → Prop) (v5 : Int32) (s0 : Nat) (s1 : Int32) (s2 : Int32) (s3 : Int32) (d : Dy) : Prop := okO E s0 11 ∧ w_X11_flood E s0 s1 s2 s3 d (fun r_2 d_1 => w_X11_thrown E a2 d_1 (fun r_4 d_3 => ((r_4 = v5 → ((¬ v5 = 0 → kc E d_3) ∧ (v5 = 0 → vp_in 0 (eN E a3) ∧ (((lg_cmp (gJ d_3 a3 ((0 : Int32)).toNatClampNeg) r_2.toInt64) = 0 → kc E d_3) ∧ (¬ (lg_cmp (gJ d_3 a3 ((0 : Int32)).toNatClampNeg) r_2.toInt64) = 0 → False))))) ∧ (¬ r_4 = v5 → False))))
def b_Lw_2366 (E : En) (a1 a2 a3 : Nat) (v4 : Int32) (xs : Nat → Int32) (L : Nat) (kc : En → Dy → Prop) (s0 : Nat) (s1 : Int32) (s2 : Int32) (s3 : Int32) (d : Dy) : Prop := okO E s0 10 ∧ w_L_flood E s0 s1 s2 s3 a3 d (fun r_10 d_9 => vp_in (v4 + 1) L ∧ vp_in (v4 + 2) L ∧ vp_in (v4 + 3) L ∧ (((xs (v4 + 3).toNatClampNeg) = 0 → b_Lw_2399 E a1 a2 a3 v4 xs L kc r_10 a2 (xs (v4 + 1).toNatClampNeg) (xs (v4 + 2).toNatClampNeg) 0 d_9) ∧ (¬ (xs (v4 + 3).toNatClampNeg) = 0 → b_Lw_2399 E a1 a2 a3 v4 xs L kc r_10 a2 (xs (v4 + 1).toNatClampNeg) (xs (v4 + 2).toNatClampNeg) 1 d_9)))
def lw_2339 (E : En) (a1 a2 a3 : Nat) (v4 : Int32) (xs : Nat → Int32) (L : Nat) (kc : En → Dy → Prop) (d : Dy) : Prop := okO E a1 10 ∧ okO E a2 11 ∧ okA E a3 14 ∧ vp_in (v4 + 1) L ∧ vp_in (v4 + 2) L ∧ vp_in (v4 + 3) L ∧ (((xs (v4 + 3).toNatClampNeg) = 0 → b_Lw_2366 E a1 a2 a3 v4 xs L kc a1 (xs (v4 + 1).toNatClampNeg) (xs (v4 + 2).toNatClampNeg) 0 d) ∧ (¬ (xs (v4 + 3).toNatClampNeg) = 0 → b_Lw_2366 E a1 a2 a3 v4 xs L kc a1 (xs (v4 + 1).toNatClampNeg) (xs (v4 + 2).toNatClampNeg) 1 d))
set_option maxRecDepth 100000 in
set_option maxHeartbeats 4000000 in
theorem lc_2339 {p : Program} {l : Launch} {e : Env} {s : State} {m : MethodId} {below : List Frame} {meth : Method} {c : Code} {Q : State → Prop} {D : va_G} {cs : Nat → ClassId} {b L : Nat} {xs : Nat → Int32} {T0 : Cond} (hst : l.stackTraces = false) (S : CallFix p m c cL_law 7 s #[Value.ref b] (T0 :: wsL_law) RL) (hX : va_X b L xs s s.heap) (hbl : b < s.heap.size) {E : En} {a1 a2 a3 : Nat} {v4 : Int32} {d : Dy} {H : Heap} {locs : List Loc} {ls : Array Slot} {cl sl : Nat} {kc : En → Dy → Prop} (hcl : cl + 60 ≤ 634061) (hsl : sl + 1400 ≤ 7193921)
    (hk : ∀ (E9 : En) (d9 : Dy) (H : Heap) (locs : List Loc) (ls : Array Slot), kc E9 d9 → Wd D cs (fun q => s.heap.size ≤ q) s.heap s E9 d9 H locs → lv_has ls 7 [(0, .ref b), (1, .ref a1), (2, .ref a2), (3, .ref a3), (4, .int v4)] → W p l e room_1 s m #[Value.ref b] below meth c H locs (cl + 60) (sl + 1400) Q (F0 m 3051 ls [])) (h : lw_2339 E a1 a2 a3 v4 xs L kc d) (hw : Wd D cs (fun q => s.heap.size ≤ q) s.heap s E d H locs) (hl : lv_has ls 7 [(0, .ref b), (1, .ref a1), (2, .ref a2), (3, .ref a3), (4, .int v4)]) : W p l e room_1 s m #[Value.ref b] below meth c H locs cl sl Q (F0 m 2339 ls []) := by
  have hbA : ¬ (fun q : Nat => s.heap.size ≤ q) b := Nat.not_le.mpr hbl
  unfold lw_2339 at h
  obtain ⟨ha1, ha2, ha3, h⟩ := h
  have tb2399 : ∀ (v5 : Int32) (s0 : Nat) (s1 : Int32) (s2 : Int32) (s3 : Int32) (d : Dy) (H : Heap) (locs : List Loc) (ls : Array Slot), b_Lw_2399 E a1 a2 a3 v4 xs L kc v5 s0 s1 s2 s3 d → Wd D cs (fun q => s.heap.size ≤ q) s.heap s E d H locs → lv_has ls 7 [(0, .ref b), (1, .ref a1), (2, .ref a2), (3, .ref a3), (4, .int v4), (5, .int v5)] → W p l e room_1 s m #[Value.ref b] below meth c H locs (cl + 60) (sl + 1400) Q (F0 m 2399 ls [.int s3, .int s2, .int s1, .ref s0]) := by
    intro v5 s0 s1 s2 s3 d H locs ls h hw hl
    unfold b_Lw_2399 at h
    obtain ⟨hos0, h⟩ := h
    refine r_callI hw (r_runV (As := [.int s1, .int s2, .int s3]) (rest := []) S hw (m_X11_flood l D cs E d H.size s0 s1 s2 s3 _) (cwV 3 S.2.2.2.2 (gV wg1325 wg1326 wg1327 wg5 wg1328) rfl rfl rfl (by decide +kernel) ⟨Nat.le_of_ble_eq_true rfl, Nat.le_of_ble_eq_true rfl⟩) (ci := 11) rfl hos0 h rfl hl.1 rfl (Nat.le_of_ble_eq_true rfl) (dd_at ddL_law_x4 13 rfl) ⟨hcl, hsl⟩) (fun r_2 d_1 H locs h hw => ?_)
    refine lv_istore (lv' := [(6, .int r_2), (0, .ref b), (1, .ref a1), (2, .ref a2), (3, .ref a3), (4, .int v4), (5, .int v5)]) S.1 S.2.1 (dd_at ddL_law_x4 14 rfl) hl (by decide) rfl (fun ls hl => ?_)
    refine lv_aload_n S.1 S.2.1 (dd_at ddL_law_x4 15 rfl) rfl (lv_at hl 3 rfl) ?_
    refine r_callI hw (r_runV (As := []) (rest := []) S hw (m_X11_thrown l D cs E d_1 H.size a2 _) (cwV 0 S.2.2.2.2 (gV wg506 wg507 wg508 wg5 wg509) rfl rfl rfl (by decide +kernel) ⟨Nat.le_of_ble_eq_true rfl, Nat.le_of_ble_eq_true rfl⟩) (ci := 11) rfl ha2 h rfl hl.1 rfl (Nat.le_of_ble_eq_true rfl) (dd_at ddL_law_x4 16 rfl) ⟨hcl, hsl⟩) (fun r_4 d_3 H locs h hw => ?_)
    refine lv_iload S.1 S.2.1 (dd_at ddL_law_x4 17 rfl) (lv_at hl 6 rfl) ?_
    refine lv_icmp_eq (tgt := 2415) S.1 S.2.1 (dd_at ddL_law_x4 18 rfl) (by decide) (fun hc_5 => ?_) (fun hc_5 => ?_)
    · have h := h.1 hc_5
      refine lv_iload S.1 S.2.1 (dd_at ddL_law_x5 1 rfl) (lv_at hl 6 rfl) ?_
      refine lv_if_ne (tgt := 2432) S.1 S.2.1 (dd_at ddL_law_x5 2 rfl) (by decide) (fun hc_6 => ?_) (fun hc_6 => ?_)
      · have h := h.1 hc_6
        refine lv_goto (tgt := 3051) S.1 S.2.1 (dd_at ddL_law_x5 12 rfl) (by decide) ?_
        exact hk _ _ _ _ _ h hw (lv_sub hl [1, 2, 3, 4, 5] rfl)
      · have h := h.2 hc_6
        refine lv_aload_n S.1 S.2.1 (dd_at ddL_law_x5 3 rfl) rfl (lv_at hl 4 rfl) ?_
        refine lv_iconst (v := 0) S.1 S.2.1 (dd_at ddL_law_x5 4 rfl) (by decide) ?_
        obtain ⟨hx_7, h⟩ := h
        refine r_lald S hw ha3 hx_7 (dd_at ddL_law_x5 5 rfl) ?_
        refine lv_iload S.1 S.2.1 (dd_at ddL_law_x5 6 rfl) (lv_at hl 0 rfl) ?_
        refine lv_i2l S.1 S.2.1 (dd_at ddL_law_x5 7 rfl) rfl ?_
        refine W.lcmp S.1 S.2.1 (dd_at ddL_law_x5 8 rfl) ?_
        refine lv_if_eq (tgt := 2432) S.1 S.2.1 (dd_at ddL_law_x5 9 rfl) (by decide) (fun hc_8 => ?_) (fun hc_8 => ?_)
        · have h := h.1 hc_8
          refine lv_goto (tgt := 3051) S.1 S.2.1 (dd_at ddL_law_x5 12 rfl) (by decide) ?_
          exact hk _ _ _ _ _ h hw (lv_sub hl [1, 2, 3, 4, 5] rfl)
        · have h := h.2 hc_8
          refine lv_iconst (v := 0) S.1 S.2.1 (dd_at ddL_law_x5 10 rfl) (by decide) ?_
          exact absurd h id
    · have h := h.2 hc_5
      refine lv_iconst (v := 0) S.1 S.2.1 (dd_at ddL_law_x4 19 rfl) (by decide) ?_
      exact absurd h id
  have tb2366 : ∀ (s0 : Nat) (s1 : Int32) (s2 : Int32) (s3 : Int32) (d : Dy) (H : Heap) (locs : List Loc) (ls : Array Slot), b_Lw_2366 E a1 a2 a3 v4 xs L kc s0 s1 s2 s3 d → Wd D cs (fun q => s.heap.size ≤ q) s.heap s E d H locs → lv_has ls 7 [(0, .ref b), (1, .ref a1), (2, .ref a2), (3, .ref a3), (4, .int v4)] → W p l e room_1 s m #[Value.ref b] below meth c H locs cl sl Q (F0 m 2366 ls [.int s3, .int s2, .int s1, .ref s0]) := by
    intro s0 s1 s2 s3 d H locs ls h hw hl
    unfold b_Lw_2366 at h
    obtain ⟨hos0, h⟩ := h
    refine lv_aload_n S.1 S.2.1 (dd_at ddL_law_x3 10 rfl) rfl (lv_at hl 3 rfl) ?_
    refine r_callI hw (r_runSW (As := [.ref s0, .int s1, .int s2, .int s3, .ref a3]) (rest := []) S hw (m_L_flood l hst D cs E d H.size s0 s1 s2 s3 a3 _) (vx_cwSW 5 S.2.2.2.2 (gSW wg1318 wg1319 wg221 wg1320) rfl rfl rfl (by decide +kernel) ⟨Nat.le_of_ble_eq_true rfl, Nat.le_of_ble_eq_true rfl⟩) h rfl hl.1 rfl (Nat.le_of_ble_eq_true rfl) (dd_at ddL_law_x3 11 rfl) ⟨Nat.le_trans (Nat.add_le_add_left (Nat.le_of_ble_eq_true rfl) cl) hcl, Nat.le_trans (Nat.add_le_add_left (Nat.le_of_ble_eq_true rfl) sl) hsl⟩) (fun r_10 d_9 H locs h hw => ?_)
    refine W.widen (k := cl + 60) (n := sl + 1400) (Nat.add_le_add_left (Nat.le_of_ble_eq_true rfl) cl) (Nat.add_le_add_left (Nat.le_of_ble_eq_true rfl) sl) ?_
    refine lv_istore (lv' := [(5, .int r_10), (0, .ref b), (1, .ref a1), (2, .ref a2), (3, .ref a3), (4, .int v4)]) S.1 S.2.1 (dd_at ddL_law_x3 12 rfl) hl (by decide) rfl (fun ls hl => ?_)
    refine lv_aload_n S.1 S.2.1 (dd_at ddL_law_x3 13 rfl) rfl (lv_at hl 3 rfl) ?_
    refine lv_aload_n S.1 S.2.1 (dd_at ddL_law_x3 14 rfl) rfl (lv_at hl 1 rfl) ?_
    refine lv_iload S.1 S.2.1 (dd_at ddL_law_x3 15 rfl) (lv_at hl 5 rfl) ?_
    refine lv_iconst (v := 1) S.1 S.2.1 (dd_at ddL_law_x3 16 rfl) (by decide) ?_
    refine lv_iadd S.1 S.2.1 (dd_at ddL_law_x3 17 rfl) ?_
    obtain ⟨hx_11, h⟩ := h
    refine va_sld S.1 S.2.1 hX hbl hbA hw.2.2.2.1 hx_11 (dd_at ddL_law_x3 18 rfl) ?_
    refine lv_aload_n S.1 S.2.1 (dd_at ddL_law_x3 19 rfl) rfl (lv_at hl 1 rfl) ?_
    refine lv_iload S.1 S.2.1 (dd_at ddL_law_x4 0 rfl) (lv_at hl 5 rfl) ?_
    refine lv_iconst (v := 2) S.1 S.2.1 (dd_at ddL_law_x4 1 rfl) (by decide) ?_
    refine lv_iadd S.1 S.2.1 (dd_at ddL_law_x4 2 rfl) ?_
    obtain ⟨hx_12, h⟩ := h
    refine va_sld S.1 S.2.1 hX hbl hbA hw.2.2.2.1 hx_12 (dd_at ddL_law_x4 3 rfl) ?_
    refine lv_aload_n S.1 S.2.1 (dd_at ddL_law_x4 4 rfl) rfl (lv_at hl 1 rfl) ?_
    refine lv_iload S.1 S.2.1 (dd_at ddL_law_x4 5 rfl) (lv_at hl 5 rfl) ?_
    refine lv_iconst (v := 3) S.1 S.2.1 (dd_at ddL_law_x4 6 rfl) (by decide) ?_
    refine lv_iadd S.1 S.2.1 (dd_at ddL_law_x4 7 rfl) ?_
    obtain ⟨hx_13, h⟩ := h
    refine va_sld S.1 S.2.1 hX hbl hbA hw.2.2.2.1 hx_13 (dd_at ddL_law_x4 8 rfl) ?_
    refine lv_if_eq (tgt := 2398) S.1 S.2.1 (dd_at ddL_law_x4 9 rfl) (by decide) (fun hc_14 => ?_) (fun hc_14 => ?_)
    · have h := h.1 hc_14
      refine lv_iconst (v := 0) S.1 S.2.1 (dd_at ddL_law_x4 12 rfl) (by decide) ?_
      exact tb2399 r_10 a2 (xs (v4 + 1).toNatClampNeg) (xs (v4 + 2).toNatClampNeg) 0 d_9 H locs ls h hw (lv_sub hl [1, 2, 3, 4, 5, 0] rfl)
    · have h := h.2 hc_14
      refine lv_iconst (v := 1) S.1 S.2.1 (dd_at ddL_law_x4 10 rfl) (by decide) ?_
      refine lv_goto (tgt := 2399) S.1 S.2.1 (dd_at ddL_law_x4 11 rfl) (by decide) ?_
      exact tb2399 r_10 a2 (xs (v4 + 1).toNatClampNeg) (xs (v4 + 2).toNatClampNeg) 1 d_9 H locs ls h hw (lv_sub hl [1, 2, 3, 4, 5, 0] rfl)
  refine lv_aload_n S.1 S.2.1 (dd_at ddL_law_x2 10 rfl) rfl (lv_at hl 1 rfl) ?_
  refine lv_aload_n S.1 S.2.1 (dd_at ddL_law_x2 11 rfl) rfl (lv_at hl 0 rfl) ?_
  refine lv_iload S.1 S.2.1 (dd_at ddL_law_x2 12 rfl) (lv_at hl 4 rfl) ?_
  refine lv_iconst (v := 1) S.1 S.2.1 (dd_at ddL_law_x2 13 rfl) (by decide) ?_
  refine lv_iadd S.1 S.2.1 (dd_at ddL_law_x2 14 rfl) ?_
  obtain ⟨hx_15, h⟩ := h
  refine va_sld S.1 S.2.1 hX hbl hbA hw.2.2.2.1 hx_15 (dd_at ddL_law_x2 15 rfl) ?_
  refine lv_aload_n S.1 S.2.1 (dd_at ddL_law_x2 16 rfl) rfl (lv_at hl 0 rfl) ?_
  refine lv_iload S.1 S.2.1 (dd_at ddL_law_x2 17 rfl) (lv_at hl 4 rfl) ?_
  refine lv_iconst (v := 2) S.1 S.2.1 (dd_at ddL_law_x2 18 rfl) (by decide) ?_
  refine lv_iadd S.1 S.2.1 (dd_at ddL_law_x2 19 rfl) ?_
  obtain ⟨hx_16, h⟩ := h
  refine va_sld S.1 S.2.1 hX hbl hbA hw.2.2.2.1 hx_16 (dd_at ddL_law_x3 0 rfl) ?_
  refine lv_aload_n S.1 S.2.1 (dd_at ddL_law_x3 1 rfl) rfl (lv_at hl 0 rfl) ?_
  refine lv_iload S.1 S.2.1 (dd_at ddL_law_x3 2 rfl) (lv_at hl 4 rfl) ?_
  refine lv_iconst (v := 3) S.1 S.2.1 (dd_at ddL_law_x3 3 rfl) (by decide) ?_
  refine lv_iadd S.1 S.2.1 (dd_at ddL_law_x3 4 rfl) ?_
  obtain ⟨hx_17, h⟩ := h
  refine va_sld S.1 S.2.1 hX hbl hbA hw.2.2.2.1 hx_17 (dd_at ddL_law_x3 5 rfl) ?_
  refine lv_if_eq (tgt := 2365) S.1 S.2.1 (dd_at ddL_law_x3 6 rfl) (by decide) (fun hc_18 => ?_) (fun hc_18 => ?_)
  · have h := h.1 hc_18
    refine lv_iconst (v := 0) S.1 S.2.1 (dd_at ddL_law_x3 9 rfl) (by decide) ?_
    exact tb2366 a1 (xs (v4 + 1).toNatClampNeg) (xs (v4 + 2).toNatClampNeg) 0 d H locs ls h hw (lv_sub hl [0, 1, 2, 3, 4] rfl)
  · have h := h.2 hc_18
    refine lv_iconst (v := 1) S.1 S.2.1 (dd_at ddL_law_x3 7 rfl) (by decide) ?_
    refine lv_goto (tgt := 2366) S.1 S.2.1 (dd_at ddL_law_x3 8 rfl) (by decide) ?_
    exact tb2366 a1 (xs (v4 + 1).toNatClampNeg) (xs (v4 + 2).toNatClampNeg) 1 d H locs ls h hw (lv_sub hl [0, 1, 2, 3, 4] rfl)
