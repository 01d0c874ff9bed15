def lw_228 (E : En) (a1 a2 a3 : Nat) (v4 : Int32) (xs : Nat → Int32) (L : Nat) (kc : En → Dy → Prop) (d : Dy) : Prop := okO E a1 10 ∧ okO E a2 11 ∧ okA E a3 14 ∧ vp_in (v4 + 1) L ∧ vp_in (v4 + 2) L ∧ vp_in (v4 + 3) L ∧ vp_in (v4 + 4) L ∧ vp_in (v4 + 5) L ∧ w_X10_feed E a1 (xs (v4 + 1).toNatClampNeg) (xs (v4 + 2).toNatClampNeg) (xs (v4 + 3).toNatClampNeg) (xs (v4 + 4).toNatClampNeg) (xs (v4 + 5).toNatClampNeg) d (fun r_7 d_6 => vp_in (v4 + 1) L ∧ vp_in (v4 + 2) L ∧ vp_in (v4 + 3) L ∧ vp_in (v4 + 4) L ∧ vp_in (v4 + 5) L ∧ w_X11_feed E a2 (xs (v4 + 1).toNatClampNeg) (xs (v4 + 2).toNatClampNeg) (xs (v4 + 3).toNatClampNeg) (xs (v4 + 4).toNatClampNeg) (xs (v4 + 5).toNatClampNeg) d_6 (fun r_14 d_13 => ((r_7 = r_14 → kc E d_13) ∧ (¬ r_7 = r_14 → False))))
set_option maxRecDepth 100000 in
set_option maxHeartbeats 4000000 in
theorem lc_228 {p : Program} {l : Launch} {e : Env} {s : State} {m : MethodId} {below : List Frame} {meth : Method} {c : Code} {Q : State → Prop} {D : va_G} {cs : Nat → ClassId} {b L : Nat} {xs : Nat → Int32} {T0 : Cond} (hst : l.stackTraces = false) (S : CallFix p m c cL_law 7 s #[Value.ref b] (T0 :: wsL_law) RL) (hX : va_X b L xs s s.heap) (hbl : b < s.heap.size) {E : En} {a1 a2 a3 : Nat} {v4 : Int32} {d : Dy} {H : Heap} {locs : List Loc} {ls : Array Slot} {cl sl : Nat} {kc : En → Dy → Prop} (hcl : cl + 60 ≤ 634061) (hsl : sl + 1400 ≤ 7193921)
    (hk : ∀ (E9 : En) (d9 : Dy) (H : Heap) (locs : List Loc) (ls : Array Slot), kc E9 d9 → Wd D cs (fun q => s.heap.size ≤ q) s.heap s E9 d9 H locs → lv_has ls 7 [(0, .ref b), (1, .ref a1), (2, .ref a2), (3, .ref a3), (4, .int v4)] → W p l e room_1 s m #[Value.ref b] below meth c H locs (cl + 60) (sl + 1400) Q (F0 m 3051 ls [])) (h : lw_228 E a1 a2 a3 v4 xs L kc d) (hw : Wd D cs (fun q => s.heap.size ≤ q) s.heap s E d H locs) (hl : lv_has ls 7 [(0, .ref b), (1, .ref a1), (2, .ref a2), (3, .ref a3), (4, .int v4)]) : W p l e room_1 s m #[Value.ref b] below meth c H locs cl sl Q (F0 m 228 ls []) := by
  have hbA : ¬ (fun q : Nat => s.heap.size ≤ q) b := Nat.not_le.mpr hbl
  unfold lw_228 at h
  obtain ⟨ha1, ha2, ha3, h⟩ := h
  refine lv_aload_n S.1 S.2.1 (dd_at ddL_law_0 25 rfl) rfl (lv_at hl 1 rfl) ?_
  refine lv_aload_n S.1 S.2.1 (dd_at ddL_law_0 26 rfl) rfl (lv_at hl 0 rfl) ?_
  refine lv_iload S.1 S.2.1 (dd_at ddL_law_0 27 rfl) (lv_at hl 4 rfl) ?_
  refine lv_iconst (v := 1) S.1 S.2.1 (dd_at ddL_law_0 28 rfl) (by decide) ?_
  refine lv_iadd S.1 S.2.1 (dd_at ddL_law_0 29 rfl) ?_
  obtain ⟨hx_1, h⟩ := h
  refine va_sld S.1 S.2.1 hX hbl hbA hw.2.2.2.1 hx_1 (dd_at ddL_law_0 30 rfl) ?_
  refine lv_aload_n S.1 S.2.1 (dd_at ddL_law_0 31 rfl) rfl (lv_at hl 0 rfl) ?_
  refine lv_iload S.1 S.2.1 (dd_at ddL_law_0 32 rfl) (lv_at hl 4 rfl) ?_
  refine lv_iconst (v := 2) S.1 S.2.1 (dd_at ddL_law_0 33 rfl) (by decide) ?_
  refine lv_iadd S.1 S.2.1 (dd_at ddL_law_0 34 rfl) ?_
  obtain ⟨hx_2, h⟩ := h
  refine va_sld S.1 S.2.1 hX hbl hbA hw.2.2.2.1 hx_2 (dd_at ddL_law_0 35 rfl) ?_
  refine lv_aload_n S.1 S.2.1 (dd_at ddL_law_0 36 rfl) rfl (lv_at hl 0 rfl) ?_
  refine lv_iload S.1 S.2.1 (dd_at ddL_law_0 37 rfl) (lv_at hl 4 rfl) ?_
  refine lv_iconst (v := 3) S.1 S.2.1 (dd_at ddL_law_0 38 rfl) (by decide) ?_
  refine lv_iadd S.1 S.2.1 (dd_at ddL_law_0 39 rfl) ?_
  obtain ⟨hx_3, h⟩ := h
  refine va_sld S.1 S.2.1 hX hbl hbA hw.2.2.2.1 hx_3 (dd_at ddL_law_0 40 rfl) ?_
  refine lv_aload_n S.1 S.2.1 (dd_at ddL_law_0 41 rfl) rfl (lv_at hl 0 rfl) ?_
  refine lv_iload S.1 S.2.1 (dd_at ddL_law_0 42 rfl) (lv_at hl 4 rfl) ?_
  refine lv_iconst (v := 4) S.1 S.2.1 (dd_at ddL_law_0 43 rfl) (by decide) ?_
  refine lv_iadd S.1 S.2.1 (dd_at ddL_law_0 44 rfl) ?_
  obtain ⟨hx_4, h⟩ := h
  refine va_sld S.1 S.2.1 hX hbl hbA hw.2.2.2.1 hx_4 (dd_at ddL_law_0 45 rfl) ?_
  refine lv_aload_n S.1 S.2.1 (dd_at ddL_law_0 46 rfl) rfl (lv_at hl 0 rfl) ?_
  refine lv_iload S.1 S.2.1 (dd_at ddL_law_0 47 rfl) (lv_at hl 4 rfl) ?_
  refine lv_iconst (v := 5) S.1 S.2.1 (dd_at ddL_law_0 48 rfl) (by decide) ?_
  refine lv_iadd S.1 S.2.1 (dd_at ddL_law_0 49 rfl) ?_
  obtain ⟨hx_5, h⟩ := h
  refine va_sld S.1 S.2.1 hX hbl hbA hw.2.2.2.1 hx_5 (dd_at ddL_law_0 50 rfl) ?_
  refine r_callI hw (r_runV (As := [.int (xs (v4 + 1).toNatClampNeg), .int (xs (v4 + 2).toNatClampNeg), .int (xs (v4 + 3).toNatClampNeg), .int (xs (v4 + 4).toNatClampNeg), .int (xs (v4 + 5).toNatClampNeg)]) (rest := []) S hw (m_X10_feed l D cs E d H.size a1 (xs (v4 + 1).toNatClampNeg) (xs (v4 + 2).toNatClampNeg) (xs (v4 + 3).toNatClampNeg) (xs (v4 + 4).toNatClampNeg) (xs (v4 + 5).toNatClampNeg) _) (cwV 5 S.2.2.2.2 (gV wg180 wg181 wg182 wg2 wg183) rfl rfl rfl (by decide +kernel) ⟨Nat.le_of_ble_eq_true rfl, Nat.le_of_ble_eq_true rfl⟩) (ci := 10) rfl ha1 h rfl hl.1 rfl (Nat.le_of_ble_eq_true rfl) (dd_at ddL_law_0 51 rfl) ⟨Nat.le_trans (Nat.le_add_right cl 60) hcl, Nat.le_trans (Nat.le_add_right sl 1400) hsl⟩) (fun r_7 d_6 H locs h hw => ?_)
  refine lv_aload_n S.1 S.2.1 (dd_at ddL_law_0 52 rfl) rfl (lv_at hl 2 rfl) ?_
  refine lv_aload_n S.1 S.2.1 (dd_at ddL_law_0 53 rfl) rfl (lv_at hl 0 rfl) ?_
  refine lv_iload S.1 S.2.1 (dd_at ddL_law_0 54 rfl) (lv_at hl 4 rfl) ?_
  refine lv_iconst (v := 1) S.1 S.2.1 (dd_at ddL_law_0 55 rfl) (by decide) ?_
  refine lv_iadd S.1 S.2.1 (dd_at ddL_law_0 56 rfl) ?_
  obtain ⟨hx_8, h⟩ := h
  refine va_sld S.1 S.2.1 hX hbl hbA hw.2.2.2.1 hx_8 (dd_at ddL_law_0 57 rfl) ?_
  refine lv_aload_n S.1 S.2.1 (dd_at ddL_law_0 58 rfl) rfl (lv_at hl 0 rfl) ?_
  refine lv_iload S.1 S.2.1 (dd_at ddL_law_0 59 rfl) (lv_at hl 4 rfl) ?_
  refine lv_iconst (v := 2) S.1 S.2.1 (dd_at ddL_law_0 60 rfl) (by decide) ?_
  refine lv_iadd S.1 S.2.1 (dd_at ddL_law_0 61 rfl) ?_
  obtain ⟨hx_9, h⟩ := h
  refine va_sld S.1 S.2.1 hX hbl hbA hw.2.2.2.1 hx_9 (dd_at ddL_law_0 62 rfl) ?_
  refine lv_aload_n S.1 S.2.1 (dd_at ddL_law_0 63 rfl) rfl (lv_at hl 0 rfl) ?_
  refine lv_iload S.1 S.2.1 (dd_at ddL_law_0 64 rfl) (lv_at hl 4 rfl) ?_
  refine lv_iconst (v := 3) S.1 S.2.1 (dd_at ddL_law_0 65 rfl) (by decide) ?_
  refine lv_iadd S.1 S.2.1 (dd_at ddL_law_0 66 rfl) ?_
  obtain ⟨hx_10, h⟩ := h
  refine va_sld S.1 S.2.1 hX hbl hbA hw.2.2.2.1 hx_10 (dd_at ddL_law_0 67 rfl) ?_
  refine lv_aload_n S.1 S.2.1 (dd_at ddL_law_0 68 rfl) rfl (lv_at hl 0 rfl) ?_
  refine lv_iload S.1 S.2.1 (dd_at ddL_law_0 69 rfl) (lv_at hl 4 rfl) ?_
  refine lv_iconst (v := 4) S.1 S.2.1 (dd_at ddL_law_0 70 rfl) (by decide) ?_
  refine lv_iadd S.1 S.2.1 (dd_at ddL_law_0 71 rfl) ?_
  obtain ⟨hx_11, h⟩ := h
  refine va_sld S.1 S.2.1 hX hbl hbA hw.2.2.2.1 hx_11 (dd_at ddL_law_0 72 rfl) ?_
  refine lv_aload_n S.1 S.2.1 (dd_at ddL_law_0 73 rfl) rfl (lv_at hl 0 rfl) ?_
  refine lv_iload S.1 S.2.1 (dd_at ddL_law_0 74 rfl) (lv_at hl 4 rfl) ?_
  refine lv_iconst (v := 5) S.1 S.2.1 (dd_at ddL_law_0 75 rfl) (by decide) ?_
  refine lv_iadd S.1 S.2.1 (dd_at ddL_law_0 76 rfl) ?_
  obtain ⟨hx_12, h⟩ := h
  refine va_sld S.1 S.2.1 hX hbl hbA hw.2.2.2.1 hx_12 (dd_at ddL_law_0 77 rfl) ?_
  refine r_callI hw (r_runV (As := [.int (xs (v4 + 1).toNatClampNeg), .int (xs (v4 + 2).toNatClampNeg), .int (xs (v4 + 3).toNatClampNeg), .int (xs (v4 + 4).toNatClampNeg), .int (xs (v4 + 5).toNatClampNeg)]) (rest := [.int r_7]) S hw (m_X11_feed l D cs E d_6 H.size a2 (xs (v4 + 1).toNatClampNeg) (xs (v4 + 2).toNatClampNeg) (xs (v4 + 3).toNatClampNeg) (xs (v4 + 4).toNatClampNeg) (xs (v4 + 5).toNatClampNeg) _) (cwV 5 S.2.2.2.2 (gV wg197 wg198 wg199 wg5 wg200) rfl rfl rfl (by decide +kernel) ⟨Nat.le_of_ble_eq_true rfl, Nat.le_of_ble_eq_true rfl⟩) (ci := 11) rfl ha2 h rfl hl.1 rfl (Nat.le_of_ble_eq_true rfl) (dd_at ddL_law_0 78 rfl) ⟨Nat.le_trans (Nat.le_add_right cl 60) hcl, Nat.le_trans (Nat.le_add_right sl 1400) hsl⟩) (fun r_14 d_13 H locs h hw => ?_)
  refine lv_icmp_eq (tgt := 3051) S.1 S.2.1 (dd_at ddL_law_0 79 rfl) (by decide) (fun hc_15 => ?_) (fun hc_15 => ?_)
  · have h := h.1 hc_15
    refine W.widen (k := cl + 60) (n := sl + 1400) (Nat.le_add_right _ _) (Nat.le_add_right _ _) ?_
    exact hk _ _ _ _ _ h hw (lv_sub hl [0, 1, 2, 3, 4] rfl)
  · have h := h.2 hc_15
    refine lv_iconst (v := 0) S.1 S.2.1 (dd_at ddL_law_0 80 rfl) (by decide) ?_
    exact absurd h id

def lw_301 (E : En) (a1 a2 a3 : Nat) (v4 : Int32) (xs : Nat → Int32) (L : Nat) (kc : En → Dy → Prop) (d : Dy) : Prop := okO E a1 10 ∧ okO E a2 11 ∧ okA E a3 14 ∧ vp_in (v4 + 1) L ∧ w_X10_end E a1 (xs (v4 + 1).toNatClampNeg) d (fun r_3 d_2 => vp_in (v4 + 1) L ∧ w_X11_end E a2 (xs (v4 + 1).toNatClampNeg) d_2 (fun r_6 d_5 => ((r_3 = r_6 → kc E d_5) ∧ (¬ r_3 = r_6 → False))))
set_option maxRecDepth 100000 in
set_option maxHeartbeats 4000000 in
theorem lc_301 {p : Program} {l : Launch} {e : Env} {s : State} {m : MethodId} {below : List Frame} {meth : Method} {c : Code} {Q : State → Prop} {D : va_G} {cs : Nat → ClassId} {b L : Nat} {xs : Nat → Int32} {T0 : Cond} (hst : l.stackTraces = false) (S : CallFix p m c cL_law 7 s #[Value.ref b] (T0 :: wsL_law) RL) (hX : va_X b L xs s s.heap) (hbl : b < s.heap.size) {E : En} {a1 a2 a3 : Nat} {v4 : Int32} {d : Dy} {H : Heap} {locs : List Loc} {ls : Array Slot} {cl sl : Nat} {kc : En → Dy → Prop} (hcl : cl + 60 ≤ 634061) (hsl : sl + 1400 ≤ 7193921)
    (hk : ∀ (E9 : En) (d9 : Dy) (H : Heap) (locs : List Loc) (ls : Array Slot), kc E9 d9 → Wd D cs (fun q => s.heap.size ≤ q) s.heap s E9 d9 H locs → lv_has ls 7 [(0, .ref b), (1, .ref a1), (2, .ref a2), (3, .ref a3), (4, .int v4)] → W p l e room_1 s m #[Value.ref b] below meth c H locs (cl + 60) (sl + 1400) Q (F0 m 3051 ls [])) (h : lw_301 E a1 a2 a3 v4 xs L kc d) (hw : Wd D cs (fun q => s.heap.size ≤ q) s.heap s E d H locs) (hl : lv_has ls 7 [(0, .ref b), (1, .ref a1), (2, .ref a2), (3, .ref a3), (4, .int v4)]) : W p l e room_1 s m #[Value.ref b] below meth c H locs cl sl Q (F0 m 301 ls []) := by
  have hbA : ¬ (fun q : Nat => s.heap.size ≤ q) b := Nat.not_le.mpr hbl
  unfold lw_301 at h
  obtain ⟨ha1, ha2, ha3, h⟩ := h
  refine lv_aload_n S.1 S.2.1 (dd_at ddL_law_0 82 rfl) rfl (lv_at hl 1 rfl) ?_
  refine lv_aload_n S.1 S.2.1 (dd_at ddL_law_0 83 rfl) rfl (lv_at hl 0 rfl) ?_
  refine lv_iload S.1 S.2.1 (dd_at ddL_law_0 84 rfl) (lv_at hl 4 rfl) ?_
  refine lv_iconst (v := 1) S.1 S.2.1 (dd_at ddL_law_0 85 rfl) (by decide) ?_
  refine lv_iadd S.1 S.2.1 (dd_at ddL_law_0 86 rfl) ?_
  obtain ⟨hx_1, h⟩ := h
  refine va_sld S.1 S.2.1 hX hbl hbA hw.2.2.2.1 hx_1 (dd_at ddL_law_0 87 rfl) ?_
  refine r_callI hw (r_runV (As := [.int (xs (v4 + 1).toNatClampNeg)]) (rest := []) S hw (m_X10_end l D cs E d H.size a1 (xs (v4 + 1).toNatClampNeg) _) (cwV 1 S.2.2.2.2 (gV wg203 wg204 wg205 wg2 wg206) rfl rfl rfl (by decide +kernel) ⟨Nat.le_of_ble_eq_true rfl, Nat.le_of_ble_eq_true rfl⟩) (ci := 10) rfl ha1 h rfl hl.1 rfl (Nat.le_of_ble_eq_true rfl) (dd_at ddL_law_0 88 rfl) ⟨Nat.le_trans (Nat.le_add_right cl 60) hcl, Nat.le_trans (Nat.le_add_right sl 1400) hsl⟩) (fun r_3 d_2 H locs h hw => ?_)
  refine lv_aload_n S.1 S.2.1 (dd_at ddL_law_0 89 rfl) rfl (lv_at hl 2 rfl) ?_
  refine lv_aload_n S.1 S.2.1 (dd_at ddL_law_0 90 rfl) rfl (lv_at hl 0 rfl) ?_
  refine lv_iload S.1 S.2.1 (dd_at ddL_law_0 91 rfl) (lv_at hl 4 rfl) ?_
  refine lv_iconst (v := 1) S.1 S.2.1 (dd_at ddL_law_0 92 rfl) (by decide) ?_
  refine lv_iadd S.1 S.2.1 (dd_at ddL_law_0 93 rfl) ?_
  obtain ⟨hx_4, h⟩ := h
  refine va_sld S.1 S.2.1 hX hbl hbA hw.2.2.2.1 hx_4 (dd_at ddL_law_0 94 rfl) ?_
  refine r_callI hw (r_runV (As := [.int (xs (v4 + 1).toNatClampNeg)]) (rest := [.int r_3]) S hw (m_X11_end l D cs E d_2 H.size a2 (xs (v4 + 1).toNatClampNeg) _) (cwV 1 S.2.2.2.2 (gV wg215 wg216 wg217 wg5 wg218) rfl rfl rfl (by decide +kernel) ⟨Nat.le_of_ble_eq_true rfl, Nat.le_of_ble_eq_true rfl⟩) (ci := 11) rfl ha2 h rfl hl.1 rfl (Nat.le_of_ble_eq_true rfl) (dd_at ddL_law_0 95 rfl) ⟨Nat.le_trans (Nat.le_add_right cl 60) hcl, Nat.le_trans (Nat.le_add_right sl 1400) hsl⟩) (fun r_6 d_5 H locs h hw => ?_)
  refine lv_icmp_eq (tgt := 3051) S.1 S.2.1 (dd_at ddL_law_0 96 rfl) (by decide) (fun hc_7 => ?_) (fun hc_7 => ?_)
  · have h := h.1 hc_7
    refine W.widen (k := cl + 60) (n := sl + 1400) (Nat.le_add_right _ _) (Nat.le_add_right _ _) ?_
    exact hk _ _ _ _ _ h hw (lv_sub hl [0, 1, 2, 3, 4] rfl)
  · have h := h.2 hc_7
    refine lv_iconst (v := 0) S.1 S.2.1 (dd_at ddL_law_0 97 rfl) (by decide) ?_
    exact absurd h id

def lw_326 (E : En) (a1 a2 a3 : Nat) (v4 : Int32) (xs : Nat → Int32) (L : Nat) (kc : En → Dy → Prop) (d : Dy) : Prop := okO E a1 10 ∧ okO E a2 11 ∧ okA E a3 14 ∧ vp_in (v4 + 1) L ∧ w_L_text E a1 (xs (v4 + 1).toNatClampNeg) a3 d (fun r_3 E_4 d_2 => vp_in (v4 + 1) L ∧ w_X11_text E_4 a2 (xs (v4 + 1).toNatClampNeg) d_2 (fun r_8 d_7 => w_X11_thrown E_4 a2 d_7 (fun r_10 d_9 => ((r_10 = r_3 → ((¬ r_3 = 0 → kc E_4 d_9) ∧ (r_3 = 0 → vp_in 0 (eN E_4 a3) ∧ (((lg_cmp (gJ d_9 a3 ((0 : Int32)).toNatClampNeg) r_8.toInt64) = 0 → kc E_4 d_9) ∧ (¬ (lg_cmp (gJ d_9 a3 ((0 : Int32)).toNatClampNeg) r_8.toInt64) = 0 → False))))) ∧ (¬ r_10 = r_3 → False)))))
set_option maxRecDepth 100000 in
set_option maxHeartbeats 4000000 in
theorem lc_326 {p : Program} {l : Launch} {e : Env} {s : State} {m : MethodId} {below : List Frame} {meth : Method} {c : Code} {Q : State → Prop} {D : va_G} {cs : Nat → ClassId} {b L : Nat} {xs : Nat → Int32} {T0 : Cond} (hst : l.stackTraces = false) (S : CallFix p m c cL_law 7 s #[Value.ref b] (T0 :: wsL_law) RL) (hX : va_X b L xs s s.heap) (hbl : b < s.heap.size) {E : En} {a1 a2 a3 : Nat} {v4 : Int32} {d : Dy} {H : Heap} {locs : List Loc} {ls : Array Slot} {cl sl : Nat} {kc : En → Dy → Prop} (hcl : cl + 60 ≤ 634061) (hsl : sl + 1400 ≤ 7193921)
    (hk : ∀ (E9 : En) (d9 : Dy) (H : Heap) (locs : List Loc) (ls : Array Slot), kc E9 d9 → Wd D cs (fun q => s.heap.size ≤ q) s.heap s E9 d9 H locs → lv_has ls 7 [(0, .ref b), (1, .ref a1), (2, .ref a2), (3, .ref a3), (4, .int v4)] → W p l e room_1 s m #[Value.ref b] below meth c H locs (cl + 60) (sl + 1400) Q (F0 m 3051 ls [])) (h : lw_326 E a1 a2 a3 v4 xs L kc d) (hw : Wd D cs (fun q => s.heap.size ≤ q) s.heap s E d H locs) (hl : lv_has ls 7 [(0, .ref b), (1, .ref a1), (2, .ref a2), (3, .ref a3), (4, .int v4)]) : W p l e room_1 s m #[Value.ref b] below meth c H locs cl sl Q (F0 m 326 ls []) := by
  have hbA : ¬ (fun q : Nat => s.heap.size ≤ q) b := Nat.not_le.mpr hbl
  unfold lw_326 at h
  obtain ⟨ha1, ha2, ha3, h⟩ := h
  refine lv_aload_n S.1 S.2.1 (dd_at ddL_law_0 99 rfl) rfl (lv_at hl 1 rfl) ?_
  refine lv_aload_n S.1 S.2.1 (dd_at ddL_law_1 0 rfl) rfl (lv_at hl 0 rfl) ?_
  refine lv_iload S.1 S.2.1 (dd_at ddL_law_1 1 rfl) (lv_at hl 4 rfl) ?_
  refine lv_iconst (v := 1) S.1 S.2.1 (dd_at ddL_law_1 2 rfl) (by decide) ?_
  refine lv_iadd S.1 S.2.1 (dd_at ddL_law_1 3 rfl) ?_
  obtain ⟨hx_1, h⟩ := h
  refine va_sld S.1 S.2.1 hX hbl hbA hw.2.2.2.1 hx_1 (dd_at ddL_law_1 4 rfl) ?_
  refine lv_aload_n S.1 S.2.1 (dd_at ddL_law_1 5 rfl) rfl (lv_at hl 3 rfl) ?_
  refine r_callIL hw (r_runSW (As := [.ref a1, .int (xs (v4 + 1).toNatClampNeg), .ref a3]) (rest := []) S hw (m_L_text l hst D cs E d H.size a1 (xs (v4 + 1).toNatClampNeg) a3 _) (vx_cwSW 3 S.2.2.2.2 (gSW wg219 wg220 wg221 wg222) rfl rfl rfl (by decide +kernel) ⟨Nat.le_of_ble_eq_true rfl, Nat.le_of_ble_eq_true rfl⟩) h rfl hl.1 rfl (Nat.le_of_ble_eq_true rfl) (dd_at ddL_law_1 6 rfl) ⟨Nat.le_trans (Nat.add_le_add_left (Nat.le_of_ble_eq_true rfl) cl) hcl, Nat.le_trans (Nat.add_le_add_left (Nat.le_of_ble_eq_true rfl) sl) hsl⟩) (fun r_3 E_4 d_2 H locs h hx_5 hw => ?_)
  refine W.widen (k := cl + 60) (n := sl + 1400) (Nat.add_le_add_left (Nat.le_of_ble_eq_true rfl) cl) (Nat.add_le_add_left (Nat.le_of_ble_eq_true rfl) sl) ?_
  have ha1 := Ext_O hx_5 ha1
  have ha2 := Ext_O hx_5 ha2
  have ha3 := Ext_A hx_5 ha3
  refine lv_istore (lv' := [(5, .int r_3), (0, .ref b), (1, .ref a1), (2, .ref a2), (3, .ref a3), (4, .int v4)]) S.1 S.2.1 (dd_at ddL_law_1 7 rfl) hl (by decide) rfl (fun ls hl => ?_)
  refine lv_aload_n S.1 S.2.1 (dd_at ddL_law_1 8 rfl) rfl (lv_at hl 3 rfl) ?_
  refine lv_aload_n S.1 S.2.1 (dd_at ddL_law_1 9 rfl) rfl (lv_at hl 1 rfl) ?_
  refine lv_iload S.1 S.2.1 (dd_at ddL_law_1 10 rfl) (lv_at hl 5 rfl) ?_
  refine lv_iconst (v := 1) S.1 S.2.1 (dd_at ddL_law_1 11 rfl) (by decide) ?_
  refine lv_iadd S.1 S.2.1 (dd_at ddL_law_1 12 rfl) ?_
  obtain ⟨hx_6, h⟩ := h
  refine va_sld S.1 S.2.1 hX hbl hbA hw.2.2.2.1 hx_6 (dd_at ddL_law_1 13 rfl) ?_
  refine r_callI hw (r_runV (As := [.int (xs (v4 + 1).toNatClampNeg)]) (rest := []) S hw (m_X11_text l D cs E_4 d_2 H.size a2 (xs (v4 + 1).toNatClampNeg) _) (cwV 1 S.2.2.2.2 (gV wg409 wg410 wg411 wg5 wg412) rfl rfl rfl (by decide +kernel) ⟨Nat.le_of_ble_eq_true rfl, Nat.le_of_ble_eq_true rfl⟩) (ci := 11) rfl ha2 h rfl hl.1 rfl (Nat.le_of_ble_eq_true rfl) (dd_at ddL_law_1 14 rfl) ⟨hcl, hsl⟩) (fun r_8 d_7 H locs h hw => ?_)
  refine lv_istore (lv' := [(6, .int r_8), (5, .int r_3), (0, .ref b), (1, .ref a1), (2, .ref a2), (3, .ref a3), (4, .int v4)]) S.1 S.2.1 (dd_at ddL_law_1 15 rfl) hl (by decide) rfl (fun ls hl => ?_)
  refine lv_aload_n S.1 S.2.1 (dd_at ddL_law_1 16 rfl) rfl (lv_at hl 4 rfl) ?_
  refine r_callI hw (r_runV (As := []) (rest := []) S hw (m_X11_thrown l D cs E_4 d_7 H.size a2 _) (cwV 0 S.2.2.2.2 (gV wg506 wg507 wg508 wg5 wg509) rfl rfl rfl (by decide +kernel) ⟨Nat.le_of_ble_eq_true rfl, Nat.le_of_ble_eq_true rfl⟩) (ci := 11) rfl ha2 h rfl hl.1 rfl (Nat.le_of_ble_eq_true rfl) (dd_at ddL_law_1 17 rfl) ⟨hcl, hsl⟩) (fun r_10 d_9 H locs h hw => ?_)
  refine lv_iload S.1 S.2.1 (dd_at ddL_law_1 18 rfl) (lv_at hl 1 rfl) ?_
  refine lv_icmp_eq (tgt := 362) S.1 S.2.1 (dd_at ddL_law_1 19 rfl) (by decide) (fun hc_11 => ?_) (fun hc_11 => ?_)
  · have h := h.1 hc_11
    refine lv_iload S.1 S.2.1 (dd_at ddL_law_1 22 rfl) (lv_at hl 1 rfl) ?_
    refine lv_if_ne (tgt := 379) S.1 S.2.1 (dd_at ddL_law_1 23 rfl) (by decide) (fun hc_12 => ?_) (fun hc_12 => ?_)
    · have h := h.1 hc_12
      refine lv_goto (tgt := 3051) S.1 S.2.1 (dd_at ddL_law_1 33 rfl) (by decide) ?_
      exact hk _ _ _ _ _ h hw (lv_sub hl [2, 3, 4, 5, 6] rfl)
    · have h := h.2 hc_12
      refine lv_aload_n S.1 S.2.1 (dd_at ddL_law_1 24 rfl) rfl (lv_at hl 5 rfl) ?_
      refine lv_iconst (v := 0) S.1 S.2.1 (dd_at ddL_law_1 25 rfl) (by decide) ?_
      obtain ⟨hx_13, h⟩ := h
      refine r_lald S hw ha3 hx_13 (dd_at ddL_law_1 26 rfl) ?_
      refine lv_iload S.1 S.2.1 (dd_at ddL_law_1 27 rfl) (lv_at hl 0 rfl) ?_
      refine lv_i2l S.1 S.2.1 (dd_at ddL_law_1 28 rfl) rfl ?_
      refine W.lcmp S.1 S.2.1 (dd_at ddL_law_1 29 rfl) ?_
      refine lv_if_eq (tgt := 379) S.1 S.2.1 (dd_at ddL_law_1 30 rfl) (by decide) (fun hc_14 => ?_) (fun hc_14 => ?_)
      · have h := h.1 hc_14
        refine lv_goto (tgt := 3051) S.1 S.2.1 (dd_at ddL_law_1 33 rfl) (by decide) ?_
        exact hk _ _ _ _ _ h hw (lv_sub hl [2, 3, 4, 5, 6] rfl)
      · have h := h.2 hc_14
        refine lv_iconst (v := 0) S.1 S.2.1 (dd_at ddL_law_1 31 rfl) (by decide) ?_
        exact absurd h id
  · have h := h.2 hc_11
    refine lv_iconst (v := 0) S.1 S.2.1 (dd_at ddL_law_1 20 rfl) (by decide) ?_
    exact absurd h id

def lw_382 (E : En) (a1 a2 a3 : Nat) (v4 : Int32) (xs : Nat → Int32) (L : Nat) (kc : En → Dy → Prop) (d : Dy) : Prop := okO E a1 10 ∧ okO E a2 11 ∧ okA E a3 14 ∧ w_X10_fault E a1 d (fun r_2 d_1 => w_X11_fault E a2 d_1 (fun r_4 d_3 => ((r_2 = r_4 → kc E d_3) ∧ (¬ r_2 = r_4 → False))))
set_option maxRecDepth 100000 in
set_option maxHeartbeats 4000000 in
theorem lc_382 {p : Program} {l : Launch} {e : Env} {s : State} {m : MethodId} {below : List Frame} {meth : Method} {c : Code} {Q : State → Prop} {D : va_G} {cs : Nat → ClassId} {b L : Nat} {xs : Nat → Int32} {T0 : Cond} (hst : l.stackTraces = false) (S : CallFix p m c cL_law 7 s #[Value.ref b] (T0 :: wsL_law) RL) (hX : va_X b L xs s s.heap) (hbl : b < s.heap.size) {E : En} {a1 a2 a3 : Nat} {v4 : Int32} {d : Dy} {H : Heap} {locs : List Loc} {ls : Array Slot} {cl sl : Nat} {kc : En → Dy → Prop} (hcl : cl + 60 ≤ 634061) (hsl : sl + 1400 ≤ 7193921)
    (hk : ∀ (E9 : En) (d9 : Dy) (H : Heap) (locs : List Loc) (ls : Array Slot), kc E9 d9 → Wd D cs (fun q => s.heap.size ≤ q) s.heap s E9 d9 H locs → lv_has ls 7 [(0, .ref b), (1, .ref a1), (2, .ref a2), (3, .ref a3), (4, .int v4)] → W p l e room_1 s m #[Value.ref b] below meth c H locs (cl + 60) (sl + 1400) Q (F0 m 3051 ls [])) (h : lw_382 E a1 a2 a3 v4 xs L kc d) (hw : Wd D cs (fun q => s.heap.size ≤ q) s.heap s E d H locs) (hl : lv_has ls 7 [(0, .ref b), (1, .ref a1), (2, .ref a2), (3, .ref a3), (4, .int v4)]) : W p l e room_1 s m #[Value.ref b] below meth c H locs cl sl Q (F0 m 382 ls []) := by
  have hbA : ¬ (fun q : Nat => s.heap.size ≤ q) b := Nat.not_le.mpr hbl
  unfold lw_382 at h
  obtain ⟨ha1, ha2, ha3, h⟩ := h
  refine lv_aload_n S.1 S.2.1 (dd_at ddL_law_1 34 rfl) rfl (lv_at hl 1 rfl) ?_
  refine r_callI hw (r_runV (As := []) (rest := []) S hw (m_X10_fault l D cs E d H.size a1 _) (cwV 0 S.2.2.2.2 (gV wg510 wg511 wg512 wg2 wg513) rfl rfl rfl (by decide +kernel) ⟨Nat.le_of_ble_eq_true rfl, Nat.le_of_ble_eq_true rfl⟩) (ci := 10) rfl ha1 h rfl hl.1 rfl (Nat.le_of_ble_eq_true rfl) (dd_at ddL_law_1 35 rfl) ⟨Nat.le_trans (Nat.le_add_right cl 60) hcl, Nat.le_trans (Nat.le_add_right sl 1400) hsl⟩) (fun r_2 d_1 H locs h hw => ?_)
  refine lv_aload_n S.1 S.2.1 (dd_at ddL_law_1 36 rfl) rfl (lv_at hl 2 rfl) ?_
  refine r_callI hw (r_runV (As := []) (rest := [.int r_2]) S hw (m_X11_fault l D cs E d_1 H.size a2 _) (cwV 0 S.2.2.2.2 (gV wg514 wg515 wg516 wg5 wg517) rfl rfl rfl (by decide +kernel) ⟨Nat.le_of_ble_eq_true rfl, Nat.le_of_ble_eq_true rfl⟩) (ci := 11) rfl ha2 h rfl hl.1 rfl (Nat.le_of_ble_eq_true rfl) (dd_at ddL_law_1 37 rfl) ⟨Nat.le_trans (Nat.le_add_right cl 60) hcl, Nat.le_trans (Nat.le_add_right sl 1400) hsl⟩) (fun r_4 d_3 H locs h hw => ?_)
  refine lv_icmp_eq (tgt := 3051) S.1 S.2.1 (dd_at ddL_law_1 38 rfl) (by decide) (fun hc_5 => ?_) (fun hc_5 => ?_)
  · have h := h.1 hc_5
    refine W.widen (k := cl + 60) (n := sl + 1400) (Nat.le_add_right _ _) (Nat.le_add_right _ _) ?_
    exact hk _ _ _ _ _ h hw (lv_sub hl [0, 1, 2, 3, 4] rfl)
  · have h := h.2 hc_5
    refine lv_iconst (v := 0) S.1 S.2.1 (dd_at ddL_law_1 39 rfl) (by decide) ?_
    exact absurd h id

def lw_395 (E : En) (a1 a2 a3 : Nat) (v4 : Int32) (xs : Nat → Int32) (L : Nat) (kc : En → Dy → Prop) (d : Dy) : Prop := okO E a1 10 ∧ okO E a2 11 ∧ okA E a3 14 ∧ vp_in (v4 + 1) L ∧ w_L_years E a1 (xs (v4 + 1).toNatClampNeg) a3 d (fun r_3 d_2 => vp_in (v4 + 1) L ∧ w_X11_years E a2 (xs (v4 + 1).toNatClampNeg) d_2 (fun r_6 d_5 => w_X11_thrown E a2 d_5 (fun r_8 d_7 => ((r_8 = r_3 → ((¬ r_3 = 0 → kc E d_7) ∧ (r_3 = 0 → vp_in 0 (eN E a3) ∧ (((lg_cmp (gJ d_7 a3 ((0 : Int32)).toNatClampNeg) r_6.toInt64) = 0 → kc E d_7) ∧ (¬ (lg_cmp (gJ d_7 a3 ((0 : Int32)).toNatClampNeg) r_6.toInt64) = 0 → False))))) ∧ (¬ r_8 = r_3 → False)))))
set_option maxRecDepth 100000 in
set_option maxHeartbeats 4000000 in
theorem lc_395 {p : Program} {l : Launch} {e : Env} {s : State} {m : MethodId} {below : List Frame} {meth : Method} {c : Code} {Q : State → Prop} {D : va_G} {cs : Nat → ClassId} {b L : Nat} {xs : Nat → Int32} {T0 : Cond} (hst : l.stackTraces = false) (S : CallFix p m c cL_law 7 s #[Value.ref b] (T0 :: wsL_law) RL) (hX : va_X b L xs s s.heap) (hbl : b < s.heap.size) {E : En} {a1 a2 a3 : Nat} {v4 : Int32} {d : Dy} {H : Heap} {locs : List Loc} {ls : Array Slot} {cl sl : Nat} {kc : En → Dy → Prop} (hcl : cl + 60 ≤ 634061) (hsl : sl + 1400 ≤ 7193921)
    (hk : ∀ (E9 : En) (d9 : Dy) (H : Heap) (locs : List Loc) (ls : Array Slot), kc E9 d9 → Wd D cs (fun q => s.heap.size ≤ q) s.heap s E9 d9 H locs → lv_has ls 7 [(0, .ref b), (1, .ref a1), (2, .ref a2), (3, .ref a3), (4, .int v4)] → W p l e room_1 s m #[Value.ref b] below meth c H locs (cl + 60) (sl + 1400) Q (F0 m 3051 ls [])) (h : lw_395 E a1 a2 a3 v4 xs L kc d) (hw : Wd D cs (fun q => s.heap.size ≤ q) s.heap s E d H locs) (hl : lv_has ls 7 [(0, .ref b), (1, .ref a1), (2, .ref a2), (3, .ref a3), (4, .int v4)]) : W p l e room_1 s m #[Value.ref b] below meth c H locs cl sl Q (F0 m 395 ls []) := by
  have hbA : ¬ (fun q : Nat => s.heap.size ≤ q) b := Nat.not_le.mpr hbl
  unfold lw_395 at h
  obtain ⟨ha1, ha2, ha3, h⟩ := h
  refine lv_aload_n S.1 S.2.1 (dd_at ddL_law_1 41 rfl) rfl (lv_at hl 1 rfl) ?_
  refine lv_aload_n S.1 S.2.1 (dd_at ddL_law_1 42 rfl) rfl (lv_at hl 0 rfl) ?_
  refine lv_iload S.1 S.2.1 (dd_at ddL_law_1 43 rfl) (lv_at hl 4 rfl) ?_
  refine lv_iconst (v := 1) S.1 S.2.1 (dd_at ddL_law_1 44 rfl) (by decide) ?_
  refine lv_iadd S.1 S.2.1 (dd_at ddL_law_1 45 rfl) ?_
  obtain ⟨hx_1, h⟩ := h
  refine va_sld S.1 S.2.1 hX hbl hbA hw.2.2.2.1 hx_1 (dd_at ddL_law_1 46 rfl) ?_
  refine lv_aload_n S.1 S.2.1 (dd_at ddL_law_1 47 rfl) rfl (lv_at hl 3 rfl) ?_
  refine r_callI hw (r_runSW (As := [.ref a1, .int (xs (v4 + 1).toNatClampNeg), .ref a3]) (rest := []) S hw (m_L_years l hst D cs E d H.size a1 (xs (v4 + 1).toNatClampNeg) a3 _) (vx_cwSW 3 S.2.2.2.2 (gSW wg518 wg519 wg221 wg520) rfl rfl rfl (by decide +kernel) ⟨Nat.le_of_ble_eq_true rfl, Nat.le_of_ble_eq_true rfl⟩) h rfl hl.1 rfl (Nat.le_of_ble_eq_true rfl) (dd_at ddL_law_1 48 rfl) ⟨Nat.le_trans (Nat.add_le_add_left (Nat.le_of_ble_eq_true rfl) cl) hcl, Nat.le_trans (Nat.add_le_add_left (Nat.le_of_ble_eq_true rfl) sl) hsl⟩) (fun r_3 d_2 H locs h hw => ?_)
  refine W.widen (k := cl + 60) (n := sl + 1400) (Nat.add_le_add_left (Nat.le_of_ble_eq_true rfl) cl) (Nat.add_le_add_left (Nat.le_of_ble_eq_true rfl) sl) ?_
  refine lv_istore (lv' := [(5, .int r_3), (0, .ref b), (1, .ref a1), (2, .ref a2), (3, .ref a3), (4, .int v4)]) S.1 S.2.1 (dd_at ddL_law_1 49 rfl) hl (by decide) rfl (fun ls hl => ?_)
  refine lv_aload_n S.1 S.2.1 (dd_at ddL_law_1 50 rfl) rfl (lv_at hl 3 rfl) ?_
  refine lv_aload_n S.1 S.2.1 (dd_at ddL_law_1 51 rfl) rfl (lv_at hl 1 rfl) ?_
  refine lv_iload S.1 S.2.1 (dd_at ddL_law_1 52 rfl) (lv_at hl 5 rfl) ?_
  refine lv_iconst (v := 1) S.1 S.2.1 (dd_at ddL_law_1 53 rfl) (by decide) ?_
  refine lv_iadd S.1 S.2.1 (dd_at ddL_law_1 54 rfl) ?_
  obtain ⟨hx_4, h⟩ := h
  refine va_sld S.1 S.2.1 hX hbl hbA hw.2.2.2.1 hx_4 (dd_at ddL_law_1 55 rfl) ?_
  refine r_callI hw (r_runV (As := [.int (xs (v4 + 1).toNatClampNeg)]) (rest := []) S hw (m_X11_years l D cs E d_2 H.size a2 (xs (v4 + 1).toNatClampNeg) _) (cwV 1 S.2.2.2.2 (gV wg528 wg529 wg530 wg5 wg531) rfl rfl rfl (by decide +kernel) ⟨Nat.le_of_ble_eq_true rfl, Nat.le_of_ble_eq_true rfl⟩) (ci := 11) rfl ha2 h rfl hl.1 rfl (Nat.le_of_ble_eq_true rfl) (dd_at ddL_law_1 56 rfl) ⟨hcl, hsl⟩) (fun r_6 d_5 H locs h hw => ?_)
  refine lv_istore (lv' := [(6, .int r_6), (5, .int r_3), (0, .ref b), (1, .ref a1), (2, .ref a2), (3, .ref a3), (4, .int v4)]) S.1 S.2.1 (dd_at ddL_law_1 57 rfl) hl (by decide) rfl (fun ls hl => ?_)
  refine lv_aload_n S.1 S.2.1 (dd_at ddL_law_1 58 rfl) rfl (lv_at hl 4 rfl) ?_
  refine r_callI hw (r_runV (As := []) (rest := []) S hw (m_X11_thrown l D cs E d_5 H.size a2 _) (cwV 0 S.2.2.2.2 (gV wg506 wg507 wg508 wg5 wg509) rfl rfl rfl (by decide +kernel) ⟨Nat.le_of_ble_eq_true rfl, Nat.le_of_ble_eq_true rfl⟩) (ci := 11) rfl ha2 h rfl hl.1 rfl (Nat.le_of_ble_eq_true rfl) (dd_at ddL_law_1 59 rfl) ⟨hcl, hsl⟩) (fun r_8 d_7 H locs h hw => ?_)
  refine lv_iload S.1 S.2.1 (dd_at ddL_law_1 60 rfl) (lv_at hl 1 rfl) ?_
  refine lv_icmp_eq (tgt := 431) S.1 S.2.1 (dd_at ddL_law_1 61 rfl) (by decide) (fun hc_9 => ?_) (fun hc_9 => ?_)
  · have h := h.1 hc_9
    refine lv_iload S.1 S.2.1 (dd_at ddL_law_1 64 rfl) (lv_at hl 1 rfl) ?_
    refine lv_if_ne (tgt := 448) S.1 S.2.1 (dd_at ddL_law_1 65 rfl) (by decide) (fun hc_10 => ?_) (fun hc_10 => ?_)
    · have h := h.1 hc_10
      refine lv_goto (tgt := 3051) S.1 S.2.1 (dd_at ddL_law_1 75 rfl) (by decide) ?_
      exact hk _ _ _ _ _ h hw (lv_sub hl [2, 3, 4, 5, 6] rfl)
    · have h := h.2 hc_10
      refine lv_aload_n S.1 S.2.1 (dd_at ddL_law_1 66 rfl) rfl (lv_at hl 5 rfl) ?_
      refine lv_iconst (v := 0) S.1 S.2.1 (dd_at ddL_law_1 67 rfl) (by decide) ?_
      obtain ⟨hx_11, h⟩ := h
      refine r_lald S hw ha3 hx_11 (dd_at ddL_law_1 68 rfl) ?_
      refine lv_iload S.1 S.2.1 (dd_at ddL_law_1 69 rfl) (lv_at hl 0 rfl) ?_
      refine lv_i2l S.1 S.2.1 (dd_at ddL_law_1 70 rfl) rfl ?_
      refine W.lcmp S.1 S.2.1 (dd_at ddL_law_1 71 rfl) ?_
      refine lv_if_eq (tgt := 448) S.1 S.2.1 (dd_at ddL_law_1 72 rfl) (by decide) (fun hc_12 => ?_) (fun hc_12 => ?_)
      · have h := h.1 hc_12
        refine lv_goto (tgt := 3051) S.1 S.2.1 (dd_at ddL_law_1 75 rfl) (by decide) ?_
        exact hk _ _ _ _ _ h hw (lv_sub hl [2, 3, 4, 5, 6] rfl)
      · have h := h.2 hc_12
        refine lv_iconst (v := 0) S.1 S.2.1 (dd_at ddL_law_1 73 rfl) (by decide) ?_
        exact absurd h id
  · have h := h.2 hc_9
    refine lv_iconst (v := 0) S.1 S.2.1 (dd_at ddL_law_1 62 rfl) (by decide) ?_
    exact absurd h id

def b_Lw_511 (E : En) (a1 a2 a3 : Nat) (v4 : Int32) (xs : Nat → Int32) (L : Nat) (kc : En → Dy → Prop) (v5 : Int32) (s0 : Nat) (s1 : Int32) (s2 : Int32) (s3 : Int32) (d : Dy) : Prop := okO E s0 11 ∧ w_X11_person E s0 s1 s2 s3 d (fun r_2 d_1 => w_X11_thrown E a2 d_1 (fun r_4 d_3 => ((r_4 = v5 → ((¬ v5 = 0 → kc E d_3) ∧ (v5 = 0 → vp_in 0 (eN E a3) ∧ (((lg_cmp (gJ d_3 a3 ((0 : Int32)).toNatClampNeg) r_2.toInt64) = 0 → kc E d_3) ∧ (¬ (lg_cmp (gJ d_3 a3 ((0 : Int32)).toNatClampNeg) r_2.toInt64) = 0 → False))))) ∧ (¬ r_4 = v5 → False))))
def b_Lw_478 (E : En) (a1 a2 a3 : Nat) (v4 : Int32) (xs : Nat → Int32) (L : Nat) (kc : En → Dy → Prop) (s0 : Nat) (s1 : Int32) (s2 : Int32) (s3 : Int32) (d : Dy) : Prop := okO E s0 10 ∧ w_L_person E s0 s1 s2 s3 a3 d (fun r_10 d_9 => vp_in (v4 + 1) L ∧ vp_in (v4 + 2) L ∧ vp_in (v4 + 3) L ∧ (((xs (v4 + 3).toNatClampNeg) = 0 → b_Lw_511 E a1 a2 a3 v4 xs L kc r_10 a2 (xs (v4 + 1).toNatClampNeg) (xs (v4 + 2).toNatClampNeg) 0 d_9) ∧ (¬ (xs (v4 + 3).toNatClampNeg) = 0 → b_Lw_511 E a1 a2 a3 v4 xs L kc r_10 a2 (xs (v4 + 1).toNatClampNeg) (xs (v4 + 2).toNatClampNeg) 1 d_9)))
def lw_451 (E : En) (a1 a2 a3 : Nat) (v4 : Int32) (xs : Nat → Int32) (L : Nat) (kc : En → Dy → Prop) (d : Dy) : Prop := okO E a1 10 ∧ okO E a2 11 ∧ okA E a3 14 ∧ vp_in (v4 + 1) L ∧ vp_in (v4 + 2) L ∧ vp_in (v4 + 3) L ∧ (((xs (v4 + 3).toNatClampNeg) = 0 → b_Lw_478 E a1 a2 a3 v4 xs L kc a1 (xs (v4 + 1).toNatClampNeg) (xs (v4 + 2).toNatClampNeg) 0 d) ∧ (¬ (xs (v4 + 3).toNatClampNeg) = 0 → b_Lw_478 E a1 a2 a3 v4 xs L kc a1 (xs (v4 + 1).toNatClampNeg) (xs (v4 + 2).toNatClampNeg) 1 d))
set_option maxRecDepth 100000 in
set_option maxHeartbeats 4000000 in
theorem lc_451 {p : Program} {l : Launch} {e : Env} {s : State} {m : MethodId} {below : List Frame} {meth : Method} {c : Code} {Q : State → Prop} {D : va_G} {cs : Nat → ClassId} {b L : Nat} {xs : Nat → Int32} {T0 : Cond} (hst : l.stackTraces = false) (S : CallFix p m c cL_law 7 s #[Value.ref b] (T0 :: wsL_law) RL) (hX : va_X b L xs s s.heap) (hbl : b < s.heap.size) {E : En} {a1 a2 a3 : Nat} {v4 : Int32} {d : Dy} {H : Heap} {locs : List Loc} {ls : Array Slot} {cl sl : Nat} {kc : En → Dy → Prop} (hcl : cl + 60 ≤ 634061) (hsl : sl + 1400 ≤ 7193921)
    (hk : ∀ (E9 : En) (d9 : Dy) (H : Heap) (locs : List Loc) (ls : Array Slot), kc E9 d9 → Wd D cs (fun q => s.heap.size ≤ q) s.heap s E9 d9 H locs → lv_has ls 7 [(0, .ref b), (1, .ref a1), (2, .ref a2), (3, .ref a3), (4, .int v4)] → W p l e room_1 s m #[Value.ref b] below meth c H locs (cl + 60) (sl + 1400) Q (F0 m 3051 ls [])) (h : lw_451 E a1 a2 a3 v4 xs L kc d) (hw : Wd D cs (fun q => s.heap.size ≤ q) s.heap s E d H locs) (hl : lv_has ls 7 [(0, .ref b), (1, .ref a1), (2, .ref a2), (3, .ref a3), (4, .int v4)]) : W p l e room_1 s m #[Value.ref b] below meth c H locs cl sl Q (F0 m 451 ls []) := by
  have hbA : ¬ (fun q : Nat => s.heap.size ≤ q) b := Nat.not_le.mpr hbl
  unfold lw_451 at h
  obtain ⟨ha1, ha2, ha3, h⟩ := h
  have tb511 : ∀ (v5 : Int32) (s0 : Nat) (s1 : Int32) (s2 : Int32) (s3 : Int32) (d : Dy) (H : Heap) (locs : List Loc) (ls : Array Slot), b_Lw_511 E a1 a2 a3 v4 xs L kc v5 s0 s1 s2 s3 d → Wd D cs (fun q => s.heap.size ≤ q) s.heap s E d H locs → lv_has ls 7 [(0, .ref b), (1, .ref a1), (2, .ref a2), (3, .ref a3), (4, .int v4), (5, .int v5)] → W p l e room_1 s m #[Value.ref b] below meth c H locs (cl + 60) (sl + 1400) Q (F0 m 511 ls [.int s3, .int s2, .int s1, .ref s0]) := by
    intro v5 s0 s1 s2 s3 d H locs ls h hw hl
    unfold b_Lw_511 at h
    obtain ⟨hos0, h⟩ := h
    refine r_callI hw (r_runV (As := [.int s1, .int s2, .int s3]) (rest := []) S hw (m_X11_person l D cs E d H.size s0 s1 s2 s3 _) (cwV 3 S.2.2.2.2 (gV wg551 wg552 wg553 wg5 wg554) rfl rfl rfl (by decide +kernel) ⟨Nat.le_of_ble_eq_true rfl, Nat.le_of_ble_eq_true rfl⟩) (ci := 11) rfl hos0 h rfl hl.1 rfl (Nat.le_of_ble_eq_true rfl) (dd_at ddL_law_2 19 rfl) ⟨hcl, hsl⟩) (fun r_2 d_1 H locs h hw => ?_)
    refine lv_istore (lv' := [(6, .int r_2), (0, .ref b), (1, .ref a1), (2, .ref a2), (3, .ref a3), (4, .int v4), (5, .int v5)]) S.1 S.2.1 (dd_at ddL_law_2 20 rfl) hl (by decide) rfl (fun ls hl => ?_)
    refine lv_aload_n S.1 S.2.1 (dd_at ddL_law_2 21 rfl) rfl (lv_at hl 3 rfl) ?_
    refine r_callI hw (r_runV (As := []) (rest := []) S hw (m_X11_thrown l D cs E d_1 H.size a2 _) (cwV 0 S.2.2.2.2 (gV wg506 wg507 wg508 wg5 wg509) rfl rfl rfl (by decide +kernel) ⟨Nat.le_of_ble_eq_true rfl, Nat.le_of_ble_eq_true rfl⟩) (ci := 11) rfl ha2 h rfl hl.1 rfl (Nat.le_of_ble_eq_true rfl) (dd_at ddL_law_2 22 rfl) ⟨hcl, hsl⟩) (fun r_4 d_3 H locs h hw => ?_)
    refine lv_iload S.1 S.2.1 (dd_at ddL_law_2 23 rfl) (lv_at hl 6 rfl) ?_
    refine lv_icmp_eq (tgt := 527) S.1 S.2.1 (dd_at ddL_law_2 24 rfl) (by decide) (fun hc_5 => ?_) (fun hc_5 => ?_)
    · have h := h.1 hc_5
      refine lv_iload S.1 S.2.1 (dd_at ddL_law_2 27 rfl) (lv_at hl 6 rfl) ?_
      refine lv_if_ne (tgt := 544) S.1 S.2.1 (dd_at ddL_law_2 28 rfl) (by decide) (fun hc_6 => ?_) (fun hc_6 => ?_)
      · have h := h.1 hc_6
        refine lv_goto (tgt := 3051) S.1 S.2.1 (dd_at ddL_law_2 38 rfl) (by decide) ?_
        exact hk _ _ _ _ _ h hw (lv_sub hl [1, 2, 3, 4, 5] rfl)
      · have h := h.2 hc_6
        refine lv_aload_n S.1 S.2.1 (dd_at ddL_law_2 29 rfl) rfl (lv_at hl 4 rfl) ?_
        refine lv_iconst (v := 0) S.1 S.2.1 (dd_at ddL_law_2 30 rfl) (by decide) ?_
        obtain ⟨hx_7, h⟩ := h
        refine r_lald S hw ha3 hx_7 (dd_at ddL_law_2 31 rfl) ?_
        refine lv_iload S.1 S.2.1 (dd_at ddL_law_2 32 rfl) (lv_at hl 0 rfl) ?_
        refine lv_i2l S.1 S.2.1 (dd_at ddL_law_2 33 rfl) rfl ?_
        refine W.lcmp S.1 S.2.1 (dd_at ddL_law_2 34 rfl) ?_
        refine lv_if_eq (tgt := 544) S.1 S.2.1 (dd_at ddL_law_2 35 rfl) (by decide) (fun hc_8 => ?_) (fun hc_8 => ?_)
        · have h := h.1 hc_8
          refine lv_goto (tgt := 3051) S.1 S.2.1 (dd_at ddL_law_2 38 rfl) (by decide) ?_
          exact hk _ _ _ _ _ h hw (lv_sub hl [1, 2, 3, 4, 5] rfl)
        · have h := h.2 hc_8
          refine lv_iconst (v := 0) S.1 S.2.1 (dd_at ddL_law_2 36 rfl) (by decide) ?_
          exact absurd h id
    · have h := h.2 hc_5
      refine lv_iconst (v := 0) S.1 S.2.1 (dd_at ddL_law_2 25 rfl) (by decide) ?_
      exact absurd h id
  have tb478 : ∀ (s0 : Nat) (s1 : Int32) (s2 : Int32) (s3 : Int32) (d : Dy) (H : Heap) (locs : List Loc) (ls : Array Slot), b_Lw_478 E a1 a2 a3 v4 xs L kc s0 s1 s2 s3 d → Wd D cs (fun q => s.heap.size ≤ q) s.heap s E d H locs → lv_has ls 7 [(0, .ref b), (1, .ref a1), (2, .ref a2), (3, .ref a3), (4, .int v4)] → W p l e room_1 s m #[Value.ref b] below meth c H locs cl sl Q (F0 m 478 ls [.int s3, .int s2, .int s1, .ref s0]) := by
    intro s0 s1 s2 s3 d H locs ls h hw hl
    unfold b_Lw_478 at h
    obtain ⟨hos0, h⟩ := h
    refine lv_aload_n S.1 S.2.1 (dd_at ddL_law_1 96 rfl) rfl (lv_at hl 3 rfl) ?_
    refine r_callI hw (r_runSW (As := [.ref s0, .int s1, .int s2, .int s3, .ref a3]) (rest := []) S hw (m_L_person l hst D cs E d H.size s0 s1 s2 s3 a3 _) (vx_cwSW 5 S.2.2.2.2 (gSW wg532 wg533 wg221 wg534) rfl rfl rfl (by decide +kernel) ⟨Nat.le_of_ble_eq_true rfl, Nat.le_of_ble_eq_true rfl⟩) h rfl hl.1 rfl (Nat.le_of_ble_eq_true rfl) (dd_at ddL_law_1 97 rfl) ⟨Nat.le_trans (Nat.add_le_add_left (Nat.le_of_ble_eq_true rfl) cl) hcl, Nat.le_trans (Nat.add_le_add_left (Nat.le_of_ble_eq_true rfl) sl) hsl⟩) (fun r_10 d_9 H locs h hw => ?_)
    refine W.widen (k := cl + 60) (n := sl + 1400) (Nat.add_le_add_left (Nat.le_of_ble_eq_true rfl) cl) (Nat.add_le_add_left (Nat.le_of_ble_eq_true rfl) sl) ?_
    refine lv_istore (lv' := [(5, .int r_10), (0, .ref b), (1, .ref a1), (2, .ref a2), (3, .ref a3), (4, .int v4)]) S.1 S.2.1 (dd_at ddL_law_1 98 rfl) hl (by decide) rfl (fun ls hl => ?_)
    refine lv_aload_n S.1 S.2.1 (dd_at ddL_law_1 99 rfl) rfl (lv_at hl 3 rfl) ?_
    refine lv_aload_n S.1 S.2.1 (dd_at ddL_law_2 0 rfl) rfl (lv_at hl 1 rfl) ?_
    refine lv_iload S.1 S.2.1 (dd_at ddL_law_2 1 rfl) (lv_at hl 5 rfl) ?_
    refine lv_iconst (v := 1) S.1 S.2.1 (dd_at ddL_law_2 2 rfl) (by decide) ?_
    refine lv_iadd S.1 S.2.1 (dd_at ddL_law_2 3 rfl) ?_
    obtain ⟨hx_11, h⟩ := h
    refine va_sld S.1 S.2.1 hX hbl hbA hw.2.2.2.1 hx_11 (dd_at ddL_law_2 4 rfl) ?_
    refine lv_aload_n S.1 S.2.1 (dd_at ddL_law_2 5 rfl) rfl (lv_at hl 1 rfl) ?_
    refine lv_iload S.1 S.2.1 (dd_at ddL_law_2 6 rfl) (lv_at hl 5 rfl) ?_
    refine lv_iconst (v := 2) S.1 S.2.1 (dd_at ddL_law_2 7 rfl) (by decide) ?_
    refine lv_iadd S.1 S.2.1 (dd_at ddL_law_2 8 rfl) ?_
    obtain ⟨hx_12, h⟩ := h
    refine va_sld S.1 S.2.1 hX hbl hbA hw.2.2.2.1 hx_12 (dd_at ddL_law_2 9 rfl) ?_
    refine lv_aload_n S.1 S.2.1 (dd_at ddL_law_2 10 rfl) rfl (lv_at hl 1 rfl) ?_
    refine lv_iload S.1 S.2.1 (dd_at ddL_law_2 11 rfl) (lv_at hl 5 rfl) ?_
    refine lv_iconst (v := 3) S.1 S.2.1 (dd_at ddL_law_2 12 rfl) (by decide) ?_
    refine lv_iadd S.1 S.2.1 (dd_at ddL_law_2 13 rfl) ?_
    obtain ⟨hx_13, h⟩ := h
    refine va_sld S.1 S.2.1 hX hbl hbA hw.2.2.2.1 hx_13 (dd_at ddL_law_2 14 rfl) ?_
    refine lv_if_eq (tgt := 510) S.1 S.2.1 (dd_at ddL_law_2 15 rfl) (by decide) (fun hc_14 => ?_) (fun hc_14 => ?_)
    · have h := h.1 hc_14
      refine lv_iconst (v := 0) S.1 S.2.1 (dd_at ddL_law_2 18 rfl) (by decide) ?_
      exact tb511 r_10 a2 (xs (v4 + 1).toNatClampNeg) (xs (v4 + 2).toNatClampNeg) 0 d_9 H locs ls h hw (lv_sub hl [1, 2, 3, 4, 5, 0] rfl)
    · have h := h.2 hc_14
      refine lv_iconst (v := 1) S.1 S.2.1 (dd_at ddL_law_2 16 rfl) (by decide) ?_
      refine lv_goto (tgt := 511) S.1 S.2.1 (dd_at ddL_law_2 17 rfl) (by decide) ?_
      exact tb511 r_10 a2 (xs (v4 + 1).toNatClampNeg) (xs (v4 + 2).toNatClampNeg) 1 d_9 H locs ls h hw (lv_sub hl [1, 2, 3, 4, 5, 0] rfl)
  refine lv_aload_n S.1 S.2.1 (dd_at ddL_law_1 76 rfl) rfl (lv_at hl 1 rfl) ?_
  refine lv_aload_n S.1 S.2.1 (dd_at ddL_law_1 77 rfl) rfl (lv_at hl 0 rfl) ?_
  refine lv_iload S.1 S.2.1 (dd_at ddL_law_1 78 rfl) (lv_at hl 4 rfl) ?_
  refine lv_iconst (v := 1) S.1 S.2.1 (dd_at ddL_law_1 79 rfl) (by decide) ?_
  refine lv_iadd S.1 S.2.1 (dd_at ddL_law_1 80 rfl) ?_
  obtain ⟨hx_15, h⟩ := h
  refine va_sld S.1 S.2.1 hX hbl hbA hw.2.2.2.1 hx_15 (dd_at ddL_law_1 81 rfl) ?_
  refine lv_aload_n S.1 S.2.1 (dd_at ddL_law_1 82 rfl) rfl (lv_at hl 0 rfl) ?_
  refine lv_iload S.1 S.2.1 (dd_at ddL_law_1 83 rfl) (lv_at hl 4 rfl) ?_
  refine lv_iconst (v := 2) S.1 S.2.1 (dd_at ddL_law_1 84 rfl) (by decide) ?_
  refine lv_iadd S.1 S.2.1 (dd_at ddL_law_1 85 rfl) ?_
  obtain ⟨hx_16, h⟩ := h
  refine va_sld S.1 S.2.1 hX hbl hbA hw.2.2.2.1 hx_16 (dd_at ddL_law_1 86 rfl) ?_
  refine lv_aload_n S.1 S.2.1 (dd_at ddL_law_1 87 rfl) rfl (lv_at hl 0 rfl) ?_
  refine lv_iload S.1 S.2.1 (dd_at ddL_law_1 88 rfl) (lv_at hl 4 rfl) ?_
  refine lv_iconst (v := 3) S.1 S.2.1 (dd_at ddL_law_1 89 rfl) (by decide) ?_
  refine lv_iadd S.1 S.2.1 (dd_at ddL_law_1 90 rfl) ?_
  obtain ⟨hx_17, h⟩ := h
  refine va_sld S.1 S.2.1 hX hbl hbA hw.2.2.2.1 hx_17 (dd_at ddL_law_1 91 rfl) ?_
  refine lv_if_eq (tgt := 477) S.1 S.2.1 (dd_at ddL_law_1 92 rfl) (by decide) (fun hc_18 => ?_) (fun hc_18 => ?_)
  · have h := h.1 hc_18
    refine lv_iconst (v := 0) S.1 S.2.1 (dd_at ddL_law_1 95 rfl) (by decide) ?_
    exact tb478 a1 (xs (v4 + 1).toNatClampNeg) (xs (v4 + 2).toNatClampNeg) 0 d H locs ls h hw (lv_sub hl [0, 1, 2, 3, 4] rfl)
  · have h := h.2 hc_18
    refine lv_iconst (v := 1) S.1 S.2.1 (dd_at ddL_law_1 93 rfl) (by decide) ?_
    refine lv_goto (tgt := 478) S.1 S.2.1 (dd_at ddL_law_1 94 rfl) (by decide) ?_
    exact tb478 a1 (xs (v4 + 1).toNatClampNeg) (xs (v4 + 2).toNatClampNeg) 1 d H locs ls h hw (lv_sub hl [0, 1, 2, 3, 4] rfl)

def lw_547 (E : En) (a1 a2 a3 : Nat) (v4 : Int32) (xs : Nat → Int32) (L : Nat) (kc : En → Dy → Prop) (d : Dy) : Prop := okO E a1 10 ∧ okO E a2 11 ∧ okA E a3 14 ∧ vp_in (v4 + 1) L ∧ vp_in (v4 + 2) L ∧ vp_in (v4 + 3) L ∧ w_L_hut E a1 (xs (v4 + 1).toNatClampNeg) (xs (v4 + 2).toNatClampNeg) (xs (v4 + 3).toNatClampNeg) a3 d (fun r_5 d_4 => vp_in (v4 + 1) L ∧ vp_in (v4 + 2) L ∧ vp_in (v4 + 3) L ∧ w_X11_hut E a2 (xs (v4 + 1).toNatClampNeg) (xs (v4 + 2).toNatClampNeg) (xs (v4 + 3).toNatClampNeg) d_4 (fun r_10 d_9 => w_X11_thrown E a2 d_9 (fun r_12 d_11 => ((r_12 = r_5 → ((¬ r_5 = 0 → kc E d_11) ∧ (r_5 = 0 → vp_in 0 (eN E a3) ∧ (((lg_cmp (gJ d_11 a3 ((0 : Int32)).toNatClampNeg) r_10.toInt64) = 0 → kc E d_11) ∧ (¬ (lg_cmp (gJ d_11 a3 ((0 : Int32)).toNatClampNeg) r_10.toInt64) = 0 → False))))) ∧ (¬ r_12 = r_5 → False)))))
set_option maxRecDepth 100000 in
set_option maxHeartbeats 4000000 in
theorem lc_547 {p : Program} {l : Launch} {e : Env} {s : State} {m : MethodId} {below : List Frame} {meth : Method} {c : Code} {Q : State → Prop} {D : va_G} {cs : Nat → ClassId} {b L : Nat} {xs : Nat → Int32} {T0 : Cond} (hst : l.stackTraces = false) (S : CallFix p m c cL_law 7 s #[Value.ref b] (T0 :: wsL_law) RL) (hX : va_X b L xs s s.heap) (hbl : b < s.heap.size) {E : En} {a1 a2 a3 : Nat} {v4 : Int32} {d : Dy} {H : Heap} {locs : List Loc} {ls : Array Slot} {cl sl : Nat} {kc : En → Dy → Prop} (hcl : cl + 60 ≤ 634061) (hsl : sl + 1400 ≤ 7193921)
    (hk : ∀ (E9 : En) (d9 : Dy) (H : Heap) (locs : List Loc) (ls : Array Slot), kc E9 d9 → Wd D cs (fun q => s.heap.size ≤ q) s.heap s E9 d9 H locs → lv_has ls 7 [(0, .ref b), (1, .ref a1), (2, .ref a2), (3, .ref a3), (4, .int v4)] → W p l e room_1 s m #[Value.ref b] below meth c H locs (cl + 60) (sl + 1400) Q (F0 m 3051 ls [])) (h : lw_547 E a1 a2 a3 v4 xs L kc d) (hw : Wd D cs (fun q => s.heap.size ≤ q) s.heap s E d H locs) (hl : lv_has ls 7 [(0, .ref b), (1, .ref a1), (2, .ref a2), (3, .ref a3), (4, .int v4)]) : W p l e room_1 s m #[Value.ref b] below meth c H locs cl sl Q (F0 m 547 ls []) := by
  have hbA : ¬ (fun q : Nat => s.heap.size ≤ q) b := Nat.not_le.mpr hbl
  unfold lw_547 at h
  obtain ⟨ha1, ha2, ha3, h⟩ := h
  refine lv_aload_n S.1 S.2.1 (dd_at ddL_law_2 39 rfl) rfl (lv_at hl 1 rfl) ?_
  refine lv_aload_n S.1 S.2.1 (dd_at ddL_law_2 40 rfl) rfl (lv_at hl 0 rfl) ?_
  refine lv_iload S.1 S.2.1 (dd_at ddL_law_2 41 rfl) (lv_at hl 4 rfl) ?_
  refine lv_iconst (v := 1) S.1 S.2.1 (dd_at ddL_law_2 42 rfl) (by decide) ?_
  refine lv_iadd S.1 S.2.1 (dd_at ddL_law_2 43 rfl) ?_
  obtain ⟨hx_1, h⟩ := h
  refine va_sld S.1 S.2.1 hX hbl hbA hw.2.2.2.1 hx_1 (dd_at ddL_law_2 44 rfl) ?_
  refine lv_aload_n S.1 S.2.1 (dd_at ddL_law_2 45 rfl) rfl (lv_at hl 0 rfl) ?_
  refine lv_iload S.1 S.2.1 (dd_at ddL_law_2 46 rfl) (lv_at hl 4 rfl) ?_
  refine lv_iconst (v := 2) S.1 S.2.1 (dd_at ddL_law_2 47 rfl) (by decide) ?_
  refine lv_iadd S.1 S.2.1 (dd_at ddL_law_2 48 rfl) ?_
  obtain ⟨hx_2, h⟩ := h
  refine va_sld S.1 S.2.1 hX hbl hbA hw.2.2.2.1 hx_2 (dd_at ddL_law_2 49 rfl) ?_
  refine lv_aload_n S.1 S.2.1 (dd_at ddL_law_2 50 rfl) rfl (lv_at hl 0 rfl) ?_
  refine lv_iload S.1 S.2.1 (dd_at ddL_law_2 51 rfl) (lv_at hl 4 rfl) ?_
  refine lv_iconst (v := 3) S.1 S.2.1 (dd_at ddL_law_2 52 rfl) (by decide) ?_
  refine lv_iadd S.1 S.2.1 (dd_at ddL_law_2 53 rfl) ?_
  obtain ⟨hx_3, h⟩ := h
  refine va_sld S.1 S.2.1 hX hbl hbA hw.2.2.2.1 hx_3 (dd_at ddL_law_2 54 rfl) ?_
  refine lv_aload_n S.1 S.2.1 (dd_at ddL_law_2 55 rfl) rfl (lv_at hl 3 rfl) ?_
  refine r_callI hw (r_runSW (As := [.ref a1, .int (xs (v4 + 1).toNatClampNeg), .int (xs (v4 + 2).toNatClampNeg), .int (xs (v4 + 3).toNatClampNeg), .ref a3]) (rest := []) S hw (m_L_hut l hst D cs E d H.size a1 (xs (v4 + 1).toNatClampNeg) (xs (v4 + 2).toNatClampNeg) (xs (v4 + 3).toNatClampNeg) a3 _) (vx_cwSW 5 S.2.2.2.2 (gSW wg566 wg567 wg221 wg568) rfl rfl rfl (by decide +kernel) ⟨Nat.le_of_ble_eq_true rfl, Nat.le_of_ble_eq_true rfl⟩) h rfl hl.1 rfl (Nat.le_of_ble_eq_true rfl) (dd_at ddL_law_2 56 rfl) ⟨Nat.le_trans (Nat.add_le_add_left (Nat.le_of_ble_eq_true rfl) cl) hcl, Nat.le_trans (Nat.add_le_add_left (Nat.le_of_ble_eq_true rfl) sl) hsl⟩) (fun r_5 d_4 H locs h hw => ?_)
  refine W.widen (k := cl + 60) (n := sl + 1400) (Nat.add_le_add_left (Nat.le_of_ble_eq_true rfl) cl) (Nat.add_le_add_left (Nat.le_of_ble_eq_true rfl) sl) ?_
  refine lv_istore (lv' := [(5, .int r_5), (0, .ref b), (1, .ref a1), (2, .ref a2), (3, .ref a3), (4, .int v4)]) S.1 S.2.1 (dd_at ddL_law_2 57 rfl) hl (by decide) rfl (fun ls hl => ?_)
  refine lv_aload_n S.1 S.2.1 (dd_at ddL_law_2 58 rfl) rfl (lv_at hl 3 rfl) ?_
  refine lv_aload_n S.1 S.2.1 (dd_at ddL_law_2 59 rfl) rfl (lv_at hl 1 rfl) ?_
  refine lv_iload S.1 S.2.1 (dd_at ddL_law_2 60 rfl) (lv_at hl 5 rfl) ?_
  refine lv_iconst (v := 1) S.1 S.2.1 (dd_at ddL_law_2 61 rfl) (by decide) ?_
  refine lv_iadd S.1 S.2.1 (dd_at ddL_law_2 62 rfl) ?_
  obtain ⟨hx_6, h⟩ := h
  refine va_sld S.1 S.2.1 hX hbl hbA hw.2.2.2.1 hx_6 (dd_at ddL_law_2 63 rfl) ?_
  refine lv_aload_n S.1 S.2.1 (dd_at ddL_law_2 64 rfl) rfl (lv_at hl 1 rfl) ?_
  refine lv_iload S.1 S.2.1 (dd_at ddL_law_2 65 rfl) (lv_at hl 5 rfl) ?_
  refine lv_iconst (v := 2) S.1 S.2.1 (dd_at ddL_law_2 66 rfl) (by decide) ?_
  refine lv_iadd S.1 S.2.1 (dd_at ddL_law_2 67 rfl) ?_
  obtain ⟨hx_7, h⟩ := h
  refine va_sld S.1 S.2.1 hX hbl hbA hw.2.2.2.1 hx_7 (dd_at ddL_law_2 68 rfl) ?_
  refine lv_aload_n S.1 S.2.1 (dd_at ddL_law_2 69 rfl) rfl (lv_at hl 1 rfl) ?_
  refine lv_iload S.1 S.2.1 (dd_at ddL_law_2 70 rfl) (lv_at hl 5 rfl) ?_
  refine lv_iconst (v := 3) S.1 S.2.1 (dd_at ddL_law_2 71 rfl) (by decide) ?_
  refine lv_iadd S.1 S.2.1 (dd_at ddL_law_2 72 rfl) ?_
  obtain ⟨hx_8, h⟩ := h
  refine va_sld S.1 S.2.1 hX hbl hbA hw.2.2.2.1 hx_8 (dd_at ddL_law_2 73 rfl) ?_
  refine r_callI hw (r_runV (As := [.int (xs (v4 + 1).toNatClampNeg), .int (xs (v4 + 2).toNatClampNeg), .int (xs (v4 + 3).toNatClampNeg)]) (rest := []) S hw (m_X11_hut l D cs E d_4 H.size a2 (xs (v4 + 1).toNatClampNeg) (xs (v4 + 2).toNatClampNeg) (xs (v4 + 3).toNatClampNeg) _) (cwV 3 S.2.2.2.2 (gV wg584 wg585 wg586 wg5 wg587) rfl rfl rfl (by decide +kernel) ⟨Nat.le_of_ble_eq_true rfl, Nat.le_of_ble_eq_true rfl⟩) (ci := 11) rfl ha2 h rfl hl.1 rfl (Nat.le_of_ble_eq_true rfl) (dd_at ddL_law_2 74 rfl) ⟨hcl, hsl⟩) (fun r_10 d_9 H locs h hw => ?_)
  refine lv_istore (lv' := [(6, .int r_10), (5, .int r_5), (0, .ref b), (1, .ref a1), (2, .ref a2), (3, .ref a3), (4, .int v4)]) S.1 S.2.1 (dd_at ddL_law_2 75 rfl) hl (by decide) rfl (fun ls hl => ?_)
  refine lv_aload_n S.1 S.2.1 (dd_at ddL_law_2 76 rfl) rfl (lv_at hl 4 rfl) ?_
  refine r_callI hw (r_runV (As := []) (rest := []) S hw (m_X11_thrown l D cs E d_9 H.size a2 _) (cwV 0 S.2.2.2.2 (gV wg506 wg507 wg508 wg5 wg509) rfl rfl rfl (by decide +kernel) ⟨Nat.le_of_ble_eq_true rfl, Nat.le_of_ble_eq_true rfl⟩) (ci := 11) rfl ha2 h rfl hl.1 rfl (Nat.le_of_ble_eq_true rfl) (dd_at ddL_law_2 77 rfl) ⟨hcl, hsl⟩) (fun r_12 d_11 H locs h hw => ?_)
  refine lv_iload S.1 S.2.1 (dd_at ddL_law_2 78 rfl) (lv_at hl 1 rfl) ?_
  refine lv_icmp_eq (tgt := 607) S.1 S.2.1 (dd_at ddL_law_2 79 rfl) (by decide) (fun hc_13 => ?_) (fun hc_13 => ?_)
  · have h := h.1 hc_13
    refine lv_iload S.1 S.2.1 (dd_at ddL_law_2 82 rfl) (lv_at hl 1 rfl) ?_
    refine lv_if_ne (tgt := 624) S.1 S.2.1 (dd_at ddL_law_2 83 rfl) (by decide) (fun hc_14 => ?_) (fun hc_14 => ?_)
    · have h := h.1 hc_14
      refine lv_goto (tgt := 3051) S.1 S.2.1 (dd_at ddL_law_2 93 rfl) (by decide) ?_
      exact hk _ _ _ _ _ h hw (lv_sub hl [2, 3, 4, 5, 6] rfl)
    · have h := h.2 hc_14
      refine lv_aload_n S.1 S.2.1 (dd_at ddL_law_2 84 rfl) rfl (lv_at hl 5 rfl) ?_
      refine lv_iconst (v := 0) S.1 S.2.1 (dd_at ddL_law_2 85 rfl) (by decide) ?_
      obtain ⟨hx_15, h⟩ := h
      refine r_lald S hw ha3 hx_15 (dd_at ddL_law_2 86 rfl) ?_
      refine lv_iload S.1 S.2.1 (dd_at ddL_law_2 87 rfl) (lv_at hl 0 rfl) ?_
      refine lv_i2l S.1 S.2.1 (dd_at ddL_law_2 88 rfl) rfl ?_
      refine W.lcmp S.1 S.2.1 (dd_at ddL_law_2 89 rfl) ?_
      refine lv_if_eq (tgt := 624) S.1 S.2.1 (dd_at ddL_law_2 90 rfl) (by decide) (fun hc_16 => ?_) (fun hc_16 => ?_)
      · have h := h.1 hc_16
        refine lv_goto (tgt := 3051) S.1 S.2.1 (dd_at ddL_law_2 93 rfl) (by decide) ?_
        exact hk _ _ _ _ _ h hw (lv_sub hl [2, 3, 4, 5, 6] rfl)
      · have h := h.2 hc_16
        refine lv_iconst (v := 0) S.1 S.2.1 (dd_at ddL_law_2 91 rfl) (by decide) ?_
        exact absurd h id
  · have h := h.2 hc_13
    refine lv_iconst (v := 0) S.1 S.2.1 (dd_at ddL_law_2 80 rfl) (by decide) ?_
    exact absurd h id

def lw_627 (E : En) (a1 a2 a3 : Nat) (v4 : Int32) (xs : Nat → Int32) (L : Nat) (kc : En → Dy → Prop) (d : Dy) : Prop := okO E a1 10 ∧ okO E a2 11 ∧ okA E a3 14 ∧ vp_in (v4 + 1) L ∧ vp_in (v4 + 2) L ∧ vp_in (v4 + 3) L ∧ vp_in (v4 + 4) L ∧ w_L_event E a1 (xs (v4 + 1).toNatClampNeg) (xs (v4 + 2).toNatClampNeg) (xs (v4 + 3).toNatClampNeg) (xs (v4 + 4).toNatClampNeg) a3 d (fun r_6 d_5 => vp_in (v4 + 1) L ∧ vp_in (v4 + 2) L ∧ vp_in (v4 + 3) L ∧ vp_in (v4 + 4) L ∧ w_X11_event E a2 (xs (v4 + 1).toNatClampNeg) (xs (v4 + 2).toNatClampNeg) (xs (v4 + 3).toNatClampNeg) (xs (v4 + 4).toNatClampNeg) d_5 (fun r_12 d_11 => w_X11_thrown E a2 d_11 (fun r_14 d_13 => ((r_14 = r_6 → ((¬ r_6 = 0 → kc E d_13) ∧ (r_6 = 0 → vp_in 0 (eN E a3) ∧ (((lg_cmp (gJ d_13 a3 ((0 : Int32)).toNatClampNeg) r_12.toInt64) = 0 → kc E d_13) ∧ (¬ (lg_cmp (gJ d_13 a3 ((0 : Int32)).toNatClampNeg) r_12.toInt64) = 0 → False))))) ∧ (¬ r_14 = r_6 → False)))))
set_option maxRecDepth 100000 in
set_option maxHeartbeats 4000000 in
theorem lc_627 {p : Program} {l : Launch} {e : Env} {s : State} {m : MethodId} {below : List Frame} {meth : Method} {c : Code} {Q : State → Prop} {D : va_G} {cs : Nat → ClassId} {b L : Nat} {xs : Nat → Int32} {T0 : Cond} (hst : l.stackTraces = false) (S : CallFix p m c cL_law 7 s #[Value.ref b] (T0 :: wsL_law) RL) (hX : va_X b L xs s s.heap) (hbl : b < s.heap.size) {E : En} {a1 a2 a3 : Nat} {v4 : Int32} {d : Dy} {H : Heap} {locs : List Loc} {ls : Array Slot} {cl sl : Nat} {kc : En → Dy → Prop} (hcl : cl + 60 ≤ 634061) (hsl : sl + 1400 ≤ 7193921)
    (hk : ∀ (E9 : En) (d9 : Dy) (H : Heap) (locs : List Loc) (ls : Array Slot), kc E9 d9 → Wd D cs (fun q => s.heap.size ≤ q) s.heap s E9 d9 H locs → lv_has ls 7 [(0, .ref b), (1, .ref a1), (2, .ref a2), (3, .ref a3), (4, .int v4)] → W p l e room_1 s m #[Value.ref b] below meth c H locs (cl + 60) (sl + 1400) Q (F0 m 3051 ls [])) (h : lw_627 E a1 a2 a3 v4 xs L kc d) (hw : Wd D cs (fun q => s.heap.size ≤ q) s.heap s E d H locs) (hl : lv_has ls 7 [(0, .ref b), (1, .ref a1), (2, .ref a2), (3, .ref a3), (4, .int v4)]) : W p l e room_1 s m #[Value.ref b] below meth c H locs cl sl Q (F0 m 627 ls []) := by
  have hbA : ¬ (fun q : Nat => s.heap.size ≤ q) b := Nat.not_le.mpr hbl
  unfold lw_627 at h
  obtain ⟨ha1, ha2, ha3, h⟩ := h
  refine lv_aload_n S.1 S.2.1 (dd_at ddL_law_2 94 rfl) rfl (lv_at hl 1 rfl) ?_
  refine lv_aload_n S.1 S.2.1 (dd_at ddL_law_2 95 rfl) rfl (lv_at hl 0 rfl) ?_
  refine lv_iload S.1 S.2.1 (dd_at ddL_law_2 96 rfl) (lv_at hl 4 rfl) ?_
  refine lv_iconst (v := 1) S.1 S.2.1 (dd_at ddL_law_2 97 rfl) (by decide) ?_
  refine lv_iadd S.1 S.2.1 (dd_at ddL_law_2 98 rfl) ?_
  obtain ⟨hx_1, h⟩ := h
  refine va_sld S.1 S.2.1 hX hbl hbA hw.2.2.2.1 hx_1 (dd_at ddL_law_2 99 rfl) ?_
  refine lv_aload_n S.1 S.2.1 (dd_at ddL_law_3 0 rfl) rfl (lv_at hl 0 rfl) ?_
  refine lv_iload S.1 S.2.1 (dd_at ddL_law_3 1 rfl) (lv_at hl 4 rfl) ?_
  refine lv_iconst (v := 2) S.1 S.2.1 (dd_at ddL_law_3 2 rfl) (by decide) ?_
  refine lv_iadd S.1 S.2.1 (dd_at ddL_law_3 3 rfl) ?_
  obtain ⟨hx_2, h⟩ := h
  refine va_sld S.1 S.2.1 hX hbl hbA hw.2.2.2.1 hx_2 (dd_at ddL_law_3 4 rfl) ?_
  refine lv_aload_n S.1 S.2.1 (dd_at ddL_law_3 5 rfl) rfl (lv_at hl 0 rfl) ?_
  refine lv_iload S.1 S.2.1 (dd_at ddL_law_3 6 rfl) (lv_at hl 4 rfl) ?_
  refine lv_iconst (v := 3) S.1 S.2.1 (dd_at ddL_law_3 7 rfl) (by decide) ?_
  refine lv_iadd S.1 S.2.1 (dd_at ddL_law_3 8 rfl) ?_
  obtain ⟨hx_3, h⟩ := h
  refine va_sld S.1 S.2.1 hX hbl hbA hw.2.2.2.1 hx_3 (dd_at ddL_law_3 9 rfl) ?_
  refine lv_aload_n S.1 S.2.1 (dd_at ddL_law_3 10 rfl) rfl (lv_at hl 0 rfl) ?_
  refine lv_iload S.1 S.2.1 (dd_at ddL_law_3 11 rfl) (lv_at hl 4 rfl) ?_
  refine lv_iconst (v := 4) S.1 S.2.1 (dd_at ddL_law_3 12 rfl) (by decide) ?_
  refine lv_iadd S.1 S.2.1 (dd_at ddL_law_3 13 rfl) ?_
  obtain ⟨hx_4, h⟩ := h
  refine va_sld S.1 S.2.1 hX hbl hbA hw.2.2.2.1 hx_4 (dd_at ddL_law_3 14 rfl) ?_
  refine lv_aload_n S.1 S.2.1 (dd_at ddL_law_3 15 rfl) rfl (lv_at hl 3 rfl) ?_
  refine r_callI hw (r_runSW (As := [.ref a1, .int (xs (v4 + 1).toNatClampNeg), .int (xs (v4 + 2).toNatClampNeg), .int (xs (v4 + 3).toNatClampNeg), .int (xs (v4 + 4).toNatClampNeg), .ref a3]) (rest := []) S hw (m_L_event l hst D cs E d H.size a1 (xs (v4 + 1).toNatClampNeg) (xs (v4 + 2).toNatClampNeg) (xs (v4 + 3).toNatClampNeg) (xs (v4 + 4).toNatClampNeg) a3 _) (vx_cwSW 6 S.2.2.2.2 (gSW wg600 wg601 wg221 wg602) rfl rfl rfl (by decide +kernel) ⟨Nat.le_of_ble_eq_true rfl, Nat.le_of_ble_eq_true rfl⟩) h rfl hl.1 rfl (Nat.le_of_ble_eq_true rfl) (dd_at ddL_law_3 16 rfl) ⟨Nat.le_trans (Nat.add_le_add_left (Nat.le_of_ble_eq_true rfl) cl) hcl, Nat.le_trans (Nat.add_le_add_left (Nat.le_of_ble_eq_true rfl) sl) hsl⟩) (fun r_6 d_5 H locs h hw => ?_)
  refine W.widen (k := cl + 60) (n := sl + 1400) (Nat.add_le_add_left (Nat.le_of_ble_eq_true rfl) cl) (Nat.add_le_add_left (Nat.le_of_ble_eq_true rfl) sl) ?_
  refine lv_istore (lv' := [(5, .int r_6), (0, .ref b), (1, .ref a1), (2, .ref a2), (3, .ref a3), (4, .int v4)]) S.1 S.2.1 (dd_at ddL_law_3 17 rfl) hl (by decide) rfl (fun ls hl => ?_)
  refine lv_aload_n S.1 S.2.1 (dd_at ddL_law_3 18 rfl) rfl (lv_at hl 3 rfl) ?_
  refine lv_aload_n S.1 S.2.1 (dd_at ddL_law_3 19 rfl) rfl (lv_at hl 1 rfl) ?_
  refine lv_iload S.1 S.2.1 (dd_at ddL_law_3 20 rfl) (lv_at hl 5 rfl) ?_
  refine lv_iconst (v := 1) S.1 S.2.1 (dd_at ddL_law_3 21 rfl) (by decide) ?_
  refine lv_iadd S.1 S.2.1 (dd_at ddL_law_3 22 rfl) ?_
  obtain ⟨hx_7, h⟩ := h
  refine va_sld S.1 S.2.1 hX hbl hbA hw.2.2.2.1 hx_7 (dd_at ddL_law_3 23 rfl) ?_
  refine lv_aload_n S.1 S.2.1 (dd_at ddL_law_3 24 rfl) rfl (lv_at hl 1 rfl) ?_
  refine lv_iload S.1 S.2.1 (dd_at ddL_law_3 25 rfl) (lv_at hl 5 rfl) ?_
  refine lv_iconst (v := 2) S.1 S.2.1 (dd_at ddL_law_3 26 rfl) (by decide) ?_
  refine lv_iadd S.1 S.2.1 (dd_at ddL_law_3 27 rfl) ?_
  obtain ⟨hx_8, h⟩ := h
  refine va_sld S.1 S.2.1 hX hbl hbA hw.2.2.2.1 hx_8 (dd_at ddL_law_3 28 rfl) ?_
  refine lv_aload_n S.1 S.2.1 (dd_at ddL_law_3 29 rfl) rfl (lv_at hl 1 rfl) ?_
  refine lv_iload S.1 S.2.1 (dd_at ddL_law_3 30 rfl) (lv_at hl 5 rfl) ?_
  refine lv_iconst (v := 3) S.1 S.2.1 (dd_at ddL_law_3 31 rfl) (by decide) ?_
  refine lv_iadd S.1 S.2.1 (dd_at ddL_law_3 32 rfl) ?_
  obtain ⟨hx_9, h⟩ := h
  refine va_sld S.1 S.2.1 hX hbl hbA hw.2.2.2.1 hx_9 (dd_at ddL_law_3 33 rfl) ?_
  refine lv_aload_n S.1 S.2.1 (dd_at ddL_law_3 34 rfl) rfl (lv_at hl 1 rfl) ?_
  refine lv_iload S.1 S.2.1 (dd_at ddL_law_3 35 rfl) (lv_at hl 5 rfl) ?_
  refine lv_iconst (v := 4) S.1 S.2.1 (dd_at ddL_law_3 36 rfl) (by decide) ?_
  refine lv_iadd S.1 S.2.1 (dd_at ddL_law_3 37 rfl) ?_
  obtain ⟨hx_10, h⟩ := h
  refine va_sld S.1 S.2.1 hX hbl hbA hw.2.2.2.1 hx_10 (dd_at ddL_law_3 38 rfl) ?_
  refine r_callI hw (r_runV (As := [.int (xs (v4 + 1).toNatClampNeg), .int (xs (v4 + 2).toNatClampNeg), .int (xs (v4 + 3).toNatClampNeg), .int (xs (v4 + 4).toNatClampNeg)]) (rest := []) S hw (m_X11_event l D cs E d_5 H.size a2 (xs (v4 + 1).toNatClampNeg) (xs (v4 + 2).toNatClampNeg) (xs (v4 + 3).toNatClampNeg) (xs (v4 + 4).toNatClampNeg) _) (cwV 4 S.2.2.2.2 (gV wg627 wg628 wg629 wg5 wg630) rfl rfl rfl (by decide +kernel) ⟨Nat.le_of_ble_eq_true rfl, Nat.le_of_ble_eq_true rfl⟩) (ci := 11) rfl ha2 h rfl hl.1 rfl (Nat.le_of_ble_eq_true rfl) (dd_at ddL_law_3 39 rfl) ⟨hcl, hsl⟩) (fun r_12 d_11 H locs h hw => ?_)
  refine lv_istore (lv' := [(6, .int r_12), (5, .int r_6), (0, .ref b), (1, .ref a1), (2, .ref a2), (3, .ref a3), (4, .int v4)]) S.1 S.2.1 (dd_at ddL_law_3 40 rfl) hl (by decide) rfl (fun ls hl => ?_)
  refine lv_aload_n S.1 S.2.1 (dd_at ddL_law_3 41 rfl) rfl (lv_at hl 4 rfl) ?_
  refine r_callI hw (r_runV (As := []) (rest := []) S hw (m_X11_thrown l D cs E d_11 H.size a2 _) (cwV 0 S.2.2.2.2 (gV wg506 wg507 wg508 wg5 wg509) rfl rfl rfl (by decide +kernel) ⟨Nat.le_of_ble_eq_true rfl, Nat.le_of_ble_eq_true rfl⟩) (ci := 11) rfl ha2 h rfl hl.1 rfl (Nat.le_of_ble_eq_true rfl) (dd_at ddL_law_3 42 rfl) ⟨hcl, hsl⟩) (fun r_14 d_13 H locs h hw => ?_)
  refine lv_iload S.1 S.2.1 (dd_at ddL_law_3 43 rfl) (lv_at hl 1 rfl) ?_
  refine lv_icmp_eq (tgt := 699) S.1 S.2.1 (dd_at ddL_law_3 44 rfl) (by decide) (fun hc_15 => ?_) (fun hc_15 => ?_)
  · have h := h.1 hc_15
    refine lv_iload S.1 S.2.1 (dd_at ddL_law_3 47 rfl) (lv_at hl 1 rfl) ?_
    refine lv_if_ne (tgt := 716) S.1 S.2.1 (dd_at ddL_law_3 48 rfl) (by decide) (fun hc_16 => ?_) (fun hc_16 => ?_)
    · have h := h.1 hc_16
      refine lv_goto (tgt := 3051) S.1 S.2.1 (dd_at ddL_law_3 58 rfl) (by decide) ?_
      exact hk _ _ _ _ _ h hw (lv_sub hl [2, 3, 4, 5, 6] rfl)
    · have h := h.2 hc_16
      refine lv_aload_n S.1 S.2.1 (dd_at ddL_law_3 49 rfl) rfl (lv_at hl 5 rfl) ?_
      refine lv_iconst (v := 0) S.1 S.2.1 (dd_at ddL_law_3 50 rfl) (by decide) ?_
      obtain ⟨hx_17, h⟩ := h
      refine r_lald S hw ha3 hx_17 (dd_at ddL_law_3 51 rfl) ?_
      refine lv_iload S.1 S.2.1 (dd_at ddL_law_3 52 rfl) (lv_at hl 0 rfl) ?_
      refine lv_i2l S.1 S.2.1 (dd_at ddL_law_3 53 rfl) rfl ?_
      refine W.lcmp S.1 S.2.1 (dd_at ddL_law_3 54 rfl) ?_
      refine lv_if_eq (tgt := 716) S.1 S.2.1 (dd_at ddL_law_3 55 rfl) (by decide) (fun hc_18 => ?_) (fun hc_18 => ?_)
      · have h := h.1 hc_18
        refine lv_goto (tgt := 3051) S.1 S.2.1 (dd_at ddL_law_3 58 rfl) (by decide) ?_
        exact hk _ _ _ _ _ h hw (lv_sub hl [2, 3, 4, 5, 6] rfl)
      · have h := h.2 hc_18
        refine lv_iconst (v := 0) S.1 S.2.1 (dd_at ddL_law_3 56 rfl) (by decide) ?_
        exact absurd h id
  · have h := h.2 hc_15
    refine lv_iconst (v := 0) S.1 S.2.1 (dd_at ddL_law_3 45 rfl) (by decide) ?_
    exact absurd h id

def lw_719 (E : En) (a1 a2 a3 : Nat) (v4 : Int32) (xs : Nat → Int32) (L : Nat) (kc : En → Dy → Prop) (d : Dy) : Prop := okO E a1 10 ∧ okO E a2 11 ∧ okA E a3 14 ∧ vp_in (v4 + 1) L ∧ vp_in (v4 + 2) L ∧ vp_in (v4 + 3) L ∧ vp_in (v4 + 4) L ∧ w_L_sale E a1 (xs (v4 + 1).toNatClampNeg) (xs (v4 + 2).toNatClampNeg) (xs (v4 + 3).toNatClampNeg) (xs (v4 + 4).toNatClampNeg) a3 d (fun r_6 d_5 => vp_in (v4 + 1) L ∧ vp_in (v4 + 2) L ∧ vp_in (v4 + 3) L ∧ vp_in (v4 + 4) L ∧ w_X11_sale E a2 (xs (v4 + 1).toNatClampNeg) (xs (v4 + 2).toNatClampNeg) (xs (v4 + 3).toNatClampNeg) (xs (v4 + 4).toNatClampNeg) d_5 (fun r_12 d_11 => w_X11_thrown E a2 d_11 (fun r_14 d_13 => ((r_14 = r_6 → ((¬ r_6 = 0 → kc E d_13) ∧ (r_6 = 0 → vp_in 0 (eN E a3) ∧ (((lg_cmp (gJ d_13 a3 ((0 : Int32)).toNatClampNeg) r_12.toInt64) = 0 → kc E d_13) ∧ (¬ (lg_cmp (gJ d_13 a3 ((0 : Int32)).toNatClampNeg) r_12.toInt64) = 0 → False))))) ∧ (¬ r_14 = r_6 → False)))))
set_option maxRecDepth 100000 in
set_option maxHeartbeats 4000000 in
theorem lc_719 {p : Program} {l : Launch} {e : Env} {s : State} {m : MethodId} {below : List Frame} {meth : Method} {c : Code} {Q : State → Prop} {D : va_G} {cs : Nat → ClassId} {b L : Nat} {xs : Nat → Int32} {T0 : Cond} (hst : l.stackTraces = false) (S : CallFix p m c cL_law 7 s #[Value.ref b] (T0 :: wsL_law) RL) (hX : va_X b L xs s s.heap) (hbl : b < s.heap.size) {E : En} {a1 a2 a3 : Nat} {v4 : Int32} {d : Dy} {H : Heap} {locs : List Loc} {ls : Array Slot} {cl sl : Nat} {kc : En → Dy → Prop} (hcl : cl + 60 ≤ 634061) (hsl : sl + 1400 ≤ 7193921)
    (hk : ∀ (E9 : En) (d9 : Dy) (H : Heap) (locs : List Loc) (ls : Array Slot), kc E9 d9 → Wd D cs (fun q => s.heap.size ≤ q) s.heap s E9 d9 H locs → lv_has ls 7 [(0, .ref b), (1, .ref a1), (2, .ref a2), (3, .ref a3), (4, .int v4)] → W p l e room_1 s m #[Value.ref b] below meth c H locs (cl + 60) (sl + 1400) Q (F0 m 3051 ls [])) (h : lw_719 E a1 a2 a3 v4 xs L kc d) (hw : Wd D cs (fun q => s.heap.size ≤ q) s.heap s E d H locs) (hl : lv_has ls 7 [(0, .ref b), (1, .ref a1), (2, .ref a2), (3, .ref a3), (4, .int v4)]) : W p l e room_1 s m #[Value.ref b] below meth c H locs cl sl Q (F0 m 719 ls []) := by
  have hbA : ¬ (fun q : Nat => s.heap.size ≤ q) b := Nat.not_le.mpr hbl
  unfold lw_719 at h
  obtain ⟨ha1, ha2, ha3, h⟩ := h
  refine lv_aload_n S.1 S.2.1 (dd_at ddL_law_3 59 rfl) rfl (lv_at hl 1 rfl) ?_
  refine lv_aload_n S.1 S.2.1 (dd_at ddL_law_3 60 rfl) rfl (lv_at hl 0 rfl) ?_
  refine lv_iload S.1 S.2.1 (dd_at ddL_law_3 61 rfl) (lv_at hl 4 rfl) ?_
  refine lv_iconst (v := 1) S.1 S.2.1 (dd_at ddL_law_3 62 rfl) (by decide) ?_
  refine lv_iadd S.1 S.2.1 (dd_at ddL_law_3 63 rfl) ?_
  obtain ⟨hx_1, h⟩ := h
  refine va_sld S.1 S.2.1 hX hbl hbA hw.2.2.2.1 hx_1 (dd_at ddL_law_3 64 rfl) ?_
  refine lv_aload_n S.1 S.2.1 (dd_at ddL_law_3 65 rfl) rfl (lv_at hl 0 rfl) ?_
  refine lv_iload S.1 S.2.1 (dd_at ddL_law_3 66 rfl) (lv_at hl 4 rfl) ?_
  refine lv_iconst (v := 2) S.1 S.2.1 (dd_at ddL_law_3 67 rfl) (by decide) ?_
  refine lv_iadd S.1 S.2.1 (dd_at ddL_law_3 68 rfl) ?_
  obtain ⟨hx_2, h⟩ := h
  refine va_sld S.1 S.2.1 hX hbl hbA hw.2.2.2.1 hx_2 (dd_at ddL_law_3 69 rfl) ?_
  refine lv_aload_n S.1 S.2.1 (dd_at ddL_law_3 70 rfl) rfl (lv_at hl 0 rfl) ?_
  refine lv_iload S.1 S.2.1 (dd_at ddL_law_3 71 rfl) (lv_at hl 4 rfl) ?_
  refine lv_iconst (v := 3) S.1 S.2.1 (dd_at ddL_law_3 72 rfl) (by decide) ?_
  refine lv_iadd S.1 S.2.1 (dd_at ddL_law_3 73 rfl) ?_
  obtain ⟨hx_3, h⟩ := h
  refine va_sld S.1 S.2.1 hX hbl hbA hw.2.2.2.1 hx_3 (dd_at ddL_law_3 74 rfl) ?_
  refine lv_aload_n S.1 S.2.1 (dd_at ddL_law_3 75 rfl) rfl (lv_at hl 0 rfl) ?_
  refine lv_iload S.1 S.2.1 (dd_at ddL_law_3 76 rfl) (lv_at hl 4 rfl) ?_
  refine lv_iconst (v := 4) S.1 S.2.1 (dd_at ddL_law_3 77 rfl) (by decide) ?_
  refine lv_iadd S.1 S.2.1 (dd_at ddL_law_3 78 rfl) ?_
  obtain ⟨hx_4, h⟩ := h
  refine va_sld S.1 S.2.1 hX hbl hbA hw.2.2.2.1 hx_4 (dd_at ddL_law_3 79 rfl) ?_
  refine lv_aload_n S.1 S.2.1 (dd_at ddL_law_3 80 rfl) rfl (lv_at hl 3 rfl) ?_
  refine r_callI hw (r_runSW (As := [.ref a1, .int (xs (v4 + 1).toNatClampNeg), .int (xs (v4 + 2).toNatClampNeg), .int (xs (v4 + 3).toNatClampNeg), .int (xs (v4 + 4).toNatClampNeg), .ref a3]) (rest := []) S hw (m_L_sale l hst D cs E d H.size a1 (xs (v4 + 1).toNatClampNeg) (xs (v4 + 2).toNatClampNeg) (xs (v4 + 3).toNatClampNeg) (xs (v4 + 4).toNatClampNeg) a3 _) (vx_cwSW 6 S.2.2.2.2 (gSW wg639 wg640 wg221 wg641) rfl rfl rfl (by decide +kernel) ⟨Nat.le_of_ble_eq_true rfl, Nat.le_of_ble_eq_true rfl⟩) h rfl hl.1 rfl (Nat.le_of_ble_eq_true rfl) (dd_at ddL_law_3 81 rfl) ⟨Nat.le_trans (Nat.add_le_add_left (Nat.le_of_ble_eq_true rfl) cl) hcl, Nat.le_trans (Nat.add_le_add_left (Nat.le_of_ble_eq_true rfl) sl) hsl⟩) (fun r_6 d_5 H locs h hw => ?_)
  refine W.widen (k := cl + 60) (n := sl + 1400) (Nat.add_le_add_left (Nat.le_of_ble_eq_true rfl) cl) (Nat.add_le_add_left (Nat.le_of_ble_eq_true rfl) sl) ?_
  refine lv_istore (lv' := [(5, .int r_6), (0, .ref b), (1, .ref a1), (2, .ref a2), (3, .ref a3), (4, .int v4)]) S.1 S.2.1 (dd_at ddL_law_3 82 rfl) hl (by decide) rfl (fun ls hl => ?_)
  refine lv_aload_n S.1 S.2.1 (dd_at ddL_law_3 83 rfl) rfl (lv_at hl 3 rfl) ?_
  refine lv_aload_n S.1 S.2.1 (dd_at ddL_law_3 84 rfl) rfl (lv_at hl 1 rfl) ?_
  refine lv_iload S.1 S.2.1 (dd_at ddL_law_3 85 rfl) (lv_at hl 5 rfl) ?_
  refine lv_iconst (v := 1) S.1 S.2.1 (dd_at ddL_law_3 86 rfl) (by decide) ?_
  refine lv_iadd S.1 S.2.1 (dd_at ddL_law_3 87 rfl) ?_
  obtain ⟨hx_7, h⟩ := h
  refine va_sld S.1 S.2.1 hX hbl hbA hw.2.2.2.1 hx_7 (dd_at ddL_law_3 88 rfl) ?_
  refine lv_aload_n S.1 S.2.1 (dd_at ddL_law_3 89 rfl) rfl (lv_at hl 1 rfl) ?_
  refine lv_iload S.1 S.2.1 (dd_at ddL_law_3 90 rfl) (lv_at hl 5 rfl) ?_
  refine lv_iconst (v := 2) S.1 S.2.1 (dd_at ddL_law_3 91 rfl) (by decide) ?_
  refine lv_iadd S.1 S.2.1 (dd_at ddL_law_3 92 rfl) ?_
  obtain ⟨hx_8, h⟩ := h
  refine va_sld S.1 S.2.1 hX hbl hbA hw.2.2.2.1 hx_8 (dd_at ddL_law_3 93 rfl) ?_
  refine lv_aload_n S.1 S.2.1 (dd_at ddL_law_3 94 rfl) rfl (lv_at hl 1 rfl) ?_
  refine lv_iload S.1 S.2.1 (dd_at ddL_law_3 95 rfl) (lv_at hl 5 rfl) ?_
  refine lv_iconst (v := 3) S.1 S.2.1 (dd_at ddL_law_3 96 rfl) (by decide) ?_
  refine lv_iadd S.1 S.2.1 (dd_at ddL_law_3 97 rfl) ?_
  obtain ⟨hx_9, h⟩ := h
  refine va_sld S.1 S.2.1 hX hbl hbA hw.2.2.2.1 hx_9 (dd_at ddL_law_3 98 rfl) ?_
  refine lv_aload_n S.1 S.2.1 (dd_at ddL_law_3 99 rfl) rfl (lv_at hl 1 rfl) ?_
  refine lv_iload S.1 S.2.1 (dd_at ddL_law_4 0 rfl) (lv_at hl 5 rfl) ?_
  refine lv_iconst (v := 4) S.1 S.2.1 (dd_at ddL_law_4 1 rfl) (by decide) ?_
  refine lv_iadd S.1 S.2.1 (dd_at ddL_law_4 2 rfl) ?_
  obtain ⟨hx_10, h⟩ := h
  refine va_sld S.1 S.2.1 hX hbl hbA hw.2.2.2.1 hx_10 (dd_at ddL_law_4 3 rfl) ?_
  refine r_callI hw (r_runV (As := [.int (xs (v4 + 1).toNatClampNeg), .int (xs (v4 + 2).toNatClampNeg), .int (xs (v4 + 3).toNatClampNeg), .int (xs (v4 + 4).toNatClampNeg)]) (rest := []) S hw (m_X11_sale l D cs E d_5 H.size a2 (xs (v4 + 1).toNatClampNeg) (xs (v4 + 2).toNatClampNeg) (xs (v4 + 3).toNatClampNeg) (xs (v4 + 4).toNatClampNeg) _) (cwV 4 S.2.2.2.2 (gV wg646 wg647 wg648 wg5 wg649) rfl rfl rfl (by decide +kernel) ⟨Nat.le_of_ble_eq_true rfl, Nat.le_of_ble_eq_true rfl⟩) (ci := 11) rfl ha2 h rfl hl.1 rfl (Nat.le_of_ble_eq_true rfl) (dd_at ddL_law_4 4 rfl) ⟨hcl, hsl⟩) (fun r_12 d_11 H locs h hw => ?_)
  refine lv_istore (lv' := [(6, .int r_12), (5, .int r_6), (0, .ref b), (1, .ref a1), (2, .ref a2), (3, .ref a3), (4, .int v4)]) S.1 S.2.1 (dd_at ddL_law_4 5 rfl) hl (by decide) rfl (fun ls hl => ?_)
  refine lv_aload_n S.1 S.2.1 (dd_at ddL_law_4 6 rfl) rfl (lv_at hl 4 rfl) ?_
  refine r_callI hw (r_runV (As := []) (rest := []) S hw (m_X11_thrown l D cs E d_11 H.size a2 _) (cwV 0 S.2.2.2.2 (gV wg506 wg507 wg508 wg5 wg509) rfl rfl rfl (by decide +kernel) ⟨Nat.le_of_ble_eq_true rfl, Nat.le_of_ble_eq_true rfl⟩) (ci := 11) rfl ha2 h rfl hl.1 rfl (Nat.le_of_ble_eq_true rfl) (dd_at ddL_law_4 7 rfl) ⟨hcl, hsl⟩) (fun r_14 d_13 H locs h hw => ?_)
  refine lv_iload S.1 S.2.1 (dd_at ddL_law_4 8 rfl) (lv_at hl 1 rfl) ?_
  refine lv_icmp_eq (tgt := 791) S.1 S.2.1 (dd_at ddL_law_4 9 rfl) (by decide) (fun hc_15 => ?_) (fun hc_15 => ?_)
  · have h := h.1 hc_15
    refine lv_iload S.1 S.2.1 (dd_at ddL_law_4 12 rfl) (lv_at hl 1 rfl) ?_
    refine lv_if_ne (tgt := 808) S.1 S.2.1 (dd_at ddL_law_4 13 rfl) (by decide) (fun hc_16 => ?_) (fun hc_16 => ?_)
    · have h := h.1 hc_16
      refine lv_goto (tgt := 3051) S.1 S.2.1 (dd_at ddL_law_4 23 rfl) (by decide) ?_
      exact hk _ _ _ _ _ h hw (lv_sub hl [2, 3, 4, 5, 6] rfl)
    · have h := h.2 hc_16
      refine lv_aload_n S.1 S.2.1 (dd_at ddL_law_4 14 rfl) rfl (lv_at hl 5 rfl) ?_
      refine lv_iconst (v := 0) S.1 S.2.1 (dd_at ddL_law_4 15 rfl) (by decide) ?_
      obtain ⟨hx_17, h⟩ := h
      refine r_lald S hw ha3 hx_17 (dd_at ddL_law_4 16 rfl) ?_
      refine lv_iload S.1 S.2.1 (dd_at ddL_law_4 17 rfl) (lv_at hl 0 rfl) ?_
      refine lv_i2l S.1 S.2.1 (dd_at ddL_law_4 18 rfl) rfl ?_
      refine W.lcmp S.1 S.2.1 (dd_at ddL_law_4 19 rfl) ?_
      refine lv_if_eq (tgt := 808) S.1 S.2.1 (dd_at ddL_law_4 20 rfl) (by decide) (fun hc_18 => ?_) (fun hc_18 => ?_)
      · have h := h.1 hc_18
        refine lv_goto (tgt := 3051) S.1 S.2.1 (dd_at ddL_law_4 23 rfl) (by decide) ?_
        exact hk _ _ _ _ _ h hw (lv_sub hl [2, 3, 4, 5, 6] rfl)
      · have h := h.2 hc_18
        refine lv_iconst (v := 0) S.1 S.2.1 (dd_at ddL_law_4 21 rfl) (by decide) ?_
        exact absurd h id
  · have h := h.2 hc_15
    refine lv_iconst (v := 0) S.1 S.2.1 (dd_at ddL_law_4 10 rfl) (by decide) ?_
    exact absurd h id

def lw_811 (E : En) (a1 a2 a3 : Nat) (v4 : Int32) (xs : Nat → Int32) (L : Nat) (kc : En → Dy → Prop) (d : Dy) : Prop := okO E a1 10 ∧ okO E a2 11 ∧ okA E a3 14 ∧ vp_in (v4 + 1) L ∧ vp_in (v4 + 2) L ∧ vp_in (v4 + 3) L ∧ w_L_holder E a1 (xs (v4 + 1).toNatClampNeg) (xs (v4 + 2).toNatClampNeg) (xs (v4 + 3).toNatClampNeg) a3 d (fun r_5 d_4 => vp_in (v4 + 1) L ∧ vp_in (v4 + 2) L ∧ vp_in (v4 + 3) L ∧ w_X11_holder E a2 (xs (v4 + 1).toNatClampNeg) (xs (v4 + 2).toNatClampNeg) (xs (v4 + 3).toNatClampNeg) d_4 (fun r_10 d_9 => w_X11_thrown E a2 d_9 (fun r_12 d_11 => ((r_12 = r_5 → ((¬ r_5 = 0 → kc E d_11) ∧ (r_5 = 0 → vp_in 0 (eN E a3) ∧ (((lg_cmp (gJ d_11 a3 ((0 : Int32)).toNatClampNeg) r_10.toInt64) = 0 → kc E d_11) ∧ (¬ (lg_cmp (gJ d_11 a3 ((0 : Int32)).toNatClampNeg) r_10.toInt64) = 0 → False))))) ∧ (¬ r_12 = r_5 → False)))))
set_option maxRecDepth 100000 in
set_option maxHeartbeats 4000000 in
theorem lc_811 {p : Program} {l : Launch} {e : Env} {s : State} {m : MethodId} {below : List Frame} {meth : Method} {c : Code} {Q : State → Prop} {D : va_G} {cs : Nat → ClassId} {b L : Nat} {xs : Nat → Int32} {T0 : Cond} (hst : l.stackTraces = false) (S : CallFix p m c cL_law 7 s #[Value.ref b] (T0 :: wsL_law) RL) (hX : va_X b L xs s s.heap) (hbl : b < s.heap.size) {E : En} {a1 a2 a3 : Nat} {v4 : Int32} {d : Dy} {H : Heap} {locs : List Loc} {ls : Array Slot} {cl sl : Nat} {kc : En → Dy → Prop} (hcl : cl + 60 ≤ 634061) (hsl : sl + 1400 ≤ 7193921)
    (hk : ∀ (E9 : En) (d9 : Dy) (H : Heap) (locs : List Loc) (ls : Array Slot), kc E9 d9 → Wd D cs (fun q => s.heap.size ≤ q) s.heap s E9 d9 H locs → lv_has ls 7 [(0, .ref b), (1, .ref a1), (2, .ref a2), (3, .ref a3), (4, .int v4)] → W p l e room_1 s m #[Value.ref b] below meth c H locs (cl + 60) (sl + 1400) Q (F0 m 3051 ls [])) (h : lw_811 E a1 a2 a3 v4 xs L kc d) (hw : Wd D cs (fun q => s.heap.size ≤ q) s.heap s E d H locs) (hl : lv_has ls 7 [(0, .ref b), (1, .ref a1), (2, .ref a2), (3, .ref a3), (4, .int v4)]) : W p l e room_1 s m #[Value.ref b] below meth c H locs cl sl Q (F0 m 811 ls []) := by
  have hbA : ¬ (fun q : Nat => s.heap.size ≤ q) b := Nat.not_le.mpr hbl
  unfold lw_811 at h
  obtain ⟨ha1, ha2, ha3, h⟩ := h
  refine lv_aload_n S.1 S.2.1 (dd_at ddL_law_4 24 rfl) rfl (lv_at hl 1 rfl) ?_
  refine lv_aload_n S.1 S.2.1 (dd_at ddL_law_4 25 rfl) rfl (lv_at hl 0 rfl) ?_
  refine lv_iload S.1 S.2.1 (dd_at ddL_law_4 26 rfl) (lv_at hl 4 rfl) ?_
  refine lv_iconst (v := 1) S.1 S.2.1 (dd_at ddL_law_4 27 rfl) (by decide) ?_
  refine lv_iadd S.1 S.2.1 (dd_at ddL_law_4 28 rfl) ?_
  obtain ⟨hx_1, h⟩ := h
  refine va_sld S.1 S.2.1 hX hbl hbA hw.2.2.2.1 hx_1 (dd_at ddL_law_4 29 rfl) ?_
  refine lv_aload_n S.1 S.2.1 (dd_at ddL_law_4 30 rfl) rfl (lv_at hl 0 rfl) ?_
  refine lv_iload S.1 S.2.1 (dd_at ddL_law_4 31 rfl) (lv_at hl 4 rfl) ?_
  refine lv_iconst (v := 2) S.1 S.2.1 (dd_at ddL_law_4 32 rfl) (by decide) ?_
  refine lv_iadd S.1 S.2.1 (dd_at ddL_law_4 33 rfl) ?_
  obtain ⟨hx_2, h⟩ := h
  refine va_sld S.1 S.2.1 hX hbl hbA hw.2.2.2.1 hx_2 (dd_at ddL_law_4 34 rfl) ?_
  refine lv_aload_n S.1 S.2.1 (dd_at ddL_law_4 35 rfl) rfl (lv_at hl 0 rfl) ?_
  refine lv_iload S.1 S.2.1 (dd_at ddL_law_4 36 rfl) (lv_at hl 4 rfl) ?_
  refine lv_iconst (v := 3) S.1 S.2.1 (dd_at ddL_law_4 37 rfl) (by decide) ?_
  refine lv_iadd S.1 S.2.1 (dd_at ddL_law_4 38 rfl) ?_
  obtain ⟨hx_3, h⟩ := h
  refine va_sld S.1 S.2.1 hX hbl hbA hw.2.2.2.1 hx_3 (dd_at ddL_law_4 39 rfl) ?_
  refine lv_aload_n S.1 S.2.1 (dd_at ddL_law_4 40 rfl) rfl (lv_at hl 3 rfl) ?_
  refine r_callI hw (r_runSW (As := [.ref a1, .int (xs (v4 + 1).toNatClampNeg), .int (xs (v4 + 2).toNatClampNeg), .int (xs (v4 + 3).toNatClampNeg), .ref a3]) (rest := []) S hw (m_L_holder l hst D cs E d H.size a1 (xs (v4 + 1).toNatClampNeg) (xs (v4 + 2).toNatClampNeg) (xs (v4 + 3).toNatClampNeg) a3 _) (vx_cwSW 5 S.2.2.2.2 (gSW wg650 wg651 wg221 wg652) rfl rfl rfl (by decide +kernel) ⟨Nat.le_of_ble_eq_true rfl, Nat.le_of_ble_eq_true rfl⟩) h rfl hl.1 rfl (Nat.le_of_ble_eq_true rfl) (dd_at ddL_law_4 41 rfl) ⟨Nat.le_trans (Nat.add_le_add_left (Nat.le_of_ble_eq_true rfl) cl) hcl, Nat.le_trans (Nat.add_le_add_left (Nat.le_of_ble_eq_true rfl) sl) hsl⟩) (fun r_5 d_4 H locs h hw => ?_)
  refine W.widen (k := cl + 60) (n := sl + 1400) (Nat.add_le_add_left (Nat.le_of_ble_eq_true rfl) cl) (Nat.add_le_add_left (Nat.le_of_ble_eq_true rfl) sl) ?_
  refine lv_istore (lv' := [(5, .int r_5), (0, .ref b), (1, .ref a1), (2, .ref a2), (3, .ref a3), (4, .int v4)]) S.1 S.2.1 (dd_at ddL_law_4 42 rfl) hl (by decide) rfl (fun ls hl => ?_)
  refine lv_aload_n S.1 S.2.1 (dd_at ddL_law_4 43 rfl) rfl (lv_at hl 3 rfl) ?_
  refine lv_aload_n S.1 S.2.1 (dd_at ddL_law_4 44 rfl) rfl (lv_at hl 1 rfl) ?_
  refine lv_iload S.1 S.2.1 (dd_at ddL_law_4 45 rfl) (lv_at hl 5 rfl) ?_
  refine lv_iconst (v := 1) S.1 S.2.1 (dd_at ddL_law_4 46 rfl) (by decide) ?_
  refine lv_iadd S.1 S.2.1 (dd_at ddL_law_4 47 rfl) ?_
  obtain ⟨hx_6, h⟩ := h
  refine va_sld S.1 S.2.1 hX hbl hbA hw.2.2.2.1 hx_6 (dd_at ddL_law_4 48 rfl) ?_
  refine lv_aload_n S.1 S.2.1 (dd_at ddL_law_4 49 rfl) rfl (lv_at hl 1 rfl) ?_
  refine lv_iload S.1 S.2.1 (dd_at ddL_law_4 50 rfl) (lv_at hl 5 rfl) ?_
  refine lv_iconst (v := 2) S.1 S.2.1 (dd_at ddL_law_4 51 rfl) (by decide) ?_
  refine lv_iadd S.1 S.2.1 (dd_at ddL_law_4 52 rfl) ?_
  obtain ⟨hx_7, h⟩ := h
  refine va_sld S.1 S.2.1 hX hbl hbA hw.2.2.2.1 hx_7 (dd_at ddL_law_4 53 rfl) ?_
  refine lv_aload_n S.1 S.2.1 (dd_at ddL_law_4 54 rfl) rfl (lv_at hl 1 rfl) ?_
  refine lv_iload S.1 S.2.1 (dd_at ddL_law_4 55 rfl) (lv_at hl 5 rfl) ?_
  refine lv_iconst (v := 3) S.1 S.2.1 (dd_at ddL_law_4 56 rfl) (by decide) ?_
  refine lv_iadd S.1 S.2.1 (dd_at ddL_law_4 57 rfl) ?_
  obtain ⟨hx_8, h⟩ := h
  refine va_sld S.1 S.2.1 hX hbl hbA hw.2.2.2.1 hx_8 (dd_at ddL_law_4 58 rfl) ?_
  refine r_callI hw (r_runV (As := [.int (xs (v4 + 1).toNatClampNeg), .int (xs (v4 + 2).toNatClampNeg), .int (xs (v4 + 3).toNatClampNeg)]) (rest := []) S hw (m_X11_holder l D cs E d_4 H.size a2 (xs (v4 + 1).toNatClampNeg) (xs (v4 + 2).toNatClampNeg) (xs (v4 + 3).toNatClampNeg) _) (cwV 3 S.2.2.2.2 (gV wg806 wg807 wg808 wg5 wg809) rfl rfl rfl (by decide +kernel) ⟨Nat.le_of_ble_eq_true rfl, Nat.le_of_ble_eq_true rfl⟩) (ci := 11) rfl ha2 h rfl hl.1 rfl (Nat.le_of_ble_eq_true rfl) (dd_at ddL_law_4 59 rfl) ⟨hcl, hsl⟩) (fun r_10 d_9 H locs h hw => ?_)
  refine lv_istore (lv' := [(6, .int r_10), (5, .int r_5), (0, .ref b), (1, .ref a1), (2, .ref a2), (3, .ref a3), (4, .int v4)]) S.1 S.2.1 (dd_at ddL_law_4 60 rfl) hl (by decide) rfl (fun ls hl => ?_)
  refine lv_aload_n S.1 S.2.1 (dd_at ddL_law_4 61 rfl) rfl (lv_at hl 4 rfl) ?_
  refine r_callI hw (r_runV (As := []) (rest := []) S hw (m_X11_thrown l D cs E d_9 H.size a2 _) (cwV 0 S.2.2.2.2 (gV wg506 wg507 wg508 wg5 wg509) rfl rfl rfl (by decide +kernel) ⟨Nat.le_of_ble_eq_true rfl, Nat.le_of_ble_eq_true rfl⟩) (ci := 11) rfl ha2 h rfl hl.1 rfl (Nat.le_of_ble_eq_true rfl) (dd_at ddL_law_4 62 rfl) ⟨hcl, hsl⟩) (fun r_12 d_11 H locs h hw => ?_)
  refine lv_iload S.1 S.2.1 (dd_at ddL_law_4 63 rfl) (lv_at hl 1 rfl) ?_
  refine lv_icmp_eq (tgt := 871) S.1 S.2.1 (dd_at ddL_law_4 64 rfl) (by decide) (fun hc_13 => ?_) (fun hc_13 => ?_)
  · have h := h.1 hc_13
    refine lv_iload S.1 S.2.1 (dd_at ddL_law_4 67 rfl) (lv_at hl 1 rfl) ?_
    refine lv_if_ne (tgt := 888) S.1 S.2.1 (dd_at ddL_law_4 68 rfl) (by decide) (fun hc_14 => ?_) (fun hc_14 => ?_)
    · have h := h.1 hc_14
      refine lv_goto (tgt := 3051) S.1 S.2.1 (dd_at ddL_law_4 78 rfl) (by decide) ?_
      exact hk _ _ _ _ _ h hw (lv_sub hl [2, 3, 4, 5, 6] rfl)
    · have h := h.2 hc_14
      refine lv_aload_n S.1 S.2.1 (dd_at ddL_law_4 69 rfl) rfl (lv_at hl 5 rfl) ?_
      refine lv_iconst (v := 0) S.1 S.2.1 (dd_at ddL_law_4 70 rfl) (by decide) ?_
      obtain ⟨hx_15, h⟩ := h
      refine r_lald S hw ha3 hx_15 (dd_at ddL_law_4 71 rfl) ?_
      refine lv_iload S.1 S.2.1 (dd_at ddL_law_4 72 rfl) (lv_at hl 0 rfl) ?_
      refine lv_i2l S.1 S.2.1 (dd_at ddL_law_4 73 rfl) rfl ?_
      refine W.lcmp S.1 S.2.1 (dd_at ddL_law_4 74 rfl) ?_
      refine lv_if_eq (tgt := 888) S.1 S.2.1 (dd_at ddL_law_4 75 rfl) (by decide) (fun hc_16 => ?_) (fun hc_16 => ?_)
      · have h := h.1 hc_16
        refine lv_goto (tgt := 3051) S.1 S.2.1 (dd_at ddL_law_4 78 rfl) (by decide) ?_
        exact hk _ _ _ _ _ h hw (lv_sub hl [2, 3, 4, 5, 6] rfl)
      · have h := h.2 hc_16
        refine lv_iconst (v := 0) S.1 S.2.1 (dd_at ddL_law_4 76 rfl) (by decide) ?_
        exact absurd h id
  · have h := h.2 hc_13
    refine lv_iconst (v := 0) S.1 S.2.1 (dd_at ddL_law_4 65 rfl) (by decide) ?_
    exact absurd h id

def lw_891 (E : En) (a1 a2 a3 : Nat) (v4 : Int32) (xs : Nat → Int32) (L : Nat) (kc : En → Dy → Prop) (d : Dy) : Prop := okO E a1 10 ∧ okO E a2 11 ∧ okA E a3 14 ∧ vp_in (v4 + 1) L ∧ vp_in (v4 + 2) L ∧ vp_in (v4 + 3) L ∧ w_L_since E a1 (xs (v4 + 1).toNatClampNeg) (xs (v4 + 2).toNatClampNeg) (xs (v4 + 3).toNatClampNeg) a3 d (fun r_5 d_4 => vp_in (v4 + 1) L ∧ vp_in (v4 + 2) L ∧ vp_in (v4 + 3) L ∧ w_X11_since E a2 (xs (v4 + 1).toNatClampNeg) (xs (v4 + 2).toNatClampNeg) (xs (v4 + 3).toNatClampNeg) d_4 (fun r_10 d_9 => w_X11_thrown E a2 d_9 (fun r_12 d_11 => ((r_12 = r_5 → ((¬ r_5 = 0 → kc E d_11) ∧ (r_5 = 0 → vp_in 0 (eN E a3) ∧ (((lg_cmp (gJ d_11 a3 ((0 : Int32)).toNatClampNeg) r_10.toInt64) = 0 → kc E d_11) ∧ (¬ (lg_cmp (gJ d_11 a3 ((0 : Int32)).toNatClampNeg) r_10.toInt64) = 0 → False))))) ∧ (¬ r_12 = r_5 → False)))))
set_option maxRecDepth 100000 in
set_option maxHeartbeats 4000000 in
theorem lc_891 {p : Program} {l : Launch} {e : Env} {s : State} {m : MethodId} {below : List Frame} {meth : Method} {c : Code} {Q : State → Prop} {D : va_G} {cs : Nat → ClassId} {b L : Nat} {xs : Nat → Int32} {T0 : Cond} (hst : l.stackTraces = false) (S : CallFix p m c cL_law 7 s #[Value.ref b] (T0 :: wsL_law) RL) (hX : va_X b L xs s s.heap) (hbl : b < s.heap.size) {E : En} {a1 a2 a3 : Nat} {v4 : Int32} {d : Dy} {H : Heap} {locs : List Loc} {ls : Array Slot} {cl sl : Nat} {kc : En → Dy → Prop} (hcl : cl + 60 ≤ 634061) (hsl : sl + 1400 ≤ 7193921)
    (hk : ∀ (E9 : En) (d9 : Dy) (H : Heap) (locs : List Loc) (ls : Array Slot), kc E9 d9 → Wd D cs (fun q => s.heap.size ≤ q) s.heap s E9 d9 H locs → lv_has ls 7 [(0, .ref b), (1, .ref a1), (2, .ref a2), (3, .ref a3), (4, .int v4)] → W p l e room_1 s m #[Value.ref b] below meth c H locs (cl + 60) (sl + 1400) Q (F0 m 3051 ls [])) (h : lw_891 E a1 a2 a3 v4 xs L kc d) (hw : Wd D cs (fun q => s.heap.size ≤ q) s.heap s E d H locs) (hl : lv_has ls 7 [(0, .ref b), (1, .ref a1), (2, .ref a2), (3, .ref a3), (4, .int v4)]) : W p l e room_1 s m #[Value.ref b] below meth c H locs cl sl Q (F0 m 891 ls []) := by
  have hbA : ¬ (fun q : Nat => s.heap.size ≤ q) b := Nat.not_le.mpr hbl
  unfold lw_891 at h
  obtain ⟨ha1, ha2, ha3, h⟩ := h
  refine lv_aload_n S.1 S.2.1 (dd_at ddL_law_4 79 rfl) rfl (lv_at hl 1 rfl) ?_
  refine lv_aload_n S.1 S.2.1 (dd_at ddL_law_4 80 rfl) rfl (lv_at hl 0 rfl) ?_
  refine lv_iload S.1 S.2.1 (dd_at ddL_law_4 81 rfl) (lv_at hl 4 rfl) ?_
  refine lv_iconst (v := 1) S.1 S.2.1 (dd_at ddL_law_4 82 rfl) (by decide) ?_
  refine lv_iadd S.1 S.2.1 (dd_at ddL_law_4 83 rfl) ?_
  obtain ⟨hx_1, h⟩ := h
  refine va_sld S.1 S.2.1 hX hbl hbA hw.2.2.2.1 hx_1 (dd_at ddL_law_4 84 rfl) ?_
  refine lv_aload_n S.1 S.2.1 (dd_at ddL_law_4 85 rfl) rfl (lv_at hl 0 rfl) ?_
  refine lv_iload S.1 S.2.1 (dd_at ddL_law_4 86 rfl) (lv_at hl 4 rfl) ?_
  refine lv_iconst (v := 2) S.1 S.2.1 (dd_at ddL_law_4 87 rfl) (by decide) ?_
  refine lv_iadd S.1 S.2.1 (dd_at ddL_law_4 88 rfl) ?_
  obtain ⟨hx_2, h⟩ := h
  refine va_sld S.1 S.2.1 hX hbl hbA hw.2.2.2.1 hx_2 (dd_at ddL_law_4 89 rfl) ?_
  refine lv_aload_n S.1 S.2.1 (dd_at ddL_law_4 90 rfl) rfl (lv_at hl 0 rfl) ?_
  refine lv_iload S.1 S.2.1 (dd_at ddL_law_4 91 rfl) (lv_at hl 4 rfl) ?_
  refine lv_iconst (v := 3) S.1 S.2.1 (dd_at ddL_law_4 92 rfl) (by decide) ?_
  refine lv_iadd S.1 S.2.1 (dd_at ddL_law_4 93 rfl) ?_
  obtain ⟨hx_3, h⟩ := h
  refine va_sld S.1 S.2.1 hX hbl hbA hw.2.2.2.1 hx_3 (dd_at ddL_law_4 94 rfl) ?_
  refine lv_aload_n S.1 S.2.1 (dd_at ddL_law_4 95 rfl) rfl (lv_at hl 3 rfl) ?_
  refine r_callI hw (r_runSW (As := [.ref a1, .int (xs (v4 + 1).toNatClampNeg), .int (xs (v4 + 2).toNatClampNeg), .int (xs (v4 + 3).toNatClampNeg), .ref a3]) (rest := []) S hw (m_L_since l hst D cs E d H.size a1 (xs (v4 + 1).toNatClampNeg) (xs (v4 + 2).toNatClampNeg) (xs (v4 + 3).toNatClampNeg) a3 _) (vx_cwSW 5 S.2.2.2.2 (gSW wg904 wg905 wg221 wg906) rfl rfl rfl (by decide +kernel) ⟨Nat.le_of_ble_eq_true rfl, Nat.le_of_ble_eq_true rfl⟩) h rfl hl.1 rfl (Nat.le_of_ble_eq_true rfl) (dd_at ddL_law_4 96 rfl) ⟨Nat.le_trans (Nat.add_le_add_left (Nat.le_of_ble_eq_true rfl) cl) hcl, Nat.le_trans (Nat.add_le_add_left (Nat.le_of_ble_eq_true rfl) sl) hsl⟩) (fun r_5 d_4 H locs h hw => ?_)
  refine W.widen (k := cl + 60) (n := sl + 1400) (Nat.add_le_add_left (Nat.le_of_ble_eq_true rfl) cl) (Nat.add_le_add_left (Nat.le_of_ble_eq_true rfl) sl) ?_
  refine lv_istore (lv' := [(5, .int r_5), (0, .ref b), (1, .ref a1), (2, .ref a2), (3, .ref a3), (4, .int v4)]) S.1 S.2.1 (dd_at ddL_law_4 97 rfl) hl (by decide) rfl (fun ls hl => ?_)
  refine lv_aload_n S.1 S.2.1 (dd_at ddL_law_4 98 rfl) rfl (lv_at hl 3 rfl) ?_
  refine lv_aload_n S.1 S.2.1 (dd_at ddL_law_4 99 rfl) rfl (lv_at hl 1 rfl) ?_
  refine lv_iload S.1 S.2.1 (dd_at ddL_law_5 0 rfl) (lv_at hl 5 rfl) ?_
  refine lv_iconst (v := 1) S.1 S.2.1 (dd_at ddL_law_5 1 rfl) (by decide) ?_
  refine lv_iadd S.1 S.2.1 (dd_at ddL_law_5 2 rfl) ?_
  obtain ⟨hx_6, h⟩ := h
  refine va_sld S.1 S.2.1 hX hbl hbA hw.2.2.2.1 hx_6 (dd_at ddL_law_5 3 rfl) ?_
  refine lv_aload_n S.1 S.2.1 (dd_at ddL_law_5 4 rfl) rfl (lv_at hl 1 rfl) ?_
  refine lv_iload S.1 S.2.1 (dd_at ddL_law_5 5 rfl) (lv_at hl 5 rfl) ?_
  refine lv_iconst (v := 2) S.1 S.2.1 (dd_at ddL_law_5 6 rfl) (by decide) ?_
  refine lv_iadd S.1 S.2.1 (dd_at ddL_law_5 7 rfl) ?_
  obtain ⟨hx_7, h⟩ := h
  refine va_sld S.1 S.2.1 hX hbl hbA hw.2.2.2.1 hx_7 (dd_at ddL_law_5 8 rfl) ?_
  refine lv_aload_n S.1 S.2.1 (dd_at ddL_law_5 9 rfl) rfl (lv_at hl 1 rfl) ?_
  refine lv_iload S.1 S.2.1 (dd_at ddL_law_5 10 rfl) (lv_at hl 5 rfl) ?_
  refine lv_iconst (v := 3) S.1 S.2.1 (dd_at ddL_law_5 11 rfl) (by decide) ?_
  refine lv_iadd S.1 S.2.1 (dd_at ddL_law_5 12 rfl) ?_
  obtain ⟨hx_8, h⟩ := h
  refine va_sld S.1 S.2.1 hX hbl hbA hw.2.2.2.1 hx_8 (dd_at ddL_law_5 13 rfl) ?_
  refine r_callI hw (r_runV (As := [.int (xs (v4 + 1).toNatClampNeg), .int (xs (v4 + 2).toNatClampNeg), .int (xs (v4 + 3).toNatClampNeg)]) (rest := []) S hw (m_X11_since l D cs E d_4 H.size a2 (xs (v4 + 1).toNatClampNeg) (xs (v4 + 2).toNatClampNeg) (xs (v4 + 3).toNatClampNeg) _) (cwV 3 S.2.2.2.2 (gV wg912 wg913 wg914 wg5 wg915) rfl rfl rfl (by decide +kernel) ⟨Nat.le_of_ble_eq_true rfl, Nat.le_of_ble_eq_true rfl⟩) (ci := 11) rfl ha2 h rfl hl.1 rfl (Nat.le_of_ble_eq_true rfl) (dd_at ddL_law_5 14 rfl) ⟨hcl, hsl⟩) (fun r_10 d_9 H locs h hw => ?_)
  refine lv_istore (lv' := [(6, .int r_10), (5, .int r_5), (0, .ref b), (1, .ref a1), (2, .ref a2), (3, .ref a3), (4, .int v4)]) S.1 S.2.1 (dd_at ddL_law_5 15 rfl) hl (by decide) rfl (fun ls hl => ?_)
  refine lv_aload_n S.1 S.2.1 (dd_at ddL_law_5 16 rfl) rfl (lv_at hl 4 rfl) ?_
  refine r_callI hw (r_runV (As := []) (rest := []) S hw (m_X11_thrown l D cs E d_9 H.size a2 _) (cwV 0 S.2.2.2.2 (gV wg506 wg507 wg508 wg5 wg509) rfl rfl rfl (by decide +kernel) ⟨Nat.le_of_ble_eq_true rfl, Nat.le_of_ble_eq_true rfl⟩) (ci := 11) rfl ha2 h rfl hl.1 rfl (Nat.le_of_ble_eq_true rfl) (dd_at ddL_law_5 17 rfl) ⟨hcl, hsl⟩) (fun r_12 d_11 H locs h hw => ?_)
  refine lv_iload S.1 S.2.1 (dd_at ddL_law_5 18 rfl) (lv_at hl 1 rfl) ?_
  refine lv_icmp_eq (tgt := 951) S.1 S.2.1 (dd_at ddL_law_5 19 rfl) (by decide) (fun hc_13 => ?_) (fun hc_13 => ?_)
  · have h := h.1 hc_13
    refine lv_iload S.1 S.2.1 (dd_at ddL_law_5 22 rfl) (lv_at hl 1 rfl) ?_
    refine lv_if_ne (tgt := 968) S.1 S.2.1 (dd_at ddL_law_5 23 rfl) (by decide) (fun hc_14 => ?_) (fun hc_14 => ?_)
    · have h := h.1 hc_14
      refine lv_goto (tgt := 3051) S.1 S.2.1 (dd_at ddL_law_5 33 rfl) (by decide) ?_
      exact hk _ _ _ _ _ h hw (lv_sub hl [2, 3, 4, 5, 6] rfl)
    · have h := h.2 hc_14
      refine lv_aload_n S.1 S.2.1 (dd_at ddL_law_5 24 rfl) rfl (lv_at hl 5 rfl) ?_
      refine lv_iconst (v := 0) S.1 S.2.1 (dd_at ddL_law_5 25 rfl) (by decide) ?_
      obtain ⟨hx_15, h⟩ := h
      refine r_lald S hw ha3 hx_15 (dd_at ddL_law_5 26 rfl) ?_
      refine lv_iload S.1 S.2.1 (dd_at ddL_law_5 27 rfl) (lv_at hl 0 rfl) ?_
      refine lv_i2l S.1 S.2.1 (dd_at ddL_law_5 28 rfl) rfl ?_
      refine W.lcmp S.1 S.2.1 (dd_at ddL_law_5 29 rfl) ?_
      refine lv_if_eq (tgt := 968) S.1 S.2.1 (dd_at ddL_law_5 30 rfl) (by decide) (fun hc_16 => ?_) (fun hc_16 => ?_)
      · have h := h.1 hc_16
        refine lv_goto (tgt := 3051) S.1 S.2.1 (dd_at ddL_law_5 33 rfl) (by decide) ?_
        exact hk _ _ _ _ _ h hw (lv_sub hl [2, 3, 4, 5, 6] rfl)
      · have h := h.2 hc_16
        refine lv_iconst (v := 0) S.1 S.2.1 (dd_at ddL_law_5 31 rfl) (by decide) ?_
        exact absurd h id
  · have h := h.2 hc_13
    refine lv_iconst (v := 0) S.1 S.2.1 (dd_at ddL_law_5 20 rfl) (by decide) ?_
    exact absurd h id

def lw_971 (E : En) (a1 a2 a3 : Nat) (v4 : Int32) (xs : Nat → Int32) (L : Nat) (kc : En → Dy → Prop) (d : Dy) : Prop := okO E a1 10 ∧ okO E a2 11 ∧ okA E a3 14 ∧ vp_in (v4 + 1) L ∧ vp_in (v4 + 2) L ∧ vp_in (v4 + 3) L ∧ w_L_place E a1 (xs (v4 + 1).toNatClampNeg) (xs (v4 + 2).toNatClampNeg) (xs (v4 + 3).toNatClampNeg) a3 d (fun r_5 d_4 => vp_in (v4 + 1) L ∧ vp_in (v4 + 2) L ∧ vp_in (v4 + 3) L ∧ w_X11_place E a2 (xs (v4 + 1).toNatClampNeg) (xs (v4 + 2).toNatClampNeg) (xs (v4 + 3).toNatClampNeg) d_4 (fun r_10 d_9 => w_X11_thrown E a2 d_9 (fun r_12 d_11 => ((r_12 = r_5 → ((¬ r_5 = 0 → kc E d_11) ∧ (r_5 = 0 → vp_in 0 (eN E a3) ∧ (((lg_cmp (gJ d_11 a3 ((0 : Int32)).toNatClampNeg) r_10.toInt64) = 0 → kc E d_11) ∧ (¬ (lg_cmp (gJ d_11 a3 ((0 : Int32)).toNatClampNeg) r_10.toInt64) = 0 → False))))) ∧ (¬ r_12 = r_5 → False)))))
set_option maxRecDepth 100000 in
set_option maxHeartbeats 4000000 in
theorem lc_971 {p : Program} {l : Launch} {e : Env} {s : State} {m : MethodId} {below : List Frame} {meth : Method} {c : Code} {Q : State → Prop} {D : va_G} {cs : Nat → ClassId} {b L : Nat} {xs : Nat → Int32} {T0 : Cond} (hst : l.stackTraces = false) (S : CallFix p m c cL_law 7 s #[Value.ref b] (T0 :: wsL_law) RL) (hX : va_X b L xs s s.heap) (hbl : b < s.heap.size) {E : En} {a1 a2 a3 : Nat} {v4 : Int32} {d : Dy} {H : Heap} {locs : List Loc} {ls : Array Slot} {cl sl : Nat} {kc : En → Dy → Prop} (hcl : cl + 60 ≤ 634061) (hsl : sl + 1400 ≤ 7193921)
    (hk : ∀ (E9 : En) (d9 : Dy) (H : Heap) (locs : List Loc) (ls : Array Slot), kc E9 d9 → Wd D cs (fun q => s.heap.size ≤ q) s.heap s E9 d9 H locs → lv_has ls 7 [(0, .ref b), (1, .ref a1), (2, .ref a2), (3, .ref a3), (4, .int v4)] → W p l e room_1 s m #[Value.ref b] below meth c H locs (cl + 60) (sl + 1400) Q (F0 m 3051 ls [])) (h : lw_971 E a1 a2 a3 v4 xs L kc d) (hw : Wd D cs (fun q => s.heap.size ≤ q) s.heap s E d H locs) (hl : lv_has ls 7 [(0, .ref b), (1, .ref a1), (2, .ref a2), (3, .ref a3), (4, .int v4)]) : W p l e room_1 s m #[Value.ref b] below meth c H locs cl sl Q (F0 m 971 ls []) := by
  have hbA : ¬ (fun q : Nat => s.heap.size ≤ q) b := Nat.not_le.mpr hbl
  unfold lw_971 at h
  obtain ⟨ha1, ha2, ha3, h⟩ := h
  refine lv_aload_n S.1 S.2.1 (dd_at ddL_law_5 34 rfl) rfl (lv_at hl 1 rfl) ?_
  refine lv_aload_n S.1 S.2.1 (dd_at ddL_law_5 35 rfl) rfl (lv_at hl 0 rfl) ?_
  refine lv_iload S.1 S.2.1 (dd_at ddL_law_5 36 rfl) (lv_at hl 4 rfl) ?_
  refine lv_iconst (v := 1) S.1 S.2.1 (dd_at ddL_law_5 37 rfl) (by decide) ?_
  refine lv_iadd S.1 S.2.1 (dd_at ddL_law_5 38 rfl) ?_
  obtain ⟨hx_1, h⟩ := h
  refine va_sld S.1 S.2.1 hX hbl hbA hw.2.2.2.1 hx_1 (dd_at ddL_law_5 39 rfl) ?_
  refine lv_aload_n S.1 S.2.1 (dd_at ddL_law_5 40 rfl) rfl (lv_at hl 0 rfl) ?_
  refine lv_iload S.1 S.2.1 (dd_at ddL_law_5 41 rfl) (lv_at hl 4 rfl) ?_
  refine lv_iconst (v := 2) S.1 S.2.1 (dd_at ddL_law_5 42 rfl) (by decide) ?_
  refine lv_iadd S.1 S.2.1 (dd_at ddL_law_5 43 rfl) ?_
  obtain ⟨hx_2, h⟩ := h
  refine va_sld S.1 S.2.1 hX hbl hbA hw.2.2.2.1 hx_2 (dd_at ddL_law_5 44 rfl) ?_
  refine lv_aload_n S.1 S.2.1 (dd_at ddL_law_5 45 rfl) rfl (lv_at hl 0 rfl) ?_
  refine lv_iload S.1 S.2.1 (dd_at ddL_law_5 46 rfl) (lv_at hl 4 rfl) ?_
  refine lv_iconst (v := 3) S.1 S.2.1 (dd_at ddL_law_5 47 rfl) (by decide) ?_
  refine lv_iadd S.1 S.2.1 (dd_at ddL_law_5 48 rfl) ?_
  obtain ⟨hx_3, h⟩ := h
  refine va_sld S.1 S.2.1 hX hbl hbA hw.2.2.2.1 hx_3 (dd_at ddL_law_5 49 rfl) ?_
  refine lv_aload_n S.1 S.2.1 (dd_at ddL_law_5 50 rfl) rfl (lv_at hl 3 rfl) ?_
  refine r_callI hw (r_runSW (As := [.ref a1, .int (xs (v4 + 1).toNatClampNeg), .int (xs (v4 + 2).toNatClampNeg), .int (xs (v4 + 3).toNatClampNeg), .ref a3]) (rest := []) S hw (m_L_place l hst D cs E d H.size a1 (xs (v4 + 1).toNatClampNeg) (xs (v4 + 2).toNatClampNeg) (xs (v4 + 3).toNatClampNeg) a3 _) (vx_cwSW 5 S.2.2.2.2 (gSW wg916 wg917 wg221 wg918) rfl rfl rfl (by decide +kernel) ⟨Nat.le_of_ble_eq_true rfl, Nat.le_of_ble_eq_true rfl⟩) h rfl hl.1 rfl (Nat.le_of_ble_eq_true rfl) (dd_at ddL_law_5 51 rfl) ⟨Nat.le_trans (Nat.add_le_add_left (Nat.le_of_ble_eq_true rfl) cl) hcl, Nat.le_trans (Nat.add_le_add_left (Nat.le_of_ble_eq_true rfl) sl) hsl⟩) (fun r_5 d_4 H locs h hw => ?_)
  refine W.widen (k := cl + 60) (n := sl + 1400) (Nat.add_le_add_left (Nat.le_of_ble_eq_true rfl) cl) (Nat.add_le_add_left (Nat.le_of_ble_eq_true rfl) sl) ?_
  refine lv_istore (lv' := [(5, .int r_5), (0, .ref b), (1, .ref a1), (2, .ref a2), (3, .ref a3), (4, .int v4)]) S.1 S.2.1 (dd_at ddL_law_5 52 rfl) hl (by decide) rfl (fun ls hl => ?_)
  refine lv_aload_n S.1 S.2.1 (dd_at ddL_law_5 53 rfl) rfl (lv_at hl 3 rfl) ?_
  refine lv_aload_n S.1 S.2.1 (dd_at ddL_law_5 54 rfl) rfl (lv_at hl 1 rfl) ?_
  refine lv_iload S.1 S.2.1 (dd_at ddL_law_5 55 rfl) (lv_at hl 5 rfl) ?_
  refine lv_iconst (v := 1) S.1 S.2.1 (dd_at ddL_law_5 56 rfl) (by decide) ?_
  refine lv_iadd S.1 S.2.1 (dd_at ddL_law_5 57 rfl) ?_
  obtain ⟨hx_6, h⟩ := h
  refine va_sld S.1 S.2.1 hX hbl hbA hw.2.2.2.1 hx_6 (dd_at ddL_law_5 58 rfl) ?_
  refine lv_aload_n S.1 S.2.1 (dd_at ddL_law_5 59 rfl) rfl (lv_at hl 1 rfl) ?_
  refine lv_iload S.1 S.2.1 (dd_at ddL_law_5 60 rfl) (lv_at hl 5 rfl) ?_
  refine lv_iconst (v := 2) S.1 S.2.1 (dd_at ddL_law_5 61 rfl) (by decide) ?_
  refine lv_iadd S.1 S.2.1 (dd_at ddL_law_5 62 rfl) ?_
  obtain ⟨hx_7, h⟩ := h
  refine va_sld S.1 S.2.1 hX hbl hbA hw.2.2.2.1 hx_7 (dd_at ddL_law_5 63 rfl) ?_
  refine lv_aload_n S.1 S.2.1 (dd_at ddL_law_5 64 rfl) rfl (lv_at hl 1 rfl) ?_
  refine lv_iload S.1 S.2.1 (dd_at ddL_law_5 65 rfl) (lv_at hl 5 rfl) ?_
  refine lv_iconst (v := 3) S.1 S.2.1 (dd_at ddL_law_5 66 rfl) (by decide) ?_
  refine lv_iadd S.1 S.2.1 (dd_at ddL_law_5 67 rfl) ?_
  obtain ⟨hx_8, h⟩ := h
  refine va_sld S.1 S.2.1 hX hbl hbA hw.2.2.2.1 hx_8 (dd_at ddL_law_5 68 rfl) ?_
  refine r_callI hw (r_runV (As := [.int (xs (v4 + 1).toNatClampNeg), .int (xs (v4 + 2).toNatClampNeg), .int (xs (v4 + 3).toNatClampNeg)]) (rest := []) S hw (m_X11_place l D cs E d_4 H.size a2 (xs (v4 + 1).toNatClampNeg) (xs (v4 + 2).toNatClampNeg) (xs (v4 + 3).toNatClampNeg) _) (cwV 3 S.2.2.2.2 (gV wg924 wg925 wg926 wg5 wg927) rfl rfl rfl (by decide +kernel) ⟨Nat.le_of_ble_eq_true rfl, Nat.le_of_ble_eq_true rfl⟩) (ci := 11) rfl ha2 h rfl hl.1 rfl (Nat.le_of_ble_eq_true rfl) (dd_at ddL_law_5 69 rfl) ⟨hcl, hsl⟩) (fun r_10 d_9 H locs h hw => ?_)
  refine lv_istore (lv' := [(6, .int r_10), (5, .int r_5), (0, .ref b), (1, .ref a1), (2, .ref a2), (3, .ref a3), (4, .int v4)]) S.1 S.2.1 (dd_at ddL_law_5 70 rfl) hl (by decide) rfl (fun ls hl => ?_)
  refine lv_aload_n S.1 S.2.1 (dd_at ddL_law_5 71 rfl) rfl (lv_at hl 4 rfl) ?_
  refine r_callI hw (r_runV (As := []) (rest := []) S hw (m_X11_thrown l D cs E d_9 H.size a2 _) (cwV 0 S.2.2.2.2 (gV wg506 wg507 wg508 wg5 wg509) rfl rfl rfl (by decide +kernel) ⟨Nat.le_of_ble_eq_true rfl, Nat.le_of_ble_eq_true rfl⟩) (ci := 11) rfl ha2 h rfl hl.1 rfl (Nat.le_of_ble_eq_true rfl) (dd_at ddL_law_5 72 rfl) ⟨hcl, hsl⟩) (fun r_12 d_11 H locs h hw => ?_)
  refine lv_iload S.1 S.2.1 (dd_at ddL_law_5 73 rfl) (lv_at hl 1 rfl) ?_
  refine lv_icmp_eq (tgt := 1031) S.1 S.2.1 (dd_at ddL_law_5 74 rfl) (by decide) (fun hc_13 => ?_) (fun hc_13 => ?_)
  · have h := h.1 hc_13
    refine lv_iload S.1 S.2.1 (dd_at ddL_law_5 77 rfl) (lv_at hl 1 rfl) ?_
    refine lv_if_ne (tgt := 1048) S.1 S.2.1 (dd_at ddL_law_5 78 rfl) (by decide) (fun hc_14 => ?_) (fun hc_14 => ?_)
    · have h := h.1 hc_14
      refine lv_goto (tgt := 3051) S.1 S.2.1 (dd_at ddL_law_5 88 rfl) (by decide) ?_
      exact hk _ _ _ _ _ h hw (lv_sub hl [2, 3, 4, 5, 6] rfl)
    · have h := h.2 hc_14
      refine lv_aload_n S.1 S.2.1 (dd_at ddL_law_5 79 rfl) rfl (lv_at hl 5 rfl) ?_
      refine lv_iconst (v := 0) S.1 S.2.1 (dd_at ddL_law_5 80 rfl) (by decide) ?_
      obtain ⟨hx_15, h⟩ := h
      refine r_lald S hw ha3 hx_15 (dd_at ddL_law_5 81 rfl) ?_
      refine lv_iload S.1 S.2.1 (dd_at ddL_law_5 82 rfl) (lv_at hl 0 rfl) ?_
      refine lv_i2l S.1 S.2.1 (dd_at ddL_law_5 83 rfl) rfl ?_
      refine W.lcmp S.1 S.2.1 (dd_at ddL_law_5 84 rfl) ?_
      refine lv_if_eq (tgt := 1048) S.1 S.2.1 (dd_at ddL_law_5 85 rfl) (by decide) (fun hc_16 => ?_) (fun hc_16 => ?_)
      · have h := h.1 hc_16
        refine lv_goto (tgt := 3051) S.1 S.2.1 (dd_at ddL_law_5 88 rfl) (by decide) ?_
        exact hk _ _ _ _ _ h hw (lv_sub hl [2, 3, 4, 5, 6] rfl)
      · have h := h.2 hc_16
        refine lv_iconst (v := 0) S.1 S.2.1 (dd_at ddL_law_5 86 rfl) (by decide) ?_
        exact absurd h id
  · have h := h.2 hc_13
    refine lv_iconst (v := 0) S.1 S.2.1 (dd_at ddL_law_5 75 rfl) (by decide) ?_
    exact absurd h id

def lw_1051 (E : En) (a1 a2 a3 : Nat) (v4 : Int32) (xs : Nat → Int32) (L : Nat) (kc : En → Dy → Prop) (d : Dy) : Prop := okO E a1 10 ∧ okO E a2 11 ∧ okA E a3 14 ∧ vp_in (v4 + 1) L ∧ vp_in (v4 + 2) L ∧ vp_in (v4 + 3) L ∧ vp_in (v4 + 4) L ∧ w_L_about E a1 (xs (v4 + 1).toNatClampNeg) (xs (v4 + 2).toNatClampNeg) (xs (v4 + 3).toNatClampNeg) (xs (v4 + 4).toNatClampNeg) a3 d (fun r_6 d_5 => vp_in (v4 + 1) L ∧ vp_in (v4 + 2) L ∧ vp_in (v4 + 3) L ∧ vp_in (v4 + 4) L ∧ w_X11_about E a2 (xs (v4 + 1).toNatClampNeg) (xs (v4 + 2).toNatClampNeg) (xs (v4 + 3).toNatClampNeg) (xs (v4 + 4).toNatClampNeg) d_5 (fun r_12 d_11 => w_X11_thrown E a2 d_11 (fun r_14 d_13 => ((r_14 = r_6 → ((¬ r_6 = 0 → kc E d_13) ∧ (r_6 = 0 → vp_in 0 (eN E a3) ∧ (((lg_cmp (gJ d_13 a3 ((0 : Int32)).toNatClampNeg) r_12.toInt64) = 0 → kc E d_13) ∧ (¬ (lg_cmp (gJ d_13 a3 ((0 : Int32)).toNatClampNeg) r_12.toInt64) = 0 → False))))) ∧ (¬ r_14 = r_6 → False)))))
set_option maxRecDepth 100000 in
set_option maxHeartbeats 4000000 in
theorem lc_1051 {p : Program} {l : Launch} {e : Env} {s : State} {m : MethodId} {below : List Frame} {meth : Method} {c : Code} {Q : State → Prop} {D : va_G} {cs : Nat → ClassId} {b L : Nat} {xs : Nat → Int32} {T0 : Cond} (hst : l.stackTraces = false) (S : CallFix p m c cL_law 7 s #[Value.ref b] (T0 :: wsL_law) RL) (hX : va_X b L xs s s.heap) (hbl : b < s.heap.size) {E : En} {a1 a2 a3 : Nat} {v4 : Int32} {d : Dy} {H : Heap} {locs : List Loc} {ls : Array Slot} {cl sl : Nat} {kc : En → Dy → Prop} (hcl : cl + 60 ≤ 634061) (hsl : sl + 1400 ≤ 7193921)
    (hk : ∀ (E9 : En) (d9 : Dy) (H : Heap) (locs : List Loc) (ls : Array Slot), kc E9 d9 → Wd D cs (fun q => s.heap.size ≤ q) s.heap s E9 d9 H locs → lv_has ls 7 [(0, .ref b), (1, .ref a1), (2, .ref a2), (3, .ref a3), (4, .int v4)] → W p l e room_1 s m #[Value.ref b] below meth c H locs (cl + 60) (sl + 1400) Q (F0 m 3051 ls [])) (h : lw_1051 E a1 a2 a3 v4 xs L kc d) (hw : Wd D cs (fun q => s.heap.size ≤ q) s.heap s E d H locs) (hl : lv_has ls 7 [(0, .ref b), (1, .ref a1), (2, .ref a2), (3, .ref a3), (4, .int v4)]) : W p l e room_1 s m #[Value.ref b] below meth c H locs cl sl Q (F0 m 1051 ls []) := by
  have hbA : ¬ (fun q : Nat => s.heap.size ≤ q) b := Nat.not_le.mpr hbl
  unfold lw_1051 at h
  obtain ⟨ha1, ha2, ha3, h⟩ := h
  refine lv_aload_n S.1 S.2.1 (dd_at ddL_law_5 89 rfl) rfl (lv_at hl 1 rfl) ?_
  refine lv_aload_n S.1 S.2.1 (dd_at ddL_law_5 90 rfl) rfl (lv_at hl 0 rfl) ?_
  refine lv_iload S.1 S.2.1 (dd_at ddL_law_5 91 rfl) (lv_at hl 4 rfl) ?_
  refine lv_iconst (v := 1) S.1 S.2.1 (dd_at ddL_law_5 92 rfl) (by decide) ?_
  refine lv_iadd S.1 S.2.1 (dd_at ddL_law_5 93 rfl) ?_
  obtain ⟨hx_1, h⟩ := h
  refine va_sld S.1 S.2.1 hX hbl hbA hw.2.2.2.1 hx_1 (dd_at ddL_law_5 94 rfl) ?_
  refine lv_aload_n S.1 S.2.1 (dd_at ddL_law_5 95 rfl) rfl (lv_at hl 0 rfl) ?_
  refine lv_iload S.1 S.2.1 (dd_at ddL_law_5 96 rfl) (lv_at hl 4 rfl) ?_
  refine lv_iconst (v := 2) S.1 S.2.1 (dd_at ddL_law_5 97 rfl) (by decide) ?_
  refine lv_iadd S.1 S.2.1 (dd_at ddL_law_5 98 rfl) ?_
  obtain ⟨hx_2, h⟩ := h
  refine va_sld S.1 S.2.1 hX hbl hbA hw.2.2.2.1 hx_2 (dd_at ddL_law_5 99 rfl) ?_
  refine lv_aload_n S.1 S.2.1 (dd_at ddL_law_6 0 rfl) rfl (lv_at hl 0 rfl) ?_
  refine lv_iload S.1 S.2.1 (dd_at ddL_law_6 1 rfl) (lv_at hl 4 rfl) ?_
  refine lv_iconst (v := 3) S.1 S.2.1 (dd_at ddL_law_6 2 rfl) (by decide) ?_
  refine lv_iadd S.1 S.2.1 (dd_at ddL_law_6 3 rfl) ?_
  obtain ⟨hx_3, h⟩ := h
  refine va_sld S.1 S.2.1 hX hbl hbA hw.2.2.2.1 hx_3 (dd_at ddL_law_6 4 rfl) ?_
  refine lv_aload_n S.1 S.2.1 (dd_at ddL_law_6 5 rfl) rfl (lv_at hl 0 rfl) ?_
  refine lv_iload S.1 S.2.1 (dd_at ddL_law_6 6 rfl) (lv_at hl 4 rfl) ?_
  refine lv_iconst (v := 4) S.1 S.2.1 (dd_at ddL_law_6 7 rfl) (by decide) ?_
  refine lv_iadd S.1 S.2.1 (dd_at ddL_law_6 8 rfl) ?_
  obtain ⟨hx_4, h⟩ := h
  refine va_sld S.1 S.2.1 hX hbl hbA hw.2.2.2.1 hx_4 (dd_at ddL_law_6 9 rfl) ?_
  refine lv_aload_n S.1 S.2.1 (dd_at ddL_law_6 10 rfl) rfl (lv_at hl 3 rfl) ?_
  refine r_callI hw (r_runSW (As := [.ref a1, .int (xs (v4 + 1).toNatClampNeg), .int (xs (v4 + 2).toNatClampNeg), .int (xs (v4 + 3).toNatClampNeg), .int (xs (v4 + 4).toNatClampNeg), .ref a3]) (rest := []) S hw (m_L_about l hst D cs E d H.size a1 (xs (v4 + 1).toNatClampNeg) (xs (v4 + 2).toNatClampNeg) (xs (v4 + 3).toNatClampNeg) (xs (v4 + 4).toNatClampNeg) a3 _) (vx_cwSW 6 S.2.2.2.2 (gSW wg928 wg929 wg221 wg930) rfl rfl rfl (by decide +kernel) ⟨Nat.le_of_ble_eq_true rfl, Nat.le_of_ble_eq_true rfl⟩) h rfl hl.1 rfl (Nat.le_of_ble_eq_true rfl) (dd_at ddL_law_6 11 rfl) ⟨Nat.le_trans (Nat.add_le_add_left (Nat.le_of_ble_eq_true rfl) cl) hcl, Nat.le_trans (Nat.add_le_add_left (Nat.le_of_ble_eq_true rfl) sl) hsl⟩) (fun r_6 d_5 H locs h hw => ?_)
  refine W.widen (k := cl + 60) (n := sl + 1400) (Nat.add_le_add_left (Nat.le_of_ble_eq_true rfl) cl) (Nat.add_le_add_left (Nat.le_of_ble_eq_true rfl) sl) ?_
  refine lv_istore (lv' := [(5, .int r_6), (0, .ref b), (1, .ref a1), (2, .ref a2), (3, .ref a3), (4, .int v4)]) S.1 S.2.1 (dd_at ddL_law_6 12 rfl) hl (by decide) rfl (fun ls hl => ?_)
  refine lv_aload_n S.1 S.2.1 (dd_at ddL_law_6 13 rfl) rfl (lv_at hl 3 rfl) ?_
  refine lv_aload_n S.1 S.2.1 (dd_at ddL_law_6 14 rfl) rfl (lv_at hl 1 rfl) ?_
  refine lv_iload S.1 S.2.1 (dd_at ddL_law_6 15 rfl) (lv_at hl 5 rfl) ?_
  refine lv_iconst (v := 1) S.1 S.2.1 (dd_at ddL_law_6 16 rfl) (by decide) ?_
  refine lv_iadd S.1 S.2.1 (dd_at ddL_law_6 17 rfl) ?_
  obtain ⟨hx_7, h⟩ := h
  refine va_sld S.1 S.2.1 hX hbl hbA hw.2.2.2.1 hx_7 (dd_at ddL_law_6 18 rfl) ?_
  refine lv_aload_n S.1 S.2.1 (dd_at ddL_law_6 19 rfl) rfl (lv_at hl 1 rfl) ?_
  refine lv_iload S.1 S.2.1 (dd_at ddL_law_6 20 rfl) (lv_at hl 5 rfl) ?_
  refine lv_iconst (v := 2) S.1 S.2.1 (dd_at ddL_law_6 21 rfl) (by decide) ?_
  refine lv_iadd S.1 S.2.1 (dd_at ddL_law_6 22 rfl) ?_
  obtain ⟨hx_8, h⟩ := h
  refine va_sld S.1 S.2.1 hX hbl hbA hw.2.2.2.1 hx_8 (dd_at ddL_law_6 23 rfl) ?_
  refine lv_aload_n S.1 S.2.1 (dd_at ddL_law_6 24 rfl) rfl (lv_at hl 1 rfl) ?_
  refine lv_iload S.1 S.2.1 (dd_at ddL_law_6 25 rfl) (lv_at hl 5 rfl) ?_
  refine lv_iconst (v := 3) S.1 S.2.1 (dd_at ddL_law_6 26 rfl) (by decide) ?_
  refine lv_iadd S.1 S.2.1 (dd_at ddL_law_6 27 rfl) ?_
  obtain ⟨hx_9, h⟩ := h
  refine va_sld S.1 S.2.1 hX hbl hbA hw.2.2.2.1 hx_9 (dd_at ddL_law_6 28 rfl) ?_
  refine lv_aload_n S.1 S.2.1 (dd_at ddL_law_6 29 rfl) rfl (lv_at hl 1 rfl) ?_
  refine lv_iload S.1 S.2.1 (dd_at ddL_law_6 30 rfl) (lv_at hl 5 rfl) ?_
  refine lv_iconst (v := 4) S.1 S.2.1 (dd_at ddL_law_6 31 rfl) (by decide) ?_
  refine lv_iadd S.1 S.2.1 (dd_at ddL_law_6 32 rfl) ?_
  obtain ⟨hx_10, h⟩ := h
  refine va_sld S.1 S.2.1 hX hbl hbA hw.2.2.2.1 hx_10 (dd_at ddL_law_6 33 rfl) ?_
  refine r_callI hw (r_runV (As := [.int (xs (v4 + 1).toNatClampNeg), .int (xs (v4 + 2).toNatClampNeg), .int (xs (v4 + 3).toNatClampNeg), .int (xs (v4 + 4).toNatClampNeg)]) (rest := []) S hw (m_X11_about l D cs E d_5 H.size a2 (xs (v4 + 1).toNatClampNeg) (xs (v4 + 2).toNatClampNeg) (xs (v4 + 3).toNatClampNeg) (xs (v4 + 4).toNatClampNeg) _) (cwV 4 S.2.2.2.2 (gV wg949 wg950 wg951 wg5 wg952) rfl rfl rfl (by decide +kernel) ⟨Nat.le_of_ble_eq_true rfl, Nat.le_of_ble_eq_true rfl⟩) (ci := 11) rfl ha2 h rfl hl.1 rfl (Nat.le_of_ble_eq_true rfl) (dd_at ddL_law_6 34 rfl) ⟨hcl, hsl⟩) (fun r_12 d_11 H locs h hw => ?_)
  refine lv_istore (lv' := [(6, .int r_12), (5, .int r_6), (0, .ref b), (1, .ref a1), (2, .ref a2), (3, .ref a3), (4, .int v4)]) S.1 S.2.1 (dd_at ddL_law_6 35 rfl) hl (by decide) rfl (fun ls hl => ?_)
  refine lv_aload_n S.1 S.2.1 (dd_at ddL_law_6 36 rfl) rfl (lv_at hl 4 rfl) ?_
  refine r_callI hw (r_runV (As := []) (rest := []) S hw (m_X11_thrown l D cs E d_11 H.size a2 _) (cwV 0 S.2.2.2.2 (gV wg506 wg507 wg508 wg5 wg509) rfl rfl rfl (by decide +kernel) ⟨Nat.le_of_ble_eq_true rfl, Nat.le_of_ble_eq_true rfl⟩) (ci := 11) rfl ha2 h rfl hl.1 rfl (Nat.le_of_ble_eq_true rfl) (dd_at ddL_law_6 37 rfl) ⟨hcl, hsl⟩) (fun r_14 d_13 H locs h hw => ?_)
  refine lv_iload S.1 S.2.1 (dd_at ddL_law_6 38 rfl) (lv_at hl 1 rfl) ?_
  refine lv_icmp_eq (tgt := 1123) S.1 S.2.1 (dd_at ddL_law_6 39 rfl) (by decide) (fun hc_15 => ?_) (fun hc_15 => ?_)
  · have h := h.1 hc_15
    refine lv_iload S.1 S.2.1 (dd_at ddL_law_6 42 rfl) (lv_at hl 1 rfl) ?_
    refine lv_if_ne (tgt := 1140) S.1 S.2.1 (dd_at ddL_law_6 43 rfl) (by decide) (fun hc_16 => ?_) (fun hc_16 => ?_)
    · have h := h.1 hc_16
      refine lv_goto (tgt := 3051) S.1 S.2.1 (dd_at ddL_law_6 53 rfl) (by decide) ?_
      exact hk _ _ _ _ _ h hw (lv_sub hl [2, 3, 4, 5, 6] rfl)
    · have h := h.2 hc_16
      refine lv_aload_n S.1 S.2.1 (dd_at ddL_law_6 44 rfl) rfl (lv_at hl 5 rfl) ?_
      refine lv_iconst (v := 0) S.1 S.2.1 (dd_at ddL_law_6 45 rfl) (by decide) ?_
      obtain ⟨hx_17, h⟩ := h
      refine r_lald S hw ha3 hx_17 (dd_at ddL_law_6 46 rfl) ?_
      refine lv_iload S.1 S.2.1 (dd_at ddL_law_6 47 rfl) (lv_at hl 0 rfl) ?_
      refine lv_i2l S.1 S.2.1 (dd_at ddL_law_6 48 rfl) rfl ?_
      refine W.lcmp S.1 S.2.1 (dd_at ddL_law_6 49 rfl) ?_
      refine lv_if_eq (tgt := 1140) S.1 S.2.1 (dd_at ddL_law_6 50 rfl) (by decide) (fun hc_18 => ?_) (fun hc_18 => ?_)
      · have h := h.1 hc_18
        refine lv_goto (tgt := 3051) S.1 S.2.1 (dd_at ddL_law_6 53 rfl) (by decide) ?_
        exact hk _ _ _ _ _ h hw (lv_sub hl [2, 3, 4, 5, 6] rfl)
      · have h := h.2 hc_18
        refine lv_iconst (v := 0) S.1 S.2.1 (dd_at ddL_law_6 51 rfl) (by decide) ?_
        exact absurd h id
  · have h := h.2 hc_15
    refine lv_iconst (v := 0) S.1 S.2.1 (dd_at ddL_law_6 40 rfl) (by decide) ?_
    exact absurd h id

def lw_1143 (E : En) (a1 a2 a3 : Nat) (v4 : Int32) (xs : Nat → Int32) (L : Nat) (kc : En → Dy → Prop) (d : Dy) : Prop := okO E a1 10 ∧ okO E a2 11 ∧ okA E a3 14 ∧ vp_in (v4 + 1) L ∧ vp_in (v4 + 2) L ∧ vp_in (v4 + 3) L ∧ w_L_rent E a1 (xs (v4 + 1).toNatClampNeg) (xs (v4 + 2).toNatClampNeg) (xs (v4 + 3).toNatClampNeg) a3 d (fun r_5 d_4 => vp_in (v4 + 1) L ∧ vp_in (v4 + 2) L ∧ vp_in (v4 + 3) L ∧ w_X11_rent E a2 (xs (v4 + 1).toNatClampNeg) (xs (v4 + 2).toNatClampNeg) (xs (v4 + 3).toNatClampNeg) d_4 (fun r_10 d_9 => w_X11_thrown E a2 d_9 (fun r_12 d_11 => ((r_12 = r_5 → ((¬ r_5 = 0 → kc E d_11) ∧ (r_5 = 0 → vp_in 0 (eN E a3) ∧ (((lg_cmp (gJ d_11 a3 ((0 : Int32)).toNatClampNeg) r_10.toInt64) = 0 → kc E d_11) ∧ (¬ (lg_cmp (gJ d_11 a3 ((0 : Int32)).toNatClampNeg) r_10.toInt64) = 0 → False))))) ∧ (¬ r_12 = r_5 → False)))))
set_option maxRecDepth 100000 in
set_option maxHeartbeats 4000000 in
theorem lc_1143 {p : Program} {l : Launch} {e : Env} {s : State} {m : MethodId} {below : List Frame} {meth : Method} {c : Code} {Q : State → Prop} {D : va_G} {cs : Nat → ClassId} {b L : Nat} {xs : Nat → Int32} {T0 : Cond} (hst : l.stackTraces = false) (S : CallFix p m c cL_law 7 s #[Value.ref b] (T0 :: wsL_law) RL) (hX : va_X b L xs s s.heap) (hbl : b < s.heap.size) {E : En} {a1 a2 a3 : Nat} {v4 : Int32} {d : Dy} {H : Heap} {locs : List Loc} {ls : Array Slot} {cl sl : Nat} {kc : En → Dy → Prop} (hcl : cl + 60 ≤ 634061) (hsl : sl + 1400 ≤ 7193921)
    (hk : ∀ (E9 : En) (d9 : Dy) (H : Heap) (locs : List Loc) (ls : Array Slot), kc E9 d9 → Wd D cs (fun q => s.heap.size ≤ q) s.heap s E9 d9 H locs → lv_has ls 7 [(0, .ref b), (1, .ref a1), (2, .ref a2), (3, .ref a3), (4, .int v4)] → W p l e room_1 s m #[Value.ref b] below meth c H locs (cl + 60) (sl + 1400) Q (F0 m 3051 ls [])) (h : lw_1143 E a1 a2 a3 v4 xs L kc d) (hw : Wd D cs (fun q => s.heap.size ≤ q) s.heap s E d H locs) (hl : lv_has ls 7 [(0, .ref b), (1, .ref a1), (2, .ref a2), (3, .ref a3), (4, .int v4)]) : W p l e room_1 s m #[Value.ref b] below meth c H locs cl sl Q (F0 m 1143 ls []) := by
  have hbA : ¬ (fun q : Nat => s.heap.size ≤ q) b := Nat.not_le.mpr hbl
  unfold lw_1143 at h
  obtain ⟨ha1, ha2, ha3, h⟩ := h
  refine lv_aload_n S.1 S.2.1 (dd_at ddL_law_6 54 rfl) rfl (lv_at hl 1 rfl) ?_
  refine lv_aload_n S.1 S.2.1 (dd_at ddL_law_6 55 rfl) rfl (lv_at hl 0 rfl) ?_
  refine lv_iload S.1 S.2.1 (dd_at ddL_law_6 56 rfl) (lv_at hl 4 rfl) ?_
  refine lv_iconst (v := 1) S.1 S.2.1 (dd_at ddL_law_6 57 rfl) (by decide) ?_
  refine lv_iadd S.1 S.2.1 (dd_at ddL_law_6 58 rfl) ?_
  obtain ⟨hx_1, h⟩ := h
  refine va_sld S.1 S.2.1 hX hbl hbA hw.2.2.2.1 hx_1 (dd_at ddL_law_6 59 rfl) ?_
  refine lv_aload_n S.1 S.2.1 (dd_at ddL_law_6 60 rfl) rfl (lv_at hl 0 rfl) ?_
  refine lv_iload S.1 S.2.1 (dd_at ddL_law_6 61 rfl) (lv_at hl 4 rfl) ?_
  refine lv_iconst (v := 2) S.1 S.2.1 (dd_at ddL_law_6 62 rfl) (by decide) ?_
  refine lv_iadd S.1 S.2.1 (dd_at ddL_law_6 63 rfl) ?_
  obtain ⟨hx_2, h⟩ := h
  refine va_sld S.1 S.2.1 hX hbl hbA hw.2.2.2.1 hx_2 (dd_at ddL_law_6 64 rfl) ?_
  refine lv_aload_n S.1 S.2.1 (dd_at ddL_law_6 65 rfl) rfl (lv_at hl 0 rfl) ?_
  refine lv_iload S.1 S.2.1 (dd_at ddL_law_6 66 rfl) (lv_at hl 4 rfl) ?_
  refine lv_iconst (v := 3) S.1 S.2.1 (dd_at ddL_law_6 67 rfl) (by decide) ?_
  refine lv_iadd S.1 S.2.1 (dd_at ddL_law_6 68 rfl) ?_
  obtain ⟨hx_3, h⟩ := h
  refine va_sld S.1 S.2.1 hX hbl hbA hw.2.2.2.1 hx_3 (dd_at ddL_law_6 69 rfl) ?_
  refine lv_aload_n S.1 S.2.1 (dd_at ddL_law_6 70 rfl) rfl (lv_at hl 3 rfl) ?_
  refine r_callI hw (r_runSW (As := [.ref a1, .int (xs (v4 + 1).toNatClampNeg), .int (xs (v4 + 2).toNatClampNeg), .int (xs (v4 + 3).toNatClampNeg), .ref a3]) (rest := []) S hw (m_L_rent l hst D cs E d H.size a1 (xs (v4 + 1).toNatClampNeg) (xs (v4 + 2).toNatClampNeg) (xs (v4 + 3).toNatClampNeg) a3 _) (vx_cwSW 5 S.2.2.2.2 (gSW wg953 wg954 wg221 wg955) rfl rfl rfl (by decide +kernel) ⟨Nat.le_of_ble_eq_true rfl, Nat.le_of_ble_eq_true rfl⟩) h rfl hl.1 rfl (Nat.le_of_ble_eq_true rfl) (dd_at ddL_law_6 71 rfl) ⟨Nat.le_trans (Nat.add_le_add_left (Nat.le_of_ble_eq_true rfl) cl) hcl, Nat.le_trans (Nat.add_le_add_left (Nat.le_of_ble_eq_true rfl) sl) hsl⟩) (fun r_5 d_4 H locs h hw => ?_)
  refine W.widen (k := cl + 60) (n := sl + 1400) (Nat.add_le_add_left (Nat.le_of_ble_eq_true rfl) cl) (Nat.add_le_add_left (Nat.le_of_ble_eq_true rfl) sl) ?_
  refine lv_istore (lv' := [(5, .int r_5), (0, .ref b), (1, .ref a1), (2, .ref a2), (3, .ref a3), (4, .int v4)]) S.1 S.2.1 (dd_at ddL_law_6 72 rfl) hl (by decide) rfl (fun ls hl => ?_)
  refine lv_aload_n S.1 S.2.1 (dd_at ddL_law_6 73 rfl) rfl (lv_at hl 3 rfl) ?_
  refine lv_aload_n S.1 S.2.1 (dd_at ddL_law_6 74 rfl) rfl (lv_at hl 1 rfl) ?_
  refine lv_iload S.1 S.2.1 (dd_at ddL_law_6 75 rfl) (lv_at hl 5 rfl) ?_
  refine lv_iconst (v := 1) S.1 S.2.1 (dd_at ddL_law_6 76 rfl) (by decide) ?_
  refine lv_iadd S.1 S.2.1 (dd_at ddL_law_6 77 rfl) ?_
  obtain ⟨hx_6, h⟩ := h
  refine va_sld S.1 S.2.1 hX hbl hbA hw.2.2.2.1 hx_6 (dd_at ddL_law_6 78 rfl) ?_
  refine lv_aload_n S.1 S.2.1 (dd_at ddL_law_6 79 rfl) rfl (lv_at hl 1 rfl) ?_
  refine lv_iload S.1 S.2.1 (dd_at ddL_law_6 80 rfl) (lv_at hl 5 rfl) ?_
  refine lv_iconst (v := 2) S.1 S.2.1 (dd_at ddL_law_6 81 rfl) (by decide) ?_
  refine lv_iadd S.1 S.2.1 (dd_at ddL_law_6 82 rfl) ?_
  obtain ⟨hx_7, h⟩ := h
  refine va_sld S.1 S.2.1 hX hbl hbA hw.2.2.2.1 hx_7 (dd_at ddL_law_6 83 rfl) ?_
  refine lv_aload_n S.1 S.2.1 (dd_at ddL_law_6 84 rfl) rfl (lv_at hl 1 rfl) ?_
  refine lv_iload S.1 S.2.1 (dd_at ddL_law_6 85 rfl) (lv_at hl 5 rfl) ?_
  refine lv_iconst (v := 3) S.1 S.2.1 (dd_at ddL_law_6 86 rfl) (by decide) ?_
  refine lv_iadd S.1 S.2.1 (dd_at ddL_law_6 87 rfl) ?_
  obtain ⟨hx_8, h⟩ := h
  refine va_sld S.1 S.2.1 hX hbl hbA hw.2.2.2.1 hx_8 (dd_at ddL_law_6 88 rfl) ?_
  refine r_callI hw (r_runV (As := [.int (xs (v4 + 1).toNatClampNeg), .int (xs (v4 + 2).toNatClampNeg), .int (xs (v4 + 3).toNatClampNeg)]) (rest := []) S hw (m_X11_rent l D cs E d_4 H.size a2 (xs (v4 + 1).toNatClampNeg) (xs (v4 + 2).toNatClampNeg) (xs (v4 + 3).toNatClampNeg) _) (cwV 3 S.2.2.2.2 (gV wg974 wg975 wg976 wg5 wg977) rfl rfl rfl (by decide +kernel) ⟨Nat.le_of_ble_eq_true rfl, Nat.le_of_ble_eq_true rfl⟩) (ci := 11) rfl ha2 h rfl hl.1 rfl (Nat.le_of_ble_eq_true rfl) (dd_at ddL_law_6 89 rfl) ⟨hcl, hsl⟩) (fun r_10 d_9 H locs h hw => ?_)
  refine lv_istore (lv' := [(6, .int r_10), (5, .int r_5), (0, .ref b), (1, .ref a1), (2, .ref a2), (3, .ref a3), (4, .int v4)]) S.1 S.2.1 (dd_at ddL_law_6 90 rfl) hl (by decide) rfl (fun ls hl => ?_)
  refine lv_aload_n S.1 S.2.1 (dd_at ddL_law_6 91 rfl) rfl (lv_at hl 4 rfl) ?_
  refine r_callI hw (r_runV (As := []) (rest := []) S hw (m_X11_thrown l D cs E d_9 H.size a2 _) (cwV 0 S.2.2.2.2 (gV wg506 wg507 wg508 wg5 wg509) rfl rfl rfl (by decide +kernel) ⟨Nat.le_of_ble_eq_true rfl, Nat.le_of_ble_eq_true rfl⟩) (ci := 11) rfl ha2 h rfl hl.1 rfl (Nat.le_of_ble_eq_true rfl) (dd_at ddL_law_6 92 rfl) ⟨hcl, hsl⟩) (fun r_12 d_11 H locs h hw => ?_)
  refine lv_iload S.1 S.2.1 (dd_at ddL_law_6 93 rfl) (lv_at hl 1 rfl) ?_
  refine lv_icmp_eq (tgt := 1203) S.1 S.2.1 (dd_at ddL_law_6 94 rfl) (by decide) (fun hc_13 => ?_) (fun hc_13 => ?_)
  · have h := h.1 hc_13
    refine lv_iload S.1 S.2.1 (dd_at ddL_law_6 97 rfl) (lv_at hl 1 rfl) ?_
    refine lv_if_ne (tgt := 1220) S.1 S.2.1 (dd_at ddL_law_6 98 rfl) (by decide) (fun hc_14 => ?_) (fun hc_14 => ?_)
    · have h := h.1 hc_14
      refine lv_goto (tgt := 3051) S.1 S.2.1 (dd_at ddL_law_7 8 rfl) (by decide) ?_
      exact hk _ _ _ _ _ h hw (lv_sub hl [2, 3, 4, 5, 6] rfl)
    · have h := h.2 hc_14
      refine lv_aload_n S.1 S.2.1 (dd_at ddL_law_6 99 rfl) rfl (lv_at hl 5 rfl) ?_
      refine lv_iconst (v := 0) S.1 S.2.1 (dd_at ddL_law_7 0 rfl) (by decide) ?_
      obtain ⟨hx_15, h⟩ := h
      refine r_lald S hw ha3 hx_15 (dd_at ddL_law_7 1 rfl) ?_
      refine lv_iload S.1 S.2.1 (dd_at ddL_law_7 2 rfl) (lv_at hl 0 rfl) ?_
      refine lv_i2l S.1 S.2.1 (dd_at ddL_law_7 3 rfl) rfl ?_
      refine W.lcmp S.1 S.2.1 (dd_at ddL_law_7 4 rfl) ?_
      refine lv_if_eq (tgt := 1220) S.1 S.2.1 (dd_at ddL_law_7 5 rfl) (by decide) (fun hc_16 => ?_) (fun hc_16 => ?_)
      · have h := h.1 hc_16
        refine lv_goto (tgt := 3051) S.1 S.2.1 (dd_at ddL_law_7 8 rfl) (by decide) ?_
        exact hk _ _ _ _ _ h hw (lv_sub hl [2, 3, 4, 5, 6] rfl)
      · have h := h.2 hc_16
        refine lv_iconst (v := 0) S.1 S.2.1 (dd_at ddL_law_7 6 rfl) (by decide) ?_
        exact absurd h id
  · have h := h.2 hc_13
    refine lv_iconst (v := 0) S.1 S.2.1 (dd_at ddL_law_6 95 rfl) (by decide) ?_
    exact absurd h id

def lw_1223 (E : En) (a1 a2 a3 : Nat) (v4 : Int32) (xs : Nat → Int32) (L : Nat) (kc : En → Dy → Prop) (d : Dy) : Prop := okO E a1 10 ∧ okO E a2 11 ∧ okA E a3 14 ∧ vp_in (v4 + 1) L ∧ vp_in (v4 + 2) L ∧ w_L_leaves E a1 (xs (v4 + 1).toNatClampNeg) (xs (v4 + 2).toNatClampNeg) a3 d (fun r_4 d_3 => vp_in (v4 + 1) L ∧ vp_in (v4 + 2) L ∧ w_X11_leaves E a2 (xs (v4 + 1).toNatClampNeg) (xs (v4 + 2).toNatClampNeg) d_3 (fun r_8 d_7 => w_X11_thrown E a2 d_7 (fun r_10 d_9 => ((r_10 = r_4 → ((¬ r_4 = 0 → kc E d_9) ∧ (r_4 = 0 → vp_in 0 (eN E a3) ∧ (((lg_cmp (gJ d_9 a3 ((0 : Int32)).toNatClampNeg) r_8.toInt64) = 0 → kc E d_9) ∧ (¬ (lg_cmp (gJ d_9 a3 ((0 : Int32)).toNatClampNeg) r_8.toInt64) = 0 → False))))) ∧ (¬ r_10 = r_4 → False)))))
set_option maxRecDepth 100000 in
set_option maxHeartbeats 4000000 in
theorem lc_1223 {p : Program} {l : Launch} {e : Env} {s : State} {m : MethodId} {below : List Frame} {meth : Method} {c : Code} {Q : State → Prop} {D : va_G} {cs : Nat → ClassId} {b L : Nat} {xs : Nat → Int32} {T0 : Cond} (hst : l.stackTraces = false) (S : CallFix p m c cL_law 7 s #[Value.ref b] (T0 :: wsL_law) RL) (hX : va_X b L xs s s.heap) (hbl : b < s.heap.size) {E : En} {a1 a2 a3 : Nat} {v4 : Int32} {d : Dy} {H : Heap} {locs : List Loc} {ls : Array Slot} {cl sl : Nat} {kc : En → Dy → Prop} (hcl : cl + 60 ≤ 634061) (hsl : sl + 1400 ≤ 7193921)
    (hk : ∀ (E9 : En) (d9 : Dy) (H : Heap) (locs : List Loc) (ls : Array Slot), kc E9 d9 → Wd D cs (fun q => s.heap.size ≤ q) s.heap s E9 d9 H locs → lv_has ls 7 [(0, .ref b), (1, .ref a1), (2, .ref a2), (3, .ref a3), (4, .int v4)] → W p l e room_1 s m #[Value.ref b] below meth c H locs (cl + 60) (sl + 1400) Q (F0 m 3051 ls [])) (h : lw_1223 E a1 a2 a3 v4 xs L kc d) (hw : Wd D cs (fun q => s.heap.size ≤ q) s.heap s E d H locs) (hl : lv_has ls 7 [(0, .ref b), (1, .ref a1), (2, .ref a2), (3, .ref a3), (4, .int v4)]) : W p l e room_1 s m #[Value.ref b] below meth c H locs cl sl Q (F0 m 1223 ls []) := by
  have hbA : ¬ (fun q : Nat => s.heap.size ≤ q) b := Nat.not_le.mpr hbl
  unfold lw_1223 at h
  obtain ⟨ha1, ha2, ha3, h⟩ := h
  refine lv_aload_n S.1 S.2.1 (dd_at ddL_law_7 9 rfl) rfl (lv_at hl 1 rfl) ?_
  refine lv_aload_n S.1 S.2.1 (dd_at ddL_law_7 10 rfl) rfl (lv_at hl 0 rfl) ?_
  refine lv_iload S.1 S.2.1 (dd_at ddL_law_7 11 rfl) (lv_at hl 4 rfl) ?_
  refine lv_iconst (v := 1) S.1 S.2.1 (dd_at ddL_law_7 12 rfl) (by decide) ?_
  refine lv_iadd S.1 S.2.1 (dd_at ddL_law_7 13 rfl) ?_
  obtain ⟨hx_1, h⟩ := h
  refine va_sld S.1 S.2.1 hX hbl hbA hw.2.2.2.1 hx_1 (dd_at ddL_law_7 14 rfl) ?_
  refine lv_aload_n S.1 S.2.1 (dd_at ddL_law_7 15 rfl) rfl (lv_at hl 0 rfl) ?_
  refine lv_iload S.1 S.2.1 (dd_at ddL_law_7 16 rfl) (lv_at hl 4 rfl) ?_
  refine lv_iconst (v := 2) S.1 S.2.1 (dd_at ddL_law_7 17 rfl) (by decide) ?_
  refine lv_iadd S.1 S.2.1 (dd_at ddL_law_7 18 rfl) ?_
  obtain ⟨hx_2, h⟩ := h
  refine va_sld S.1 S.2.1 hX hbl hbA hw.2.2.2.1 hx_2 (dd_at ddL_law_7 19 rfl) ?_
  refine lv_aload_n S.1 S.2.1 (dd_at ddL_law_7 20 rfl) rfl (lv_at hl 3 rfl) ?_
  refine r_callI hw (r_runSW (As := [.ref a1, .int (xs (v4 + 1).toNatClampNeg), .int (xs (v4 + 2).toNatClampNeg), .ref a3]) (rest := []) S hw (m_L_leaves l hst D cs E d H.size a1 (xs (v4 + 1).toNatClampNeg) (xs (v4 + 2).toNatClampNeg) a3 _) (vx_cwSW 4 S.2.2.2.2 (gSW wg986 wg987 wg221 wg988) rfl rfl rfl (by decide +kernel) ⟨Nat.le_of_ble_eq_true rfl, Nat.le_of_ble_eq_true rfl⟩) h rfl hl.1 rfl (Nat.le_of_ble_eq_true rfl) (dd_at ddL_law_7 21 rfl) ⟨Nat.le_trans (Nat.add_le_add_left (Nat.le_of_ble_eq_true rfl) cl) hcl, Nat.le_trans (Nat.add_le_add_left (Nat.le_of_ble_eq_true rfl) sl) hsl⟩) (fun r_4 d_3 H locs h hw => ?_)
  refine W.widen (k := cl + 60) (n := sl + 1400) (Nat.add_le_add_left (Nat.le_of_ble_eq_true rfl) cl) (Nat.add_le_add_left (Nat.le_of_ble_eq_true rfl) sl) ?_
  refine lv_istore (lv' := [(5, .int r_4), (0, .ref b), (1, .ref a1), (2, .ref a2), (3, .ref a3), (4, .int v4)]) S.1 S.2.1 (dd_at ddL_law_7 22 rfl) hl (by decide) rfl (fun ls hl => ?_)
  refine lv_aload_n S.1 S.2.1 (dd_at ddL_law_7 23 rfl) rfl (lv_at hl 3 rfl) ?_
  refine lv_aload_n S.1 S.2.1 (dd_at ddL_law_7 24 rfl) rfl (lv_at hl 1 rfl) ?_
  refine lv_iload S.1 S.2.1 (dd_at ddL_law_7 25 rfl) (lv_at hl 5 rfl) ?_
  refine lv_iconst (v := 1) S.1 S.2.1 (dd_at ddL_law_7 26 rfl) (by decide) ?_
  refine lv_iadd S.1 S.2.1 (dd_at ddL_law_7 27 rfl) ?_
  obtain ⟨hx_5, h⟩ := h
  refine va_sld S.1 S.2.1 hX hbl hbA hw.2.2.2.1 hx_5 (dd_at ddL_law_7 28 rfl) ?_
  refine lv_aload_n S.1 S.2.1 (dd_at ddL_law_7 29 rfl) rfl (lv_at hl 1 rfl) ?_
  refine lv_iload S.1 S.2.1 (dd_at ddL_law_7 30 rfl) (lv_at hl 5 rfl) ?_
  refine lv_iconst (v := 2) S.1 S.2.1 (dd_at ddL_law_7 31 rfl) (by decide) ?_
  refine lv_iadd S.1 S.2.1 (dd_at ddL_law_7 32 rfl) ?_
  obtain ⟨hx_6, h⟩ := h
  refine va_sld S.1 S.2.1 hX hbl hbA hw.2.2.2.1 hx_6 (dd_at ddL_law_7 33 rfl) ?_
  refine r_callI hw (r_runV (As := [.int (xs (v4 + 1).toNatClampNeg), .int (xs (v4 + 2).toNatClampNeg)]) (rest := []) S hw (m_X11_leaves l D cs E d_3 H.size a2 (xs (v4 + 1).toNatClampNeg) (xs (v4 + 2).toNatClampNeg) _) (cwV 2 S.2.2.2.2 (gV wg998 wg999 wg1000 wg5 wg1001) rfl rfl rfl (by decide +kernel) ⟨Nat.le_of_ble_eq_true rfl, Nat.le_of_ble_eq_true rfl⟩) (ci := 11) rfl ha2 h rfl hl.1 rfl (Nat.le_of_ble_eq_true rfl) (dd_at ddL_law_7 34 rfl) ⟨hcl, hsl⟩) (fun r_8 d_7 H locs h hw => ?_)
  refine lv_istore (lv' := [(6, .int r_8), (5, .int r_4), (0, .ref b), (1, .ref a1), (2, .ref a2), (3, .ref a3), (4, .int v4)]) S.1 S.2.1 (dd_at ddL_law_7 35 rfl) hl (by decide) rfl (fun ls hl => ?_)
  refine lv_aload_n S.1 S.2.1 (dd_at ddL_law_7 36 rfl) rfl (lv_at hl 4 rfl) ?_
  refine r_callI hw (r_runV (As := []) (rest := []) S hw (m_X11_thrown l D cs E d_7 H.size a2 _) (cwV 0 S.2.2.2.2 (gV wg506 wg507 wg508 wg5 wg509) rfl rfl rfl (by decide +kernel) ⟨Nat.le_of_ble_eq_true rfl, Nat.le_of_ble_eq_true rfl⟩) (ci := 11) rfl ha2 h rfl hl.1 rfl (Nat.le_of_ble_eq_true rfl) (dd_at ddL_law_7 37 rfl) ⟨hcl, hsl⟩) (fun r_10 d_9 H locs h hw => ?_)
  refine lv_iload S.1 S.2.1 (dd_at ddL_law_7 38 rfl) (lv_at hl 1 rfl) ?_
  refine lv_icmp_eq (tgt := 1271) S.1 S.2.1 (dd_at ddL_law_7 39 rfl) (by decide) (fun hc_11 => ?_) (fun hc_11 => ?_)
  · have h := h.1 hc_11
    refine lv_iload S.1 S.2.1 (dd_at ddL_law_7 42 rfl) (lv_at hl 1 rfl) ?_
    refine lv_if_ne (tgt := 1288) S.1 S.2.1 (dd_at ddL_law_7 43 rfl) (by decide) (fun hc_12 => ?_) (fun hc_12 => ?_)
    · have h := h.1 hc_12
      refine lv_goto (tgt := 3051) S.1 S.2.1 (dd_at ddL_law_7 53 rfl) (by decide) ?_
      exact hk _ _ _ _ _ h hw (lv_sub hl [2, 3, 4, 5, 6] rfl)
    · have h := h.2 hc_12
      refine lv_aload_n S.1 S.2.1 (dd_at ddL_law_7 44 rfl) rfl (lv_at hl 5 rfl) ?_
      refine lv_iconst (v := 0) S.1 S.2.1 (dd_at ddL_law_7 45 rfl) (by decide) ?_
      obtain ⟨hx_13, h⟩ := h
      refine r_lald S hw ha3 hx_13 (dd_at ddL_law_7 46 rfl) ?_
      refine lv_iload S.1 S.2.1 (dd_at ddL_law_7 47 rfl) (lv_at hl 0 rfl) ?_
      refine lv_i2l S.1 S.2.1 (dd_at ddL_law_7 48 rfl) rfl ?_
      refine W.lcmp S.1 S.2.1 (dd_at ddL_law_7 49 rfl) ?_
      refine lv_if_eq (tgt := 1288) S.1 S.2.1 (dd_at ddL_law_7 50 rfl) (by decide) (fun hc_14 => ?_) (fun hc_14 => ?_)
      · have h := h.1 hc_14
        refine lv_goto (tgt := 3051) S.1 S.2.1 (dd_at ddL_law_7 53 rfl) (by decide) ?_
        exact hk _ _ _ _ _ h hw (lv_sub hl [2, 3, 4, 5, 6] rfl)
      · have h := h.2 hc_14
        refine lv_iconst (v := 0) S.1 S.2.1 (dd_at ddL_law_7 51 rfl) (by decide) ?_
        exact absurd h id
  · have h := h.2 hc_11
    refine lv_iconst (v := 0) S.1 S.2.1 (dd_at ddL_law_7 40 rfl) (by decide) ?_
    exact absurd h id

def lw_1291 (E : En) (a1 a2 a3 : Nat) (v4 : Int32) (xs : Nat → Int32) (L : Nat) (kc : En → Dy → Prop) (d : Dy) : Prop := okO E a1 10 ∧ okO E a2 11 ∧ okA E a3 14 ∧ vp_in (v4 + 1) L ∧ vp_in (v4 + 2) L ∧ w_L_income E a1 (xs (v4 + 1).toNatClampNeg) (xs (v4 + 2).toNatClampNeg) a3 d (fun r_4 d_3 => vp_in (v4 + 1) L ∧ vp_in (v4 + 2) L ∧ w_X11_income E a2 (xs (v4 + 1).toNatClampNeg) (xs (v4 + 2).toNatClampNeg) d_3 (fun r_8 d_7 => w_X11_thrown E a2 d_7 (fun r_10 d_9 => ((r_10 = r_4 → ((¬ r_4 = 0 → kc E d_9) ∧ (r_4 = 0 → vp_in 0 (eN E a3) ∧ (((lg_cmp (gJ d_9 a3 ((0 : Int32)).toNatClampNeg) r_8.toInt64) = 0 → kc E d_9) ∧ (¬ (lg_cmp (gJ d_9 a3 ((0 : Int32)).toNatClampNeg) r_8.toInt64) = 0 → False))))) ∧ (¬ r_10 = r_4 → False)))))
set_option maxRecDepth 100000 in
set_option maxHeartbeats 4000000 in
theorem lc_1291 {p : Program} {l : Launch} {e : Env} {s : State} {m : MethodId} {below : List Frame} {meth : Method} {c : Code} {Q : State → Prop} {D : va_G} {cs : Nat → ClassId} {b L : Nat} {xs : Nat → Int32} {T0 : Cond} (hst : l.stackTraces = false) (S : CallFix p m c cL_law 7 s #[Value.ref b] (T0 :: wsL_law) RL) (hX : va_X b L xs s s.heap) (hbl : b < s.heap.size) {E : En} {a1 a2 a3 : Nat} {v4 : Int32} {d : Dy} {H : Heap} {locs : List Loc} {ls : Array Slot} {cl sl : Nat} {kc : En → Dy → Prop} (hcl : cl + 60 ≤ 634061) (hsl : sl + 1400 ≤ 7193921)
    (hk : ∀ (E9 : En) (d9 : Dy) (H : Heap) (locs : List Loc) (ls : Array Slot), kc E9 d9 → Wd D cs (fun q => s.heap.size ≤ q) s.heap s E9 d9 H locs → lv_has ls 7 [(0, .ref b), (1, .ref a1), (2, .ref a2), (3, .ref a3), (4, .int v4)] → W p l e room_1 s m #[Value.ref b] below meth c H locs (cl + 60) (sl + 1400) Q (F0 m 3051 ls [])) (h : lw_1291 E a1 a2 a3 v4 xs L kc d) (hw : Wd D cs (fun q => s.heap.size ≤ q) s.heap s E d H locs) (hl : lv_has ls 7 [(0, .ref b), (1, .ref a1), (2, .ref a2), (3, .ref a3), (4, .int v4)]) : W p l e room_1 s m #[Value.ref b] below meth c H locs cl sl Q (F0 m 1291 ls []) := by
  have hbA : ¬ (fun q : Nat => s.heap.size ≤ q) b := Nat.not_le.mpr hbl
  unfold lw_1291 at h
  obtain ⟨ha1, ha2, ha3, h⟩ := h
  refine lv_aload_n S.1 S.2.1 (dd_at ddL_law_7 54 rfl) rfl (lv_at hl 1 rfl) ?_
  refine lv_aload_n S.1 S.2.1 (dd_at ddL_law_7 55 rfl) rfl (lv_at hl 0 rfl) ?_
  refine lv_iload S.1 S.2.1 (dd_at ddL_law_7 56 rfl) (lv_at hl 4 rfl) ?_
  refine lv_iconst (v := 1) S.1 S.2.1 (dd_at ddL_law_7 57 rfl) (by decide) ?_
  refine lv_iadd S.1 S.2.1 (dd_at ddL_law_7 58 rfl) ?_
  obtain ⟨hx_1, h⟩ := h
  refine va_sld S.1 S.2.1 hX hbl hbA hw.2.2.2.1 hx_1 (dd_at ddL_law_7 59 rfl) ?_
  refine lv_aload_n S.1 S.2.1 (dd_at ddL_law_7 60 rfl) rfl (lv_at hl 0 rfl) ?_
  refine lv_iload S.1 S.2.1 (dd_at ddL_law_7 61 rfl) (lv_at hl 4 rfl) ?_
  refine lv_iconst (v := 2) S.1 S.2.1 (dd_at ddL_law_7 62 rfl) (by decide) ?_
  refine lv_iadd S.1 S.2.1 (dd_at ddL_law_7 63 rfl) ?_
  obtain ⟨hx_2, h⟩ := h
  refine va_sld S.1 S.2.1 hX hbl hbA hw.2.2.2.1 hx_2 (dd_at ddL_law_7 64 rfl) ?_
  refine lv_aload_n S.1 S.2.1 (dd_at ddL_law_7 65 rfl) rfl (lv_at hl 3 rfl) ?_
  refine r_callI hw (r_runSW (As := [.ref a1, .int (xs (v4 + 1).toNatClampNeg), .int (xs (v4 + 2).toNatClampNeg), .ref a3]) (rest := []) S hw (m_L_income l hst D cs E d H.size a1 (xs (v4 + 1).toNatClampNeg) (xs (v4 + 2).toNatClampNeg) a3 _) (vx_cwSW 4 S.2.2.2.2 (gSW wg1006 wg1007 wg221 wg1008) rfl rfl rfl (by decide +kernel) ⟨Nat.le_of_ble_eq_true rfl, Nat.le_of_ble_eq_true rfl⟩) h rfl hl.1 rfl (Nat.le_of_ble_eq_true rfl) (dd_at ddL_law_7 66 rfl) ⟨Nat.le_trans (Nat.add_le_add_left (Nat.le_of_ble_eq_true rfl) cl) hcl, Nat.le_trans (Nat.add_le_add_left (Nat.le_of_ble_eq_true rfl) sl) hsl⟩) (fun r_4 d_3 H locs h hw => ?_)
  refine W.widen (k := cl + 60) (n := sl + 1400) (Nat.add_le_add_left (Nat.le_of_ble_eq_true rfl) cl) (Nat.add_le_add_left (Nat.le_of_ble_eq_true rfl) sl) ?_
  refine lv_istore (lv' := [(5, .int r_4), (0, .ref b), (1, .ref a1), (2, .ref a2), (3, .ref a3), (4, .int v4)]) S.1 S.2.1 (dd_at ddL_law_7 67 rfl) hl (by decide) rfl (fun ls hl => ?_)
  refine lv_aload_n S.1 S.2.1 (dd_at ddL_law_7 68 rfl) rfl (lv_at hl 3 rfl) ?_
  refine lv_aload_n S.1 S.2.1 (dd_at ddL_law_7 69 rfl) rfl (lv_at hl 1 rfl) ?_
  refine lv_iload S.1 S.2.1 (dd_at ddL_law_7 70 rfl) (lv_at hl 5 rfl) ?_
  refine lv_iconst (v := 1) S.1 S.2.1 (dd_at ddL_law_7 71 rfl) (by decide) ?_
  refine lv_iadd S.1 S.2.1 (dd_at ddL_law_7 72 rfl) ?_
  obtain ⟨hx_5, h⟩ := h
  refine va_sld S.1 S.2.1 hX hbl hbA hw.2.2.2.1 hx_5 (dd_at ddL_law_7 73 rfl) ?_
  refine lv_aload_n S.1 S.2.1 (dd_at ddL_law_7 74 rfl) rfl (lv_at hl 1 rfl) ?_
  refine lv_iload S.1 S.2.1 (dd_at ddL_law_7 75 rfl) (lv_at hl 5 rfl) ?_
  refine lv_iconst (v := 2) S.1 S.2.1 (dd_at ddL_law_7 76 rfl) (by decide) ?_
  refine lv_iadd S.1 S.2.1 (dd_at ddL_law_7 77 rfl) ?_
  obtain ⟨hx_6, h⟩ := h
  refine va_sld S.1 S.2.1 hX hbl hbA hw.2.2.2.1 hx_6 (dd_at ddL_law_7 78 rfl) ?_
  refine r_callI hw (r_runV (As := [.int (xs (v4 + 1).toNatClampNeg), .int (xs (v4 + 2).toNatClampNeg)]) (rest := []) S hw (m_X11_income l D cs E d_3 H.size a2 (xs (v4 + 1).toNatClampNeg) (xs (v4 + 2).toNatClampNeg) _) (cwV 2 S.2.2.2.2 (gV wg1042 wg1043 wg1044 wg5 wg1045) rfl rfl rfl (by decide +kernel) ⟨Nat.le_of_ble_eq_true rfl, Nat.le_of_ble_eq_true rfl⟩) (ci := 11) rfl ha2 h rfl hl.1 rfl (Nat.le_of_ble_eq_true rfl) (dd_at ddL_law_7 79 rfl) ⟨hcl, hsl⟩) (fun r_8 d_7 H locs h hw => ?_)
  refine lv_istore (lv' := [(6, .int r_8), (5, .int r_4), (0, .ref b), (1, .ref a1), (2, .ref a2), (3, .ref a3), (4, .int v4)]) S.1 S.2.1 (dd_at ddL_law_7 80 rfl) hl (by decide) rfl (fun ls hl => ?_)
  refine lv_aload_n S.1 S.2.1 (dd_at ddL_law_7 81 rfl) rfl (lv_at hl 4 rfl) ?_
  refine r_callI hw (r_runV (As := []) (rest := []) S hw (m_X11_thrown l D cs E d_7 H.size a2 _) (cwV 0 S.2.2.2.2 (gV wg506 wg507 wg508 wg5 wg509) rfl rfl rfl (by decide +kernel) ⟨Nat.le_of_ble_eq_true rfl, Nat.le_of_ble_eq_true rfl⟩) (ci := 11) rfl ha2 h rfl hl.1 rfl (Nat.le_of_ble_eq_true rfl) (dd_at ddL_law_7 82 rfl) ⟨hcl, hsl⟩) (fun r_10 d_9 H locs h hw => ?_)
  refine lv_iload S.1 S.2.1 (dd_at ddL_law_7 83 rfl) (lv_at hl 1 rfl) ?_
  refine lv_icmp_eq (tgt := 1339) S.1 S.2.1 (dd_at ddL_law_7 84 rfl) (by decide) (fun hc_11 => ?_) (fun hc_11 => ?_)
  · have h := h.1 hc_11
    refine lv_iload S.1 S.2.1 (dd_at ddL_law_7 87 rfl) (lv_at hl 1 rfl) ?_
    refine lv_if_ne (tgt := 1356) S.1 S.2.1 (dd_at ddL_law_7 88 rfl) (by decide) (fun hc_12 => ?_) (fun hc_12 => ?_)
    · have h := h.1 hc_12
      refine lv_goto (tgt := 3051) S.1 S.2.1 (dd_at ddL_law_7 98 rfl) (by decide) ?_
      exact hk _ _ _ _ _ h hw (lv_sub hl [2, 3, 4, 5, 6] rfl)
    · have h := h.2 hc_12
      refine lv_aload_n S.1 S.2.1 (dd_at ddL_law_7 89 rfl) rfl (lv_at hl 5 rfl) ?_
      refine lv_iconst (v := 0) S.1 S.2.1 (dd_at ddL_law_7 90 rfl) (by decide) ?_
      obtain ⟨hx_13, h⟩ := h
      refine r_lald S hw ha3 hx_13 (dd_at ddL_law_7 91 rfl) ?_
      refine lv_iload S.1 S.2.1 (dd_at ddL_law_7 92 rfl) (lv_at hl 0 rfl) ?_
      refine lv_i2l S.1 S.2.1 (dd_at ddL_law_7 93 rfl) rfl ?_
      refine W.lcmp S.1 S.2.1 (dd_at ddL_law_7 94 rfl) ?_
      refine lv_if_eq (tgt := 1356) S.1 S.2.1 (dd_at ddL_law_7 95 rfl) (by decide) (fun hc_14 => ?_) (fun hc_14 => ?_)
      · have h := h.1 hc_14
        refine lv_goto (tgt := 3051) S.1 S.2.1 (dd_at ddL_law_7 98 rfl) (by decide) ?_
        exact hk _ _ _ _ _ h hw (lv_sub hl [2, 3, 4, 5, 6] rfl)
      · have h := h.2 hc_14
        refine lv_iconst (v := 0) S.1 S.2.1 (dd_at ddL_law_7 96 rfl) (by decide) ?_
        exact absurd h id
  · have h := h.2 hc_11
    refine lv_iconst (v := 0) S.1 S.2.1 (dd_at ddL_law_7 85 rfl) (by decide) ?_
    exact absurd h id
