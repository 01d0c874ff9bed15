def b_X11_plank_80 (E : En) (a0 : Nat) (p1 : Int32) (p2 : Int32) (p3 : Int32) (K : Int32 → Dy → Prop) (s0 : Nat) (s1 : Int32) (d : Dy) : Prop := okO E s0 11 ∧ w_X11_throwsIf E s0 s1 3 d (fun r_2 d_1 => ((r_2 = 0 → w_X11_puts E a0 6 420 p1 p2 p3 d_1 (fun r_5 d_4 => K (r_5 - 1) d_4)) ∧ (¬ r_2 = 0 → K 0 d_1)))
def b_X11_plank_55 (E : En) (a0 : Nat) (p1 : Int32) (p2 : Int32) (p3 : Int32) (K : Int32 → Dy → Prop) (s0 : Nat) (s1 : Int32) (d : Dy) : Prop := okO E s0 11 ∧ w_X11_throwsIf E s0 s1 2 d (fun r_7 d_6 => ((¬ r_7 = 0 → K 0 d_6) ∧ (r_7 = 0 → ∃ b_9 : Nat, eR E a0 1 = some b_9 ∧ okA E b_9 13 ∧ vp_in 6 (eN E b_9) ∧ ((¬ (gA d_6 b_9 ((6 : Int32)).toNatClampNeg) = 8 → b_X11_plank_80 E a0 p1 p2 p3 K a0 0 d_6) ∧ ((gA d_6 b_9 ((6 : Int32)).toNatClampNeg) = 8 → b_X11_plank_80 E a0 p1 p2 p3 K a0 1 d_6)))))
def b_X11_plank_50 (E : En) (a0 : Nat) (p1 : Int32) (p2 : Int32) (p3 : Int32) (K : Int32 → Dy → Prop) (s0 : Nat) (d : Dy) : Prop := okO E s0 11 ∧ b_X11_plank_55 E a0 p1 p2 p3 K s0 1 d
def b_X11_plank_21 (E : En) (a0 : Nat) (p1 : Int32) (p2 : Int32) (p3 : Int32) (K : Int32 → Dy → Prop) (s0 : Nat) (s1 : Int32) (d : Dy) : Prop := okO E s0 11 ∧ w_X11_throwsIf E s0 s1 1 d (fun r_15 d_14 => ((¬ r_15 = 0 → K 0 d_14) ∧ (r_15 = 0 → w_X11_in E p1 1 255 d_14 (fun r_18 d_17 => ((r_18 = 0 → b_X11_plank_50 E a0 p1 p2 p3 K a0 d_17) ∧ (¬ r_18 = 0 → w_X11_in E p3 0 9 d_17 (fun r_21 d_20 => ((¬ r_21 = 0 → b_X11_plank_55 E a0 p1 p2 p3 K a0 0 d_20) ∧ (r_21 = 0 → b_X11_plank_50 E a0 p1 p2 p3 K a0 d_20)))))))))
def w_X11_plank (E : En) (a0 : Nat) (p1 : Int32) (p2 : Int32) (p3 : Int32) (d : Dy) (K : Int32 → Dy → Prop) : Prop := okO E a0 11 ∧ w_X11_in E p2 0 9 (pI d a0 0 0) (fun r_24 d_23 => ((¬ r_24 = 0 → b_X11_plank_21 E a0 p1 p2 p3 K a0 0 d_23) ∧ (r_24 = 0 → b_X11_plank_21 E a0 p1 p2 p3 K a0 1 d_23)))
abbrev rm_X11_plank : Room := { frames := 1, cells := 0, slots := 0, locals := 26 }
set_option maxRecDepth 100000 in
set_option maxHeartbeats 4000000 in
theorem m_X11_plank (l : Launch) (D : va_G) (cs : Nat → ClassId) (E : En) (d : Dy) (sz : Nat) (a0 : Nat) (p1 : Int32) (p2 : Int32) (p3 : Int32) (K : Int32 → Dy → Prop) : CI l yX11_plank (.code yX11_plank cX11_plank 4 (some .int) :: wsL_law) rm_X11_plank D cs E d sz [.ref a0, .int p1, .int p2, .int p3] (w_X11_plank E a0 p1 p2 p3 d K) K := by
  refine e_of (cc := cX11_plank) (maxL := 4) (ret := (some .int)) (own := RX11) (by decide) rfl rfl (Nat.le_of_ble_eq_true rfl) ?_
  intro p e s m below meth c S hr hlocks hsz H locs hw h ls hl
  have hl : lv_has ls 4 [(0, .ref a0), (1, .int p1), (2, .int p2), (3, .int p3)] := hl
  unfold w_X11_plank at h
  obtain ⟨ha0, h⟩ := h
  have tb80 : ∀ (s0 : Nat) (s1 : Int32) (d : Dy) (H : Heap) (locs : List Loc) (ls : Array Slot), b_X11_plank_80 E a0 p1 p2 p3 K s0 s1 d → Wd D cs (AW E sz) s.heap s E d H locs → lv_has ls 4 [(0, .ref a0), (1, .int p1), (2, .int p2), (3, .int p3)] → W p l e rm_X11_plank s m ([.ref a0, .int p1, .int p2, .int p3] : List Value).toArray below meth c H locs 0 0 (MQ below (va_Qi K (OutW D cs E (AW E sz)) (AW E sz)) ([.ref a0, .int p1, .int p2, .int p3] : List Value).toArray s rm_X11_plank.cells rm_X11_plank.slots (AW E sz)) (F0 m 80 ls [.int s1, .ref s0]) := by
    intro s0 s1 d H locs ls h hw hl
    unfold b_X11_plank_80 at h
    obtain ⟨hos0, h⟩ := h
    refine lv_iconst (v := 3) S.1 S.2.1 (dd_at ddX11_plank 42 rfl) (by decide) ?_
    refine r_callI hw (r_runV (As := [.int s1, .int 3]) (rest := []) S hw (m_X11_throwsIf l D cs E d H.size s0 s1 3 _) (cwV 2 S.2.2.2.2 (gV wg421 wg422 wg423 wg5 wg424) rfl rfl rfl (by decide +kernel) ⟨Nat.le_of_ble_eq_true rfl, Nat.le_of_ble_eq_true rfl⟩) (ci := 11) rfl hos0 h rfl hl.1 rfl (Nat.le_of_ble_eq_true rfl) (dd_at ddX11_plank 43 rfl) ⟨Nat.le_of_ble_eq_true rfl, Nat.le_of_ble_eq_true rfl⟩) (fun r_2 d_1 H locs h hw => ?_)
    refine lv_if_eq (tgt := 89) S.1 S.2.1 (dd_at ddX11_plank 44 rfl) (by decide) (fun hc_3 => ?_) (fun hc_3 => ?_)
    · have h := h.1 hc_3
      refine lv_aload_n S.1 S.2.1 (dd_at ddX11_plank 47 rfl) rfl (lv_at hl 0 rfl) ?_
      refine lv_bipush (v := 6) S.1 S.2.1 (dd_at ddX11_plank 48 rfl) (by decide) ?_
      refine lv_sipush (v := 420) S.1 S.2.1 (dd_at ddX11_plank 49 rfl) (by decide) ?_
      refine lv_iload_n S.1 S.2.1 (dd_at ddX11_plank 50 rfl) rfl (lv_at hl 1 rfl) ?_
      refine lv_iload_n S.1 S.2.1 (dd_at ddX11_plank 51 rfl) rfl (lv_at hl 2 rfl) ?_
      refine lv_iload_n S.1 S.2.1 (dd_at ddX11_plank 52 rfl) rfl (lv_at hl 3 rfl) ?_
      refine r_callI hw (r_runV (As := [.int 6, .int 420, .int p1, .int p2, .int p3]) (rest := []) S hw (m_X11_puts l D cs E d_1 H.size a0 6 420 p1 p2 p3 _) (cwV 5 S.2.2.2.2 (gV wg562 wg563 wg564 wg5 wg565) rfl rfl rfl (by decide +kernel) ⟨Nat.le_of_ble_eq_true rfl, Nat.le_of_ble_eq_true rfl⟩) (ci := 11) rfl ha0 h rfl hl.1 rfl (Nat.le_of_ble_eq_true rfl) (dd_at ddX11_plank 53 rfl) ⟨Nat.le_of_ble_eq_true rfl, Nat.le_of_ble_eq_true rfl⟩) (fun r_5 d_4 H locs h hw => ?_)
      refine lv_iconst (v := 1) S.1 S.2.1 (dd_at ddX11_plank 54 rfl) (by decide) ?_
      refine lv_isub S.1 S.2.1 (dd_at ddX11_plank 55 rfl) ?_
      exact e_I S hr hlocks hw h (dd_at ddX11_plank 56 rfl)
    · have h := h.2 hc_3
      refine lv_iconst (v := 0) S.1 S.2.1 (dd_at ddX11_plank 45 rfl) (by decide) ?_
      exact e_I S hr hlocks hw h (dd_at ddX11_plank 46 rfl)
  have tb55 : ∀ (s0 : Nat) (s1 : Int32) (d : Dy) (H : Heap) (locs : List Loc) (ls : Array Slot), b_X11_plank_55 E a0 p1 p2 p3 K s0 s1 d → Wd D cs (AW E sz) s.heap s E d H locs → lv_has ls 4 [(0, .ref a0), (1, .int p1), (2, .int p2), (3, .int p3)] → W p l e rm_X11_plank s m ([.ref a0, .int p1, .int p2, .int p3] : List Value).toArray below meth c H locs 0 0 (MQ below (va_Qi K (OutW D cs E (AW E sz)) (AW E sz)) ([.ref a0, .int p1, .int p2, .int p3] : List Value).toArray s rm_X11_plank.cells rm_X11_plank.slots (AW E sz)) (F0 m 55 ls [.int s1, .ref s0]) := by
    intro s0 s1 d H locs ls h hw hl
    unfold b_X11_plank_55 at h
    obtain ⟨hos0, h⟩ := h
    refine lv_iconst (v := 2) S.1 S.2.1 (dd_at ddX11_plank 29 rfl) (by decide) ?_
    refine r_callI hw (r_runV (As := [.int s1, .int 2]) (rest := []) S hw (m_X11_throwsIf l D cs E d H.size s0 s1 2 _) (cwV 2 S.2.2.2.2 (gV wg421 wg422 wg423 wg5 wg424) rfl rfl rfl (by decide +kernel) ⟨Nat.le_of_ble_eq_true rfl, Nat.le_of_ble_eq_true rfl⟩) (ci := 11) rfl hos0 h rfl hl.1 rfl (Nat.le_of_ble_eq_true rfl) (dd_at ddX11_plank 30 rfl) ⟨Nat.le_of_ble_eq_true rfl, Nat.le_of_ble_eq_true rfl⟩) (fun r_7 d_6 H locs h hw => ?_)
    refine lv_if_ne (tgt := 87) S.1 S.2.1 (dd_at ddX11_plank 31 rfl) (by decide) (fun hc_8 => ?_) (fun hc_8 => ?_)
    · have h := h.1 hc_8
      refine lv_iconst (v := 0) S.1 S.2.1 (dd_at ddX11_plank 45 rfl) (by decide) ?_
      exact e_I S hr hlocks hw h (dd_at ddX11_plank 46 rfl)
    · have h := h.2 hc_8
      refine lv_aload_n S.1 S.2.1 (dd_at ddX11_plank 32 rfl) rfl (lv_at hl 0 rfl) ?_
      refine lv_aload_n S.1 S.2.1 (dd_at ddX11_plank 33 rfl) rfl (lv_at hl 0 rfl) ?_
      obtain ⟨b_9, hb_10, ho_11, h⟩ := h
      refine r_getR S hw 11 1 rfl inG11 (by decide) (List.mem_cons_of_mem _ wg150) (by decide) ha0 hb_10 (dd_at ddX11_plank 34 rfl) ?_
      refine lv_bipush (v := 6) S.1 S.2.1 (dd_at ddX11_plank 35 rfl) (by decide) ?_
      obtain ⟨hx_12, h⟩ := h
      refine r_iald S hw ho_11 hx_12 (dd_at ddX11_plank 36 rfl) ?_
      refine lv_bipush (v := 8) S.1 S.2.1 (dd_at ddX11_plank 37 rfl) (by decide) ?_
      refine lv_icmp_ne (tgt := 79) S.1 S.2.1 (dd_at ddX11_plank 38 rfl) (by decide) (fun hc_13 => ?_) (fun hc_13 => ?_)
      · have h := h.1 hc_13
        refine lv_iconst (v := 0) S.1 S.2.1 (dd_at ddX11_plank 41 rfl) (by decide) ?_
        exact tb80 a0 0 d_6 H locs ls h hw (lv_sub hl [0, 1, 2, 3] rfl)
      · have h := h.2 hc_13
        refine lv_iconst (v := 1) S.1 S.2.1 (dd_at ddX11_plank 39 rfl) (by decide) ?_
        refine lv_goto (tgt := 80) S.1 S.2.1 (dd_at ddX11_plank 40 rfl) (by decide) ?_
        exact tb80 a0 1 d_6 H locs ls h hw (lv_sub hl [0, 1, 2, 3] rfl)
  have tb50 : ∀ (s0 : Nat) (d : Dy) (H : Heap) (locs : List Loc) (ls : Array Slot), b_X11_plank_50 E a0 p1 p2 p3 K s0 d → Wd D cs (AW E sz) s.heap s E d H locs → lv_has ls 4 [(0, .ref a0), (1, .int p1), (2, .int p2), (3, .int p3)] → W p l e rm_X11_plank s m ([.ref a0, .int p1, .int p2, .int p3] : List Value).toArray below meth c H locs 0 0 (MQ below (va_Qi K (OutW D cs E (AW E sz)) (AW E sz)) ([.ref a0, .int p1, .int p2, .int p3] : List Value).toArray s rm_X11_plank.cells rm_X11_plank.slots (AW E sz)) (F0 m 50 ls [.ref s0]) := by
    intro s0 d H locs ls h hw hl
    unfold b_X11_plank_50 at h
    obtain ⟨hos0, h⟩ := h
    refine lv_iconst (v := 1) S.1 S.2.1 (dd_at ddX11_plank 26 rfl) (by decide) ?_
    refine lv_goto (tgt := 55) S.1 S.2.1 (dd_at ddX11_plank 27 rfl) (by decide) ?_
    exact tb55 s0 1 d H locs ls h hw (lv_sub hl [0, 1, 2, 3] rfl)
  have tb21 : ∀ (s0 : Nat) (s1 : Int32) (d : Dy) (H : Heap) (locs : List Loc) (ls : Array Slot), b_X11_plank_21 E a0 p1 p2 p3 K s0 s1 d → Wd D cs (AW E sz) s.heap s E d H locs → lv_has ls 4 [(0, .ref a0), (1, .int p1), (2, .int p2), (3, .int p3)] → W p l e rm_X11_plank s m ([.ref a0, .int p1, .int p2, .int p3] : List Value).toArray below meth c H locs 0 0 (MQ below (va_Qi K (OutW D cs E (AW E sz)) (AW E sz)) ([.ref a0, .int p1, .int p2, .int p3] : List Value).toArray s rm_X11_plank.cells rm_X11_plank.slots (AW E sz)) (F0 m 21 ls [.int s1, .ref s0]) := by
    intro s0 s1 d H locs ls h hw hl
    unfold b_X11_plank_21 at h
    obtain ⟨hos0, h⟩ := h
    refine lv_iconst (v := 1) S.1 S.2.1 (dd_at ddX11_plank 12 rfl) (by decide) ?_
    refine r_callI hw (r_runV (As := [.int s1, .int 1]) (rest := []) S hw (m_X11_throwsIf l D cs E d H.size s0 s1 1 _) (cwV 2 S.2.2.2.2 (gV wg421 wg422 wg423 wg5 wg424) rfl rfl rfl (by decide +kernel) ⟨Nat.le_of_ble_eq_true rfl, Nat.le_of_ble_eq_true rfl⟩) (ci := 11) rfl hos0 h rfl hl.1 rfl (Nat.le_of_ble_eq_true rfl) (dd_at ddX11_plank 13 rfl) ⟨Nat.le_of_ble_eq_true rfl, Nat.le_of_ble_eq_true rfl⟩) (fun r_15 d_14 H locs h hw => ?_)
    refine lv_if_ne (tgt := 87) S.1 S.2.1 (dd_at ddX11_plank 14 rfl) (by decide) (fun hc_16 => ?_) (fun hc_16 => ?_)
    · have h := h.1 hc_16
      refine lv_iconst (v := 0) S.1 S.2.1 (dd_at ddX11_plank 45 rfl) (by decide) ?_
      exact e_I S hr hlocks hw h (dd_at ddX11_plank 46 rfl)
    · have h := h.2 hc_16
      refine lv_aload_n S.1 S.2.1 (dd_at ddX11_plank 15 rfl) rfl (lv_at hl 0 rfl) ?_
      refine lv_iload_n S.1 S.2.1 (dd_at ddX11_plank 16 rfl) rfl (lv_at hl 1 rfl) ?_
      refine lv_iconst (v := 1) S.1 S.2.1 (dd_at ddX11_plank 17 rfl) (by decide) ?_
      refine lv_sipush (v := 255) S.1 S.2.1 (dd_at ddX11_plank 18 rfl) (by decide) ?_
      refine r_callI hw (r_runS (As := [.int p1, .int 1, .int 255]) (rest := [.ref a0]) S hw (m_X11_in l D cs E d_14 H.size p1 1 255 _) (va_cwS 3 S.2.2.2.2 (gS wg418 wg419 wg5 wg420) rfl rfl rfl (by decide +kernel) ⟨Nat.le_of_ble_eq_true rfl, Nat.le_of_ble_eq_true rfl⟩) h rfl hl.1 rfl (Nat.le_of_ble_eq_true rfl) (dd_at ddX11_plank 19 rfl) ⟨Nat.le_of_ble_eq_true rfl, Nat.le_of_ble_eq_true rfl⟩) (fun r_18 d_17 H locs h hw => ?_)
      refine lv_if_eq (tgt := 50) S.1 S.2.1 (dd_at ddX11_plank 20 rfl) (by decide) (fun hc_19 => ?_) (fun hc_19 => ?_)
      · have h := h.1 hc_19
        exact tb50 a0 d_17 H locs ls h hw (lv_sub hl [0, 1, 2, 3] rfl)
      · have h := h.2 hc_19
        refine lv_iload_n S.1 S.2.1 (dd_at ddX11_plank 21 rfl) rfl (lv_at hl 3 rfl) ?_
        refine lv_iconst (v := 0) S.1 S.2.1 (dd_at ddX11_plank 22 rfl) (by decide) ?_
        refine lv_bipush (v := 9) S.1 S.2.1 (dd_at ddX11_plank 23 rfl) (by decide) ?_
        refine r_callI hw (r_runS (As := [.int p3, .int 0, .int 9]) (rest := [.ref a0]) S hw (m_X11_in l D cs E d_17 H.size p3 0 9 _) (va_cwS 3 S.2.2.2.2 (gS wg418 wg419 wg5 wg420) rfl rfl rfl (by decide +kernel) ⟨Nat.le_of_ble_eq_true rfl, Nat.le_of_ble_eq_true rfl⟩) h rfl hl.1 rfl (Nat.le_of_ble_eq_true rfl) (dd_at ddX11_plank 24 rfl) ⟨Nat.le_of_ble_eq_true rfl, Nat.le_of_ble_eq_true rfl⟩) (fun r_21 d_20 H locs h hw => ?_)
        refine lv_if_ne (tgt := 54) S.1 S.2.1 (dd_at ddX11_plank 25 rfl) (by decide) (fun hc_22 => ?_) (fun hc_22 => ?_)
        · have h := h.1 hc_22
          refine lv_iconst (v := 0) S.1 S.2.1 (dd_at ddX11_plank 28 rfl) (by decide) ?_
          exact tb55 a0 0 d_20 H locs ls h hw (lv_sub hl [0, 1, 2, 3] rfl)
        · have h := h.2 hc_22
          exact tb50 a0 d_20 H locs ls h hw (lv_sub hl [0, 1, 2, 3] rfl)
  refine lv_aload_n S.1 S.2.1 (dd_at ddX11_plank 0 rfl) rfl (lv_at hl 0 rfl) ?_
  refine lv_iconst (v := 0) S.1 S.2.1 (dd_at ddX11_plank 1 rfl) (by decide) ?_
  refine r_putI S hw 11 0 (ty := .int) (v := 0) rfl inG11 tyX11 tyX11_ok nmX11 (by decide) (List.mem_cons_of_mem _ wg201) (by decide) rfl (by decide +kernel) rfl rfl ha0 (dd_at ddX11_plank 2 rfl) (fun H locs hw => ?_)
  refine lv_aload_n S.1 S.2.1 (dd_at ddX11_plank 3 rfl) rfl (lv_at hl 0 rfl) ?_
  refine lv_iload_n S.1 S.2.1 (dd_at ddX11_plank 4 rfl) rfl (lv_at hl 2 rfl) ?_
  refine lv_iconst (v := 0) S.1 S.2.1 (dd_at ddX11_plank 5 rfl) (by decide) ?_
  refine lv_bipush (v := 9) S.1 S.2.1 (dd_at ddX11_plank 6 rfl) (by decide) ?_
  refine r_callI hw (r_runS (As := [.int p2, .int 0, .int 9]) (rest := [.ref a0]) S hw (m_X11_in l D cs E (pI d a0 0 0) H.size p2 0 9 _) (va_cwS 3 S.2.2.2.2 (gS wg418 wg419 wg5 wg420) rfl rfl rfl (by decide +kernel) ⟨Nat.le_of_ble_eq_true rfl, Nat.le_of_ble_eq_true rfl⟩) h rfl hl.1 rfl (Nat.le_of_ble_eq_true rfl) (dd_at ddX11_plank 7 rfl) ⟨Nat.le_of_ble_eq_true rfl, Nat.le_of_ble_eq_true rfl⟩) (fun r_24 d_23 H locs h hw => ?_)
  refine lv_if_ne (tgt := 20) S.1 S.2.1 (dd_at ddX11_plank 8 rfl) (by decide) (fun hc_25 => ?_) (fun hc_25 => ?_)
  · have h := h.1 hc_25
    refine lv_iconst (v := 0) S.1 S.2.1 (dd_at ddX11_plank 11 rfl) (by decide) ?_
    exact tb21 a0 0 d_23 H locs ls h hw (lv_sub hl [0, 1, 2, 3] rfl)
  · have h := h.2 hc_25
    refine lv_iconst (v := 1) S.1 S.2.1 (dd_at ddX11_plank 9 rfl) (by decide) ?_
    refine lv_goto (tgt := 21) S.1 S.2.1 (dd_at ddX11_plank 10 rfl) (by decide) ?_
    exact tb21 a0 1 d_23 H locs ls h hw (lv_sub hl [0, 1, 2, 3] rfl)

def w_X11_canBeOf (E : En) (a0 : Nat) (p1 : Int32) (p2 : Int32) (d : Dy) (K : Int32 → Dy → Prop) : Prop := okO E a0 11 ∧ ∃ b_1 : Nat, eR E a0 1 = some b_1 ∧ okA E b_1 13 ∧ vp_in (420 + (3 * p1)) (eN E b_1) ∧ w_X11_ofHut E a0 p2 6 d (fun r_6 d_5 => ((¬ (((gA d b_1 (420 + (3 * p1)).toNatClampNeg) >>> (r_6 &&& 31)) &&& 1) = 1 → K 0 d_5) ∧ ((((gA d b_1 (420 + (3 * p1)).toNatClampNeg) >>> (r_6 &&& 31)) &&& 1) = 1 → ∃ b_8 : Nat, eR E a0 1 = some b_8 ∧ okA E b_8 13 ∧ vp_in ((420 + (3 * p1)) + 1) (eN E b_8) ∧ w_X11_rowPlace E a0 p2 d_5 (fun r_13 d_12 => ∃ b_14 : Nat, eR E a0 1 = some b_14 ∧ okA E b_14 13 ∧ vp_in ((420 + (3 * p1)) + 2) (eN E b_14) ∧ (((gA d_12 b_14 ((420 + (3 * p1)) + 2).toNatClampNeg) < (if 0 ≤ ((gA d_5 b_8 ((420 + (3 * p1)) + 1).toNatClampNeg) - r_13) then ((gA d_5 b_8 ((420 + (3 * p1)) + 1).toNatClampNeg) - r_13) else 0 - ((gA d_5 b_8 ((420 + (3 * p1)) + 1).toNatClampNeg) - r_13)) → K 0 d_12) ∧ (¬ (gA d_12 b_14 ((420 + (3 * p1)) + 2).toNatClampNeg) < (if 0 ≤ ((gA d_5 b_8 ((420 + (3 * p1)) + 1).toNatClampNeg) - r_13) then ((gA d_5 b_8 ((420 + (3 * p1)) + 1).toNatClampNeg) - r_13) else 0 - ((gA d_5 b_8 ((420 + (3 * p1)) + 1).toNatClampNeg) - r_13)) → K 1 d_12))))))
abbrev rm_X11_canBeOf : Room := { frames := 1, cells := 0, slots := 0, locals := 40 }
set_option maxRecDepth 100000 in
set_option maxHeartbeats 4000000 in
theorem m_X11_canBeOf (l : Launch) (D : va_G) (cs : Nat → ClassId) (E : En) (d : Dy) (sz : Nat) (a0 : Nat) (p1 : Int32) (p2 : Int32) (K : Int32 → Dy → Prop) : CI l yX11_canBeOf (.code yX11_canBeOf cX11_canBeOf 4 (some .boolean) :: wsL_law) rm_X11_canBeOf D cs E d sz [.ref a0, .int p1, .int p2] (w_X11_canBeOf E a0 p1 p2 d K) K := by
  refine e_of (cc := cX11_canBeOf) (maxL := 4) (ret := (some .boolean)) (own := RX11) (by decide) rfl rfl (Nat.le_of_ble_eq_true rfl) ?_
  intro p e s m below meth c S hr hlocks hsz H locs hw h ls hl
  have hl : lv_has ls 4 [(0, .ref a0), (1, .int p1), (2, .int p2)] := hl
  unfold w_X11_canBeOf at h
  obtain ⟨ha0, h⟩ := h
  refine lv_sipush (v := 420) S.1 S.2.1 (dd_at ddX11_canBeOf 0 rfl) (by decide) ?_
  refine lv_iconst (v := 3) S.1 S.2.1 (dd_at ddX11_canBeOf 1 rfl) (by decide) ?_
  refine lv_iload_n S.1 S.2.1 (dd_at ddX11_canBeOf 2 rfl) rfl (lv_at hl 1 rfl) ?_
  refine lv_imul S.1 S.2.1 (dd_at ddX11_canBeOf 3 rfl) ?_
  refine lv_iadd S.1 S.2.1 (dd_at ddX11_canBeOf 4 rfl) ?_
  refine lv_istore_n (lv' := [(3, .int (420 + (3 * p1))), (0, .ref a0), (1, .int p1), (2, .int p2)]) S.1 S.2.1 (dd_at ddX11_canBeOf 5 rfl) rfl hl (by decide) rfl (fun ls hl => ?_)
  refine lv_aload_n S.1 S.2.1 (dd_at ddX11_canBeOf 6 rfl) rfl (lv_at hl 1 rfl) ?_
  obtain ⟨b_1, hb_2, ho_3, h⟩ := h
  refine r_getR S hw 11 1 rfl inG11 (by decide) (List.mem_cons_of_mem _ wg150) (by decide) ha0 hb_2 (dd_at ddX11_canBeOf 7 rfl) ?_
  refine lv_iload_n S.1 S.2.1 (dd_at ddX11_canBeOf 8 rfl) rfl (lv_at hl 0 rfl) ?_
  obtain ⟨hx_4, h⟩ := h
  refine r_iald S hw ho_3 hx_4 (dd_at ddX11_canBeOf 9 rfl) ?_
  refine lv_aload_n S.1 S.2.1 (dd_at ddX11_canBeOf 10 rfl) rfl (lv_at hl 1 rfl) ?_
  refine lv_iload_n S.1 S.2.1 (dd_at ddX11_canBeOf 11 rfl) rfl (lv_at hl 3 rfl) ?_
  refine lv_bipush (v := 6) S.1 S.2.1 (dd_at ddX11_canBeOf 12 rfl) (by decide) ?_
  refine r_callI hw (r_runV (As := [.int p2, .int 6]) (rest := [.int (gA d b_1 (420 + (3 * p1)).toNatClampNeg)]) S hw (m_X11_ofHut l D cs E d H.size a0 p2 6 _) (cwV 2 S.2.2.2.2 (gV wg827 wg828 wg829 wg5 wg830) rfl rfl rfl (by decide +kernel) ⟨Nat.le_of_ble_eq_true rfl, Nat.le_of_ble_eq_true rfl⟩) (ci := 11) rfl ha0 h rfl hl.1 rfl (Nat.le_of_ble_eq_true rfl) (dd_at ddX11_canBeOf 13 rfl) ⟨Nat.le_of_ble_eq_true rfl, Nat.le_of_ble_eq_true rfl⟩) (fun r_6 d_5 H locs h hw => ?_)
  refine lv_ishr S.1 S.2.1 (dd_at ddX11_canBeOf 14 rfl) ?_
  refine lv_iconst (v := 1) S.1 S.2.1 (dd_at ddX11_canBeOf 15 rfl) (by decide) ?_
  refine lv_iand S.1 S.2.1 (dd_at ddX11_canBeOf 16 rfl) ?_
  refine lv_iconst (v := 1) S.1 S.2.1 (dd_at ddX11_canBeOf 17 rfl) (by decide) ?_
  refine lv_icmp_ne (tgt := 60) S.1 S.2.1 (dd_at ddX11_canBeOf 18 rfl) (by decide) (fun hc_7 => ?_) (fun hc_7 => ?_)
  · have h := h.1 hc_7
    refine lv_iconst (v := 0) S.1 S.2.1 (dd_at ddX11_canBeOf 39 rfl) (by decide) ?_
    exact e_Z S hr hlocks hw (Or.inl rfl) h (dd_at ddX11_canBeOf 40 rfl)
  · have h := h.2 hc_7
    refine lv_aload_n S.1 S.2.1 (dd_at ddX11_canBeOf 19 rfl) rfl (lv_at hl 1 rfl) ?_
    obtain ⟨b_8, hb_9, ho_10, h⟩ := h
    refine r_getR S hw 11 1 rfl inG11 (by decide) (List.mem_cons_of_mem _ wg150) (by decide) ha0 hb_9 (dd_at ddX11_canBeOf 20 rfl) ?_
    refine lv_iload_n S.1 S.2.1 (dd_at ddX11_canBeOf 21 rfl) rfl (lv_at hl 0 rfl) ?_
    refine lv_iconst (v := 1) S.1 S.2.1 (dd_at ddX11_canBeOf 22 rfl) (by decide) ?_
    refine lv_iadd S.1 S.2.1 (dd_at ddX11_canBeOf 23 rfl) ?_
    obtain ⟨hx_11, h⟩ := h
    refine r_iald S hw ho_10 hx_11 (dd_at ddX11_canBeOf 24 rfl) ?_
    refine lv_aload_n S.1 S.2.1 (dd_at ddX11_canBeOf 25 rfl) rfl (lv_at hl 1 rfl) ?_
    refine lv_iload_n S.1 S.2.1 (dd_at ddX11_canBeOf 26 rfl) rfl (lv_at hl 3 rfl) ?_
    refine r_callI hw (r_runV (As := [.int p2]) (rest := [.int (gA d_5 b_8 ((420 + (3 * p1)) + 1).toNatClampNeg)]) S hw (m_X11_rowPlace l D cs E d_5 H.size a0 p2 _) (cwV 1 S.2.2.2.2 (gV wg900 wg901 wg902 wg5 wg903) rfl rfl rfl (by decide +kernel) ⟨Nat.le_of_ble_eq_true rfl, Nat.le_of_ble_eq_true rfl⟩) (ci := 11) rfl ha0 h rfl hl.1 rfl (Nat.le_of_ble_eq_true rfl) (dd_at ddX11_canBeOf 27 rfl) ⟨Nat.le_of_ble_eq_true rfl, Nat.le_of_ble_eq_true rfl⟩) (fun r_13 d_12 H locs h hw => ?_)
    refine lv_isub S.1 S.2.1 (dd_at ddX11_canBeOf 28 rfl) ?_
    refine va_mabs S.1 S.2.1 (by rw [hl.1]; exact S.2.2.1) S.2.2.2.1 (S.2.2.2.2 _ (List.mem_cons_of_mem _ wg1395)) (S.2.2.2.2 _ (List.mem_cons_of_mem _ wg1374)) (S.2.2.2.2 _ (List.mem_cons_of_mem _ wg70)) (S.2.2.2.2 _ (List.mem_cons_of_mem _ wg1375)) (Nat.le_of_ble_eq_true rfl) (Nat.le_of_ble_eq_true rfl) (Nat.le_of_ble_eq_true rfl) (Nat.le_of_ble_eq_true rfl) (dd_at ddX11_canBeOf 29 rfl) ?_
    refine lv_aload_n S.1 S.2.1 (dd_at ddX11_canBeOf 30 rfl) rfl (lv_at hl 1 rfl) ?_
    obtain ⟨b_14, hb_15, ho_16, h⟩ := h
    refine r_getR S hw 11 1 rfl inG11 (by decide) (List.mem_cons_of_mem _ wg150) (by decide) ha0 hb_15 (dd_at ddX11_canBeOf 31 rfl) ?_
    refine lv_iload_n S.1 S.2.1 (dd_at ddX11_canBeOf 32 rfl) rfl (lv_at hl 0 rfl) ?_
    refine lv_iconst (v := 2) S.1 S.2.1 (dd_at ddX11_canBeOf 33 rfl) (by decide) ?_
    refine lv_iadd S.1 S.2.1 (dd_at ddX11_canBeOf 34 rfl) ?_
    obtain ⟨hx_17, h⟩ := h
    refine r_iald S hw ho_16 hx_17 (dd_at ddX11_canBeOf 35 rfl) ?_
    refine lv_icmp_gt (tgt := 60) S.1 S.2.1 (dd_at ddX11_canBeOf 36 rfl) (by decide) (fun hc_18 => ?_) (fun hc_18 => ?_)
    · have h := h.1 hc_18
      refine lv_iconst (v := 0) S.1 S.2.1 (dd_at ddX11_canBeOf 39 rfl) (by decide) ?_
      exact e_Z S hr hlocks hw (Or.inl rfl) h (dd_at ddX11_canBeOf 40 rfl)
    · have h := h.2 hc_18
      refine lv_iconst (v := 1) S.1 S.2.1 (dd_at ddX11_canBeOf 37 rfl) (by decide) ?_
      refine lv_goto (tgt := 61) S.1 S.2.1 (dd_at ddX11_canBeOf 38 rfl) (by decide) ?_
      exact e_Z S hr hlocks hw (Or.inr rfl) h (dd_at ddX11_canBeOf 40 rfl)

def b_X11_allWays_101 (E : En) (a0 : Nat) (p1 : Int32) (p2 : Int32) (K : Int64 → Dy → Prop) (k45 : Int32 → Int32 → Dy → Prop) (k60 : Int32 → Int32 → Int32 → Int32 → Dy → Prop) (v3 : Int32) (v4 : Int32) (v6 : Int32) (s0 : Int32) (d : Dy) : Prop := k60 v3 v4 (s0 ||| ((1 : Int32) <<< (v6 &&& 31))) (v6 + 1) d
def b_X11_allWays_138 (E : En) (a0 : Nat) (p1 : Int32) (p2 : Int32) (K : Int64 → Dy → Prop) (k45 : Int32 → Int32 → Dy → Prop) (k121 : Int32 → Int32 → Int32 → Int32 → Dy → Prop) (k138 : Int32 → Int32 → Int32 → Int32 → Int32 → Dy → Prop) (v3 : Int32) (v4 : Int32) (v5 : Int32) (v6 : Int32) (v7 : Int32) (d : Dy) : Prop := ((v6 < v7 → k121 v3 v4 v5 (v6 + 1) d) ∧ (¬ v6 < v7 → ((¬ (v7 &&& ((v6 &&& v5) ^^^ (-1))) = 0 → k138 v3 v4 v5 v6 (v7 + 1) d) ∧ ((v7 &&& ((v6 &&& v5) ^^^ (-1))) = 0 → w_J6_bitCount_0f7a4 E v7 d (fun r_4 d_3 => w_X11_ofHut E a0 v4 5 d_3 (fun r_6 d_5 => ((r_6 < r_4 → k138 v3 v4 v5 v6 (v7 + 1) d_5) ∧ (¬ r_6 < r_4 → ∃ b_8 : Nat, eR E a0 39 = some b_8 ∧ okA E b_8 14 ∧ vp_in v6 (eN E b_8) ∧ ∃ b_12 : Nat, eR E a0 38 = some b_12 ∧ okA E b_12 14 ∧ vp_in (v6 &&& (v7 ^^^ (-1))) (eN E b_12) ∧ vp_in v6 (eN E b_8) ∧ k138 v3 v4 v5 v6 (v7 + 1) (pJ d_5 b_8 (v6).toNatClampNeg ((gJ d_5 b_8 (v6).toNatClampNeg) + (gJ d_5 b_12 (v6 &&& (v7 ^^^ (-1))).toNatClampNeg)))))))))))
def l_X11_allWays_138 (E : En) (a0 : Nat) (p1 : Int32) (p2 : Int32) (K : Int64 → Dy → Prop) (k45 : Int32 → Int32 → Dy → Prop) (k121 : Int32 → Int32 → Int32 → Int32 → Dy → Prop) : Nat → Int32 → Int32 → Int32 → Int32 → Int32 → Dy → Prop
  | 0 => fun _ _ _ _ _ _ => False
  | n + 1 => b_X11_allWays_138 E a0 p1 p2 K k45 k121 (l_X11_allWays_138 E a0 p1 p2 K k45 k121 n)
def b_X11_allWays_210 (E : En) (a0 : Nat) (p1 : Int32) (p2 : Int32) (K : Int64 → Dy → Prop) (k45 : Int32 → Int32 → Dy → Prop) (k210 : Int32 → Int32 → Int32 → Dy → Prop) (v3 : Int32) (v4 : Int32) (v6 : Int32) (d : Dy) : Prop := ((v3 ≤ v6 → k45 v3 (v4 + 1) d) ∧ (¬ v3 ≤ v6 → ∃ b_18 : Nat, eR E a0 38 = some b_18 ∧ okA E b_18 14 ∧ ∃ b_21 : Nat, eR E a0 39 = some b_21 ∧ okA E b_21 14 ∧ vp_in v6 (eN E b_21) ∧ vp_in v6 (eN E b_18) ∧ k210 v3 v4 (v6 + 1) (pJ d b_18 (v6).toNatClampNeg (gJ d b_21 (v6).toNatClampNeg))))
def l_X11_allWays_210 (E : En) (a0 : Nat) (p1 : Int32) (p2 : Int32) (K : Int64 → Dy → Prop) (k45 : Int32 → Int32 → Dy → Prop) : Nat → Int32 → Int32 → Int32 → Dy → Prop
  | 0 => fun _ _ _ _ => False
  | n + 1 => b_X11_allWays_210 E a0 p1 p2 K k45 (l_X11_allWays_210 E a0 p1 p2 K k45 n)
def b_X11_allWays_121 (E : En) (a0 : Nat) (p1 : Int32) (p2 : Int32) (K : Int64 → Dy → Prop) (k45 : Int32 → Int32 → Dy → Prop) (k121 : Int32 → Int32 → Int32 → Int32 → Dy → Prop) (v3 : Int32) (v4 : Int32) (v5 : Int32) (v6 : Int32) (d : Dy) : Prop := ((v3 ≤ v6 → (∃ n_27 : Nat, l_X11_allWays_210 E a0 p1 p2 K k45 n_27 v3 v4 0 d)) ∧ (¬ v3 ≤ v6 → ∃ b_28 : Nat, eR E a0 39 = some b_28 ∧ okA E b_28 14 ∧ vp_in v6 (eN E b_28) ∧ (∃ n_32 : Nat, l_X11_allWays_138 E a0 p1 p2 K k45 k121 n_32 v3 v4 v5 v6 0 (pJ d b_28 (v6).toNatClampNeg 0))))
def l_X11_allWays_121 (E : En) (a0 : Nat) (p1 : Int32) (p2 : Int32) (K : Int64 → Dy → Prop) (k45 : Int32 → Int32 → Dy → Prop) : Nat → Int32 → Int32 → Int32 → Int32 → Dy → Prop
  | 0 => fun _ _ _ _ _ => False
  | n + 1 => b_X11_allWays_121 E a0 p1 p2 K k45 (l_X11_allWays_121 E a0 p1 p2 K k45 n)
def b_X11_allWays_60 (E : En) (a0 : Nat) (p1 : Int32) (p2 : Int32) (K : Int64 → Dy → Prop) (k45 : Int32 → Int32 → Dy → Prop) (k60 : Int32 → Int32 → Int32 → Int32 → Dy → Prop) (v3 : Int32) (v4 : Int32) (v5 : Int32) (v6 : Int32) (d : Dy) : Prop := ∃ b_33 : Nat, eR E a0 1 = some b_33 ∧ okA E b_33 13 ∧ vp_in 6 (eN E b_33) ∧ (((gA d b_33 ((6 : Int32)).toNatClampNeg) ≤ v6 → (∃ n_38 : Nat, l_X11_allWays_121 E a0 p1 p2 K k45 n_38 v3 v4 v5 0 d)) ∧ (¬ (gA d b_33 ((6 : Int32)).toNatClampNeg) ≤ v6 → w_X11_canBeOf E a0 v6 v4 d (fun r_40 d_39 => ((r_40 = 0 → k60 v3 v4 (v5 ||| 0) (v6 + 1) d_39) ∧ (¬ r_40 = 0 → ((¬ v6 = p1 → b_X11_allWays_101 E a0 p1 p2 K k45 k60 v3 v4 v6 v5 d_39) ∧ (v6 = p1 → ((p2 < 0 → b_X11_allWays_101 E a0 p1 p2 K k45 k60 v3 v4 v6 v5 d_39) ∧ (¬ p2 < 0 → ((¬ p2 = v4 → k60 v3 v4 (v5 ||| 0) (v6 + 1) d_39) ∧ (p2 = v4 → b_X11_allWays_101 E a0 p1 p2 K k45 k60 v3 v4 v6 v5 d_39)))))))))))
def l_X11_allWays_60 (E : En) (a0 : Nat) (p1 : Int32) (p2 : Int32) (K : Int64 → Dy → Prop) (k45 : Int32 → Int32 → Dy → Prop) : Nat → Int32 → Int32 → Int32 → Int32 → Dy → Prop
  | 0 => fun _ _ _ _ _ => False
  | n + 1 => b_X11_allWays_60 E a0 p1 p2 K k45 (l_X11_allWays_60 E a0 p1 p2 K k45 n)
def b_X11_allWays_45 (E : En) (a0 : Nat) (p1 : Int32) (p2 : Int32) (K : Int64 → Dy → Prop) (k45 : Int32 → Int32 → Dy → Prop) (v3 : Int32) (v4 : Int32) (d : Dy) : Prop := w_X11_huts E a0 d (fun r_46 d_45 => ((r_46 ≤ v4 → ∃ b_48 : Nat, eR E a0 38 = some b_48 ∧ okA E b_48 14 ∧ vp_in (v3 - 1) (eN E b_48) ∧ K (gJ d_45 b_48 (v3 - 1).toNatClampNeg) d_45) ∧ (¬ r_46 ≤ v4 → (∃ n_52 : Nat, l_X11_allWays_60 E a0 p1 p2 K k45 n_52 v3 v4 0 0 d_45))))
def l_X11_allWays_45 (E : En) (a0 : Nat) (p1 : Int32) (p2 : Int32) (K : Int64 → Dy → Prop) : Nat → Int32 → Int32 → Dy → Prop
  | 0 => fun _ _ _ => False
  | n + 1 => b_X11_allWays_45 E a0 p1 p2 K (l_X11_allWays_45 E a0 p1 p2 K n)
def b_X11_allWays_13 (E : En) (a0 : Nat) (p1 : Int32) (p2 : Int32) (K : Int64 → Dy → Prop) (k13 : Int32 → Int32 → Dy → Prop) (v3 : Int32) (v4 : Int32) (d : Dy) : Prop := ((v3 ≤ v4 → (∃ n_54 : Nat, l_X11_allWays_45 E a0 p1 p2 K n_54 v3 0 d)) ∧ (¬ v3 ≤ v4 → ∃ b_55 : Nat, eR E a0 38 = some b_55 ∧ okA E b_55 14 ∧ ((¬ v4 = 0 → vp_in v4 (eN E b_55) ∧ k13 v3 (v4 + 1) (pJ d b_55 (v4).toNatClampNeg 0)) ∧ (v4 = 0 → vp_in v4 (eN E b_55) ∧ k13 v3 (v4 + 1) (pJ d b_55 (v4).toNatClampNeg 1)))))
def l_X11_allWays_13 (E : En) (a0 : Nat) (p1 : Int32) (p2 : Int32) (K : Int64 → Dy → Prop) : Nat → Int32 → Int32 → Dy → Prop
  | 0 => fun _ _ _ => False
  | n + 1 => b_X11_allWays_13 E a0 p1 p2 K (l_X11_allWays_13 E a0 p1 p2 K n)
def w_X11_allWays (E : En) (a0 : Nat) (p1 : Int32) (p2 : Int32) (d : Dy) (K : Int64 → Dy → Prop) : Prop := okO E a0 11 ∧ ∃ b_61 : Nat, eR E a0 1 = some b_61 ∧ okA E b_61 13 ∧ vp_in 6 (eN E b_61) ∧ (∃ n_65 : Nat, l_X11_allWays_13 E a0 p1 p2 K n_65 ((1 : Int32) <<< ((gA d b_61 ((6 : Int32)).toNatClampNeg) &&& 31)) 0 d)
abbrev rm_X11_allWays : Room := { frames := 2, cells := 0, slots := 0, locals := 63 }
set_option maxRecDepth 100000 in
set_option maxHeartbeats 4000000 in
theorem m_X11_allWays (l : Launch) (D : va_G) (cs : Nat → ClassId) (E : En) (d : Dy) (sz : Nat) (a0 : Nat) (p1 : Int32) (p2 : Int32) (K : Int64 → Dy → Prop) : CJ l yX11_allWays (.code yX11_allWays cX11_allWays 8 (some .long) :: wsL_law) rm_X11_allWays D cs E d sz [.ref a0, .int p1, .int p2] (w_X11_allWays E a0 p1 p2 d K) K := by
  refine e_of (cc := cX11_allWays) (maxL := 8) (ret := (some .long)) (own := RX11) (by decide) rfl rfl (Nat.le_of_ble_eq_true rfl) ?_
  intro p e s m below meth c S hr hlocks hsz H locs hw h ls hl
  have hl : lv_has ls 8 [(0, .ref a0), (1, .int p1), (2, .int p2)] := hl
  unfold w_X11_allWays at h
  obtain ⟨ha0, h⟩ := h
  have tl45 : ∀ (n : Nat) (v3 : Int32) (v4 : Int32) (d : Dy) (H : Heap) (locs : List Loc) (ls : Array Slot), l_X11_allWays_45 E a0 p1 p2 K n v3 v4 d → Wd D cs (AW E sz) s.heap s E d H locs → lv_has ls 8 [(0, .ref a0), (1, .int p1), (2, .int p2), (3, .int v3), (4, .int v4)] → W p l e rm_X11_allWays s m ([.ref a0, .int p1, .int p2] : List Value).toArray below meth c H locs 0 0 (MQ below (va_Ql K (OutW D cs E (AW E sz)) (AW E sz)) ([.ref a0, .int p1, .int p2] : List Value).toArray s rm_X11_allWays.cells rm_X11_allWays.slots (AW E sz)) (F0 m 45 ls []) := by
    intro n45
    induction n45 with
    | zero => intro v3 v4 d H locs ls h; exact absurd h id
    | succ n45 ih45 =>
      have tl210 : ∀ (n : Nat) (v3 : Int32) (v4 : Int32) (v6 : Int32) (d : Dy) (H : Heap) (locs : List Loc) (ls : Array Slot), l_X11_allWays_210 E a0 p1 p2 K (l_X11_allWays_45 E a0 p1 p2 K n45) n v3 v4 v6 d → Wd D cs (AW E sz) s.heap s E d H locs → lv_has ls 8 [(0, .ref a0), (1, .int p1), (2, .int p2), (3, .int v3), (4, .int v4), (6, .int v6)] → W p l e rm_X11_allWays s m ([.ref a0, .int p1, .int p2] : List Value).toArray below meth c H locs 0 0 (MQ below (va_Ql K (OutW D cs E (AW E sz)) (AW E sz)) ([.ref a0, .int p1, .int p2] : List Value).toArray s rm_X11_allWays.cells rm_X11_allWays.slots (AW E sz)) (F0 m 210 ls []) := by
        intro n210
        induction n210 with
        | zero => intro v3 v4 v6 d H locs ls h; exact absurd h id
        | succ n210 ih210 =>
          intro v3 v4 v6 d H locs ls h hw hl
          have h : b_X11_allWays_210 E a0 p1 p2 K (l_X11_allWays_45 E a0 p1 p2 K n45) (l_X11_allWays_210 E a0 p1 p2 K (l_X11_allWays_45 E a0 p1 p2 K n45) n210) v3 v4 v6 d := h
          unfold b_X11_allWays_210 at h
          refine lv_iload S.1 S.2.1 (dd_at ddX11_allWays 113 rfl) (lv_at hl 5 rfl) ?_
          refine lv_iload_n S.1 S.2.1 (dd_at ddX11_allWays 114 rfl) rfl (lv_at hl 3 rfl) ?_
          refine lv_icmp_ge (tgt := 236) S.1 S.2.1 (dd_at ddX11_allWays 115 rfl) (by decide) (fun hc_17 => ?_) (fun hc_17 => ?_)
          · have h := h.1 hc_17
            refine lv_iinc (v := v4 + 1) (lv' := [(4, .int (v4 + 1)), (0, .ref a0), (1, .int p1), (2, .int p2), (3, .int v3), (6, .int v6)]) S.1 S.2.1 (dd_at ddX11_allWays 126 rfl) hl (k := 4) rfl rfl (by decide) rfl (fun ls hl => ?_)
            refine lv_goto (tgt := 45) S.1 S.2.1 (dd_at ddX11_allWays 127 rfl) (by decide) ?_
            exact ih45 v3 (v4 + 1) d H locs ls h hw (lv_sub hl [1, 2, 3, 4, 0] rfl)
          · have h := h.2 hc_17
            refine lv_aload_n S.1 S.2.1 (dd_at ddX11_allWays 116 rfl) rfl (lv_at hl 0 rfl) ?_
            obtain ⟨b_18, hb_19, ho_20, h⟩ := h
            refine r_getR S hw 11 38 rfl inG11 (by decide) (List.mem_cons_of_mem _ wg178) (by decide) ha0 hb_19 (dd_at ddX11_allWays 117 rfl) ?_
            refine lv_iload S.1 S.2.1 (dd_at ddX11_allWays 118 rfl) (lv_at hl 5 rfl) ?_
            refine lv_aload_n S.1 S.2.1 (dd_at ddX11_allWays 119 rfl) rfl (lv_at hl 0 rfl) ?_
            obtain ⟨b_21, hb_22, ho_23, h⟩ := h
            refine r_getR S hw 11 39 rfl inG11 (by decide) (List.mem_cons_of_mem _ wg179) (by decide) ha0 hb_22 (dd_at ddX11_allWays 120 rfl) ?_
            refine lv_iload S.1 S.2.1 (dd_at ddX11_allWays 121 rfl) (lv_at hl 5 rfl) ?_
            obtain ⟨hx_24, h⟩ := h
            refine r_lald S hw ho_23 hx_24 (dd_at ddX11_allWays 122 rfl) ?_
            obtain ⟨hx_25, h⟩ := h
            refine r_last S hw ho_20 hx_25 (dd_at ddX11_allWays 123 rfl) (fun H locs hw => ?_)
            refine lv_iinc (v := v6 + 1) (lv' := [(6, .int (v6 + 1)), (0, .ref a0), (1, .int p1), (2, .int p2), (3, .int v3), (4, .int v4)]) S.1 S.2.1 (dd_at ddX11_allWays 124 rfl) hl (k := 5) rfl rfl (by decide) rfl (fun ls hl => ?_)
            refine lv_goto (tgt := 210) S.1 S.2.1 (dd_at ddX11_allWays 125 rfl) (by decide) ?_
            exact ih210 v3 v4 (v6 + 1) (pJ d b_18 (v6).toNatClampNeg (gJ d b_21 (v6).toNatClampNeg)) H locs ls h hw (lv_sub hl [1, 2, 3, 4, 5, 0] rfl)
      have tl121 : ∀ (n : Nat) (v3 : Int32) (v4 : Int32) (v5 : Int32) (v6 : Int32) (d : Dy) (H : Heap) (locs : List Loc) (ls : Array Slot), l_X11_allWays_121 E a0 p1 p2 K (l_X11_allWays_45 E a0 p1 p2 K n45) n v3 v4 v5 v6 d → Wd D cs (AW E sz) s.heap s E d H locs → lv_has ls 8 [(0, .ref a0), (1, .int p1), (2, .int p2), (3, .int v3), (4, .int v4), (5, .int v5), (6, .int v6)] → W p l e rm_X11_allWays s m ([.ref a0, .int p1, .int p2] : List Value).toArray below meth c H locs 0 0 (MQ below (va_Ql K (OutW D cs E (AW E sz)) (AW E sz)) ([.ref a0, .int p1, .int p2] : List Value).toArray s rm_X11_allWays.cells rm_X11_allWays.slots (AW E sz)) (F0 m 121 ls []) := by
        intro n121
        induction n121 with
        | zero => intro v3 v4 v5 v6 d H locs ls h; exact absurd h id
        | succ n121 ih121 =>
          have tl138 : ∀ (n : Nat) (v3 : Int32) (v4 : Int32) (v5 : Int32) (v6 : Int32) (v7 : Int32) (d : Dy) (H : Heap) (locs : List Loc) (ls : Array Slot), l_X11_allWays_138 E a0 p1 p2 K (l_X11_allWays_45 E a0 p1 p2 K n45) (l_X11_allWays_121 E a0 p1 p2 K (l_X11_allWays_45 E a0 p1 p2 K n45) n121) n v3 v4 v5 v6 v7 d → Wd D cs (AW E sz) s.heap s E d H locs → lv_has ls 8 [(0, .ref a0), (1, .int p1), (2, .int p2), (3, .int v3), (4, .int v4), (5, .int v5), (6, .int v6), (7, .int v7)] → W p l e rm_X11_allWays s m ([.ref a0, .int p1, .int p2] : List Value).toArray below meth c H locs 0 0 (MQ below (va_Ql K (OutW D cs E (AW E sz)) (AW E sz)) ([.ref a0, .int p1, .int p2] : List Value).toArray s rm_X11_allWays.cells rm_X11_allWays.slots (AW E sz)) (F0 m 138 ls []) := by
            intro n138
            induction n138 with
            | zero => intro v3 v4 v5 v6 v7 d H locs ls h; exact absurd h id
            | succ n138 ih138 =>
              intro v3 v4 v5 v6 v7 d H locs ls h hw hl
              have h : b_X11_allWays_138 E a0 p1 p2 K (l_X11_allWays_45 E a0 p1 p2 K n45) (l_X11_allWays_121 E a0 p1 p2 K (l_X11_allWays_45 E a0 p1 p2 K n45) n121) (l_X11_allWays_138 E a0 p1 p2 K (l_X11_allWays_45 E a0 p1 p2 K n45) (l_X11_allWays_121 E a0 p1 p2 K (l_X11_allWays_45 E a0 p1 p2 K n45) n121) n138) v3 v4 v5 v6 v7 d := h
              unfold b_X11_allWays_138 at h
              refine lv_iload S.1 S.2.1 (dd_at ddX11_allWays 74 rfl) (lv_at hl 7 rfl) ?_
              refine lv_iload S.1 S.2.1 (dd_at ddX11_allWays 75 rfl) (lv_at hl 6 rfl) ?_
              refine lv_icmp_gt (tgt := 201) S.1 S.2.1 (dd_at ddX11_allWays 76 rfl) (by decide) (fun hc_1 => ?_) (fun hc_1 => ?_)
              · have h := h.1 hc_1
                refine lv_iinc (v := v6 + 1) (lv' := [(6, .int (v6 + 1)), (0, .ref a0), (1, .int p1), (2, .int p2), (3, .int v3), (4, .int v4), (5, .int v5), (7, .int v7)]) S.1 S.2.1 (dd_at ddX11_allWays 109 rfl) hl (k := 6) rfl rfl (by decide) rfl (fun ls hl => ?_)
                refine lv_goto (tgt := 121) S.1 S.2.1 (dd_at ddX11_allWays 110 rfl) (by decide) ?_
                exact ih121 v3 v4 v5 (v6 + 1) d H locs ls h hw (lv_sub hl [1, 2, 3, 4, 5, 6, 0] rfl)
              · have h := h.2 hc_1
                refine lv_iload S.1 S.2.1 (dd_at ddX11_allWays 77 rfl) (lv_at hl 7 rfl) ?_
                refine lv_iload S.1 S.2.1 (dd_at ddX11_allWays 78 rfl) (lv_at hl 6 rfl) ?_
                refine lv_iload S.1 S.2.1 (dd_at ddX11_allWays 79 rfl) (lv_at hl 5 rfl) ?_
                refine lv_iand S.1 S.2.1 (dd_at ddX11_allWays 80 rfl) ?_
                refine lv_iconst (v := -1) S.1 S.2.1 (dd_at ddX11_allWays 81 rfl) (by decide) ?_
                refine lv_ixor S.1 S.2.1 (dd_at ddX11_allWays 82 rfl) ?_
                refine lv_iand S.1 S.2.1 (dd_at ddX11_allWays 83 rfl) ?_
                refine lv_if_ne (tgt := 195) S.1 S.2.1 (dd_at ddX11_allWays 84 rfl) (by decide) (fun hc_2 => ?_) (fun hc_2 => ?_)
                · have h := h.1 hc_2
                  refine lv_iinc (v := v7 + 1) (lv' := [(7, .int (v7 + 1)), (0, .ref a0), (1, .int p1), (2, .int p2), (3, .int v3), (4, .int v4), (5, .int v5), (6, .int v6)]) S.1 S.2.1 (dd_at ddX11_allWays 107 rfl) hl (k := 7) rfl rfl (by decide) rfl (fun ls hl => ?_)
                  refine lv_goto (tgt := 138) S.1 S.2.1 (dd_at ddX11_allWays 108 rfl) (by decide) ?_
                  exact ih138 v3 v4 v5 v6 (v7 + 1) d H locs ls h hw (lv_sub hl [1, 2, 3, 4, 5, 6, 7, 0] rfl)
                · have h := h.2 hc_2
                  refine lv_iload S.1 S.2.1 (dd_at ddX11_allWays 85 rfl) (lv_at hl 7 rfl) ?_
                  refine r_callI hw (r_runS (As := [.int v7]) (rest := []) S hw (m_J6_bitCount_0f7a4 l D cs E d H.size v7 _) (va_cwS 1 S.2.2.2.2 (gS wg1191 wg724 wg725 wg726) rfl rfl rfl (by decide +kernel) ⟨Nat.le_of_ble_eq_true rfl, Nat.le_of_ble_eq_true rfl⟩) h rfl hl.1 rfl (Nat.le_of_ble_eq_true rfl) (dd_at ddX11_allWays 86 rfl) ⟨Nat.le_of_ble_eq_true rfl, Nat.le_of_ble_eq_true rfl⟩) (fun r_4 d_3 H locs h hw => ?_)
                  refine lv_aload_n S.1 S.2.1 (dd_at ddX11_allWays 87 rfl) rfl (lv_at hl 0 rfl) ?_
                  refine lv_iload S.1 S.2.1 (dd_at ddX11_allWays 88 rfl) (lv_at hl 4 rfl) ?_
                  refine lv_iconst (v := 5) S.1 S.2.1 (dd_at ddX11_allWays 89 rfl) (by decide) ?_
                  refine r_callI hw (r_runV (As := [.int v4, .int 5]) (rest := [.int r_4]) S hw (m_X11_ofHut l D cs E d_3 H.size a0 v4 5 _) (cwV 2 S.2.2.2.2 (gV wg827 wg828 wg829 wg5 wg830) rfl rfl rfl (by decide +kernel) ⟨Nat.le_of_ble_eq_true rfl, Nat.le_of_ble_eq_true rfl⟩) (ci := 11) rfl ha0 h rfl hl.1 rfl (Nat.le_of_ble_eq_true rfl) (dd_at ddX11_allWays 90 rfl) ⟨Nat.le_of_ble_eq_true rfl, Nat.le_of_ble_eq_true rfl⟩) (fun r_6 d_5 H locs h hw => ?_)
                  refine lv_icmp_gt (tgt := 195) S.1 S.2.1 (dd_at ddX11_allWays 91 rfl) (by decide) (fun hc_7 => ?_) (fun hc_7 => ?_)
                  · have h := h.1 hc_7
                    refine lv_iinc (v := v7 + 1) (lv' := [(7, .int (v7 + 1)), (0, .ref a0), (1, .int p1), (2, .int p2), (3, .int v3), (4, .int v4), (5, .int v5), (6, .int v6)]) S.1 S.2.1 (dd_at ddX11_allWays 107 rfl) hl (k := 7) rfl rfl (by decide) rfl (fun ls hl => ?_)
                    refine lv_goto (tgt := 138) S.1 S.2.1 (dd_at ddX11_allWays 108 rfl) (by decide) ?_
                    exact ih138 v3 v4 v5 v6 (v7 + 1) d_5 H locs ls h hw (lv_sub hl [1, 2, 3, 4, 5, 6, 7, 0] rfl)
                  · have h := h.2 hc_7
                    refine lv_aload_n S.1 S.2.1 (dd_at ddX11_allWays 92 rfl) rfl (lv_at hl 0 rfl) ?_
                    obtain ⟨b_8, hb_9, ho_10, h⟩ := h
                    refine r_getR S hw 11 39 rfl inG11 (by decide) (List.mem_cons_of_mem _ wg179) (by decide) ha0 hb_9 (dd_at ddX11_allWays 93 rfl) ?_
                    refine lv_iload S.1 S.2.1 (dd_at ddX11_allWays 94 rfl) (lv_at hl 6 rfl) ?_
                    refine lv_dup2_11 S.1 S.2.1 (dd_at ddX11_allWays 95 rfl) rfl rfl ?_
                    obtain ⟨hx_11, h⟩ := h
                    refine r_lald S hw ho_10 hx_11 (dd_at ddX11_allWays 96 rfl) ?_
                    refine lv_aload_n S.1 S.2.1 (dd_at ddX11_allWays 97 rfl) rfl (lv_at hl 0 rfl) ?_
                    obtain ⟨b_12, hb_13, ho_14, h⟩ := h
                    refine r_getR S hw 11 38 rfl inG11 (by decide) (List.mem_cons_of_mem _ wg178) (by decide) ha0 hb_13 (dd_at ddX11_allWays 98 rfl) ?_
                    refine lv_iload S.1 S.2.1 (dd_at ddX11_allWays 99 rfl) (lv_at hl 6 rfl) ?_
                    refine lv_iload S.1 S.2.1 (dd_at ddX11_allWays 100 rfl) (lv_at hl 7 rfl) ?_
                    refine lv_iconst (v := -1) S.1 S.2.1 (dd_at ddX11_allWays 101 rfl) (by decide) ?_
                    refine lv_ixor S.1 S.2.1 (dd_at ddX11_allWays 102 rfl) ?_
                    refine lv_iand S.1 S.2.1 (dd_at ddX11_allWays 103 rfl) ?_
                    obtain ⟨hx_15, h⟩ := h
                    refine r_lald S hw ho_14 hx_15 (dd_at ddX11_allWays 104 rfl) ?_
                    refine lv_ladd S.1 S.2.1 (dd_at ddX11_allWays 105 rfl) ?_
                    obtain ⟨hx_16, h⟩ := h
                    refine r_last S hw ho_10 hx_16 (dd_at ddX11_allWays 106 rfl) (fun H locs hw => ?_)
                    refine lv_iinc (v := v7 + 1) (lv' := [(7, .int (v7 + 1)), (0, .ref a0), (1, .int p1), (2, .int p2), (3, .int v3), (4, .int v4), (5, .int v5), (6, .int v6)]) S.1 S.2.1 (dd_at ddX11_allWays 107 rfl) hl (k := 7) rfl rfl (by decide) rfl (fun ls hl => ?_)
                    refine lv_goto (tgt := 138) S.1 S.2.1 (dd_at ddX11_allWays 108 rfl) (by decide) ?_
                    exact ih138 v3 v4 v5 v6 (v7 + 1) (pJ d_5 b_8 (v6).toNatClampNeg ((gJ d_5 b_8 (v6).toNatClampNeg) + (gJ d_5 b_12 (v6 &&& (v7 ^^^ (-1))).toNatClampNeg))) H locs ls h hw (lv_sub hl [1, 2, 3, 4, 5, 6, 7, 0] rfl)
          intro v3 v4 v5 v6 d H locs ls h hw hl
          have h : b_X11_allWays_121 E a0 p1 p2 K (l_X11_allWays_45 E a0 p1 p2 K n45) (l_X11_allWays_121 E a0 p1 p2 K (l_X11_allWays_45 E a0 p1 p2 K n45) n121) v3 v4 v5 v6 d := h
          unfold b_X11_allWays_121 at h
          refine lv_iload S.1 S.2.1 (dd_at ddX11_allWays 64 rfl) (lv_at hl 6 rfl) ?_
          refine lv_iload_n S.1 S.2.1 (dd_at ddX11_allWays 65 rfl) rfl (lv_at hl 3 rfl) ?_
          refine lv_icmp_ge (tgt := 207) S.1 S.2.1 (dd_at ddX11_allWays 66 rfl) (by decide) (fun hc_26 => ?_) (fun hc_26 => ?_)
          · have h := h.1 hc_26
            refine lv_iconst (v := 0) S.1 S.2.1 (dd_at ddX11_allWays 111 rfl) (by decide) ?_
            refine lv_istore (lv' := [(6, .int 0), (0, .ref a0), (1, .int p1), (2, .int p2), (3, .int v3), (4, .int v4), (5, .int v5)]) S.1 S.2.1 (dd_at ddX11_allWays 112 rfl) hl (by decide) rfl (fun ls hl => ?_)
            obtain ⟨n_27, h⟩ := h
            exact tl210 n_27 v3 v4 0 d H locs ls h hw (lv_sub hl [1, 2, 3, 4, 5, 0] rfl)
          · have h := h.2 hc_26
            refine lv_aload_n S.1 S.2.1 (dd_at ddX11_allWays 67 rfl) rfl (lv_at hl 0 rfl) ?_
            obtain ⟨b_28, hb_29, ho_30, h⟩ := h
            refine r_getR S hw 11 39 rfl inG11 (by decide) (List.mem_cons_of_mem _ wg179) (by decide) ha0 hb_29 (dd_at ddX11_allWays 68 rfl) ?_
            refine lv_iload S.1 S.2.1 (dd_at ddX11_allWays 69 rfl) (lv_at hl 6 rfl) ?_
            refine lv_lconst (v := 0) S.1 S.2.1 (dd_at ddX11_allWays 70 rfl) (by decide) ?_
            obtain ⟨hx_31, h⟩ := h
            refine r_last S hw ho_30 hx_31 (dd_at ddX11_allWays 71 rfl) (fun H locs hw => ?_)
            refine lv_iconst (v := 0) S.1 S.2.1 (dd_at ddX11_allWays 72 rfl) (by decide) ?_
            refine lv_istore (lv' := [(7, .int 0), (0, .ref a0), (1, .int p1), (2, .int p2), (3, .int v3), (4, .int v4), (5, .int v5), (6, .int v6)]) S.1 S.2.1 (dd_at ddX11_allWays 73 rfl) hl (by decide) rfl (fun ls hl => ?_)
            obtain ⟨n_32, h⟩ := h
            exact tl138 n_32 v3 v4 v5 v6 0 (pJ d b_28 (v6).toNatClampNeg 0) H locs ls h hw (lv_sub hl [1, 2, 3, 4, 5, 6, 7, 0] rfl)
      have tl60 : ∀ (n : Nat) (v3 : Int32) (v4 : Int32) (v5 : Int32) (v6 : Int32) (d : Dy) (H : Heap) (locs : List Loc) (ls : Array Slot), l_X11_allWays_60 E a0 p1 p2 K (l_X11_allWays_45 E a0 p1 p2 K n45) n v3 v4 v5 v6 d → Wd D cs (AW E sz) s.heap s E d H locs → lv_has ls 8 [(0, .ref a0), (1, .int p1), (2, .int p2), (3, .int v3), (4, .int v4), (5, .int v5), (6, .int v6)] → W p l e rm_X11_allWays s m ([.ref a0, .int p1, .int p2] : List Value).toArray below meth c H locs 0 0 (MQ below (va_Ql K (OutW D cs E (AW E sz)) (AW E sz)) ([.ref a0, .int p1, .int p2] : List Value).toArray s rm_X11_allWays.cells rm_X11_allWays.slots (AW E sz)) (F0 m 60 ls []) := by
        intro n60
        induction n60 with
        | zero => intro v3 v4 v5 v6 d H locs ls h; exact absurd h id
        | succ n60 ih60 =>
          have tb101 : ∀ (v3 : Int32) (v4 : Int32) (v6 : Int32) (s0 : Int32) (d : Dy) (H : Heap) (locs : List Loc) (ls : Array Slot), b_X11_allWays_101 E a0 p1 p2 K (l_X11_allWays_45 E a0 p1 p2 K n45) (l_X11_allWays_60 E a0 p1 p2 K (l_X11_allWays_45 E a0 p1 p2 K n45) n60) v3 v4 v6 s0 d → Wd D cs (AW E sz) s.heap s E d H locs → lv_has ls 8 [(0, .ref a0), (1, .int p1), (2, .int p2), (3, .int v3), (4, .int v4), (6, .int v6)] → W p l e rm_X11_allWays s m ([.ref a0, .int p1, .int p2] : List Value).toArray below meth c H locs 0 0 (MQ below (va_Ql K (OutW D cs E (AW E sz)) (AW E sz)) ([.ref a0, .int p1, .int p2] : List Value).toArray s rm_X11_allWays.cells rm_X11_allWays.slots (AW E sz)) (F0 m 101 ls [.int s0]) := by
            intro v3 v4 v6 s0 d H locs ls h hw hl
            unfold b_X11_allWays_101 at h
            refine lv_iconst (v := 1) S.1 S.2.1 (dd_at ddX11_allWays 53 rfl) (by decide) ?_
            refine lv_iload S.1 S.2.1 (dd_at ddX11_allWays 54 rfl) (lv_at hl 5 rfl) ?_
            refine lv_ishl S.1 S.2.1 (dd_at ddX11_allWays 55 rfl) ?_
            refine lv_goto (tgt := 109) S.1 S.2.1 (dd_at ddX11_allWays 56 rfl) (by decide) ?_
            refine lv_ior S.1 S.2.1 (dd_at ddX11_allWays 58 rfl) ?_
            refine lv_istore (lv' := [(5, .int (s0 ||| ((1 : Int32) <<< (v6 &&& 31)))), (0, .ref a0), (1, .int p1), (2, .int p2), (3, .int v3), (4, .int v4), (6, .int v6)]) S.1 S.2.1 (dd_at ddX11_allWays 59 rfl) hl (by decide) rfl (fun ls hl => ?_)
            refine lv_iinc (v := v6 + 1) (lv' := [(6, .int (v6 + 1)), (5, .int (s0 ||| ((1 : Int32) <<< (v6 &&& 31)))), (0, .ref a0), (1, .int p1), (2, .int p2), (3, .int v3), (4, .int v4)]) S.1 S.2.1 (dd_at ddX11_allWays 60 rfl) hl (k := 6) rfl rfl (by decide) rfl (fun ls hl => ?_)
            refine lv_goto (tgt := 60) S.1 S.2.1 (dd_at ddX11_allWays 61 rfl) (by decide) ?_
            exact ih60 v3 v4 (s0 ||| ((1 : Int32) <<< (v6 &&& 31))) (v6 + 1) d H locs ls h hw (lv_sub hl [2, 3, 4, 5, 6, 1, 0] rfl)
          intro v3 v4 v5 v6 d H locs ls h hw hl
          have h : b_X11_allWays_60 E a0 p1 p2 K (l_X11_allWays_45 E a0 p1 p2 K n45) (l_X11_allWays_60 E a0 p1 p2 K (l_X11_allWays_45 E a0 p1 p2 K n45) n60) v3 v4 v5 v6 d := h
          unfold b_X11_allWays_60 at h
          refine lv_iload S.1 S.2.1 (dd_at ddX11_allWays 33 rfl) (lv_at hl 6 rfl) ?_
          refine lv_aload_n S.1 S.2.1 (dd_at ddX11_allWays 34 rfl) rfl (lv_at hl 0 rfl) ?_
          obtain ⟨b_33, hb_34, ho_35, h⟩ := h
          refine r_getR S hw 11 1 rfl inG11 (by decide) (List.mem_cons_of_mem _ wg150) (by decide) ha0 hb_34 (dd_at ddX11_allWays 35 rfl) ?_
          refine lv_bipush (v := 6) S.1 S.2.1 (dd_at ddX11_allWays 36 rfl) (by decide) ?_
          obtain ⟨hx_36, h⟩ := h
          refine r_iald S hw ho_35 hx_36 (dd_at ddX11_allWays 37 rfl) ?_
          refine lv_icmp_ge (tgt := 118) S.1 S.2.1 (dd_at ddX11_allWays 38 rfl) (by decide) (fun hc_37 => ?_) (fun hc_37 => ?_)
          · have h := h.1 hc_37
            refine lv_iconst (v := 0) S.1 S.2.1 (dd_at ddX11_allWays 62 rfl) (by decide) ?_
            refine lv_istore (lv' := [(6, .int 0), (0, .ref a0), (1, .int p1), (2, .int p2), (3, .int v3), (4, .int v4), (5, .int v5)]) S.1 S.2.1 (dd_at ddX11_allWays 63 rfl) hl (by decide) rfl (fun ls hl => ?_)
            obtain ⟨n_38, h⟩ := h
            exact tl121 n_38 v3 v4 v5 0 d H locs ls h hw (lv_sub hl [1, 2, 3, 4, 5, 6, 0] rfl)
          · have h := h.2 hc_37
            refine lv_iload S.1 S.2.1 (dd_at ddX11_allWays 39 rfl) (lv_at hl 5 rfl) ?_
            refine lv_aload_n S.1 S.2.1 (dd_at ddX11_allWays 40 rfl) rfl (lv_at hl 0 rfl) ?_
            refine lv_iload S.1 S.2.1 (dd_at ddX11_allWays 41 rfl) (lv_at hl 6 rfl) ?_
            refine lv_iload S.1 S.2.1 (dd_at ddX11_allWays 42 rfl) (lv_at hl 4 rfl) ?_
            refine r_callI hw (r_runV (As := [.int v6, .int v4]) (rest := [.int v5]) S hw (m_X11_canBeOf l D cs E d H.size a0 v6 v4 _) (cwV 2 S.2.2.2.2 (gV wg1391 wg1392 wg1393 wg5 wg1394) rfl rfl rfl (by decide +kernel) ⟨Nat.le_of_ble_eq_true rfl, Nat.le_of_ble_eq_true rfl⟩) (ci := 11) rfl ha0 h rfl hl.1 rfl (Nat.le_of_ble_eq_true rfl) (dd_at ddX11_allWays 43 rfl) ⟨Nat.le_of_ble_eq_true rfl, Nat.le_of_ble_eq_true rfl⟩) (fun r_40 d_39 H locs h hw => ?_)
            refine lv_if_eq (tgt := 108) S.1 S.2.1 (dd_at ddX11_allWays 44 rfl) (by decide) (fun hc_41 => ?_) (fun hc_41 => ?_)
            · have h := h.1 hc_41
              refine lv_iconst (v := 0) S.1 S.2.1 (dd_at ddX11_allWays 57 rfl) (by decide) ?_
              refine lv_ior S.1 S.2.1 (dd_at ddX11_allWays 58 rfl) ?_
              refine lv_istore (lv' := [(5, .int (v5 ||| 0)), (0, .ref a0), (1, .int p1), (2, .int p2), (3, .int v3), (4, .int v4), (6, .int v6)]) S.1 S.2.1 (dd_at ddX11_allWays 59 rfl) hl (by decide) rfl (fun ls hl => ?_)
              refine lv_iinc (v := v6 + 1) (lv' := [(6, .int (v6 + 1)), (5, .int (v5 ||| 0)), (0, .ref a0), (1, .int p1), (2, .int p2), (3, .int v3), (4, .int v4)]) S.1 S.2.1 (dd_at ddX11_allWays 60 rfl) hl (k := 6) rfl rfl (by decide) rfl (fun ls hl => ?_)
              refine lv_goto (tgt := 60) S.1 S.2.1 (dd_at ddX11_allWays 61 rfl) (by decide) ?_
              exact ih60 v3 v4 (v5 ||| 0) (v6 + 1) d_39 H locs ls h hw (lv_sub hl [2, 3, 4, 5, 6, 1, 0] rfl)
            · have h := h.2 hc_41
              refine lv_iload S.1 S.2.1 (dd_at ddX11_allWays 45 rfl) (lv_at hl 6 rfl) ?_
              refine lv_iload_n S.1 S.2.1 (dd_at ddX11_allWays 46 rfl) rfl (lv_at hl 1 rfl) ?_
              refine lv_icmp_ne (tgt := 101) S.1 S.2.1 (dd_at ddX11_allWays 47 rfl) (by decide) (fun hc_42 => ?_) (fun hc_42 => ?_)
              · have h := h.1 hc_42
                exact tb101 v3 v4 v6 v5 d_39 H locs ls h hw (lv_sub hl [0, 1, 2, 3, 4, 6] rfl)
              · have h := h.2 hc_42
                refine lv_iload_n S.1 S.2.1 (dd_at ddX11_allWays 48 rfl) rfl (lv_at hl 2 rfl) ?_
                refine lv_if_lt (tgt := 101) S.1 S.2.1 (dd_at ddX11_allWays 49 rfl) (by decide) (fun hc_43 => ?_) (fun hc_43 => ?_)
                · have h := h.1 hc_43
                  exact tb101 v3 v4 v6 v5 d_39 H locs ls h hw (lv_sub hl [0, 1, 2, 3, 4, 6] rfl)
                · have h := h.2 hc_43
                  refine lv_iload_n S.1 S.2.1 (dd_at ddX11_allWays 50 rfl) rfl (lv_at hl 2 rfl) ?_
                  refine lv_iload S.1 S.2.1 (dd_at ddX11_allWays 51 rfl) (lv_at hl 4 rfl) ?_
                  refine lv_icmp_ne (tgt := 108) S.1 S.2.1 (dd_at ddX11_allWays 52 rfl) (by decide) (fun hc_44 => ?_) (fun hc_44 => ?_)
                  · have h := h.1 hc_44
                    refine lv_iconst (v := 0) S.1 S.2.1 (dd_at ddX11_allWays 57 rfl) (by decide) ?_
                    refine lv_ior S.1 S.2.1 (dd_at ddX11_allWays 58 rfl) ?_
                    refine lv_istore (lv' := [(5, .int (v5 ||| 0)), (0, .ref a0), (1, .int p1), (2, .int p2), (3, .int v3), (4, .int v4), (6, .int v6)]) S.1 S.2.1 (dd_at ddX11_allWays 59 rfl) hl (by decide) rfl (fun ls hl => ?_)
                    refine lv_iinc (v := v6 + 1) (lv' := [(6, .int (v6 + 1)), (5, .int (v5 ||| 0)), (0, .ref a0), (1, .int p1), (2, .int p2), (3, .int v3), (4, .int v4)]) S.1 S.2.1 (dd_at ddX11_allWays 60 rfl) hl (k := 6) rfl rfl (by decide) rfl (fun ls hl => ?_)
                    refine lv_goto (tgt := 60) S.1 S.2.1 (dd_at ddX11_allWays 61 rfl) (by decide) ?_
                    exact ih60 v3 v4 (v5 ||| 0) (v6 + 1) d_39 H locs ls h hw (lv_sub hl [2, 3, 4, 5, 6, 1, 0] rfl)
                  · have h := h.2 hc_44
                    exact tb101 v3 v4 v6 v5 d_39 H locs ls h hw (lv_sub hl [0, 1, 2, 3, 4, 6] rfl)
      intro v3 v4 d H locs ls h hw hl
      have h : b_X11_allWays_45 E a0 p1 p2 K (l_X11_allWays_45 E a0 p1 p2 K n45) v3 v4 d := h
      unfold b_X11_allWays_45 at h
      refine lv_iload S.1 S.2.1 (dd_at ddX11_allWays 25 rfl) (lv_at hl 4 rfl) ?_
      refine lv_aload_n S.1 S.2.1 (dd_at ddX11_allWays 26 rfl) rfl (lv_at hl 0 rfl) ?_
      refine r_callI hw (r_runV (As := []) (rest := [.int v4]) S hw (m_X11_huts l D cs E d H.size a0 _) (cwV 0 S.2.2.2.2 (gV wg596 wg597 wg598 wg5 wg599) rfl rfl rfl (by decide +kernel) ⟨Nat.le_of_ble_eq_true rfl, Nat.le_of_ble_eq_true rfl⟩) (ci := 11) rfl ha0 h rfl hl.1 rfl (Nat.le_of_ble_eq_true rfl) (dd_at ddX11_allWays 27 rfl) ⟨Nat.le_of_ble_eq_true rfl, Nat.le_of_ble_eq_true rfl⟩) (fun r_46 d_45 H locs h hw => ?_)
      refine lv_icmp_ge (tgt := 242) S.1 S.2.1 (dd_at ddX11_allWays 28 rfl) (by decide) (fun hc_47 => ?_) (fun hc_47 => ?_)
      · have h := h.1 hc_47
        refine lv_aload_n S.1 S.2.1 (dd_at ddX11_allWays 128 rfl) rfl (lv_at hl 0 rfl) ?_
        obtain ⟨b_48, hb_49, ho_50, h⟩ := h
        refine r_getR S hw 11 38 rfl inG11 (by decide) (List.mem_cons_of_mem _ wg178) (by decide) ha0 hb_49 (dd_at ddX11_allWays 129 rfl) ?_
        refine lv_iload_n S.1 S.2.1 (dd_at ddX11_allWays 130 rfl) rfl (lv_at hl 3 rfl) ?_
        refine lv_iconst (v := 1) S.1 S.2.1 (dd_at ddX11_allWays 131 rfl) (by decide) ?_
        refine lv_isub S.1 S.2.1 (dd_at ddX11_allWays 132 rfl) ?_
        obtain ⟨hx_51, h⟩ := h
        refine r_lald S hw ho_50 hx_51 (dd_at ddX11_allWays 133 rfl) ?_
        exact e_J S hr hlocks hw h (dd_at ddX11_allWays 134 rfl)
      · have h := h.2 hc_47
        refine lv_iconst (v := 0) S.1 S.2.1 (dd_at ddX11_allWays 29 rfl) (by decide) ?_
        refine lv_istore (lv' := [(5, .int 0), (0, .ref a0), (1, .int p1), (2, .int p2), (3, .int v3), (4, .int v4)]) S.1 S.2.1 (dd_at ddX11_allWays 30 rfl) hl (by decide) rfl (fun ls hl => ?_)
        refine lv_iconst (v := 0) S.1 S.2.1 (dd_at ddX11_allWays 31 rfl) (by decide) ?_
        refine lv_istore (lv' := [(6, .int 0), (5, .int 0), (0, .ref a0), (1, .int p1), (2, .int p2), (3, .int v3), (4, .int v4)]) S.1 S.2.1 (dd_at ddX11_allWays 32 rfl) hl (by decide) rfl (fun ls hl => ?_)
        obtain ⟨n_52, h⟩ := h
        exact tl60 n_52 v3 v4 0 0 d_45 H locs ls h hw (lv_sub hl [2, 3, 4, 5, 6, 1, 0] rfl)
  have tl13 : ∀ (n : Nat) (v3 : Int32) (v4 : Int32) (d : Dy) (H : Heap) (locs : List Loc) (ls : Array Slot), l_X11_allWays_13 E a0 p1 p2 K n v3 v4 d → Wd D cs (AW E sz) s.heap s E d H locs → lv_has ls 8 [(0, .ref a0), (1, .int p1), (2, .int p2), (3, .int v3), (4, .int v4)] → W p l e rm_X11_allWays s m ([.ref a0, .int p1, .int p2] : List Value).toArray below meth c H locs 0 0 (MQ below (va_Ql K (OutW D cs E (AW E sz)) (AW E sz)) ([.ref a0, .int p1, .int p2] : List Value).toArray s rm_X11_allWays.cells rm_X11_allWays.slots (AW E sz)) (F0 m 13 ls []) := by
    intro n13
    induction n13 with
    | zero => intro v3 v4 d H locs ls h; exact absurd h id
    | succ n13 ih13 =>
      intro v3 v4 d H locs ls h hw hl
      have h : b_X11_allWays_13 E a0 p1 p2 K (l_X11_allWays_13 E a0 p1 p2 K n13) v3 v4 d := h
      unfold b_X11_allWays_13 at h
      refine lv_iload S.1 S.2.1 (dd_at ddX11_allWays 9 rfl) (lv_at hl 4 rfl) ?_
      refine lv_iload_n S.1 S.2.1 (dd_at ddX11_allWays 10 rfl) rfl (lv_at hl 3 rfl) ?_
      refine lv_icmp_ge (tgt := 42) S.1 S.2.1 (dd_at ddX11_allWays 11 rfl) (by decide) (fun hc_53 => ?_) (fun hc_53 => ?_)
      · have h := h.1 hc_53
        refine lv_iconst (v := 0) S.1 S.2.1 (dd_at ddX11_allWays 23 rfl) (by decide) ?_
        refine lv_istore (lv' := [(4, .int 0), (0, .ref a0), (1, .int p1), (2, .int p2), (3, .int v3)]) S.1 S.2.1 (dd_at ddX11_allWays 24 rfl) hl (by decide) rfl (fun ls hl => ?_)
        obtain ⟨n_54, h⟩ := h
        exact tl45 n_54 v3 0 d H locs ls h hw (lv_sub hl [1, 2, 3, 4, 0] rfl)
      · have h := h.2 hc_53
        refine lv_aload_n S.1 S.2.1 (dd_at ddX11_allWays 12 rfl) rfl (lv_at hl 0 rfl) ?_
        obtain ⟨b_55, hb_56, ho_57, h⟩ := h
        refine r_getR S hw 11 38 rfl inG11 (by decide) (List.mem_cons_of_mem _ wg178) (by decide) ha0 hb_56 (dd_at ddX11_allWays 13 rfl) ?_
        refine lv_iload S.1 S.2.1 (dd_at ddX11_allWays 14 rfl) (lv_at hl 4 rfl) ?_
        refine lv_iload S.1 S.2.1 (dd_at ddX11_allWays 15 rfl) (lv_at hl 4 rfl) ?_
        refine lv_if_ne (tgt := 34) S.1 S.2.1 (dd_at ddX11_allWays 16 rfl) (by decide) (fun hc_58 => ?_) (fun hc_58 => ?_)
        · have h := h.1 hc_58
          refine lv_lconst (v := 0) S.1 S.2.1 (dd_at ddX11_allWays 19 rfl) (by decide) ?_
          obtain ⟨hx_59, h⟩ := h
          refine r_last S hw ho_57 hx_59 (dd_at ddX11_allWays 20 rfl) (fun H locs hw => ?_)
          refine lv_iinc (v := v4 + 1) (lv' := [(4, .int (v4 + 1)), (0, .ref a0), (1, .int p1), (2, .int p2), (3, .int v3)]) S.1 S.2.1 (dd_at ddX11_allWays 21 rfl) hl (k := 4) rfl rfl (by decide) rfl (fun ls hl => ?_)
          refine lv_goto (tgt := 13) S.1 S.2.1 (dd_at ddX11_allWays 22 rfl) (by decide) ?_
          exact ih13 v3 (v4 + 1) (pJ d b_55 (v4).toNatClampNeg 0) H locs ls h hw (lv_sub hl [1, 2, 3, 4, 0] rfl)
        · have h := h.2 hc_58
          refine lv_lconst (v := 1) S.1 S.2.1 (dd_at ddX11_allWays 17 rfl) (by decide) ?_
          refine lv_goto (tgt := 35) S.1 S.2.1 (dd_at ddX11_allWays 18 rfl) (by decide) ?_
          obtain ⟨hx_60, h⟩ := h
          refine r_last S hw ho_57 hx_60 (dd_at ddX11_allWays 20 rfl) (fun H locs hw => ?_)
          refine lv_iinc (v := v4 + 1) (lv' := [(4, .int (v4 + 1)), (0, .ref a0), (1, .int p1), (2, .int p2), (3, .int v3)]) S.1 S.2.1 (dd_at ddX11_allWays 21 rfl) hl (k := 4) rfl rfl (by decide) rfl (fun ls hl => ?_)
          refine lv_goto (tgt := 13) S.1 S.2.1 (dd_at ddX11_allWays 22 rfl) (by decide) ?_
          exact ih13 v3 (v4 + 1) (pJ d b_55 (v4).toNatClampNeg 1) H locs ls h hw (lv_sub hl [1, 2, 3, 4, 0] rfl)
  refine lv_iconst (v := 1) S.1 S.2.1 (dd_at ddX11_allWays 0 rfl) (by decide) ?_
  refine lv_aload_n S.1 S.2.1 (dd_at ddX11_allWays 1 rfl) rfl (lv_at hl 0 rfl) ?_
  obtain ⟨b_61, hb_62, ho_63, h⟩ := h
  refine r_getR S hw 11 1 rfl inG11 (by decide) (List.mem_cons_of_mem _ wg150) (by decide) ha0 hb_62 (dd_at ddX11_allWays 2 rfl) ?_
  refine lv_bipush (v := 6) S.1 S.2.1 (dd_at ddX11_allWays 3 rfl) (by decide) ?_
  obtain ⟨hx_64, h⟩ := h
  refine r_iald S hw ho_63 hx_64 (dd_at ddX11_allWays 4 rfl) ?_
  refine lv_ishl S.1 S.2.1 (dd_at ddX11_allWays 5 rfl) ?_
  refine lv_istore_n (lv' := [(3, .int ((1 : Int32) <<< ((gA d b_61 ((6 : Int32)).toNatClampNeg) &&& 31))), (0, .ref a0), (1, .int p1), (2, .int p2)]) S.1 S.2.1 (dd_at ddX11_allWays 6 rfl) rfl hl (by decide) rfl (fun ls hl => ?_)
  refine lv_iconst (v := 0) S.1 S.2.1 (dd_at ddX11_allWays 7 rfl) (by decide) ?_
  refine lv_istore (lv' := [(4, .int 0), (3, .int ((1 : Int32) <<< ((gA d b_61 ((6 : Int32)).toNatClampNeg) &&& 31))), (0, .ref a0), (1, .int p1), (2, .int p2)]) S.1 S.2.1 (dd_at ddX11_allWays 8 rfl) hl (by decide) rfl (fun ls hl => ?_)
  obtain ⟨n_65, h⟩ := h
  exact tl13 n_65 ((1 : Int32) <<< ((gA d b_61 ((6 : Int32)).toNatClampNeg) &&& 31)) 0 d H locs ls h hw (lv_sub hl [2, 3, 4, 1, 0] rfl)

def w_X11_rows (E : En) (a0 : Nat) (d : Dy) (K : Int64 → Dy → Prop) : Prop := okO E a0 11 ∧ w_X11_goesToday E a0 (pI d a0 0 0) (fun d_1 => w_X11_allWays E a0 (-1) (-1) d_1 (fun r_4 d_3 => K r_4 d_3))
abbrev rm_X11_rows : Room := { frames := 8, cells := 0, slots := 0, locals := 187 }
set_option maxRecDepth 100000 in
set_option maxHeartbeats 4000000 in
theorem m_X11_rows (l : Launch) (D : va_G) (cs : Nat → ClassId) (E : En) (d : Dy) (sz : Nat) (a0 : Nat) (K : Int64 → Dy → Prop) : CJ l yX11_rows (.code yX11_rows cX11_rows 1 (some .long) :: wsL_law) rm_X11_rows D cs E d sz [.ref a0] (w_X11_rows E a0 d K) K := by
  refine e_of (cc := cX11_rows) (maxL := 1) (ret := (some .long)) (own := RX11) (by decide) rfl rfl (Nat.le_of_ble_eq_true rfl) ?_
  intro p e s m below meth c S hr hlocks hsz H locs hw h ls hl
  have hl : lv_has ls 1 [(0, .ref a0)] := hl
  unfold w_X11_rows at h
  obtain ⟨ha0, h⟩ := h
  refine lv_aload_n S.1 S.2.1 (dd_at ddX11_rows 0 rfl) rfl (lv_at hl 0 rfl) ?_
  refine lv_iconst (v := 0) S.1 S.2.1 (dd_at ddX11_rows 1 rfl) (by decide) ?_
  refine r_putI S hw 11 0 (ty := .int) (v := 0) rfl inG11 tyX11 tyX11_ok nmX11 (by decide) (List.mem_cons_of_mem _ wg201) (by decide) rfl (by decide +kernel) rfl rfl ha0 (dd_at ddX11_rows 2 rfl) (fun H locs hw => ?_)
  refine lv_aload_n S.1 S.2.1 (dd_at ddX11_rows 3 rfl) rfl (lv_at hl 0 rfl) ?_
  refine r_callV hw (r_runV (As := []) (rest := []) S hw (m_X11_goesToday l D cs E (pI d a0 0 0) H.size a0 _) (cwV 0 S.2.2.2.2 (gV wg1192 wg1193 wg1194 wg5 wg1195) rfl rfl rfl (by decide +kernel) ⟨Nat.le_of_ble_eq_true rfl, Nat.le_of_ble_eq_true rfl⟩) (ci := 11) rfl ha0 h rfl hl.1 rfl (Nat.le_of_ble_eq_true rfl) (dd_at ddX11_rows 4 rfl) ⟨Nat.le_of_ble_eq_true rfl, Nat.le_of_ble_eq_true rfl⟩) (fun d_1 H locs h hw => ?_)
  refine lv_aload_n S.1 S.2.1 (dd_at ddX11_rows 5 rfl) rfl (lv_at hl 0 rfl) ?_
  refine lv_iconst (v := -1) S.1 S.2.1 (dd_at ddX11_rows 6 rfl) (by decide) ?_
  refine lv_iconst (v := -1) S.1 S.2.1 (dd_at ddX11_rows 7 rfl) (by decide) ?_
  refine r_callJ hw (r_runV (As := [.int (-1), .int (-1)]) (rest := []) S hw (m_X11_allWays l D cs E d_1 H.size a0 (-1) (-1) _) (cwV 2 S.2.2.2.2 (gV wg1387 wg1388 wg1389 wg5 wg1390) rfl rfl rfl (by decide +kernel) ⟨Nat.le_of_ble_eq_true rfl, Nat.le_of_ble_eq_true rfl⟩) (ci := 11) rfl ha0 h rfl hl.1 rfl (Nat.le_of_ble_eq_true rfl) (dd_at ddX11_rows 8 rfl) ⟨Nat.le_of_ble_eq_true rfl, Nat.le_of_ble_eq_true rfl⟩) (fun r_4 d_3 H locs h hw => ?_)
  exact e_J S hr hlocks hw h (dd_at ddX11_rows 9 rfl)

def b_X11_whose_30 (E : En) (a0 : Nat) (p1 : Int32) (K : Int32 → Dy → Prop) (k30 : Int32 → Int32 → Dy → Prop) (v2 : Int32) (v3 : Int32) (d : Dy) : Prop := w_X11_huts E a0 d (fun r_2 d_1 => ((r_2 ≤ v3 → K v2 d_1) ∧ (¬ r_2 ≤ v3 → w_X11_allWays E a0 p1 v3 d_1 (fun r_5 d_4 => (((lg_cmp r_5 0) ≤ 0 → k30 (v2 ||| 0) (v3 + 1) d_4) ∧ (¬ (lg_cmp r_5 0) ≤ 0 → k30 (v2 ||| ((1 : Int32) <<< (v3 &&& 31))) (v3 + 1) d_4))))))
def l_X11_whose_30 (E : En) (a0 : Nat) (p1 : Int32) (K : Int32 → Dy → Prop) : Nat → Int32 → Int32 → Dy → Prop
  | 0 => fun _ _ _ => False
  | n + 1 => b_X11_whose_30 E a0 p1 K (l_X11_whose_30 E a0 p1 K n)
def w_X11_whose (E : En) (a0 : Nat) (p1 : Int32) (d : Dy) (K : Int32 → Dy → Prop) : Prop := okO E a0 11 ∧ w_X11_none E a0 p1 6 (pI d a0 0 0) (fun r_8 d_7 => w_X11_throwsIf E a0 r_8 1 d_7 (fun r_10 d_9 => ((r_10 = 0 → w_X11_goesToday E a0 d_9 (fun d_12 => (∃ n_14 : Nat, l_X11_whose_30 E a0 p1 K n_14 0 0 d_12))) ∧ (¬ r_10 = 0 → K 0 d_9))))
abbrev rm_X11_whose : Room := { frames := 8, cells := 0, slots := 0, locals := 187 }
set_option maxRecDepth 100000 in
set_option maxHeartbeats 4000000 in
theorem m_X11_whose (l : Launch) (D : va_G) (cs : Nat → ClassId) (E : En) (d : Dy) (sz : Nat) (a0 : Nat) (p1 : Int32) (K : Int32 → Dy → Prop) : CI l yX11_whose (.code yX11_whose cX11_whose 4 (some .int) :: wsL_law) rm_X11_whose D cs E d sz [.ref a0, .int p1] (w_X11_whose E a0 p1 d K) K := by
  refine e_of (cc := cX11_whose) (maxL := 4) (ret := (some .int)) (own := RX11) (by decide) rfl rfl (Nat.le_of_ble_eq_true rfl) ?_
  intro p e s m below meth c S hr hlocks hsz H locs hw h ls hl
  have hl : lv_has ls 4 [(0, .ref a0), (1, .int p1)] := hl
  unfold w_X11_whose at h
  obtain ⟨ha0, h⟩ := h
  have tl30 : ∀ (n : Nat) (v2 : Int32) (v3 : Int32) (d : Dy) (H : Heap) (locs : List Loc) (ls : Array Slot), l_X11_whose_30 E a0 p1 K n v2 v3 d → Wd D cs (AW E sz) s.heap s E d H locs → lv_has ls 4 [(0, .ref a0), (1, .int p1), (2, .int v2), (3, .int v3)] → W p l e rm_X11_whose s m ([.ref a0, .int p1] : List Value).toArray below meth c H locs 0 0 (MQ below (va_Qi K (OutW D cs E (AW E sz)) (AW E sz)) ([.ref a0, .int p1] : List Value).toArray s rm_X11_whose.cells rm_X11_whose.slots (AW E sz)) (F0 m 30 ls []) := by
    intro n30
    induction n30 with
    | zero => intro v2 v3 d H locs ls h; exact absurd h id
    | succ n30 ih30 =>
      intro v2 v3 d H locs ls h hw hl
      have h : b_X11_whose_30 E a0 p1 K (l_X11_whose_30 E a0 p1 K n30) v2 v3 d := h
      unfold b_X11_whose_30 at h
      refine lv_iload_n S.1 S.2.1 (dd_at ddX11_whose 19 rfl) rfl (lv_at hl 3 rfl) ?_
      refine lv_aload_n S.1 S.2.1 (dd_at ddX11_whose 20 rfl) rfl (lv_at hl 0 rfl) ?_
      refine r_callI hw (r_runV (As := []) (rest := [.int v3]) S hw (m_X11_huts l D cs E d H.size a0 _) (cwV 0 S.2.2.2.2 (gV wg596 wg597 wg598 wg5 wg599) rfl rfl rfl (by decide +kernel) ⟨Nat.le_of_ble_eq_true rfl, Nat.le_of_ble_eq_true rfl⟩) (ci := 11) rfl ha0 h rfl hl.1 rfl (Nat.le_of_ble_eq_true rfl) (dd_at ddX11_whose 21 rfl) ⟨Nat.le_of_ble_eq_true rfl, Nat.le_of_ble_eq_true rfl⟩) (fun r_2 d_1 H locs h hw => ?_)
      refine lv_icmp_ge (tgt := 65) S.1 S.2.1 (dd_at ddX11_whose 22 rfl) (by decide) (fun hc_3 => ?_) (fun hc_3 => ?_)
      · have h := h.1 hc_3
        refine lv_iload_n S.1 S.2.1 (dd_at ddX11_whose 40 rfl) rfl (lv_at hl 2 rfl) ?_
        exact e_I S hr hlocks hw h (dd_at ddX11_whose 41 rfl)
      · have h := h.2 hc_3
        refine lv_iload_n S.1 S.2.1 (dd_at ddX11_whose 23 rfl) rfl (lv_at hl 2 rfl) ?_
        refine lv_aload_n S.1 S.2.1 (dd_at ddX11_whose 24 rfl) rfl (lv_at hl 0 rfl) ?_
        refine lv_iload_n S.1 S.2.1 (dd_at ddX11_whose 25 rfl) rfl (lv_at hl 1 rfl) ?_
        refine lv_iload_n S.1 S.2.1 (dd_at ddX11_whose 26 rfl) rfl (lv_at hl 3 rfl) ?_
        refine r_callJ hw (r_runV (As := [.int p1, .int v3]) (rest := [.int v2]) S hw (m_X11_allWays l D cs E d_1 H.size a0 p1 v3 _) (cwV 2 S.2.2.2.2 (gV wg1387 wg1388 wg1389 wg5 wg1390) rfl rfl rfl (by decide +kernel) ⟨Nat.le_of_ble_eq_true rfl, Nat.le_of_ble_eq_true rfl⟩) (ci := 11) rfl ha0 h rfl hl.1 rfl (Nat.le_of_ble_eq_true rfl) (dd_at ddX11_whose 27 rfl) ⟨Nat.le_of_ble_eq_true rfl, Nat.le_of_ble_eq_true rfl⟩) (fun r_5 d_4 H locs h hw => ?_)
        refine lv_lconst (v := 0) S.1 S.2.1 (dd_at ddX11_whose 28 rfl) (by decide) ?_
        refine W.lcmp S.1 S.2.1 (dd_at ddX11_whose 29 rfl) ?_
        refine lv_if_le (tgt := 56) S.1 S.2.1 (dd_at ddX11_whose 30 rfl) (by decide) (fun hc_6 => ?_) (fun hc_6 => ?_)
        · have h := h.1 hc_6
          refine lv_iconst (v := 0) S.1 S.2.1 (dd_at ddX11_whose 35 rfl) (by decide) ?_
          refine lv_ior S.1 S.2.1 (dd_at ddX11_whose 36 rfl) ?_
          refine lv_istore_n (lv' := [(2, .int (v2 ||| 0)), (0, .ref a0), (1, .int p1), (3, .int v3)]) S.1 S.2.1 (dd_at ddX11_whose 37 rfl) rfl hl (by decide) rfl (fun ls hl => ?_)
          refine lv_iinc (v := v3 + 1) (lv' := [(3, .int (v3 + 1)), (2, .int (v2 ||| 0)), (0, .ref a0), (1, .int p1)]) S.1 S.2.1 (dd_at ddX11_whose 38 rfl) hl (k := 3) rfl rfl (by decide) rfl (fun ls hl => ?_)
          refine lv_goto (tgt := 30) S.1 S.2.1 (dd_at ddX11_whose 39 rfl) (by decide) ?_
          exact ih30 (v2 ||| 0) (v3 + 1) d_4 H locs ls h hw (lv_sub hl [2, 3, 1, 0] rfl)
        · have h := h.2 hc_6
          refine lv_iconst (v := 1) S.1 S.2.1 (dd_at ddX11_whose 31 rfl) (by decide) ?_
          refine lv_iload_n S.1 S.2.1 (dd_at ddX11_whose 32 rfl) rfl (lv_at hl 3 rfl) ?_
          refine lv_ishl S.1 S.2.1 (dd_at ddX11_whose 33 rfl) ?_
          refine lv_goto (tgt := 57) S.1 S.2.1 (dd_at ddX11_whose 34 rfl) (by decide) ?_
          refine lv_ior S.1 S.2.1 (dd_at ddX11_whose 36 rfl) ?_
          refine lv_istore_n (lv' := [(2, .int (v2 ||| ((1 : Int32) <<< (v3 &&& 31)))), (0, .ref a0), (1, .int p1), (3, .int v3)]) S.1 S.2.1 (dd_at ddX11_whose 37 rfl) rfl hl (by decide) rfl (fun ls hl => ?_)
          refine lv_iinc (v := v3 + 1) (lv' := [(3, .int (v3 + 1)), (2, .int (v2 ||| ((1 : Int32) <<< (v3 &&& 31)))), (0, .ref a0), (1, .int p1)]) S.1 S.2.1 (dd_at ddX11_whose 38 rfl) hl (k := 3) rfl rfl (by decide) rfl (fun ls hl => ?_)
          refine lv_goto (tgt := 30) S.1 S.2.1 (dd_at ddX11_whose 39 rfl) (by decide) ?_
          exact ih30 (v2 ||| ((1 : Int32) <<< (v3 &&& 31))) (v3 + 1) d_4 H locs ls h hw (lv_sub hl [2, 3, 1, 0] rfl)
  refine lv_aload_n S.1 S.2.1 (dd_at ddX11_whose 0 rfl) rfl (lv_at hl 0 rfl) ?_
  refine lv_iconst (v := 0) S.1 S.2.1 (dd_at ddX11_whose 1 rfl) (by decide) ?_
  refine r_putI S hw 11 0 (ty := .int) (v := 0) rfl inG11 tyX11 tyX11_ok nmX11 (by decide) (List.mem_cons_of_mem _ wg201) (by decide) rfl (by decide +kernel) rfl rfl ha0 (dd_at ddX11_whose 2 rfl) (fun H locs hw => ?_)
  refine lv_aload_n S.1 S.2.1 (dd_at ddX11_whose 3 rfl) rfl (lv_at hl 0 rfl) ?_
  refine lv_aload_n S.1 S.2.1 (dd_at ddX11_whose 4 rfl) rfl (lv_at hl 0 rfl) ?_
  refine lv_iload_n S.1 S.2.1 (dd_at ddX11_whose 5 rfl) rfl (lv_at hl 1 rfl) ?_
  refine lv_bipush (v := 6) S.1 S.2.1 (dd_at ddX11_whose 6 rfl) (by decide) ?_
  refine r_callI hw (r_runV (As := [.int p1, .int 6]) (rest := [.ref a0]) S hw (m_X11_none l D cs E (pI d a0 0 0) H.size a0 p1 6 _) (cwV 2 S.2.2.2.2 (gV wg592 wg593 wg594 wg5 wg595) rfl rfl rfl (by decide +kernel) ⟨Nat.le_of_ble_eq_true rfl, Nat.le_of_ble_eq_true rfl⟩) (ci := 11) rfl ha0 h rfl hl.1 rfl (Nat.le_of_ble_eq_true rfl) (dd_at ddX11_whose 7 rfl) ⟨Nat.le_of_ble_eq_true rfl, Nat.le_of_ble_eq_true rfl⟩) (fun r_8 d_7 H locs h hw => ?_)
  refine lv_iconst (v := 1) S.1 S.2.1 (dd_at ddX11_whose 8 rfl) (by decide) ?_
  refine r_callI hw (r_runV (As := [.int r_8, .int 1]) (rest := []) S hw (m_X11_throwsIf l D cs E d_7 H.size a0 r_8 1 _) (cwV 2 S.2.2.2.2 (gV wg421 wg422 wg423 wg5 wg424) rfl rfl rfl (by decide +kernel) ⟨Nat.le_of_ble_eq_true rfl, Nat.le_of_ble_eq_true rfl⟩) (ci := 11) rfl ha0 h rfl hl.1 rfl (Nat.le_of_ble_eq_true rfl) (dd_at ddX11_whose 9 rfl) ⟨Nat.le_of_ble_eq_true rfl, Nat.le_of_ble_eq_true rfl⟩) (fun r_10 d_9 H locs h hw => ?_)
  refine lv_if_eq (tgt := 22) S.1 S.2.1 (dd_at ddX11_whose 10 rfl) (by decide) (fun hc_11 => ?_) (fun hc_11 => ?_)
  · have h := h.1 hc_11
    refine lv_aload_n S.1 S.2.1 (dd_at ddX11_whose 13 rfl) rfl (lv_at hl 0 rfl) ?_
    refine r_callV hw (r_runV (As := []) (rest := []) S hw (m_X11_goesToday l D cs E d_9 H.size a0 _) (cwV 0 S.2.2.2.2 (gV wg1192 wg1193 wg1194 wg5 wg1195) rfl rfl rfl (by decide +kernel) ⟨Nat.le_of_ble_eq_true rfl, Nat.le_of_ble_eq_true rfl⟩) (ci := 11) rfl ha0 h rfl hl.1 rfl (Nat.le_of_ble_eq_true rfl) (dd_at ddX11_whose 14 rfl) ⟨Nat.le_of_ble_eq_true rfl, Nat.le_of_ble_eq_true rfl⟩) (fun d_12 H locs h hw => ?_)
    refine lv_iconst (v := 0) S.1 S.2.1 (dd_at ddX11_whose 15 rfl) (by decide) ?_
    refine lv_istore_n (lv' := [(2, .int 0), (0, .ref a0), (1, .int p1)]) S.1 S.2.1 (dd_at ddX11_whose 16 rfl) rfl hl (by decide) rfl (fun ls hl => ?_)
    refine lv_iconst (v := 0) S.1 S.2.1 (dd_at ddX11_whose 17 rfl) (by decide) ?_
    refine lv_istore_n (lv' := [(3, .int 0), (2, .int 0), (0, .ref a0), (1, .int p1)]) S.1 S.2.1 (dd_at ddX11_whose 18 rfl) rfl hl (by decide) rfl (fun ls hl => ?_)
    obtain ⟨n_14, h⟩ := h
    exact tl30 n_14 0 0 d_12 H locs ls h hw (lv_sub hl [2, 3, 1, 0] rfl)
  · have h := h.2 hc_11
    refine lv_iconst (v := 0) S.1 S.2.1 (dd_at ddX11_whose 11 rfl) (by decide) ?_
    exact e_I S hr hlocks hw h (dd_at ddX11_whose 12 rfl)

def b_X11_photo_74 (E : En) (a0 : Nat) (p1 : Int32) (p2 : Int32) (p3 : Int32) (K : Int32 → Dy → Prop) (s0 : Nat) (s1 : Int32) (d : Dy) : Prop := okO E s0 11 ∧ w_X11_throwsIf E s0 s1 3 d (fun r_2 d_1 => ((r_2 = 0 → w_X11_puts E a0 7 444 p1 p2 p3 d_1 (fun r_5 d_4 => K r_5 d_4)) ∧ (¬ r_2 = 0 → K 0 d_1)))
def b_X11_photo_49 (E : En) (a0 : Nat) (p1 : Int32) (p2 : Int32) (p3 : Int32) (K : Int32 → Dy → Prop) (s0 : Nat) (s1 : Int32) (d : Dy) : Prop := okO E s0 11 ∧ w_X11_throwsIf E s0 s1 2 d (fun r_7 d_6 => ((¬ r_7 = 0 → K 0 d_6) ∧ (r_7 = 0 → ∃ b_9 : Nat, eR E a0 1 = some b_9 ∧ okA E b_9 13 ∧ vp_in 7 (eN E b_9) ∧ ((¬ (gA d_6 b_9 ((7 : Int32)).toNatClampNeg) = 20 → b_X11_photo_74 E a0 p1 p2 p3 K a0 0 d_6) ∧ ((gA d_6 b_9 ((7 : Int32)).toNatClampNeg) = 20 → b_X11_photo_74 E a0 p1 p2 p3 K a0 1 d_6)))))
def b_X11_photo_26 (E : En) (a0 : Nat) (p1 : Int32) (p2 : Int32) (p3 : Int32) (K : Int32 → Dy → Prop) (s0 : Nat) (s1 : Int32) (d : Dy) : Prop := okO E s0 11 ∧ w_X11_throwsIf E s0 s1 1 d (fun r_15 d_14 => ((¬ r_15 = 0 → K 0 d_14) ∧ (r_15 = 0 → w_X11_in E p3 0 7 d_14 (fun r_18 d_17 => ((¬ r_18 = 0 → b_X11_photo_49 E a0 p1 p2 p3 K a0 0 d_17) ∧ (r_18 = 0 → b_X11_photo_49 E a0 p1 p2 p3 K a0 1 d_17))))))
def b_X11_photo_21 (E : En) (a0 : Nat) (p1 : Int32) (p2 : Int32) (p3 : Int32) (K : Int32 → Dy → Prop) (s0 : Nat) (d : Dy) : Prop := okO E s0 11 ∧ b_X11_photo_26 E a0 p1 p2 p3 K s0 1 d
def w_X11_photo (E : En) (a0 : Nat) (p1 : Int32) (p2 : Int32) (p3 : Int32) (d : Dy) (K : Int32 → Dy → Prop) : Prop := okO E a0 11 ∧ w_X11_noHut E a0 p1 (pI d a0 0 0) (fun r_21 d_20 => ((¬ r_21 = 0 → b_X11_photo_21 E a0 p1 p2 p3 K a0 d_20) ∧ (r_21 = 0 → w_X11_noYear E p2 d_20 (fun r_24 d_23 => ((r_24 = 0 → b_X11_photo_26 E a0 p1 p2 p3 K a0 0 d_23) ∧ (¬ r_24 = 0 → b_X11_photo_21 E a0 p1 p2 p3 K a0 d_23))))))
abbrev rm_X11_photo : Room := { frames := 3, cells := 0, slots := 0, locals := 65 }
set_option maxRecDepth 100000 in
set_option maxHeartbeats 4000000 in
theorem m_X11_photo (l : Launch) (D : va_G) (cs : Nat → ClassId) (E : En) (d : Dy) (sz : Nat) (a0 : Nat) (p1 : Int32) (p2 : Int32) (p3 : Int32) (K : Int32 → Dy → Prop) : CI l yX11_photo (.code yX11_photo cX11_photo 4 (some .int) :: wsL_law) rm_X11_photo D cs E d sz [.ref a0, .int p1, .int p2, .int p3] (w_X11_photo E a0 p1 p2 p3 d K) K := by
  refine e_of (cc := cX11_photo) (maxL := 4) (ret := (some .int)) (own := RX11) (by decide) rfl rfl (Nat.le_of_ble_eq_true rfl) ?_
  intro p e s m below meth c S hr hlocks hsz H locs hw h ls hl
  have hl : lv_has ls 4 [(0, .ref a0), (1, .int p1), (2, .int p2), (3, .int p3)] := hl
  unfold w_X11_photo at h
  obtain ⟨ha0, h⟩ := h
  have tb74 : ∀ (s0 : Nat) (s1 : Int32) (d : Dy) (H : Heap) (locs : List Loc) (ls : Array Slot), b_X11_photo_74 E a0 p1 p2 p3 K s0 s1 d → Wd D cs (AW E sz) s.heap s E d H locs → lv_has ls 4 [(0, .ref a0), (1, .int p1), (2, .int p2), (3, .int p3)] → W p l e rm_X11_photo s m ([.ref a0, .int p1, .int p2, .int p3] : List Value).toArray below meth c H locs 0 0 (MQ below (va_Qi K (OutW D cs E (AW E sz)) (AW E sz)) ([.ref a0, .int p1, .int p2, .int p3] : List Value).toArray s rm_X11_photo.cells rm_X11_photo.slots (AW E sz)) (F0 m 74 ls [.int s1, .ref s0]) := by
    intro s0 s1 d H locs ls h hw hl
    unfold b_X11_photo_74 at h
    obtain ⟨hos0, h⟩ := h
    refine lv_iconst (v := 3) S.1 S.2.1 (dd_at ddX11_photo 39 rfl) (by decide) ?_
    refine r_callI hw (r_runV (As := [.int s1, .int 3]) (rest := []) S hw (m_X11_throwsIf l D cs E d H.size s0 s1 3 _) (cwV 2 S.2.2.2.2 (gV wg421 wg422 wg423 wg5 wg424) rfl rfl rfl (by decide +kernel) ⟨Nat.le_of_ble_eq_true rfl, Nat.le_of_ble_eq_true rfl⟩) (ci := 11) rfl hos0 h rfl hl.1 rfl (Nat.le_of_ble_eq_true rfl) (dd_at ddX11_photo 40 rfl) ⟨Nat.le_of_ble_eq_true rfl, Nat.le_of_ble_eq_true rfl⟩) (fun r_2 d_1 H locs h hw => ?_)
    refine lv_if_eq (tgt := 83) S.1 S.2.1 (dd_at ddX11_photo 41 rfl) (by decide) (fun hc_3 => ?_) (fun hc_3 => ?_)
    · have h := h.1 hc_3
      refine lv_aload_n S.1 S.2.1 (dd_at ddX11_photo 44 rfl) rfl (lv_at hl 0 rfl) ?_
      refine lv_bipush (v := 7) S.1 S.2.1 (dd_at ddX11_photo 45 rfl) (by decide) ?_
      refine lv_sipush (v := 444) S.1 S.2.1 (dd_at ddX11_photo 46 rfl) (by decide) ?_
      refine lv_iload_n S.1 S.2.1 (dd_at ddX11_photo 47 rfl) rfl (lv_at hl 1 rfl) ?_
      refine lv_iload_n S.1 S.2.1 (dd_at ddX11_photo 48 rfl) rfl (lv_at hl 2 rfl) ?_
      refine lv_iload_n S.1 S.2.1 (dd_at ddX11_photo 49 rfl) rfl (lv_at hl 3 rfl) ?_
      refine r_callI hw (r_runV (As := [.int 7, .int 444, .int p1, .int p2, .int p3]) (rest := []) S hw (m_X11_puts l D cs E d_1 H.size a0 7 444 p1 p2 p3 _) (cwV 5 S.2.2.2.2 (gV wg562 wg563 wg564 wg5 wg565) rfl rfl rfl (by decide +kernel) ⟨Nat.le_of_ble_eq_true rfl, Nat.le_of_ble_eq_true rfl⟩) (ci := 11) rfl ha0 h rfl hl.1 rfl (Nat.le_of_ble_eq_true rfl) (dd_at ddX11_photo 50 rfl) ⟨Nat.le_of_ble_eq_true rfl, Nat.le_of_ble_eq_true rfl⟩) (fun r_5 d_4 H locs h hw => ?_)
      exact e_I S hr hlocks hw h (dd_at ddX11_photo 51 rfl)
    · have h := h.2 hc_3
      refine lv_iconst (v := 0) S.1 S.2.1 (dd_at ddX11_photo 42 rfl) (by decide) ?_
      exact e_I S hr hlocks hw h (dd_at ddX11_photo 43 rfl)
  have tb49 : ∀ (s0 : Nat) (s1 : Int32) (d : Dy) (H : Heap) (locs : List Loc) (ls : Array Slot), b_X11_photo_49 E a0 p1 p2 p3 K s0 s1 d → Wd D cs (AW E sz) s.heap s E d H locs → lv_has ls 4 [(0, .ref a0), (1, .int p1), (2, .int p2), (3, .int p3)] → W p l e rm_X11_photo s m ([.ref a0, .int p1, .int p2, .int p3] : List Value).toArray below meth c H locs 0 0 (MQ below (va_Qi K (OutW D cs E (AW E sz)) (AW E sz)) ([.ref a0, .int p1, .int p2, .int p3] : List Value).toArray s rm_X11_photo.cells rm_X11_photo.slots (AW E sz)) (F0 m 49 ls [.int s1, .ref s0]) := by
    intro s0 s1 d H locs ls h hw hl
    unfold b_X11_photo_49 at h
    obtain ⟨hos0, h⟩ := h
    refine lv_iconst (v := 2) S.1 S.2.1 (dd_at ddX11_photo 26 rfl) (by decide) ?_
    refine r_callI hw (r_runV (As := [.int s1, .int 2]) (rest := []) S hw (m_X11_throwsIf l D cs E d H.size s0 s1 2 _) (cwV 2 S.2.2.2.2 (gV wg421 wg422 wg423 wg5 wg424) rfl rfl rfl (by decide +kernel) ⟨Nat.le_of_ble_eq_true rfl, Nat.le_of_ble_eq_true rfl⟩) (ci := 11) rfl hos0 h rfl hl.1 rfl (Nat.le_of_ble_eq_true rfl) (dd_at ddX11_photo 27 rfl) ⟨Nat.le_of_ble_eq_true rfl, Nat.le_of_ble_eq_true rfl⟩) (fun r_7 d_6 H locs h hw => ?_)
    refine lv_if_ne (tgt := 81) S.1 S.2.1 (dd_at ddX11_photo 28 rfl) (by decide) (fun hc_8 => ?_) (fun hc_8 => ?_)
    · have h := h.1 hc_8
      refine lv_iconst (v := 0) S.1 S.2.1 (dd_at ddX11_photo 42 rfl) (by decide) ?_
      exact e_I S hr hlocks hw h (dd_at ddX11_photo 43 rfl)
    · have h := h.2 hc_8
      refine lv_aload_n S.1 S.2.1 (dd_at ddX11_photo 29 rfl) rfl (lv_at hl 0 rfl) ?_
      refine lv_aload_n S.1 S.2.1 (dd_at ddX11_photo 30 rfl) rfl (lv_at hl 0 rfl) ?_
      obtain ⟨b_9, hb_10, ho_11, h⟩ := h
      refine r_getR S hw 11 1 rfl inG11 (by decide) (List.mem_cons_of_mem _ wg150) (by decide) ha0 hb_10 (dd_at ddX11_photo 31 rfl) ?_
      refine lv_bipush (v := 7) S.1 S.2.1 (dd_at ddX11_photo 32 rfl) (by decide) ?_
      obtain ⟨hx_12, h⟩ := h
      refine r_iald S hw ho_11 hx_12 (dd_at ddX11_photo 33 rfl) ?_
      refine lv_bipush (v := 20) S.1 S.2.1 (dd_at ddX11_photo 34 rfl) (by decide) ?_
      refine lv_icmp_ne (tgt := 73) S.1 S.2.1 (dd_at ddX11_photo 35 rfl) (by decide) (fun hc_13 => ?_) (fun hc_13 => ?_)
      · have h := h.1 hc_13
        refine lv_iconst (v := 0) S.1 S.2.1 (dd_at ddX11_photo 38 rfl) (by decide) ?_
        exact tb74 a0 0 d_6 H locs ls h hw (lv_sub hl [0, 1, 2, 3] rfl)
      · have h := h.2 hc_13
        refine lv_iconst (v := 1) S.1 S.2.1 (dd_at ddX11_photo 36 rfl) (by decide) ?_
        refine lv_goto (tgt := 74) S.1 S.2.1 (dd_at ddX11_photo 37 rfl) (by decide) ?_
        exact tb74 a0 1 d_6 H locs ls h hw (lv_sub hl [0, 1, 2, 3] rfl)
  have tb26 : ∀ (s0 : Nat) (s1 : Int32) (d : Dy) (H : Heap) (locs : List Loc) (ls : Array Slot), b_X11_photo_26 E a0 p1 p2 p3 K s0 s1 d → Wd D cs (AW E sz) s.heap s E d H locs → lv_has ls 4 [(0, .ref a0), (1, .int p1), (2, .int p2), (3, .int p3)] → W p l e rm_X11_photo s m ([.ref a0, .int p1, .int p2, .int p3] : List Value).toArray below meth c H locs 0 0 (MQ below (va_Qi K (OutW D cs E (AW E sz)) (AW E sz)) ([.ref a0, .int p1, .int p2, .int p3] : List Value).toArray s rm_X11_photo.cells rm_X11_photo.slots (AW E sz)) (F0 m 26 ls [.int s1, .ref s0]) := by
    intro s0 s1 d H locs ls h hw hl
    unfold b_X11_photo_26 at h
    obtain ⟨hos0, h⟩ := h
    refine lv_iconst (v := 1) S.1 S.2.1 (dd_at ddX11_photo 14 rfl) (by decide) ?_
    refine r_callI hw (r_runV (As := [.int s1, .int 1]) (rest := []) S hw (m_X11_throwsIf l D cs E d H.size s0 s1 1 _) (cwV 2 S.2.2.2.2 (gV wg421 wg422 wg423 wg5 wg424) rfl rfl rfl (by decide +kernel) ⟨Nat.le_of_ble_eq_true rfl, Nat.le_of_ble_eq_true rfl⟩) (ci := 11) rfl hos0 h rfl hl.1 rfl (Nat.le_of_ble_eq_true rfl) (dd_at ddX11_photo 15 rfl) ⟨Nat.le_of_ble_eq_true rfl, Nat.le_of_ble_eq_true rfl⟩) (fun r_15 d_14 H locs h hw => ?_)
    refine lv_if_ne (tgt := 81) S.1 S.2.1 (dd_at ddX11_photo 16 rfl) (by decide) (fun hc_16 => ?_) (fun hc_16 => ?_)
    · have h := h.1 hc_16
      refine lv_iconst (v := 0) S.1 S.2.1 (dd_at ddX11_photo 42 rfl) (by decide) ?_
      exact e_I S hr hlocks hw h (dd_at ddX11_photo 43 rfl)
    · have h := h.2 hc_16
      refine lv_aload_n S.1 S.2.1 (dd_at ddX11_photo 17 rfl) rfl (lv_at hl 0 rfl) ?_
      refine lv_iload_n S.1 S.2.1 (dd_at ddX11_photo 18 rfl) rfl (lv_at hl 3 rfl) ?_
      refine lv_iconst (v := 0) S.1 S.2.1 (dd_at ddX11_photo 19 rfl) (by decide) ?_
      refine lv_bipush (v := 7) S.1 S.2.1 (dd_at ddX11_photo 20 rfl) (by decide) ?_
      refine r_callI hw (r_runS (As := [.int p3, .int 0, .int 7]) (rest := [.ref a0]) S hw (m_X11_in l D cs E d_14 H.size p3 0 7 _) (va_cwS 3 S.2.2.2.2 (gS wg418 wg419 wg5 wg420) rfl rfl rfl (by decide +kernel) ⟨Nat.le_of_ble_eq_true rfl, Nat.le_of_ble_eq_true rfl⟩) h rfl hl.1 rfl (Nat.le_of_ble_eq_true rfl) (dd_at ddX11_photo 21 rfl) ⟨Nat.le_of_ble_eq_true rfl, Nat.le_of_ble_eq_true rfl⟩) (fun r_18 d_17 H locs h hw => ?_)
      refine lv_if_ne (tgt := 48) S.1 S.2.1 (dd_at ddX11_photo 22 rfl) (by decide) (fun hc_19 => ?_) (fun hc_19 => ?_)
      · have h := h.1 hc_19
        refine lv_iconst (v := 0) S.1 S.2.1 (dd_at ddX11_photo 25 rfl) (by decide) ?_
        exact tb49 a0 0 d_17 H locs ls h hw (lv_sub hl [0, 1, 2, 3] rfl)
      · have h := h.2 hc_19
        refine lv_iconst (v := 1) S.1 S.2.1 (dd_at ddX11_photo 23 rfl) (by decide) ?_
        refine lv_goto (tgt := 49) S.1 S.2.1 (dd_at ddX11_photo 24 rfl) (by decide) ?_
        exact tb49 a0 1 d_17 H locs ls h hw (lv_sub hl [0, 1, 2, 3] rfl)
  have tb21 : ∀ (s0 : Nat) (d : Dy) (H : Heap) (locs : List Loc) (ls : Array Slot), b_X11_photo_21 E a0 p1 p2 p3 K s0 d → Wd D cs (AW E sz) s.heap s E d H locs → lv_has ls 4 [(0, .ref a0), (1, .int p1), (2, .int p2), (3, .int p3)] → W p l e rm_X11_photo s m ([.ref a0, .int p1, .int p2, .int p3] : List Value).toArray below meth c H locs 0 0 (MQ below (va_Qi K (OutW D cs E (AW E sz)) (AW E sz)) ([.ref a0, .int p1, .int p2, .int p3] : List Value).toArray s rm_X11_photo.cells rm_X11_photo.slots (AW E sz)) (F0 m 21 ls [.ref s0]) := by
    intro s0 d H locs ls h hw hl
    unfold b_X11_photo_21 at h
    obtain ⟨hos0, h⟩ := h
    refine lv_iconst (v := 1) S.1 S.2.1 (dd_at ddX11_photo 11 rfl) (by decide) ?_
    refine lv_goto (tgt := 26) S.1 S.2.1 (dd_at ddX11_photo 12 rfl) (by decide) ?_
    exact tb26 s0 1 d H locs ls h hw (lv_sub hl [0, 1, 2, 3] rfl)
  refine lv_aload_n S.1 S.2.1 (dd_at ddX11_photo 0 rfl) rfl (lv_at hl 0 rfl) ?_
  refine lv_iconst (v := 0) S.1 S.2.1 (dd_at ddX11_photo 1 rfl) (by decide) ?_
  refine r_putI S hw 11 0 (ty := .int) (v := 0) rfl inG11 tyX11 tyX11_ok nmX11 (by decide) (List.mem_cons_of_mem _ wg201) (by decide) rfl (by decide +kernel) rfl rfl ha0 (dd_at ddX11_photo 2 rfl) (fun H locs hw => ?_)
  refine lv_aload_n S.1 S.2.1 (dd_at ddX11_photo 3 rfl) rfl (lv_at hl 0 rfl) ?_
  refine lv_aload_n S.1 S.2.1 (dd_at ddX11_photo 4 rfl) rfl (lv_at hl 0 rfl) ?_
  refine lv_iload_n S.1 S.2.1 (dd_at ddX11_photo 5 rfl) rfl (lv_at hl 1 rfl) ?_
  refine r_callI hw (r_runV (As := [.int p1]) (rest := [.ref a0]) S hw (m_X11_noHut l D cs E (pI d a0 0 0) H.size a0 p1 _) (cwV 1 S.2.2.2.2 (gV wg631 wg632 wg633 wg5 wg634) rfl rfl rfl (by decide +kernel) ⟨Nat.le_of_ble_eq_true rfl, Nat.le_of_ble_eq_true rfl⟩) (ci := 11) rfl ha0 h rfl hl.1 rfl (Nat.le_of_ble_eq_true rfl) (dd_at ddX11_photo 6 rfl) ⟨Nat.le_of_ble_eq_true rfl, Nat.le_of_ble_eq_true rfl⟩) (fun r_21 d_20 H locs h hw => ?_)
  refine lv_if_ne (tgt := 21) S.1 S.2.1 (dd_at ddX11_photo 7 rfl) (by decide) (fun hc_22 => ?_) (fun hc_22 => ?_)
  · have h := h.1 hc_22
    exact tb21 a0 d_20 H locs ls h hw (lv_sub hl [0, 1, 2, 3] rfl)
  · have h := h.2 hc_22
    refine lv_iload_n S.1 S.2.1 (dd_at ddX11_photo 8 rfl) rfl (lv_at hl 2 rfl) ?_
    refine r_callI hw (r_runS (As := [.int p2]) (rest := [.ref a0]) S hw (m_X11_noYear l D cs E d_20 H.size p2 _) (va_cwS 1 S.2.2.2.2 (gS wg555 wg556 wg5 wg557) rfl rfl rfl (by decide +kernel) ⟨Nat.le_of_ble_eq_true rfl, Nat.le_of_ble_eq_true rfl⟩) h rfl hl.1 rfl (Nat.le_of_ble_eq_true rfl) (dd_at ddX11_photo 9 rfl) ⟨Nat.le_of_ble_eq_true rfl, Nat.le_of_ble_eq_true rfl⟩) (fun r_24 d_23 H locs h hw => ?_)
    refine lv_if_eq (tgt := 25) S.1 S.2.1 (dd_at ddX11_photo 10 rfl) (by decide) (fun hc_25 => ?_) (fun hc_25 => ?_)
    · have h := h.1 hc_25
      refine lv_iconst (v := 0) S.1 S.2.1 (dd_at ddX11_photo 13 rfl) (by decide) ?_
      exact tb26 a0 0 d_23 H locs ls h hw (lv_sub hl [0, 1, 2, 3] rfl)
    · have h := h.2 hc_25
      exact tb21 a0 d_23 H locs ls h hw (lv_sub hl [0, 1, 2, 3] rfl)

def b_X11_allowedIn_60 (E : En) (a0 : Nat) (p1 : Int32) (p2 : Int32) (K : Int32 → Dy → Prop) (k60 : Int32 → Int32 → Dy → Prop) (v3 : Int32) (v4 : Int32) (d : Dy) : Prop := ∃ b_1 : Nat, eR E a0 1 = some b_1 ∧ okA E b_1 13 ∧ w_X11_textAt E 3 d (fun r_5 d_4 => vp_in r_5 (eN E b_1) ∧ (((gA d_4 b_1 (r_5).toNatClampNeg) ≤ v4 → K v3 d_4) ∧ (¬ (gA d_4 b_1 (r_5).toNatClampNeg) ≤ v4 → w_X11_holdsLine E a0 3 v4 d_4 (fun r_9 d_8 => ((r_9 = 0 → k60 v3 (v4 + 1) d_8) ∧ (¬ r_9 = 0 → ∃ b_11 : Nat, eR E a0 1 = some b_11 ∧ okA E b_11 13 ∧ w_X11_lineAt E 3 v4 d_8 (fun r_15 d_14 => vp_in (r_15 + 1) (eN E b_11) ∧ k60 (v3 ||| ((1 : Int32) <<< ((gA d_14 b_11 (r_15 + 1).toNatClampNeg) &&& 31))) (v4 + 1) d_14)))))))
def l_X11_allowedIn_60 (E : En) (a0 : Nat) (p1 : Int32) (p2 : Int32) (K : Int32 → Dy → Prop) : Nat → Int32 → Int32 → Dy → Prop
  | 0 => fun _ _ _ => False
  | n + 1 => b_X11_allowedIn_60 E a0 p1 p2 K (l_X11_allowedIn_60 E a0 p1 p2 K n)
def w_X11_allowedIn (E : En) (a0 : Nat) (p1 : Int32) (p2 : Int32) (d : Dy) (K : Int32 → Dy → Prop) : Prop := okO E a0 11 ∧ ∃ b_17 : Nat, eR E a0 1 = some b_17 ∧ okA E b_17 13 ∧ vp_in 13 (eN E b_17) ∧ ((¬ (gA d b_17 ((13 : Int32)).toNatClampNeg) = 0 → ∃ b_22 : Nat, eR E a0 1 = some b_22 ∧ okA E b_22 13 ∧ vp_in 3 (eN E b_22) ∧ w_X11_goes E a0 p2 (gA d b_22 ((3 : Int32)).toNatClampNeg) d (fun d_26 => ∃ b_28 : Nat, eR E a0 14 = some b_28 ∧ okA E b_28 13 ∧ w_X11_ofHut E a0 p1 0 d_26 (fun r_32 d_31 => vp_in 4 (eN E b_28) ∧ ∃ b_34 : Nat, eR E a0 14 = some b_34 ∧ okA E b_34 13 ∧ w_X11_rowPlace E a0 p1 (pA d_31 b_28 ((4 : Int32)).toNatClampNeg r_32) (fun r_38 d_37 => vp_in 5 (eN E b_34) ∧ ∃ b_40 : Nat, eR E a0 14 = some b_40 ∧ okA E b_40 13 ∧ vp_in 3 (eN E b_40) ∧ (∃ n_44 : Nat, l_X11_allowedIn_60 E a0 p1 p2 K n_44 0 0 (pA (pA d_37 b_34 ((5 : Int32)).toNatClampNeg r_38) b_40 ((3 : Int32)).toNatClampNeg p2)))))) ∧ ((gA d b_17 ((13 : Int32)).toNatClampNeg) = 0 → K 255 d))
abbrev rm_X11_allowedIn : Room := { frames := 7, cells := 0, slots := 0, locals := 167 }
set_option maxRecDepth 100000 in
set_option maxHeartbeats 4000000 in
theorem m_X11_allowedIn (l : Launch) (D : va_G) (cs : Nat → ClassId) (E : En) (d : Dy) (sz : Nat) (a0 : Nat) (p1 : Int32) (p2 : Int32) (K : Int32 → Dy → Prop) : CI l yX11_allowedIn (.code yX11_allowedIn cX11_allowedIn 5 (some .int) :: wsL_law) rm_X11_allowedIn D cs E d sz [.ref a0, .int p1, .int p2] (w_X11_allowedIn E a0 p1 p2 d K) K := by
  refine e_of (cc := cX11_allowedIn) (maxL := 5) (ret := (some .int)) (own := RX11) (by decide) rfl rfl (Nat.le_of_ble_eq_true rfl) ?_
  intro p e s m below meth c S hr hlocks hsz H locs hw h ls hl
  have hl : lv_has ls 5 [(0, .ref a0), (1, .int p1), (2, .int p2)] := hl
  unfold w_X11_allowedIn at h
  obtain ⟨ha0, h⟩ := h
  have tl60 : ∀ (n : Nat) (v3 : Int32) (v4 : Int32) (d : Dy) (H : Heap) (locs : List Loc) (ls : Array Slot), l_X11_allowedIn_60 E a0 p1 p2 K n v3 v4 d → Wd D cs (AW E sz) s.heap s E d H locs → lv_has ls 5 [(0, .ref a0), (3, .int v3), (4, .int v4)] → W p l e rm_X11_allowedIn s m ([.ref a0, .int p1, .int p2] : List Value).toArray below meth c H locs 0 0 (MQ below (va_Qi K (OutW D cs E (AW E sz)) (AW E sz)) ([.ref a0, .int p1, .int p2] : List Value).toArray s rm_X11_allowedIn.cells rm_X11_allowedIn.slots (AW E sz)) (F0 m 60 ls []) := by
    intro n60
    induction n60 with
    | zero => intro v3 v4 d H locs ls h; exact absurd h id
    | succ n60 ih60 =>
      intro v3 v4 d H locs ls h hw hl
      have h : b_X11_allowedIn_60 E a0 p1 p2 K (l_X11_allowedIn_60 E a0 p1 p2 K n60) v3 v4 d := h
      unfold b_X11_allowedIn_60 at h
      refine lv_iload S.1 S.2.1 (dd_at ddX11_allowedIn 38 rfl) (lv_at hl 2 rfl) ?_
      refine lv_aload_n S.1 S.2.1 (dd_at ddX11_allowedIn 39 rfl) rfl (lv_at hl 0 rfl) ?_
      obtain ⟨b_1, hb_2, ho_3, h⟩ := h
      refine r_getR S hw 11 1 rfl inG11 (by decide) (List.mem_cons_of_mem _ wg150) (by decide) ha0 hb_2 (dd_at ddX11_allowedIn 40 rfl) ?_
      refine lv_iconst (v := 3) S.1 S.2.1 (dd_at ddX11_allowedIn 41 rfl) (by decide) ?_
      refine r_callI hw (r_runS (As := [.int 3]) (rest := [.ref b_1, .int v4]) S hw (m_X11_textAt l D cs E d H.size 3 _) (va_cwS 1 S.2.2.2.2 (gS wg449 wg450 wg5 wg451) rfl rfl rfl (by decide +kernel) ⟨Nat.le_of_ble_eq_true rfl, Nat.le_of_ble_eq_true rfl⟩) h rfl hl.1 rfl (Nat.le_of_ble_eq_true rfl) (dd_at ddX11_allowedIn 42 rfl) ⟨Nat.le_of_ble_eq_true rfl, Nat.le_of_ble_eq_true rfl⟩) (fun r_5 d_4 H locs h hw => ?_)
      obtain ⟨hx_6, h⟩ := h
      refine r_iald S hw ho_3 hx_6 (dd_at ddX11_allowedIn 43 rfl) ?_
      refine lv_icmp_ge (tgt := 108) S.1 S.2.1 (dd_at ddX11_allowedIn 44 rfl) (by decide) (fun hc_7 => ?_) (fun hc_7 => ?_)
      · have h := h.1 hc_7
        refine lv_iload_n S.1 S.2.1 (dd_at ddX11_allowedIn 65 rfl) rfl (lv_at hl 1 rfl) ?_
        exact e_I S hr hlocks hw h (dd_at ddX11_allowedIn 66 rfl)
      · have h := h.2 hc_7
        refine lv_aload_n S.1 S.2.1 (dd_at ddX11_allowedIn 45 rfl) rfl (lv_at hl 0 rfl) ?_
        refine lv_iconst (v := 3) S.1 S.2.1 (dd_at ddX11_allowedIn 46 rfl) (by decide) ?_
        refine lv_iload S.1 S.2.1 (dd_at ddX11_allowedIn 47 rfl) (lv_at hl 2 rfl) ?_
        refine r_callI hw (r_runV (As := [.int 3, .int v4]) (rest := []) S hw (m_X11_holdsLine l D cs E d_4 H.size a0 3 v4 _) (cwV 2 S.2.2.2.2 (gV wg860 wg861 wg862 wg5 wg863) rfl rfl rfl (by decide +kernel) ⟨Nat.le_of_ble_eq_true rfl, Nat.le_of_ble_eq_true rfl⟩) (ci := 11) rfl ha0 h rfl hl.1 rfl (Nat.le_of_ble_eq_true rfl) (dd_at ddX11_allowedIn 48 rfl) ⟨Nat.le_of_ble_eq_true rfl, Nat.le_of_ble_eq_true rfl⟩) (fun r_9 d_8 H locs h hw => ?_)
        refine lv_if_eq (tgt := 102) S.1 S.2.1 (dd_at ddX11_allowedIn 49 rfl) (by decide) (fun hc_10 => ?_) (fun hc_10 => ?_)
        · have h := h.1 hc_10
          refine lv_iinc (v := v4 + 1) (lv' := [(4, .int (v4 + 1)), (0, .ref a0), (3, .int v3)]) S.1 S.2.1 (dd_at ddX11_allowedIn 63 rfl) hl (k := 2) rfl rfl (by decide) rfl (fun ls hl => ?_)
          refine lv_goto (tgt := 60) S.1 S.2.1 (dd_at ddX11_allowedIn 64 rfl) (by decide) ?_
          exact ih60 v3 (v4 + 1) d_8 H locs ls h hw (lv_sub hl [1, 2, 0] rfl)
        · have h := h.2 hc_10
          refine lv_iload_n S.1 S.2.1 (dd_at ddX11_allowedIn 50 rfl) rfl (lv_at hl 1 rfl) ?_
          refine lv_iconst (v := 1) S.1 S.2.1 (dd_at ddX11_allowedIn 51 rfl) (by decide) ?_
          refine lv_aload_n S.1 S.2.1 (dd_at ddX11_allowedIn 52 rfl) rfl (lv_at hl 0 rfl) ?_
          obtain ⟨b_11, hb_12, ho_13, h⟩ := h
          refine r_getR S hw 11 1 rfl inG11 (by decide) (List.mem_cons_of_mem _ wg150) (by decide) ha0 hb_12 (dd_at ddX11_allowedIn 53 rfl) ?_
          refine lv_iconst (v := 3) S.1 S.2.1 (dd_at ddX11_allowedIn 54 rfl) (by decide) ?_
          refine lv_iload S.1 S.2.1 (dd_at ddX11_allowedIn 55 rfl) (lv_at hl 2 rfl) ?_
          refine r_callI hw (r_runS (As := [.int 3, .int v4]) (rest := [.ref b_11, .int 1, .int v3]) S hw (m_X11_lineAt l D cs E d_8 H.size 3 v4 _) (va_cwS 2 S.2.2.2.2 (gS wg446 wg447 wg5 wg448) rfl rfl rfl (by decide +kernel) ⟨Nat.le_of_ble_eq_true rfl, Nat.le_of_ble_eq_true rfl⟩) h rfl hl.1 rfl (Nat.le_of_ble_eq_true rfl) (dd_at ddX11_allowedIn 56 rfl) ⟨Nat.le_of_ble_eq_true rfl, Nat.le_of_ble_eq_true rfl⟩) (fun r_15 d_14 H locs h hw => ?_)
          refine lv_iconst (v := 1) S.1 S.2.1 (dd_at ddX11_allowedIn 57 rfl) (by decide) ?_
          refine lv_iadd S.1 S.2.1 (dd_at ddX11_allowedIn 58 rfl) ?_
          obtain ⟨hx_16, h⟩ := h
          refine r_iald S hw ho_13 hx_16 (dd_at ddX11_allowedIn 59 rfl) ?_
          refine lv_ishl S.1 S.2.1 (dd_at ddX11_allowedIn 60 rfl) ?_
          refine lv_ior S.1 S.2.1 (dd_at ddX11_allowedIn 61 rfl) ?_
          refine lv_istore_n (lv' := [(3, .int (v3 ||| ((1 : Int32) <<< ((gA d_14 b_11 (r_15 + 1).toNatClampNeg) &&& 31)))), (0, .ref a0), (4, .int v4)]) S.1 S.2.1 (dd_at ddX11_allowedIn 62 rfl) rfl hl (by decide) rfl (fun ls hl => ?_)
          refine lv_iinc (v := v4 + 1) (lv' := [(4, .int (v4 + 1)), (3, .int (v3 ||| ((1 : Int32) <<< ((gA d_14 b_11 (r_15 + 1).toNatClampNeg) &&& 31)))), (0, .ref a0)]) S.1 S.2.1 (dd_at ddX11_allowedIn 63 rfl) hl (k := 2) rfl rfl (by decide) rfl (fun ls hl => ?_)
          refine lv_goto (tgt := 60) S.1 S.2.1 (dd_at ddX11_allowedIn 64 rfl) (by decide) ?_
          exact ih60 (v3 ||| ((1 : Int32) <<< ((gA d_14 b_11 (r_15 + 1).toNatClampNeg) &&& 31))) (v4 + 1) d_14 H locs ls h hw (lv_sub hl [2, 1, 0] rfl)
  refine lv_aload_n S.1 S.2.1 (dd_at ddX11_allowedIn 0 rfl) rfl (lv_at hl 0 rfl) ?_
  obtain ⟨b_17, hb_18, ho_19, h⟩ := h
  refine r_getR S hw 11 1 rfl inG11 (by decide) (List.mem_cons_of_mem _ wg150) (by decide) ha0 hb_18 (dd_at ddX11_allowedIn 1 rfl) ?_
  refine lv_bipush (v := 13) S.1 S.2.1 (dd_at ddX11_allowedIn 2 rfl) (by decide) ?_
  obtain ⟨hx_20, h⟩ := h
  refine r_iald S hw ho_19 hx_20 (dd_at ddX11_allowedIn 3 rfl) ?_
  refine lv_if_ne (tgt := 14) S.1 S.2.1 (dd_at ddX11_allowedIn 4 rfl) (by decide) (fun hc_21 => ?_) (fun hc_21 => ?_)
  · have h := h.1 hc_21
    refine lv_aload_n S.1 S.2.1 (dd_at ddX11_allowedIn 7 rfl) rfl (lv_at hl 0 rfl) ?_
    refine lv_iload_n S.1 S.2.1 (dd_at ddX11_allowedIn 8 rfl) rfl (lv_at hl 2 rfl) ?_
    refine lv_aload_n S.1 S.2.1 (dd_at ddX11_allowedIn 9 rfl) rfl (lv_at hl 0 rfl) ?_
    obtain ⟨b_22, hb_23, ho_24, h⟩ := h
    refine r_getR S hw 11 1 rfl inG11 (by decide) (List.mem_cons_of_mem _ wg150) (by decide) ha0 hb_23 (dd_at ddX11_allowedIn 10 rfl) ?_
    refine lv_iconst (v := 3) S.1 S.2.1 (dd_at ddX11_allowedIn 11 rfl) (by decide) ?_
    obtain ⟨hx_25, h⟩ := h
    refine r_iald S hw ho_24 hx_25 (dd_at ddX11_allowedIn 12 rfl) ?_
    refine r_callV hw (r_runV (As := [.int p2, .int (gA d b_22 ((3 : Int32)).toNatClampNeg)]) (rest := []) S hw (m_X11_goes l D cs E d H.size a0 p2 (gA d b_22 ((3 : Int32)).toNatClampNeg) _) (cwV 2 S.2.2.2.2 (gV wg814 wg815 wg816 wg5 wg817) rfl rfl rfl (by decide +kernel) ⟨Nat.le_of_ble_eq_true rfl, Nat.le_of_ble_eq_true rfl⟩) (ci := 11) rfl ha0 h rfl hl.1 rfl (Nat.le_of_ble_eq_true rfl) (dd_at ddX11_allowedIn 13 rfl) ⟨Nat.le_of_ble_eq_true rfl, Nat.le_of_ble_eq_true rfl⟩) (fun d_26 H locs h hw => ?_)
    refine lv_aload_n S.1 S.2.1 (dd_at ddX11_allowedIn 14 rfl) rfl (lv_at hl 0 rfl) ?_
    obtain ⟨b_28, hb_29, ho_30, h⟩ := h
    refine r_getR S hw 11 14 rfl inG11 (by decide) (List.mem_cons_of_mem _ wg156) (by decide) ha0 hb_29 (dd_at ddX11_allowedIn 15 rfl) ?_
    refine lv_iconst (v := 4) S.1 S.2.1 (dd_at ddX11_allowedIn 16 rfl) (by decide) ?_
    refine lv_aload_n S.1 S.2.1 (dd_at ddX11_allowedIn 17 rfl) rfl (lv_at hl 0 rfl) ?_
    refine lv_iload_n S.1 S.2.1 (dd_at ddX11_allowedIn 18 rfl) rfl (lv_at hl 1 rfl) ?_
    refine lv_iconst (v := 0) S.1 S.2.1 (dd_at ddX11_allowedIn 19 rfl) (by decide) ?_
    refine r_callI hw (r_runV (As := [.int p1, .int 0]) (rest := [.int 4, .ref b_28]) S hw (m_X11_ofHut l D cs E d_26 H.size a0 p1 0 _) (cwV 2 S.2.2.2.2 (gV wg827 wg828 wg829 wg5 wg830) rfl rfl rfl (by decide +kernel) ⟨Nat.le_of_ble_eq_true rfl, Nat.le_of_ble_eq_true rfl⟩) (ci := 11) rfl ha0 h rfl hl.1 rfl (Nat.le_of_ble_eq_true rfl) (dd_at ddX11_allowedIn 20 rfl) ⟨Nat.le_of_ble_eq_true rfl, Nat.le_of_ble_eq_true rfl⟩) (fun r_32 d_31 H locs h hw => ?_)
    obtain ⟨hx_33, h⟩ := h
    refine r_iast S hw ho_30 hx_33 (dd_at ddX11_allowedIn 21 rfl) (fun H locs hw => ?_)
    refine lv_aload_n S.1 S.2.1 (dd_at ddX11_allowedIn 22 rfl) rfl (lv_at hl 0 rfl) ?_
    obtain ⟨b_34, hb_35, ho_36, h⟩ := h
    refine r_getR S hw 11 14 rfl inG11 (by decide) (List.mem_cons_of_mem _ wg156) (by decide) ha0 hb_35 (dd_at ddX11_allowedIn 23 rfl) ?_
    refine lv_iconst (v := 5) S.1 S.2.1 (dd_at ddX11_allowedIn 24 rfl) (by decide) ?_
    refine lv_aload_n S.1 S.2.1 (dd_at ddX11_allowedIn 25 rfl) rfl (lv_at hl 0 rfl) ?_
    refine lv_iload_n S.1 S.2.1 (dd_at ddX11_allowedIn 26 rfl) rfl (lv_at hl 1 rfl) ?_
    refine r_callI hw (r_runV (As := [.int p1]) (rest := [.int 5, .ref b_34]) S hw (m_X11_rowPlace l D cs E (pA d_31 b_28 ((4 : Int32)).toNatClampNeg r_32) H.size a0 p1 _) (cwV 1 S.2.2.2.2 (gV wg900 wg901 wg902 wg5 wg903) rfl rfl rfl (by decide +kernel) ⟨Nat.le_of_ble_eq_true rfl, Nat.le_of_ble_eq_true rfl⟩) (ci := 11) rfl ha0 h rfl hl.1 rfl (Nat.le_of_ble_eq_true rfl) (dd_at ddX11_allowedIn 27 rfl) ⟨Nat.le_of_ble_eq_true rfl, Nat.le_of_ble_eq_true rfl⟩) (fun r_38 d_37 H locs h hw => ?_)
    obtain ⟨hx_39, h⟩ := h
    refine r_iast S hw ho_36 hx_39 (dd_at ddX11_allowedIn 28 rfl) (fun H locs hw => ?_)
    refine lv_aload_n S.1 S.2.1 (dd_at ddX11_allowedIn 29 rfl) rfl (lv_at hl 0 rfl) ?_
    obtain ⟨b_40, hb_41, ho_42, h⟩ := h
    refine r_getR S hw 11 14 rfl inG11 (by decide) (List.mem_cons_of_mem _ wg156) (by decide) ha0 hb_41 (dd_at ddX11_allowedIn 30 rfl) ?_
    refine lv_iconst (v := 3) S.1 S.2.1 (dd_at ddX11_allowedIn 31 rfl) (by decide) ?_
    refine lv_iload_n S.1 S.2.1 (dd_at ddX11_allowedIn 32 rfl) rfl (lv_at hl 2 rfl) ?_
    obtain ⟨hx_43, h⟩ := h
    refine r_iast S hw ho_42 hx_43 (dd_at ddX11_allowedIn 33 rfl) (fun H locs hw => ?_)
    refine lv_iconst (v := 0) S.1 S.2.1 (dd_at ddX11_allowedIn 34 rfl) (by decide) ?_
    refine lv_istore_n (lv' := [(3, .int 0), (0, .ref a0), (1, .int p1), (2, .int p2)]) S.1 S.2.1 (dd_at ddX11_allowedIn 35 rfl) rfl hl (by decide) rfl (fun ls hl => ?_)
    refine lv_iconst (v := 0) S.1 S.2.1 (dd_at ddX11_allowedIn 36 rfl) (by decide) ?_
    refine lv_istore (lv' := [(4, .int 0), (3, .int 0), (0, .ref a0), (1, .int p1), (2, .int p2)]) S.1 S.2.1 (dd_at ddX11_allowedIn 37 rfl) hl (by decide) rfl (fun ls hl => ?_)
    obtain ⟨n_44, h⟩ := h
    exact tl60 n_44 0 0 (pA (pA d_37 b_34 ((5 : Int32)).toNatClampNeg r_38) b_40 ((3 : Int32)).toNatClampNeg p2) H locs ls h hw (lv_sub hl [2, 1, 0] rfl)
  · have h := h.2 hc_21
    refine lv_sipush (v := 255) S.1 S.2.1 (dd_at ddX11_allowedIn 5 rfl) (by decide) ?_
    exact e_I S hr hlocks hw h (dd_at ddX11_allowedIn 6 rfl)

def b_X11_allowed_26 (E : En) (a0 : Nat) (p1 : Int32) (p2 : Int32) (K : Int32 → Dy → Prop) (s0 : Nat) (s1 : Int32) (d : Dy) : Prop := okO E s0 11 ∧ w_X11_throwsIf E s0 s1 1 d (fun r_2 d_1 => ((r_2 = 0 → w_X11_allowedIn E a0 p1 p2 d_1 (fun r_5 d_4 => K r_5 d_4)) ∧ (¬ r_2 = 0 → K 0 d_1)))
def b_X11_allowed_21 (E : En) (a0 : Nat) (p1 : Int32) (p2 : Int32) (K : Int32 → Dy → Prop) (s0 : Nat) (d : Dy) : Prop := okO E s0 11 ∧ b_X11_allowed_26 E a0 p1 p2 K s0 1 d
def w_X11_allowed (E : En) (a0 : Nat) (p1 : Int32) (p2 : Int32) (d : Dy) (K : Int32 → Dy → Prop) : Prop := okO E a0 11 ∧ w_X11_noHut E a0 p1 (pI d a0 0 0) (fun r_7 d_6 => ((¬ r_7 = 0 → b_X11_allowed_21 E a0 p1 p2 K a0 d_6) ∧ (r_7 = 0 → w_X11_noYear E p2 d_6 (fun r_10 d_9 => ((r_10 = 0 → b_X11_allowed_26 E a0 p1 p2 K a0 0 d_9) ∧ (¬ r_10 = 0 → b_X11_allowed_21 E a0 p1 p2 K a0 d_9))))))
abbrev rm_X11_allowed : Room := { frames := 8, cells := 0, slots := 0, locals := 191 }
set_option maxRecDepth 100000 in
set_option maxHeartbeats 4000000 in
theorem m_X11_allowed (l : Launch) (D : va_G) (cs : Nat → ClassId) (E : En) (d : Dy) (sz : Nat) (a0 : Nat) (p1 : Int32) (p2 : Int32) (K : Int32 → Dy → Prop) : CI l yX11_allowed (.code yX11_allowed cX11_allowed 3 (some .int) :: wsL_law) rm_X11_allowed D cs E d sz [.ref a0, .int p1, .int p2] (w_X11_allowed E a0 p1 p2 d K) K := by
  refine e_of (cc := cX11_allowed) (maxL := 3) (ret := (some .int)) (own := RX11) (by decide) rfl rfl (Nat.le_of_ble_eq_true rfl) ?_
  intro p e s m below meth c S hr hlocks hsz H locs hw h ls hl
  have hl : lv_has ls 3 [(0, .ref a0), (1, .int p1), (2, .int p2)] := hl
  unfold w_X11_allowed at h
  obtain ⟨ha0, h⟩ := h
  have tb26 : ∀ (s0 : Nat) (s1 : Int32) (d : Dy) (H : Heap) (locs : List Loc) (ls : Array Slot), b_X11_allowed_26 E a0 p1 p2 K s0 s1 d → Wd D cs (AW E sz) s.heap s E d H locs → lv_has ls 3 [(0, .ref a0), (1, .int p1), (2, .int p2)] → W p l e rm_X11_allowed s m ([.ref a0, .int p1, .int p2] : List Value).toArray below meth c H locs 0 0 (MQ below (va_Qi K (OutW D cs E (AW E sz)) (AW E sz)) ([.ref a0, .int p1, .int p2] : List Value).toArray s rm_X11_allowed.cells rm_X11_allowed.slots (AW E sz)) (F0 m 26 ls [.int s1, .ref s0]) := by
    intro s0 s1 d H locs ls h hw hl
    unfold b_X11_allowed_26 at h
    obtain ⟨hos0, h⟩ := h
    refine lv_iconst (v := 1) S.1 S.2.1 (dd_at ddX11_allowed 14 rfl) (by decide) ?_
    refine r_callI hw (r_runV (As := [.int s1, .int 1]) (rest := []) S hw (m_X11_throwsIf l D cs E d H.size s0 s1 1 _) (cwV 2 S.2.2.2.2 (gV wg421 wg422 wg423 wg5 wg424) rfl rfl rfl (by decide +kernel) ⟨Nat.le_of_ble_eq_true rfl, Nat.le_of_ble_eq_true rfl⟩) (ci := 11) rfl hos0 h rfl hl.1 rfl (Nat.le_of_ble_eq_true rfl) (dd_at ddX11_allowed 15 rfl) ⟨Nat.le_of_ble_eq_true rfl, Nat.le_of_ble_eq_true rfl⟩) (fun r_2 d_1 H locs h hw => ?_)
    refine lv_if_eq (tgt := 37) S.1 S.2.1 (dd_at ddX11_allowed 16 rfl) (by decide) (fun hc_3 => ?_) (fun hc_3 => ?_)
    · have h := h.1 hc_3
      refine lv_aload_n S.1 S.2.1 (dd_at ddX11_allowed 19 rfl) rfl (lv_at hl 0 rfl) ?_
      refine lv_iload_n S.1 S.2.1 (dd_at ddX11_allowed 20 rfl) rfl (lv_at hl 1 rfl) ?_
      refine lv_iload_n S.1 S.2.1 (dd_at ddX11_allowed 21 rfl) rfl (lv_at hl 2 rfl) ?_
      refine r_callI hw (r_runV (As := [.int p1, .int p2]) (rest := []) S hw (m_X11_allowedIn l D cs E d_1 H.size a0 p1 p2 _) (cwV 2 S.2.2.2.2 (gV wg1445 wg1446 wg1447 wg5 wg1448) rfl rfl rfl (by decide +kernel) ⟨Nat.le_of_ble_eq_true rfl, Nat.le_of_ble_eq_true rfl⟩) (ci := 11) rfl ha0 h rfl hl.1 rfl (Nat.le_of_ble_eq_true rfl) (dd_at ddX11_allowed 22 rfl) ⟨Nat.le_of_ble_eq_true rfl, Nat.le_of_ble_eq_true rfl⟩) (fun r_5 d_4 H locs h hw => ?_)
      exact e_I S hr hlocks hw h (dd_at ddX11_allowed 23 rfl)
    · have h := h.2 hc_3
      refine lv_iconst (v := 0) S.1 S.2.1 (dd_at ddX11_allowed 17 rfl) (by decide) ?_
      refine lv_goto (tgt := 43) S.1 S.2.1 (dd_at ddX11_allowed 18 rfl) (by decide) ?_
      exact e_I S hr hlocks hw h (dd_at ddX11_allowed 23 rfl)
  have tb21 : ∀ (s0 : Nat) (d : Dy) (H : Heap) (locs : List Loc) (ls : Array Slot), b_X11_allowed_21 E a0 p1 p2 K s0 d → Wd D cs (AW E sz) s.heap s E d H locs → lv_has ls 3 [(0, .ref a0), (1, .int p1), (2, .int p2)] → W p l e rm_X11_allowed s m ([.ref a0, .int p1, .int p2] : List Value).toArray below meth c H locs 0 0 (MQ below (va_Qi K (OutW D cs E (AW E sz)) (AW E sz)) ([.ref a0, .int p1, .int p2] : List Value).toArray s rm_X11_allowed.cells rm_X11_allowed.slots (AW E sz)) (F0 m 21 ls [.ref s0]) := by
    intro s0 d H locs ls h hw hl
    unfold b_X11_allowed_21 at h
    obtain ⟨hos0, h⟩ := h
    refine lv_iconst (v := 1) S.1 S.2.1 (dd_at ddX11_allowed 11 rfl) (by decide) ?_
    refine lv_goto (tgt := 26) S.1 S.2.1 (dd_at ddX11_allowed 12 rfl) (by decide) ?_
    exact tb26 s0 1 d H locs ls h hw (lv_sub hl [0, 1, 2] rfl)
  refine lv_aload_n S.1 S.2.1 (dd_at ddX11_allowed 0 rfl) rfl (lv_at hl 0 rfl) ?_
  refine lv_iconst (v := 0) S.1 S.2.1 (dd_at ddX11_allowed 1 rfl) (by decide) ?_
  refine r_putI S hw 11 0 (ty := .int) (v := 0) rfl inG11 tyX11 tyX11_ok nmX11 (by decide) (List.mem_cons_of_mem _ wg201) (by decide) rfl (by decide +kernel) rfl rfl ha0 (dd_at ddX11_allowed 2 rfl) (fun H locs hw => ?_)
  refine lv_aload_n S.1 S.2.1 (dd_at ddX11_allowed 3 rfl) rfl (lv_at hl 0 rfl) ?_
  refine lv_aload_n S.1 S.2.1 (dd_at ddX11_allowed 4 rfl) rfl (lv_at hl 0 rfl) ?_
  refine lv_iload_n S.1 S.2.1 (dd_at ddX11_allowed 5 rfl) rfl (lv_at hl 1 rfl) ?_
  refine r_callI hw (r_runV (As := [.int p1]) (rest := [.ref a0]) S hw (m_X11_noHut l D cs E (pI d a0 0 0) H.size a0 p1 _) (cwV 1 S.2.2.2.2 (gV wg631 wg632 wg633 wg5 wg634) rfl rfl rfl (by decide +kernel) ⟨Nat.le_of_ble_eq_true rfl, Nat.le_of_ble_eq_true rfl⟩) (ci := 11) rfl ha0 h rfl hl.1 rfl (Nat.le_of_ble_eq_true rfl) (dd_at ddX11_allowed 6 rfl) ⟨Nat.le_of_ble_eq_true rfl, Nat.le_of_ble_eq_true rfl⟩) (fun r_7 d_6 H locs h hw => ?_)
  refine lv_if_ne (tgt := 21) S.1 S.2.1 (dd_at ddX11_allowed 7 rfl) (by decide) (fun hc_8 => ?_) (fun hc_8 => ?_)
  · have h := h.1 hc_8
    exact tb21 a0 d_6 H locs ls h hw (lv_sub hl [0, 1, 2] rfl)
  · have h := h.2 hc_8
    refine lv_iload_n S.1 S.2.1 (dd_at ddX11_allowed 8 rfl) rfl (lv_at hl 2 rfl) ?_
    refine r_callI hw (r_runS (As := [.int p2]) (rest := [.ref a0]) S hw (m_X11_noYear l D cs E d_6 H.size p2 _) (va_cwS 1 S.2.2.2.2 (gS wg555 wg556 wg5 wg557) rfl rfl rfl (by decide +kernel) ⟨Nat.le_of_ble_eq_true rfl, Nat.le_of_ble_eq_true rfl⟩) h rfl hl.1 rfl (Nat.le_of_ble_eq_true rfl) (dd_at ddX11_allowed 9 rfl) ⟨Nat.le_of_ble_eq_true rfl, Nat.le_of_ble_eq_true rfl⟩) (fun r_10 d_9 H locs h hw => ?_)
    refine lv_if_eq (tgt := 25) S.1 S.2.1 (dd_at ddX11_allowed 10 rfl) (by decide) (fun hc_11 => ?_) (fun hc_11 => ?_)
    · have h := h.1 hc_11
      refine lv_iconst (v := 0) S.1 S.2.1 (dd_at ddX11_allowed 13 rfl) (by decide) ?_
      exact tb26 a0 0 d_9 H locs ls h hw (lv_sub hl [0, 1, 2] rfl)
    · have h := h.2 hc_11
      exact tb21 a0 d_9 H locs ls h hw (lv_sub hl [0, 1, 2] rfl)

def b_X11_breaches_24 (E : En) (a0 : Nat) (p1 : Int32) (K : Int32 → Dy → Prop) (k24 : Int32 → Int32 → Dy → Prop) (v2 : Int32) (v3 : Int32) (d : Dy) : Prop := ∃ b_1 : Nat, eR E a0 1 = some b_1 ∧ okA E b_1 13 ∧ vp_in 7 (eN E b_1) ∧ (((gA d b_1 ((7 : Int32)).toNatClampNeg) ≤ v3 → K v2 d) ∧ (¬ (gA d b_1 ((7 : Int32)).toNatClampNeg) ≤ v3 → ∃ b_6 : Nat, eR E a0 1 = some b_6 ∧ okA E b_6 13 ∧ vp_in (444 + (3 * v3)) (eN E b_6) ∧ ((¬ (gA d b_6 (444 + (3 * v3)).toNatClampNeg) = p1 → k24 v2 (v3 + 1) d) ∧ ((gA d b_6 (444 + (3 * v3)).toNatClampNeg) = p1 → ∃ b_11 : Nat, eR E a0 1 = some b_11 ∧ okA E b_11 13 ∧ vp_in ((444 + (3 * v3)) + 1) (eN E b_11) ∧ w_X11_allowedIn E a0 p1 (gA d b_11 ((444 + (3 * v3)) + 1).toNatClampNeg) d (fun r_16 d_15 => ∃ b_17 : Nat, eR E a0 1 = some b_17 ∧ okA E b_17 13 ∧ vp_in ((444 + (3 * v3)) + 2) (eN E b_17) ∧ k24 (v2 + (1 - ((r_16 >>> ((gA d_15 b_17 ((444 + (3 * v3)) + 2).toNatClampNeg) &&& 31)) &&& 1))) (v3 + 1) d_15)))))
def l_X11_breaches_24 (E : En) (a0 : Nat) (p1 : Int32) (K : Int32 → Dy → Prop) : Nat → Int32 → Int32 → Dy → Prop
  | 0 => fun _ _ _ => False
  | n + 1 => b_X11_breaches_24 E a0 p1 K (l_X11_breaches_24 E a0 p1 K n)
def w_X11_breaches (E : En) (a0 : Nat) (p1 : Int32) (d : Dy) (K : Int32 → Dy → Prop) : Prop := okO E a0 11 ∧ w_X11_noHut E a0 p1 (pI d a0 0 0) (fun r_22 d_21 => w_X11_throwsIf E a0 r_22 1 d_21 (fun r_24 d_23 => ((r_24 = 0 → (∃ n_26 : Nat, l_X11_breaches_24 E a0 p1 K n_26 0 0 d_23)) ∧ (¬ r_24 = 0 → K 0 d_23))))
abbrev rm_X11_breaches : Room := { frames := 8, cells := 0, slots := 0, locals := 191 }
set_option maxRecDepth 100000 in
set_option maxHeartbeats 4000000 in
theorem m_X11_breaches (l : Launch) (D : va_G) (cs : Nat → ClassId) (E : En) (d : Dy) (sz : Nat) (a0 : Nat) (p1 : Int32) (K : Int32 → Dy → Prop) : CI l yX11_breaches (.code yX11_breaches cX11_breaches 5 (some .int) :: wsL_law) rm_X11_breaches D cs E d sz [.ref a0, .int p1] (w_X11_breaches E a0 p1 d K) K := by
  refine e_of (cc := cX11_breaches) (maxL := 5) (ret := (some .int)) (own := RX11) (by decide) rfl rfl (Nat.le_of_ble_eq_true rfl) ?_
  intro p e s m below meth c S hr hlocks hsz H locs hw h ls hl
  have hl : lv_has ls 5 [(0, .ref a0), (1, .int p1)] := hl
  unfold w_X11_breaches at h
  obtain ⟨ha0, h⟩ := h
  have tl24 : ∀ (n : Nat) (v2 : Int32) (v3 : Int32) (d : Dy) (H : Heap) (locs : List Loc) (ls : Array Slot), l_X11_breaches_24 E a0 p1 K n v2 v3 d → Wd D cs (AW E sz) s.heap s E d H locs → lv_has ls 5 [(0, .ref a0), (1, .int p1), (2, .int v2), (3, .int v3)] → W p l e rm_X11_breaches s m ([.ref a0, .int p1] : List Value).toArray below meth c H locs 0 0 (MQ below (va_Qi K (OutW D cs E (AW E sz)) (AW E sz)) ([.ref a0, .int p1] : List Value).toArray s rm_X11_breaches.cells rm_X11_breaches.slots (AW E sz)) (F0 m 24 ls []) := by
    intro n24
    induction n24 with
    | zero => intro v2 v3 d H locs ls h; exact absurd h id
    | succ n24 ih24 =>
      intro v2 v3 d H locs ls h hw hl
      have h : b_X11_breaches_24 E a0 p1 K (l_X11_breaches_24 E a0 p1 K n24) v2 v3 d := h
      unfold b_X11_breaches_24 at h
      refine lv_iload_n S.1 S.2.1 (dd_at ddX11_breaches 16 rfl) rfl (lv_at hl 3 rfl) ?_
      refine lv_aload_n S.1 S.2.1 (dd_at ddX11_breaches 17 rfl) rfl (lv_at hl 0 rfl) ?_
      obtain ⟨b_1, hb_2, ho_3, h⟩ := h
      refine r_getR S hw 11 1 rfl inG11 (by decide) (List.mem_cons_of_mem _ wg150) (by decide) ha0 hb_2 (dd_at ddX11_breaches 18 rfl) ?_
      refine lv_bipush (v := 7) S.1 S.2.1 (dd_at ddX11_breaches 19 rfl) (by decide) ?_
      obtain ⟨hx_4, h⟩ := h
      refine r_iald S hw ho_3 hx_4 (dd_at ddX11_breaches 20 rfl) ?_
      refine lv_icmp_ge (tgt := 92) S.1 S.2.1 (dd_at ddX11_breaches 21 rfl) (by decide) (fun hc_5 => ?_) (fun hc_5 => ?_)
      · have h := h.1 hc_5
        refine lv_iload_n S.1 S.2.1 (dd_at ddX11_breaches 59 rfl) rfl (lv_at hl 2 rfl) ?_
        exact e_I S hr hlocks hw h (dd_at ddX11_breaches 60 rfl)
      · have h := h.2 hc_5
        refine lv_sipush (v := 444) S.1 S.2.1 (dd_at ddX11_breaches 22 rfl) (by decide) ?_
        refine lv_iconst (v := 3) S.1 S.2.1 (dd_at ddX11_breaches 23 rfl) (by decide) ?_
        refine lv_iload_n S.1 S.2.1 (dd_at ddX11_breaches 24 rfl) rfl (lv_at hl 3 rfl) ?_
        refine lv_imul S.1 S.2.1 (dd_at ddX11_breaches 25 rfl) ?_
        refine lv_iadd S.1 S.2.1 (dd_at ddX11_breaches 26 rfl) ?_
        refine lv_istore (lv' := [(4, .int (444 + (3 * v3))), (0, .ref a0), (1, .int p1), (2, .int v2), (3, .int v3)]) S.1 S.2.1 (dd_at ddX11_breaches 27 rfl) hl (by decide) rfl (fun ls hl => ?_)
        refine lv_aload_n S.1 S.2.1 (dd_at ddX11_breaches 28 rfl) rfl (lv_at hl 1 rfl) ?_
        obtain ⟨b_6, hb_7, ho_8, h⟩ := h
        refine r_getR S hw 11 1 rfl inG11 (by decide) (List.mem_cons_of_mem _ wg150) (by decide) ha0 hb_7 (dd_at ddX11_breaches 29 rfl) ?_
        refine lv_iload S.1 S.2.1 (dd_at ddX11_breaches 30 rfl) (lv_at hl 0 rfl) ?_
        obtain ⟨hx_9, h⟩ := h
        refine r_iald S hw ho_8 hx_9 (dd_at ddX11_breaches 31 rfl) ?_
        refine lv_iload_n S.1 S.2.1 (dd_at ddX11_breaches 32 rfl) rfl (lv_at hl 2 rfl) ?_
        refine lv_icmp_ne (tgt := 86) S.1 S.2.1 (dd_at ddX11_breaches 33 rfl) (by decide) (fun hc_10 => ?_) (fun hc_10 => ?_)
        · have h := h.1 hc_10
          refine lv_iinc (v := v3 + 1) (lv' := [(3, .int (v3 + 1)), (4, .int (444 + (3 * v3))), (0, .ref a0), (1, .int p1), (2, .int v2)]) S.1 S.2.1 (dd_at ddX11_breaches 57 rfl) hl (k := 4) rfl rfl (by decide) rfl (fun ls hl => ?_)
          refine lv_goto (tgt := 24) S.1 S.2.1 (dd_at ddX11_breaches 58 rfl) (by decide) ?_
          exact ih24 v2 (v3 + 1) d H locs ls h hw (lv_sub hl [2, 3, 4, 0] rfl)
        · have h := h.2 hc_10
          refine lv_iload_n S.1 S.2.1 (dd_at ddX11_breaches 34 rfl) rfl (lv_at hl 3 rfl) ?_
          refine lv_iconst (v := 1) S.1 S.2.1 (dd_at ddX11_breaches 35 rfl) (by decide) ?_
          refine lv_aload_n S.1 S.2.1 (dd_at ddX11_breaches 36 rfl) rfl (lv_at hl 1 rfl) ?_
          refine lv_iload_n S.1 S.2.1 (dd_at ddX11_breaches 37 rfl) rfl (lv_at hl 2 rfl) ?_
          refine lv_aload_n S.1 S.2.1 (dd_at ddX11_breaches 38 rfl) rfl (lv_at hl 1 rfl) ?_
          obtain ⟨b_11, hb_12, ho_13, h⟩ := h
          refine r_getR S hw 11 1 rfl inG11 (by decide) (List.mem_cons_of_mem _ wg150) (by decide) ha0 hb_12 (dd_at ddX11_breaches 39 rfl) ?_
          refine lv_iload S.1 S.2.1 (dd_at ddX11_breaches 40 rfl) (lv_at hl 0 rfl) ?_
          refine lv_iconst (v := 1) S.1 S.2.1 (dd_at ddX11_breaches 41 rfl) (by decide) ?_
          refine lv_iadd S.1 S.2.1 (dd_at ddX11_breaches 42 rfl) ?_
          obtain ⟨hx_14, h⟩ := h
          refine r_iald S hw ho_13 hx_14 (dd_at ddX11_breaches 43 rfl) ?_
          refine r_callI hw (r_runV (As := [.int p1, .int (gA d b_11 ((444 + (3 * v3)) + 1).toNatClampNeg)]) (rest := [.int 1, .int v2]) S hw (m_X11_allowedIn l D cs E d H.size a0 p1 (gA d b_11 ((444 + (3 * v3)) + 1).toNatClampNeg) _) (cwV 2 S.2.2.2.2 (gV wg1445 wg1446 wg1447 wg5 wg1448) rfl rfl rfl (by decide +kernel) ⟨Nat.le_of_ble_eq_true rfl, Nat.le_of_ble_eq_true rfl⟩) (ci := 11) rfl ha0 h rfl hl.1 rfl (Nat.le_of_ble_eq_true rfl) (dd_at ddX11_breaches 44 rfl) ⟨Nat.le_of_ble_eq_true rfl, Nat.le_of_ble_eq_true rfl⟩) (fun r_16 d_15 H locs h hw => ?_)
          refine lv_aload_n S.1 S.2.1 (dd_at ddX11_breaches 45 rfl) rfl (lv_at hl 1 rfl) ?_
          obtain ⟨b_17, hb_18, ho_19, h⟩ := h
          refine r_getR S hw 11 1 rfl inG11 (by decide) (List.mem_cons_of_mem _ wg150) (by decide) ha0 hb_18 (dd_at ddX11_breaches 46 rfl) ?_
          refine lv_iload S.1 S.2.1 (dd_at ddX11_breaches 47 rfl) (lv_at hl 0 rfl) ?_
          refine lv_iconst (v := 2) S.1 S.2.1 (dd_at ddX11_breaches 48 rfl) (by decide) ?_
          refine lv_iadd S.1 S.2.1 (dd_at ddX11_breaches 49 rfl) ?_
          obtain ⟨hx_20, h⟩ := h
          refine r_iald S hw ho_19 hx_20 (dd_at ddX11_breaches 50 rfl) ?_
          refine lv_ishr S.1 S.2.1 (dd_at ddX11_breaches 51 rfl) ?_
          refine lv_iconst (v := 1) S.1 S.2.1 (dd_at ddX11_breaches 52 rfl) (by decide) ?_
          refine lv_iand S.1 S.2.1 (dd_at ddX11_breaches 53 rfl) ?_
          refine lv_isub S.1 S.2.1 (dd_at ddX11_breaches 54 rfl) ?_
          refine lv_iadd S.1 S.2.1 (dd_at ddX11_breaches 55 rfl) ?_
          refine lv_istore_n (lv' := [(2, .int (v2 + (1 - ((r_16 >>> ((gA d_15 b_17 ((444 + (3 * v3)) + 2).toNatClampNeg) &&& 31)) &&& 1)))), (4, .int (444 + (3 * v3))), (0, .ref a0), (1, .int p1), (3, .int v3)]) S.1 S.2.1 (dd_at ddX11_breaches 56 rfl) rfl hl (by decide) rfl (fun ls hl => ?_)
          refine lv_iinc (v := v3 + 1) (lv' := [(3, .int (v3 + 1)), (2, .int (v2 + (1 - ((r_16 >>> ((gA d_15 b_17 ((444 + (3 * v3)) + 2).toNatClampNeg) &&& 31)) &&& 1)))), (4, .int (444 + (3 * v3))), (0, .ref a0), (1, .int p1)]) S.1 S.2.1 (dd_at ddX11_breaches 57 rfl) hl (k := 4) rfl rfl (by decide) rfl (fun ls hl => ?_)
          refine lv_goto (tgt := 24) S.1 S.2.1 (dd_at ddX11_breaches 58 rfl) (by decide) ?_
          exact ih24 (v2 + (1 - ((r_16 >>> ((gA d_15 b_17 ((444 + (3 * v3)) + 2).toNatClampNeg) &&& 31)) &&& 1))) (v3 + 1) d_15 H locs ls h hw (lv_sub hl [3, 4, 1, 0] rfl)
  refine lv_aload_n S.1 S.2.1 (dd_at ddX11_breaches 0 rfl) rfl (lv_at hl 0 rfl) ?_
  refine lv_iconst (v := 0) S.1 S.2.1 (dd_at ddX11_breaches 1 rfl) (by decide) ?_
  refine r_putI S hw 11 0 (ty := .int) (v := 0) rfl inG11 tyX11 tyX11_ok nmX11 (by decide) (List.mem_cons_of_mem _ wg201) (by decide) rfl (by decide +kernel) rfl rfl ha0 (dd_at ddX11_breaches 2 rfl) (fun H locs hw => ?_)
  refine lv_aload_n S.1 S.2.1 (dd_at ddX11_breaches 3 rfl) rfl (lv_at hl 0 rfl) ?_
  refine lv_aload_n S.1 S.2.1 (dd_at ddX11_breaches 4 rfl) rfl (lv_at hl 0 rfl) ?_
  refine lv_iload_n S.1 S.2.1 (dd_at ddX11_breaches 5 rfl) rfl (lv_at hl 1 rfl) ?_
  refine r_callI hw (r_runV (As := [.int p1]) (rest := [.ref a0]) S hw (m_X11_noHut l D cs E (pI d a0 0 0) H.size a0 p1 _) (cwV 1 S.2.2.2.2 (gV wg631 wg632 wg633 wg5 wg634) rfl rfl rfl (by decide +kernel) ⟨Nat.le_of_ble_eq_true rfl, Nat.le_of_ble_eq_true rfl⟩) (ci := 11) rfl ha0 h rfl hl.1 rfl (Nat.le_of_ble_eq_true rfl) (dd_at ddX11_breaches 6 rfl) ⟨Nat.le_of_ble_eq_true rfl, Nat.le_of_ble_eq_true rfl⟩) (fun r_22 d_21 H locs h hw => ?_)
  refine lv_iconst (v := 1) S.1 S.2.1 (dd_at ddX11_breaches 7 rfl) (by decide) ?_
  refine r_callI hw (r_runV (As := [.int r_22, .int 1]) (rest := []) S hw (m_X11_throwsIf l D cs E d_21 H.size a0 r_22 1 _) (cwV 2 S.2.2.2.2 (gV wg421 wg422 wg423 wg5 wg424) rfl rfl rfl (by decide +kernel) ⟨Nat.le_of_ble_eq_true rfl, Nat.le_of_ble_eq_true rfl⟩) (ci := 11) rfl ha0 h rfl hl.1 rfl (Nat.le_of_ble_eq_true rfl) (dd_at ddX11_breaches 8 rfl) ⟨Nat.le_of_ble_eq_true rfl, Nat.le_of_ble_eq_true rfl⟩) (fun r_24 d_23 H locs h hw => ?_)
  refine lv_if_eq (tgt := 20) S.1 S.2.1 (dd_at ddX11_breaches 9 rfl) (by decide) (fun hc_25 => ?_) (fun hc_25 => ?_)
  · have h := h.1 hc_25
    refine lv_iconst (v := 0) S.1 S.2.1 (dd_at ddX11_breaches 12 rfl) (by decide) ?_
    refine lv_istore_n (lv' := [(2, .int 0), (0, .ref a0), (1, .int p1)]) S.1 S.2.1 (dd_at ddX11_breaches 13 rfl) rfl hl (by decide) rfl (fun ls hl => ?_)
    refine lv_iconst (v := 0) S.1 S.2.1 (dd_at ddX11_breaches 14 rfl) (by decide) ?_
    refine lv_istore_n (lv' := [(3, .int 0), (2, .int 0), (0, .ref a0), (1, .int p1)]) S.1 S.2.1 (dd_at ddX11_breaches 15 rfl) rfl hl (by decide) rfl (fun ls hl => ?_)
    obtain ⟨n_26, h⟩ := h
    exact tl24 n_26 0 0 d_23 H locs ls h hw (lv_sub hl [2, 3, 1, 0] rfl)
  · have h := h.2 hc_25
    refine lv_iconst (v := 0) S.1 S.2.1 (dd_at ddX11_breaches 10 rfl) (by decide) ?_
    exact e_I S hr hlocks hw h (dd_at ddX11_breaches 11 rfl)

def b_X11_painted_113 (E : En) (a0 : Nat) (p1 : Int32) (K : Int32 → Dy → Prop) (k29 : Int32 → Int32 → Int32 → Dy → Prop) (k40 : Int32 → Int32 → Int32 → Int32 → Dy → Prop) (v4 : Int32) (v5 : Int32) (v6 : Int32) (s0 : Int32) (s1 : Int32) (d : Dy) : Prop := ∃ b_1 : Nat, eR E a0 1 = some b_1 ∧ okA E b_1 13 ∧ vp_in (v6 + 2) (eN E b_1) ∧ k40 (s0 + s1) (gA d b_1 (v6 + 2).toNatClampNeg) v4 (v5 + 1) d
def b_X11_painted_112 (E : En) (a0 : Nat) (p1 : Int32) (K : Int32 → Dy → Prop) (k29 : Int32 → Int32 → Int32 → Dy → Prop) (k40 : Int32 → Int32 → Int32 → Int32 → Dy → Prop) (v4 : Int32) (v5 : Int32) (v6 : Int32) (s0 : Int32) (d : Dy) : Prop := b_X11_painted_113 E a0 p1 K k29 k40 v4 v5 v6 s0 0 d
def b_X11_painted_40 (E : En) (a0 : Nat) (p1 : Int32) (K : Int32 → Dy → Prop) (k29 : Int32 → Int32 → Int32 → Dy → Prop) (k40 : Int32 → Int32 → Int32 → Int32 → Dy → Prop) (v2 : Int32) (v3 : Int32) (v4 : Int32) (v5 : Int32) (d : Dy) : Prop := ∃ b_5 : Nat, eR E a0 1 = some b_5 ∧ okA E b_5 13 ∧ vp_in 7 (eN E b_5) ∧ (((gA d b_5 ((7 : Int32)).toNatClampNeg) ≤ v5 → k29 v2 v3 (v4 + 1) d) ∧ (¬ (gA d b_5 ((7 : Int32)).toNatClampNeg) ≤ v5 → ∃ b_10 : Nat, eR E a0 1 = some b_10 ∧ okA E b_10 13 ∧ vp_in (444 + (3 * v5)) (eN E b_10) ∧ ((¬ (gA d b_10 (444 + (3 * v5)).toNatClampNeg) = p1 → k40 v2 v3 v4 (v5 + 1) d) ∧ ((gA d b_10 (444 + (3 * v5)).toNatClampNeg) = p1 → ∃ b_15 : Nat, eR E a0 1 = some b_15 ∧ okA E b_15 13 ∧ vp_in ((444 + (3 * v5)) + 1) (eN E b_15) ∧ (((gA d b_15 ((444 + (3 * v5)) + 1).toNatClampNeg) = v4 → ((v3 < 0 → b_X11_painted_112 E a0 p1 K k29 k40 v4 v5 (444 + (3 * v5)) v2 d) ∧ (¬ v3 < 0 → ∃ b_21 : Nat, eR E a0 1 = some b_21 ∧ okA E b_21 13 ∧ vp_in ((444 + (3 * v5)) + 2) (eN E b_21) ∧ ((v3 = (gA d b_21 ((444 + (3 * v5)) + 2).toNatClampNeg) → b_X11_painted_112 E a0 p1 K k29 k40 v4 v5 (444 + (3 * v5)) v2 d) ∧ (¬ v3 = (gA d b_21 ((444 + (3 * v5)) + 2).toNatClampNeg) → b_X11_painted_113 E a0 p1 K k29 k40 v4 v5 (444 + (3 * v5)) v2 1 d))))) ∧ (¬ (gA d b_15 ((444 + (3 * v5)) + 1).toNatClampNeg) = v4 → k40 v2 v3 v4 (v5 + 1) d))))))
def l_X11_painted_40 (E : En) (a0 : Nat) (p1 : Int32) (K : Int32 → Dy → Prop) (k29 : Int32 → Int32 → Int32 → Dy → Prop) : Nat → Int32 → Int32 → Int32 → Int32 → Dy → Prop
  | 0 => fun _ _ _ _ _ => False
  | n + 1 => b_X11_painted_40 E a0 p1 K k29 (l_X11_painted_40 E a0 p1 K k29 n)
def b_X11_painted_29 (E : En) (a0 : Nat) (p1 : Int32) (K : Int32 → Dy → Prop) (k29 : Int32 → Int32 → Int32 → Dy → Prop) (v2 : Int32) (v3 : Int32) (v4 : Int32) (d : Dy) : Prop := ((2099 < v4 → K v2 d) ∧ (¬ 2099 < v4 → (∃ n_27 : Nat, l_X11_painted_40 E a0 p1 K k29 n_27 v2 v3 v4 0 d)))
def l_X11_painted_29 (E : En) (a0 : Nat) (p1 : Int32) (K : Int32 → Dy → Prop) : Nat → Int32 → Int32 → Int32 → Dy → Prop
  | 0 => fun _ _ _ _ => False
  | n + 1 => b_X11_painted_29 E a0 p1 K (l_X11_painted_29 E a0 p1 K n)
def w_X11_painted (E : En) (a0 : Nat) (p1 : Int32) (d : Dy) (K : Int32 → Dy → Prop) : Prop := okO E a0 11 ∧ w_X11_noHut E a0 p1 (pI d a0 0 0) (fun r_29 d_28 => w_X11_throwsIf E a0 r_29 1 d_28 (fun r_31 d_30 => ((r_31 = 0 → (∃ n_33 : Nat, l_X11_painted_29 E a0 p1 K n_33 0 (-1) 1900 d_30)) ∧ (¬ r_31 = 0 → K 0 d_30))))
abbrev rm_X11_painted : Room := { frames := 3, cells := 0, slots := 0, locals := 65 }
set_option maxRecDepth 100000 in
set_option maxHeartbeats 4000000 in
theorem m_X11_painted (l : Launch) (D : va_G) (cs : Nat → ClassId) (E : En) (d : Dy) (sz : Nat) (a0 : Nat) (p1 : Int32) (K : Int32 → Dy → Prop) : CI l yX11_painted (.code yX11_painted cX11_painted 7 (some .int) :: wsL_law) rm_X11_painted D cs E d sz [.ref a0, .int p1] (w_X11_painted E a0 p1 d K) K := by
  refine e_of (cc := cX11_painted) (maxL := 7) (ret := (some .int)) (own := RX11) (by decide) rfl rfl (Nat.le_of_ble_eq_true rfl) ?_
  intro p e s m below meth c S hr hlocks hsz H locs hw h ls hl
  have hl : lv_has ls 7 [(0, .ref a0), (1, .int p1)] := hl
  unfold w_X11_painted at h
  obtain ⟨ha0, h⟩ := h
  have tl29 : ∀ (n : Nat) (v2 : Int32) (v3 : Int32) (v4 : Int32) (d : Dy) (H : Heap) (locs : List Loc) (ls : Array Slot), l_X11_painted_29 E a0 p1 K n v2 v3 v4 d → Wd D cs (AW E sz) s.heap s E d H locs → lv_has ls 7 [(0, .ref a0), (1, .int p1), (2, .int v2), (3, .int v3), (4, .int v4)] → W p l e rm_X11_painted s m ([.ref a0, .int p1] : List Value).toArray below meth c H locs 0 0 (MQ below (va_Qi K (OutW D cs E (AW E sz)) (AW E sz)) ([.ref a0, .int p1] : List Value).toArray s rm_X11_painted.cells rm_X11_painted.slots (AW E sz)) (F0 m 29 ls []) := by
    intro n29
    induction n29 with
    | zero => intro v2 v3 v4 d H locs ls h; exact absurd h id
    | succ n29 ih29 =>
      have tl40 : ∀ (n : Nat) (v2 : Int32) (v3 : Int32) (v4 : Int32) (v5 : Int32) (d : Dy) (H : Heap) (locs : List Loc) (ls : Array Slot), l_X11_painted_40 E a0 p1 K (l_X11_painted_29 E a0 p1 K n29) n v2 v3 v4 v5 d → Wd D cs (AW E sz) s.heap s E d H locs → lv_has ls 7 [(0, .ref a0), (1, .int p1), (2, .int v2), (3, .int v3), (4, .int v4), (5, .int v5)] → W p l e rm_X11_painted s m ([.ref a0, .int p1] : List Value).toArray below meth c H locs 0 0 (MQ below (va_Qi K (OutW D cs E (AW E sz)) (AW E sz)) ([.ref a0, .int p1] : List Value).toArray s rm_X11_painted.cells rm_X11_painted.slots (AW E sz)) (F0 m 40 ls []) := by
        intro n40
        induction n40 with
        | zero => intro v2 v3 v4 v5 d H locs ls h; exact absurd h id
        | succ n40 ih40 =>
          have tb113 : ∀ (v4 : Int32) (v5 : Int32) (v6 : Int32) (s0 : Int32) (s1 : Int32) (d : Dy) (H : Heap) (locs : List Loc) (ls : Array Slot), b_X11_painted_113 E a0 p1 K (l_X11_painted_29 E a0 p1 K n29) (l_X11_painted_40 E a0 p1 K (l_X11_painted_29 E a0 p1 K n29) n40) v4 v5 v6 s0 s1 d → Wd D cs (AW E sz) s.heap s E d H locs → lv_has ls 7 [(0, .ref a0), (1, .int p1), (4, .int v4), (5, .int v5), (6, .int v6)] → W p l e rm_X11_painted s m ([.ref a0, .int p1] : List Value).toArray below meth c H locs 0 0 (MQ below (va_Qi K (OutW D cs E (AW E sz)) (AW E sz)) ([.ref a0, .int p1] : List Value).toArray s rm_X11_painted.cells rm_X11_painted.slots (AW E sz)) (F0 m 113 ls [.int s1, .int s0]) := by
            intro v4 v5 v6 s0 s1 d H locs ls h hw hl
            unfold b_X11_painted_113 at h
            refine lv_iadd S.1 S.2.1 (dd_at ddX11_painted 64 rfl) ?_
            refine lv_istore_n (lv' := [(2, .int (s0 + s1)), (0, .ref a0), (1, .int p1), (4, .int v4), (5, .int v5), (6, .int v6)]) S.1 S.2.1 (dd_at ddX11_painted 65 rfl) rfl hl (by decide) rfl (fun ls hl => ?_)
            refine lv_aload_n S.1 S.2.1 (dd_at ddX11_painted 66 rfl) rfl (lv_at hl 1 rfl) ?_
            obtain ⟨b_1, hb_2, ho_3, h⟩ := h
            refine r_getR S hw 11 1 rfl inG11 (by decide) (List.mem_cons_of_mem _ wg150) (by decide) ha0 hb_2 (dd_at ddX11_painted 67 rfl) ?_
            refine lv_iload S.1 S.2.1 (dd_at ddX11_painted 68 rfl) (lv_at hl 5 rfl) ?_
            refine lv_iconst (v := 2) S.1 S.2.1 (dd_at ddX11_painted 69 rfl) (by decide) ?_
            refine lv_iadd S.1 S.2.1 (dd_at ddX11_painted 70 rfl) ?_
            obtain ⟨hx_4, h⟩ := h
            refine r_iald S hw ho_3 hx_4 (dd_at ddX11_painted 71 rfl) ?_
            refine lv_istore_n (lv' := [(3, .int (gA d b_1 (v6 + 2).toNatClampNeg)), (2, .int (s0 + s1)), (0, .ref a0), (1, .int p1), (4, .int v4), (5, .int v5), (6, .int v6)]) S.1 S.2.1 (dd_at ddX11_painted 72 rfl) rfl hl (by decide) rfl (fun ls hl => ?_)
            refine lv_iinc (v := v5 + 1) (lv' := [(5, .int (v5 + 1)), (3, .int (gA d b_1 (v6 + 2).toNatClampNeg)), (2, .int (s0 + s1)), (0, .ref a0), (1, .int p1), (4, .int v4), (6, .int v6)]) S.1 S.2.1 (dd_at ddX11_painted 73 rfl) hl (k := 5) rfl rfl (by decide) rfl (fun ls hl => ?_)
            refine lv_goto (tgt := 40) S.1 S.2.1 (dd_at ddX11_painted 74 rfl) (by decide) ?_
            exact ih40 (s0 + s1) (gA d b_1 (v6 + 2).toNatClampNeg) v4 (v5 + 1) d H locs ls h hw (lv_sub hl [3, 4, 2, 1, 5, 0] rfl)
          have tb112 : ∀ (v4 : Int32) (v5 : Int32) (v6 : Int32) (s0 : Int32) (d : Dy) (H : Heap) (locs : List Loc) (ls : Array Slot), b_X11_painted_112 E a0 p1 K (l_X11_painted_29 E a0 p1 K n29) (l_X11_painted_40 E a0 p1 K (l_X11_painted_29 E a0 p1 K n29) n40) v4 v5 v6 s0 d → Wd D cs (AW E sz) s.heap s E d H locs → lv_has ls 7 [(0, .ref a0), (1, .int p1), (4, .int v4), (5, .int v5), (6, .int v6)] → W p l e rm_X11_painted s m ([.ref a0, .int p1] : List Value).toArray below meth c H locs 0 0 (MQ below (va_Qi K (OutW D cs E (AW E sz)) (AW E sz)) ([.ref a0, .int p1] : List Value).toArray s rm_X11_painted.cells rm_X11_painted.slots (AW E sz)) (F0 m 112 ls [.int s0]) := by
            intro v4 v5 v6 s0 d H locs ls h hw hl
            unfold b_X11_painted_112 at h
            refine lv_iconst (v := 0) S.1 S.2.1 (dd_at ddX11_painted 63 rfl) (by decide) ?_
            exact tb113 v4 v5 v6 s0 0 d H locs ls h hw (lv_sub hl [0, 1, 2, 3, 4] rfl)
          intro v2 v3 v4 v5 d H locs ls h hw hl
          have h : b_X11_painted_40 E a0 p1 K (l_X11_painted_29 E a0 p1 K n29) (l_X11_painted_40 E a0 p1 K (l_X11_painted_29 E a0 p1 K n29) n40) v2 v3 v4 v5 d := h
          unfold b_X11_painted_40 at h
          refine lv_iload S.1 S.2.1 (dd_at ddX11_painted 23 rfl) (lv_at hl 5 rfl) ?_
          refine lv_aload_n S.1 S.2.1 (dd_at ddX11_painted 24 rfl) rfl (lv_at hl 0 rfl) ?_
          obtain ⟨b_5, hb_6, ho_7, h⟩ := h
          refine r_getR S hw 11 1 rfl inG11 (by decide) (List.mem_cons_of_mem _ wg150) (by decide) ha0 hb_6 (dd_at ddX11_painted 25 rfl) ?_
          refine lv_bipush (v := 7) S.1 S.2.1 (dd_at ddX11_painted 26 rfl) (by decide) ?_
          obtain ⟨hx_8, h⟩ := h
          refine r_iald S hw ho_7 hx_8 (dd_at ddX11_painted 27 rfl) ?_
          refine lv_icmp_ge (tgt := 131) S.1 S.2.1 (dd_at ddX11_painted 28 rfl) (by decide) (fun hc_9 => ?_) (fun hc_9 => ?_)
          · have h := h.1 hc_9
            refine lv_iinc (v := v4 + 1) (lv' := [(4, .int (v4 + 1)), (0, .ref a0), (1, .int p1), (2, .int v2), (3, .int v3), (5, .int v5)]) S.1 S.2.1 (dd_at ddX11_painted 75 rfl) hl (k := 4) rfl rfl (by decide) rfl (fun ls hl => ?_)
            refine lv_goto (tgt := 29) S.1 S.2.1 (dd_at ddX11_painted 76 rfl) (by decide) ?_
            exact ih29 v2 v3 (v4 + 1) d H locs ls h hw (lv_sub hl [1, 2, 3, 4, 0] rfl)
          · have h := h.2 hc_9
            refine lv_sipush (v := 444) S.1 S.2.1 (dd_at ddX11_painted 29 rfl) (by decide) ?_
            refine lv_iconst (v := 3) S.1 S.2.1 (dd_at ddX11_painted 30 rfl) (by decide) ?_
            refine lv_iload S.1 S.2.1 (dd_at ddX11_painted 31 rfl) (lv_at hl 5 rfl) ?_
            refine lv_imul S.1 S.2.1 (dd_at ddX11_painted 32 rfl) ?_
            refine lv_iadd S.1 S.2.1 (dd_at ddX11_painted 33 rfl) ?_
            refine lv_istore (lv' := [(6, .int (444 + (3 * v5))), (0, .ref a0), (1, .int p1), (2, .int v2), (3, .int v3), (4, .int v4), (5, .int v5)]) S.1 S.2.1 (dd_at ddX11_painted 34 rfl) hl (by decide) rfl (fun ls hl => ?_)
            refine lv_aload_n S.1 S.2.1 (dd_at ddX11_painted 35 rfl) rfl (lv_at hl 1 rfl) ?_
            obtain ⟨b_10, hb_11, ho_12, h⟩ := h
            refine r_getR S hw 11 1 rfl inG11 (by decide) (List.mem_cons_of_mem _ wg150) (by decide) ha0 hb_11 (dd_at ddX11_painted 36 rfl) ?_
            refine lv_iload S.1 S.2.1 (dd_at ddX11_painted 37 rfl) (lv_at hl 0 rfl) ?_
            obtain ⟨hx_13, h⟩ := h
            refine r_iald S hw ho_12 hx_13 (dd_at ddX11_painted 38 rfl) ?_
            refine lv_iload_n S.1 S.2.1 (dd_at ddX11_painted 39 rfl) rfl (lv_at hl 2 rfl) ?_
            refine lv_icmp_ne (tgt := 125) S.1 S.2.1 (dd_at ddX11_painted 40 rfl) (by decide) (fun hc_14 => ?_) (fun hc_14 => ?_)
            · have h := h.1 hc_14
              refine lv_iinc (v := v5 + 1) (lv' := [(5, .int (v5 + 1)), (6, .int (444 + (3 * v5))), (0, .ref a0), (1, .int p1), (2, .int v2), (3, .int v3), (4, .int v4)]) S.1 S.2.1 (dd_at ddX11_painted 73 rfl) hl (k := 6) rfl rfl (by decide) rfl (fun ls hl => ?_)
              refine lv_goto (tgt := 40) S.1 S.2.1 (dd_at ddX11_painted 74 rfl) (by decide) ?_
              exact ih40 v2 v3 v4 (v5 + 1) d H locs ls h hw (lv_sub hl [2, 3, 4, 5, 6, 0] rfl)
            · have h := h.2 hc_14
              refine lv_aload_n S.1 S.2.1 (dd_at ddX11_painted 41 rfl) rfl (lv_at hl 1 rfl) ?_
              obtain ⟨b_15, hb_16, ho_17, h⟩ := h
              refine r_getR S hw 11 1 rfl inG11 (by decide) (List.mem_cons_of_mem _ wg150) (by decide) ha0 hb_16 (dd_at ddX11_painted 42 rfl) ?_
              refine lv_iload S.1 S.2.1 (dd_at ddX11_painted 43 rfl) (lv_at hl 0 rfl) ?_
              refine lv_iconst (v := 1) S.1 S.2.1 (dd_at ddX11_painted 44 rfl) (by decide) ?_
              refine lv_iadd S.1 S.2.1 (dd_at ddX11_painted 45 rfl) ?_
              obtain ⟨hx_18, h⟩ := h
              refine r_iald S hw ho_17 hx_18 (dd_at ddX11_painted 46 rfl) ?_
              refine lv_iload S.1 S.2.1 (dd_at ddX11_painted 47 rfl) (lv_at hl 5 rfl) ?_
              refine lv_icmp_eq (tgt := 90) S.1 S.2.1 (dd_at ddX11_painted 48 rfl) (by decide) (fun hc_19 => ?_) (fun hc_19 => ?_)
              · have h := h.1 hc_19
                refine lv_iload_n S.1 S.2.1 (dd_at ddX11_painted 50 rfl) rfl (lv_at hl 3 rfl) ?_
                refine lv_iload_n S.1 S.2.1 (dd_at ddX11_painted 51 rfl) rfl (lv_at hl 4 rfl) ?_
                refine lv_if_lt (tgt := 112) S.1 S.2.1 (dd_at ddX11_painted 52 rfl) (by decide) (fun hc_20 => ?_) (fun hc_20 => ?_)
                · have h := h.1 hc_20
                  exact tb112 v4 v5 (444 + (3 * v5)) v2 d H locs ls h hw (lv_sub hl [1, 2, 5, 6, 0] rfl)
                · have h := h.2 hc_20
                  refine lv_iload_n S.1 S.2.1 (dd_at ddX11_painted 53 rfl) rfl (lv_at hl 4 rfl) ?_
                  refine lv_aload_n S.1 S.2.1 (dd_at ddX11_painted 54 rfl) rfl (lv_at hl 1 rfl) ?_
                  obtain ⟨b_21, hb_22, ho_23, h⟩ := h
                  refine r_getR S hw 11 1 rfl inG11 (by decide) (List.mem_cons_of_mem _ wg150) (by decide) ha0 hb_22 (dd_at ddX11_painted 55 rfl) ?_
                  refine lv_iload S.1 S.2.1 (dd_at ddX11_painted 56 rfl) (lv_at hl 0 rfl) ?_
                  refine lv_iconst (v := 2) S.1 S.2.1 (dd_at ddX11_painted 57 rfl) (by decide) ?_
                  refine lv_iadd S.1 S.2.1 (dd_at ddX11_painted 58 rfl) ?_
                  obtain ⟨hx_24, h⟩ := h
                  refine r_iald S hw ho_23 hx_24 (dd_at ddX11_painted 59 rfl) ?_
                  refine lv_icmp_eq (tgt := 112) S.1 S.2.1 (dd_at ddX11_painted 60 rfl) (by decide) (fun hc_25 => ?_) (fun hc_25 => ?_)
                  · have h := h.1 hc_25
                    exact tb112 v4 v5 (444 + (3 * v5)) v2 d H locs ls h hw (lv_sub hl [1, 2, 5, 6, 0] rfl)
                  · have h := h.2 hc_25
                    refine lv_iconst (v := 1) S.1 S.2.1 (dd_at ddX11_painted 61 rfl) (by decide) ?_
                    refine lv_goto (tgt := 113) S.1 S.2.1 (dd_at ddX11_painted 62 rfl) (by decide) ?_
                    exact tb113 v4 v5 (444 + (3 * v5)) v2 1 d H locs ls h hw (lv_sub hl [1, 2, 5, 6, 0] rfl)
              · have h := h.2 hc_19
                refine lv_goto (tgt := 125) S.1 S.2.1 (dd_at ddX11_painted 49 rfl) (by decide) ?_
                refine lv_iinc (v := v5 + 1) (lv' := [(5, .int (v5 + 1)), (6, .int (444 + (3 * v5))), (0, .ref a0), (1, .int p1), (2, .int v2), (3, .int v3), (4, .int v4)]) S.1 S.2.1 (dd_at ddX11_painted 73 rfl) hl (k := 6) rfl rfl (by decide) rfl (fun ls hl => ?_)
                refine lv_goto (tgt := 40) S.1 S.2.1 (dd_at ddX11_painted 74 rfl) (by decide) ?_
                exact ih40 v2 v3 v4 (v5 + 1) d H locs ls h hw (lv_sub hl [2, 3, 4, 5, 6, 0] rfl)
      intro v2 v3 v4 d H locs ls h hw hl
      have h : b_X11_painted_29 E a0 p1 K (l_X11_painted_29 E a0 p1 K n29) v2 v3 v4 d := h
      unfold b_X11_painted_29 at h
      refine lv_iload S.1 S.2.1 (dd_at ddX11_painted 18 rfl) (lv_at hl 4 rfl) ?_
      refine lv_sipush (v := 2099) S.1 S.2.1 (dd_at ddX11_painted 19 rfl) (by decide) ?_
      refine lv_icmp_gt (tgt := 137) S.1 S.2.1 (dd_at ddX11_painted 20 rfl) (by decide) (fun hc_26 => ?_) (fun hc_26 => ?_)
      · have h := h.1 hc_26
        refine lv_iload_n S.1 S.2.1 (dd_at ddX11_painted 77 rfl) rfl (lv_at hl 2 rfl) ?_
        exact e_I S hr hlocks hw h (dd_at ddX11_painted 78 rfl)
      · have h := h.2 hc_26
        refine lv_iconst (v := 0) S.1 S.2.1 (dd_at ddX11_painted 21 rfl) (by decide) ?_
        refine lv_istore (lv' := [(5, .int 0), (0, .ref a0), (1, .int p1), (2, .int v2), (3, .int v3), (4, .int v4)]) S.1 S.2.1 (dd_at ddX11_painted 22 rfl) hl (by decide) rfl (fun ls hl => ?_)
        obtain ⟨n_27, h⟩ := h
        exact tl40 n_27 v2 v3 v4 0 d H locs ls h hw (lv_sub hl [1, 2, 3, 4, 5, 0] rfl)
  refine lv_aload_n S.1 S.2.1 (dd_at ddX11_painted 0 rfl) rfl (lv_at hl 0 rfl) ?_
  refine lv_iconst (v := 0) S.1 S.2.1 (dd_at ddX11_painted 1 rfl) (by decide) ?_
  refine r_putI S hw 11 0 (ty := .int) (v := 0) rfl inG11 tyX11 tyX11_ok nmX11 (by decide) (List.mem_cons_of_mem _ wg201) (by decide) rfl (by decide +kernel) rfl rfl ha0 (dd_at ddX11_painted 2 rfl) (fun H locs hw => ?_)
  refine lv_aload_n S.1 S.2.1 (dd_at ddX11_painted 3 rfl) rfl (lv_at hl 0 rfl) ?_
  refine lv_aload_n S.1 S.2.1 (dd_at ddX11_painted 4 rfl) rfl (lv_at hl 0 rfl) ?_
  refine lv_iload_n S.1 S.2.1 (dd_at ddX11_painted 5 rfl) rfl (lv_at hl 1 rfl) ?_
  refine r_callI hw (r_runV (As := [.int p1]) (rest := [.ref a0]) S hw (m_X11_noHut l D cs E (pI d a0 0 0) H.size a0 p1 _) (cwV 1 S.2.2.2.2 (gV wg631 wg632 wg633 wg5 wg634) rfl rfl rfl (by decide +kernel) ⟨Nat.le_of_ble_eq_true rfl, Nat.le_of_ble_eq_true rfl⟩) (ci := 11) rfl ha0 h rfl hl.1 rfl (Nat.le_of_ble_eq_true rfl) (dd_at ddX11_painted 6 rfl) ⟨Nat.le_of_ble_eq_true rfl, Nat.le_of_ble_eq_true rfl⟩) (fun r_29 d_28 H locs h hw => ?_)
  refine lv_iconst (v := 1) S.1 S.2.1 (dd_at ddX11_painted 7 rfl) (by decide) ?_
  refine r_callI hw (r_runV (As := [.int r_29, .int 1]) (rest := []) S hw (m_X11_throwsIf l D cs E d_28 H.size a0 r_29 1 _) (cwV 2 S.2.2.2.2 (gV wg421 wg422 wg423 wg5 wg424) rfl rfl rfl (by decide +kernel) ⟨Nat.le_of_ble_eq_true rfl, Nat.le_of_ble_eq_true rfl⟩) (ci := 11) rfl ha0 h rfl hl.1 rfl (Nat.le_of_ble_eq_true rfl) (dd_at ddX11_painted 8 rfl) ⟨Nat.le_of_ble_eq_true rfl, Nat.le_of_ble_eq_true rfl⟩) (fun r_31 d_30 H locs h hw => ?_)
  refine lv_if_eq (tgt := 20) S.1 S.2.1 (dd_at ddX11_painted 9 rfl) (by decide) (fun hc_32 => ?_) (fun hc_32 => ?_)
  · have h := h.1 hc_32
    refine lv_iconst (v := 0) S.1 S.2.1 (dd_at ddX11_painted 12 rfl) (by decide) ?_
    refine lv_istore_n (lv' := [(2, .int 0), (0, .ref a0), (1, .int p1)]) S.1 S.2.1 (dd_at ddX11_painted 13 rfl) rfl hl (by decide) rfl (fun ls hl => ?_)
    refine lv_iconst (v := -1) S.1 S.2.1 (dd_at ddX11_painted 14 rfl) (by decide) ?_
    refine lv_istore_n (lv' := [(3, .int (-1)), (2, .int 0), (0, .ref a0), (1, .int p1)]) S.1 S.2.1 (dd_at ddX11_painted 15 rfl) rfl hl (by decide) rfl (fun ls hl => ?_)
    refine lv_sipush (v := 1900) S.1 S.2.1 (dd_at ddX11_painted 16 rfl) (by decide) ?_
    refine lv_istore (lv' := [(4, .int 1900), (3, .int (-1)), (2, .int 0), (0, .ref a0), (1, .int p1)]) S.1 S.2.1 (dd_at ddX11_painted 17 rfl) hl (by decide) rfl (fun ls hl => ?_)
    obtain ⟨n_33, h⟩ := h
    exact tl29 n_33 0 (-1) 1900 d_30 H locs ls h hw (lv_sub hl [3, 4, 2, 1, 0] rfl)
  · have h := h.2 hc_32
    refine lv_iconst (v := 0) S.1 S.2.1 (dd_at ddX11_painted 10 rfl) (by decide) ?_
    exact e_I S hr hlocks hw h (dd_at ddX11_painted 11 rfl)

def b_X11_thief_47 (E : En) (a0 : Nat) (p1 : Int32) (K : Int32 → Dy → Prop) (s0 : Nat) (s1 : Int32) (d : Dy) : Prop := okO E s0 11 ∧ w_X11_throwsIf E s0 s1 2 d (fun r_2 d_1 => ((r_2 = 0 → ∃ b_4 : Nat, eR E a0 1 = some b_4 ∧ okA E b_4 13 ∧ ∃ b_7 : Nat, eR E a0 1 = some b_7 ∧ okA E b_7 13 ∧ vp_in 9 (eN E b_7) ∧ vp_in (524 + (gA d_1 b_7 ((9 : Int32)).toNatClampNeg)) (eN E b_4) ∧ ∃ b_12 : Nat, eR E a0 1 = some b_12 ∧ okA E b_12 13 ∧ vp_in 9 (eN E b_12) ∧ vp_in 9 (eN E b_12) ∧ ∃ b_17 : Nat, eR E a0 1 = some b_17 ∧ okA E b_17 13 ∧ vp_in 9 (eN E b_17) ∧ K (gA (pA (pA d_1 b_4 (524 + (gA d_1 b_7 ((9 : Int32)).toNatClampNeg)).toNatClampNeg p1) b_12 ((9 : Int32)).toNatClampNeg ((gA (pA d_1 b_4 (524 + (gA d_1 b_7 ((9 : Int32)).toNatClampNeg)).toNatClampNeg p1) b_12 ((9 : Int32)).toNatClampNeg) + 1)) b_17 ((9 : Int32)).toNatClampNeg) (pA (pA d_1 b_4 (524 + (gA d_1 b_7 ((9 : Int32)).toNatClampNeg)).toNatClampNeg p1) b_12 ((9 : Int32)).toNatClampNeg ((gA (pA d_1 b_4 (524 + (gA d_1 b_7 ((9 : Int32)).toNatClampNeg)).toNatClampNeg p1) b_12 ((9 : Int32)).toNatClampNeg) + 1))) ∧ (¬ r_2 = 0 → K 0 d_1)))
def b_X11_thief_22 (E : En) (a0 : Nat) (p1 : Int32) (K : Int32 → Dy → Prop) (s0 : Nat) (s1 : Int32) (d : Dy) : Prop := okO E s0 11 ∧ w_X11_throwsIf E s0 s1 1 d (fun r_22 d_21 => ((¬ r_22 = 0 → K 0 d_21) ∧ (r_22 = 0 → ∃ b_24 : Nat, eR E a0 1 = some b_24 ∧ okA E b_24 13 ∧ vp_in 9 (eN E b_24) ∧ ((¬ (gA d_21 b_24 ((9 : Int32)).toNatClampNeg) = 12 → b_X11_thief_47 E a0 p1 K a0 0 d_21) ∧ ((gA d_21 b_24 ((9 : Int32)).toNatClampNeg) = 12 → b_X11_thief_47 E a0 p1 K a0 1 d_21)))))
def w_X11_thief (E : En) (a0 : Nat) (p1 : Int32) (d : Dy) (K : Int32 → Dy → Prop) : Prop := okO E a0 11 ∧ w_X11_in E p1 0 365 (pI d a0 0 0) (fun r_30 d_29 => ((¬ r_30 = 0 → b_X11_thief_22 E a0 p1 K a0 0 d_29) ∧ (r_30 = 0 → b_X11_thief_22 E a0 p1 K a0 1 d_29)))
abbrev rm_X11_thief : Room := { frames := 1, cells := 0, slots := 0, locals := 22 }
set_option maxRecDepth 100000 in
set_option maxHeartbeats 4000000 in
theorem m_X11_thief (l : Launch) (D : va_G) (cs : Nat → ClassId) (E : En) (d : Dy) (sz : Nat) (a0 : Nat) (p1 : Int32) (K : Int32 → Dy → Prop) : CI l yX11_thief (.code yX11_thief cX11_thief 2 (some .int) :: wsL_law) rm_X11_thief D cs E d sz [.ref a0, .int p1] (w_X11_thief E a0 p1 d K) K := by
  refine e_of (cc := cX11_thief) (maxL := 2) (ret := (some .int)) (own := RX11) (by decide) rfl rfl (Nat.le_of_ble_eq_true rfl) ?_
  intro p e s m below meth c S hr hlocks hsz H locs hw h ls hl
  have hl : lv_has ls 2 [(0, .ref a0), (1, .int p1)] := hl
  unfold w_X11_thief at h
  obtain ⟨ha0, h⟩ := h
  have tb47 : ∀ (s0 : Nat) (s1 : Int32) (d : Dy) (H : Heap) (locs : List Loc) (ls : Array Slot), b_X11_thief_47 E a0 p1 K s0 s1 d → Wd D cs (AW E sz) s.heap s E d H locs → lv_has ls 2 [(0, .ref a0), (1, .int p1)] → W p l e rm_X11_thief s m ([.ref a0, .int p1] : List Value).toArray below meth c H locs 0 0 (MQ below (va_Qi K (OutW D cs E (AW E sz)) (AW E sz)) ([.ref a0, .int p1] : List Value).toArray s rm_X11_thief.cells rm_X11_thief.slots (AW E sz)) (F0 m 47 ls [.int s1, .ref s0]) := by
    intro s0 s1 d H locs ls h hw hl
    unfold b_X11_thief_47 at h
    obtain ⟨hos0, h⟩ := h
    refine lv_iconst (v := 2) S.1 S.2.1 (dd_at ddX11_thief 25 rfl) (by decide) ?_
    refine r_callI hw (r_runV (As := [.int s1, .int 2]) (rest := []) S hw (m_X11_throwsIf l D cs E d H.size s0 s1 2 _) (cwV 2 S.2.2.2.2 (gV wg421 wg422 wg423 wg5 wg424) rfl rfl rfl (by decide +kernel) ⟨Nat.le_of_ble_eq_true rfl, Nat.le_of_ble_eq_true rfl⟩) (ci := 11) rfl hos0 h rfl hl.1 rfl (Nat.le_of_ble_eq_true rfl) (dd_at ddX11_thief 26 rfl) ⟨Nat.le_of_ble_eq_true rfl, Nat.le_of_ble_eq_true rfl⟩) (fun r_2 d_1 H locs h hw => ?_)
    refine lv_if_eq (tgt := 56) S.1 S.2.1 (dd_at ddX11_thief 27 rfl) (by decide) (fun hc_3 => ?_) (fun hc_3 => ?_)
    · have h := h.1 hc_3
      refine lv_aload_n S.1 S.2.1 (dd_at ddX11_thief 30 rfl) rfl (lv_at hl 0 rfl) ?_
      obtain ⟨b_4, hb_5, ho_6, h⟩ := h
      refine r_getR S hw 11 1 rfl inG11 (by decide) (List.mem_cons_of_mem _ wg150) (by decide) ha0 hb_5 (dd_at ddX11_thief 31 rfl) ?_
      refine lv_sipush (v := 524) S.1 S.2.1 (dd_at ddX11_thief 32 rfl) (by decide) ?_
      refine lv_aload_n S.1 S.2.1 (dd_at ddX11_thief 33 rfl) rfl (lv_at hl 0 rfl) ?_
      obtain ⟨b_7, hb_8, ho_9, h⟩ := h
      refine r_getR S hw 11 1 rfl inG11 (by decide) (List.mem_cons_of_mem _ wg150) (by decide) ha0 hb_8 (dd_at ddX11_thief 34 rfl) ?_
      refine lv_bipush (v := 9) S.1 S.2.1 (dd_at ddX11_thief 35 rfl) (by decide) ?_
      obtain ⟨hx_10, h⟩ := h
      refine r_iald S hw ho_9 hx_10 (dd_at ddX11_thief 36 rfl) ?_
      refine lv_iadd S.1 S.2.1 (dd_at ddX11_thief 37 rfl) ?_
      refine lv_iload_n S.1 S.2.1 (dd_at ddX11_thief 38 rfl) rfl (lv_at hl 1 rfl) ?_
      obtain ⟨hx_11, h⟩ := h
      refine r_iast S hw ho_6 hx_11 (dd_at ddX11_thief 39 rfl) (fun H locs hw => ?_)
      refine lv_aload_n S.1 S.2.1 (dd_at ddX11_thief 40 rfl) rfl (lv_at hl 0 rfl) ?_
      obtain ⟨b_12, hb_13, ho_14, h⟩ := h
      refine r_getR S hw 11 1 rfl inG11 (by decide) (List.mem_cons_of_mem _ wg150) (by decide) ha0 hb_13 (dd_at ddX11_thief 41 rfl) ?_
      refine lv_bipush (v := 9) S.1 S.2.1 (dd_at ddX11_thief 42 rfl) (by decide) ?_
      refine lv_dup2_11 S.1 S.2.1 (dd_at ddX11_thief 43 rfl) rfl rfl ?_
      obtain ⟨hx_15, h⟩ := h
      refine r_iald S hw ho_14 hx_15 (dd_at ddX11_thief 44 rfl) ?_
      refine lv_iconst (v := 1) S.1 S.2.1 (dd_at ddX11_thief 45 rfl) (by decide) ?_
      refine lv_iadd S.1 S.2.1 (dd_at ddX11_thief 46 rfl) ?_
      obtain ⟨hx_16, h⟩ := h
      refine r_iast S hw ho_14 hx_16 (dd_at ddX11_thief 47 rfl) (fun H locs hw => ?_)
      refine lv_aload_n S.1 S.2.1 (dd_at ddX11_thief 48 rfl) rfl (lv_at hl 0 rfl) ?_
      obtain ⟨b_17, hb_18, ho_19, h⟩ := h
      refine r_getR S hw 11 1 rfl inG11 (by decide) (List.mem_cons_of_mem _ wg150) (by decide) ha0 hb_18 (dd_at ddX11_thief 49 rfl) ?_
      refine lv_bipush (v := 9) S.1 S.2.1 (dd_at ddX11_thief 50 rfl) (by decide) ?_
      obtain ⟨hx_20, h⟩ := h
      refine r_iald S hw ho_19 hx_20 (dd_at ddX11_thief 51 rfl) ?_
      exact e_I S hr hlocks hw h (dd_at ddX11_thief 52 rfl)
    · have h := h.2 hc_3
      refine lv_iconst (v := 0) S.1 S.2.1 (dd_at ddX11_thief 28 rfl) (by decide) ?_
      exact e_I S hr hlocks hw h (dd_at ddX11_thief 29 rfl)
  have tb22 : ∀ (s0 : Nat) (s1 : Int32) (d : Dy) (H : Heap) (locs : List Loc) (ls : Array Slot), b_X11_thief_22 E a0 p1 K s0 s1 d → Wd D cs (AW E sz) s.heap s E d H locs → lv_has ls 2 [(0, .ref a0), (1, .int p1)] → W p l e rm_X11_thief s m ([.ref a0, .int p1] : List Value).toArray below meth c H locs 0 0 (MQ below (va_Qi K (OutW D cs E (AW E sz)) (AW E sz)) ([.ref a0, .int p1] : List Value).toArray s rm_X11_thief.cells rm_X11_thief.slots (AW E sz)) (F0 m 22 ls [.int s1, .ref s0]) := by
    intro s0 s1 d H locs ls h hw hl
    unfold b_X11_thief_22 at h
    obtain ⟨hos0, h⟩ := h
    refine lv_iconst (v := 1) S.1 S.2.1 (dd_at ddX11_thief 12 rfl) (by decide) ?_
    refine r_callI hw (r_runV (As := [.int s1, .int 1]) (rest := []) S hw (m_X11_throwsIf l D cs E d H.size s0 s1 1 _) (cwV 2 S.2.2.2.2 (gV wg421 wg422 wg423 wg5 wg424) rfl rfl rfl (by decide +kernel) ⟨Nat.le_of_ble_eq_true rfl, Nat.le_of_ble_eq_true rfl⟩) (ci := 11) rfl hos0 h rfl hl.1 rfl (Nat.le_of_ble_eq_true rfl) (dd_at ddX11_thief 13 rfl) ⟨Nat.le_of_ble_eq_true rfl, Nat.le_of_ble_eq_true rfl⟩) (fun r_22 d_21 H locs h hw => ?_)
    refine lv_if_ne (tgt := 54) S.1 S.2.1 (dd_at ddX11_thief 14 rfl) (by decide) (fun hc_23 => ?_) (fun hc_23 => ?_)
    · have h := h.1 hc_23
      refine lv_iconst (v := 0) S.1 S.2.1 (dd_at ddX11_thief 28 rfl) (by decide) ?_
      exact e_I S hr hlocks hw h (dd_at ddX11_thief 29 rfl)
    · have h := h.2 hc_23
      refine lv_aload_n S.1 S.2.1 (dd_at ddX11_thief 15 rfl) rfl (lv_at hl 0 rfl) ?_
      refine lv_aload_n S.1 S.2.1 (dd_at ddX11_thief 16 rfl) rfl (lv_at hl 0 rfl) ?_
      obtain ⟨b_24, hb_25, ho_26, h⟩ := h
      refine r_getR S hw 11 1 rfl inG11 (by decide) (List.mem_cons_of_mem _ wg150) (by decide) ha0 hb_25 (dd_at ddX11_thief 17 rfl) ?_
      refine lv_bipush (v := 9) S.1 S.2.1 (dd_at ddX11_thief 18 rfl) (by decide) ?_
      obtain ⟨hx_27, h⟩ := h
      refine r_iald S hw ho_26 hx_27 (dd_at ddX11_thief 19 rfl) ?_
      refine lv_bipush (v := 12) S.1 S.2.1 (dd_at ddX11_thief 20 rfl) (by decide) ?_
      refine lv_icmp_ne (tgt := 46) S.1 S.2.1 (dd_at ddX11_thief 21 rfl) (by decide) (fun hc_28 => ?_) (fun hc_28 => ?_)
      · have h := h.1 hc_28
        refine lv_iconst (v := 0) S.1 S.2.1 (dd_at ddX11_thief 24 rfl) (by decide) ?_
        exact tb47 a0 0 d_21 H locs ls h hw (lv_sub hl [0, 1] rfl)
      · have h := h.2 hc_28
        refine lv_iconst (v := 1) S.1 S.2.1 (dd_at ddX11_thief 22 rfl) (by decide) ?_
        refine lv_goto (tgt := 47) S.1 S.2.1 (dd_at ddX11_thief 23 rfl) (by decide) ?_
        exact tb47 a0 1 d_21 H locs ls h hw (lv_sub hl [0, 1] rfl)
  refine lv_aload_n S.1 S.2.1 (dd_at ddX11_thief 0 rfl) rfl (lv_at hl 0 rfl) ?_
  refine lv_iconst (v := 0) S.1 S.2.1 (dd_at ddX11_thief 1 rfl) (by decide) ?_
  refine r_putI S hw 11 0 (ty := .int) (v := 0) rfl inG11 tyX11 tyX11_ok nmX11 (by decide) (List.mem_cons_of_mem _ wg201) (by decide) rfl (by decide +kernel) rfl rfl ha0 (dd_at ddX11_thief 2 rfl) (fun H locs hw => ?_)
  refine lv_aload_n S.1 S.2.1 (dd_at ddX11_thief 3 rfl) rfl (lv_at hl 0 rfl) ?_
  refine lv_iload_n S.1 S.2.1 (dd_at ddX11_thief 4 rfl) rfl (lv_at hl 1 rfl) ?_
  refine lv_iconst (v := 0) S.1 S.2.1 (dd_at ddX11_thief 5 rfl) (by decide) ?_
  refine lv_sipush (v := 365) S.1 S.2.1 (dd_at ddX11_thief 6 rfl) (by decide) ?_
  refine r_callI hw (r_runS (As := [.int p1, .int 0, .int 365]) (rest := [.ref a0]) S hw (m_X11_in l D cs E (pI d a0 0 0) H.size p1 0 365 _) (va_cwS 3 S.2.2.2.2 (gS wg418 wg419 wg5 wg420) rfl rfl rfl (by decide +kernel) ⟨Nat.le_of_ble_eq_true rfl, Nat.le_of_ble_eq_true rfl⟩) h rfl hl.1 rfl (Nat.le_of_ble_eq_true rfl) (dd_at ddX11_thief 7 rfl) ⟨Nat.le_of_ble_eq_true rfl, Nat.le_of_ble_eq_true rfl⟩) (fun r_30 d_29 H locs h hw => ?_)
  refine lv_if_ne (tgt := 21) S.1 S.2.1 (dd_at ddX11_thief 8 rfl) (by decide) (fun hc_31 => ?_) (fun hc_31 => ?_)
  · have h := h.1 hc_31
    refine lv_iconst (v := 0) S.1 S.2.1 (dd_at ddX11_thief 11 rfl) (by decide) ?_
    exact tb22 a0 0 d_29 H locs ls h hw (lv_sub hl [0, 1] rfl)
  · have h := h.2 hc_31
    refine lv_iconst (v := 1) S.1 S.2.1 (dd_at ddX11_thief 9 rfl) (by decide) ?_
    refine lv_goto (tgt := 22) S.1 S.2.1 (dd_at ddX11_thief 10 rfl) (by decide) ?_
    exact tb22 a0 1 d_29 H locs ls h hw (lv_sub hl [0, 1] rfl)

def b_X11_thieves_79 (E : En) (a0 : Nat) (p1 : Int32) (K : Int32 → Dy → Prop) (k22 : Int32 → Int32 → Dy → Prop) (k37 : Int32 → Int32 → Int32 → Int32 → Int32 → Dy → Prop) (v2 : Int32) (v3 : Int32) (v5 : Int32) (v6 : Int32) (s0 : Int32) (d : Dy) : Prop := ∃ b_1 : Nat, eR E a0 1 = some b_1 ∧ okA E b_1 13 ∧ vp_in (524 + v6) (eN E b_1) ∧ k37 v2 v3 s0 (if v5 < (gA d b_1 (524 + v6).toNatClampNeg) then (gA d b_1 (524 + v6).toNatClampNeg) else v5) (v6 + 1) d
def b_X11_thieves_78 (E : En) (a0 : Nat) (p1 : Int32) (K : Int32 → Dy → Prop) (k22 : Int32 → Int32 → Dy → Prop) (k37 : Int32 → Int32 → Int32 → Int32 → Int32 → Dy → Prop) (v2 : Int32) (v3 : Int32) (v5 : Int32) (v6 : Int32) (d : Dy) : Prop := b_X11_thieves_79 E a0 p1 K k22 k37 v2 v3 v5 v6 0 d
def b_X11_thieves_37 (E : En) (a0 : Nat) (p1 : Int32) (K : Int32 → Dy → Prop) (k22 : Int32 → Int32 → Dy → Prop) (k37 : Int32 → Int32 → Int32 → Int32 → Int32 → Dy → Prop) (v2 : Int32) (v3 : Int32) (v4 : Int32) (v5 : Int32) (v6 : Int32) (d : Dy) : Prop := ((v2 ≤ v6 → ((v4 = 0 → k22 v2 (v3 + 1) d) ∧ (¬ v4 = 0 → ((p1 = 0 → K v3 d) ∧ (¬ p1 = 0 → K (v5 + v3) d))))) ∧ (¬ v2 ≤ v6 → ((v4 = 0 → b_X11_thieves_78 E a0 p1 K k22 k37 v2 v3 v5 v6 d) ∧ (¬ v4 = 0 → ∃ b_9 : Nat, eR E a0 1 = some b_9 ∧ okA E b_9 13 ∧ vp_in (524 + v6) (eN E b_9) ∧ ¬ v3 = 0 ∧ ∃ b_14 : Nat, eR E a0 1 = some b_14 ∧ okA E b_14 13 ∧ vp_in 524 (eN E b_14) ∧ ¬ v3 = 0 ∧ ((¬ ((gA d b_9 (524 + v6).toNatClampNeg) - (gA d b_9 (524 + v6).toNatClampNeg) / v3 * v3) = ((gA d b_14 ((524 : Int32)).toNatClampNeg) - (gA d b_14 ((524 : Int32)).toNatClampNeg) / v3 * v3) → b_X11_thieves_78 E a0 p1 K k22 k37 v2 v3 v5 v6 d) ∧ (((gA d b_9 (524 + v6).toNatClampNeg) - (gA d b_9 (524 + v6).toNatClampNeg) / v3 * v3) = ((gA d b_14 ((524 : Int32)).toNatClampNeg) - (gA d b_14 ((524 : Int32)).toNatClampNeg) / v3 * v3) → b_X11_thieves_79 E a0 p1 K k22 k37 v2 v3 v5 v6 1 d))))))
def l_X11_thieves_37 (E : En) (a0 : Nat) (p1 : Int32) (K : Int32 → Dy → Prop) (k22 : Int32 → Int32 → Dy → Prop) : Nat → Int32 → Int32 → Int32 → Int32 → Int32 → Dy → Prop
  | 0 => fun _ _ _ _ _ _ => False
  | n + 1 => b_X11_thieves_37 E a0 p1 K k22 (l_X11_thieves_37 E a0 p1 K k22 n)
def b_X11_thieves_22 (E : En) (a0 : Nat) (p1 : Int32) (K : Int32 → Dy → Prop) (k22 : Int32 → Int32 → Dy → Prop) (v2 : Int32) (v3 : Int32) (d : Dy) : Prop := ((40 < v3 → K (-1) d) ∧ (¬ 40 < v3 → (∃ n_21 : Nat, l_X11_thieves_37 E a0 p1 K k22 n_21 v2 v3 1 0 0 d)))
def l_X11_thieves_22 (E : En) (a0 : Nat) (p1 : Int32) (K : Int32 → Dy → Prop) : Nat → Int32 → Int32 → Dy → Prop
  | 0 => fun _ _ _ => False
  | n + 1 => b_X11_thieves_22 E a0 p1 K (l_X11_thieves_22 E a0 p1 K n)
def w_X11_thieves (E : En) (a0 : Nat) (p1 : Int32) (d : Dy) (K : Int32 → Dy → Prop) : Prop := okO E a0 11 ∧ ∃ b_22 : Nat, eR E a0 1 = some b_22 ∧ okA E b_22 13 ∧ vp_in 9 (eN E b_22) ∧ ((2 ≤ (gA (pI d a0 0 0) b_22 ((9 : Int32)).toNatClampNeg) → (∃ n_27 : Nat, l_X11_thieves_22 E a0 p1 K n_27 (gA (pI d a0 0 0) b_22 ((9 : Int32)).toNatClampNeg) 2 (pI d a0 0 0))) ∧ (¬ 2 ≤ (gA (pI d a0 0 0) b_22 ((9 : Int32)).toNatClampNeg) → K (-1) (pI d a0 0 0)))
abbrev rm_X11_thieves : Room := { frames := 1, cells := 0, slots := 0, locals := 40 }
set_option maxRecDepth 100000 in
set_option maxHeartbeats 4000000 in
theorem m_X11_thieves (l : Launch) (D : va_G) (cs : Nat → ClassId) (E : En) (d : Dy) (sz : Nat) (a0 : Nat) (p1 : Int32) (K : Int32 → Dy → Prop) : CI l yX11_thieves (.code yX11_thieves cX11_thieves 7 (some .int) :: wsL_law) rm_X11_thieves D cs E d sz [.ref a0, .int p1] (w_X11_thieves E a0 p1 d K) K := by
  refine e_of (cc := cX11_thieves) (maxL := 7) (ret := (some .int)) (own := RX11) (by decide) rfl rfl (Nat.le_of_ble_eq_true rfl) ?_
  intro p e s m below meth c S hr hlocks hsz H locs hw h ls hl
  have hl : lv_has ls 7 [(0, .ref a0), (1, .int p1)] := hl
  unfold w_X11_thieves at h
  obtain ⟨ha0, h⟩ := h
  have tl22 : ∀ (n : Nat) (v2 : Int32) (v3 : Int32) (d : Dy) (H : Heap) (locs : List Loc) (ls : Array Slot), l_X11_thieves_22 E a0 p1 K n v2 v3 d → Wd D cs (AW E sz) s.heap s E d H locs → lv_has ls 7 [(0, .ref a0), (1, .int p1), (2, .int v2), (3, .int v3)] → W p l e rm_X11_thieves s m ([.ref a0, .int p1] : List Value).toArray below meth c H locs 0 0 (MQ below (va_Qi K (OutW D cs E (AW E sz)) (AW E sz)) ([.ref a0, .int p1] : List Value).toArray s rm_X11_thieves.cells rm_X11_thieves.slots (AW E sz)) (F0 m 22 ls []) := by
    intro n22
    induction n22 with
    | zero => intro v2 v3 d H locs ls h; exact absurd h id
    | succ n22 ih22 =>
      have tl37 : ∀ (n : Nat) (v2 : Int32) (v3 : Int32) (v4 : Int32) (v5 : Int32) (v6 : Int32) (d : Dy) (H : Heap) (locs : List Loc) (ls : Array Slot), l_X11_thieves_37 E a0 p1 K (l_X11_thieves_22 E a0 p1 K n22) n v2 v3 v4 v5 v6 d → Wd D cs (AW E sz) s.heap s E d H locs → lv_has ls 7 [(0, .ref a0), (1, .int p1), (2, .int v2), (3, .int v3), (4, .int v4), (5, .int v5), (6, .int v6)] → W p l e rm_X11_thieves s m ([.ref a0, .int p1] : List Value).toArray below meth c H locs 0 0 (MQ below (va_Qi K (OutW D cs E (AW E sz)) (AW E sz)) ([.ref a0, .int p1] : List Value).toArray s rm_X11_thieves.cells rm_X11_thieves.slots (AW E sz)) (F0 m 37 ls []) := by
        intro n37
        induction n37 with
        | zero => intro v2 v3 v4 v5 v6 d H locs ls h; exact absurd h id
        | succ n37 ih37 =>
          have tb79 : ∀ (v2 : Int32) (v3 : Int32) (v5 : Int32) (v6 : Int32) (s0 : Int32) (d : Dy) (H : Heap) (locs : List Loc) (ls : Array Slot), b_X11_thieves_79 E a0 p1 K (l_X11_thieves_22 E a0 p1 K n22) (l_X11_thieves_37 E a0 p1 K (l_X11_thieves_22 E a0 p1 K n22) n37) v2 v3 v5 v6 s0 d → Wd D cs (AW E sz) s.heap s E d H locs → lv_has ls 7 [(0, .ref a0), (1, .int p1), (2, .int v2), (3, .int v3), (5, .int v5), (6, .int v6)] → W p l e rm_X11_thieves s m ([.ref a0, .int p1] : List Value).toArray below meth c H locs 0 0 (MQ below (va_Qi K (OutW D cs E (AW E sz)) (AW E sz)) ([.ref a0, .int p1] : List Value).toArray s rm_X11_thieves.cells rm_X11_thieves.slots (AW E sz)) (F0 m 79 ls [.int s0]) := by
            intro v2 v3 v5 v6 s0 d H locs ls h hw hl
            unfold b_X11_thieves_79 at h
            refine lv_istore (lv' := [(4, .int s0), (0, .ref a0), (1, .int p1), (2, .int v2), (3, .int v3), (5, .int v5), (6, .int v6)]) S.1 S.2.1 (dd_at ddX11_thieves 47 rfl) hl (by decide) rfl (fun ls hl => ?_)
            refine lv_iload S.1 S.2.1 (dd_at ddX11_thieves 48 rfl) (lv_at hl 5 rfl) ?_
            refine lv_aload_n S.1 S.2.1 (dd_at ddX11_thieves 49 rfl) rfl (lv_at hl 1 rfl) ?_
            obtain ⟨b_1, hb_2, ho_3, h⟩ := h
            refine r_getR S hw 11 1 rfl inG11 (by decide) (List.mem_cons_of_mem _ wg150) (by decide) ha0 hb_2 (dd_at ddX11_thieves 50 rfl) ?_
            refine lv_sipush (v := 524) S.1 S.2.1 (dd_at ddX11_thieves 51 rfl) (by decide) ?_
            refine lv_iload S.1 S.2.1 (dd_at ddX11_thieves 52 rfl) (lv_at hl 6 rfl) ?_
            refine lv_iadd S.1 S.2.1 (dd_at ddX11_thieves 53 rfl) ?_
            obtain ⟨hx_4, h⟩ := h
            refine r_iald S hw ho_3 hx_4 (dd_at ddX11_thieves 54 rfl) ?_
            refine va_mmax S.1 S.2.1 (by rw [hl.1]; exact S.2.2.1) S.2.2.2.1 (S.2.2.2.2 _ (List.mem_cons_of_mem _ wg847)) (S.2.2.2.2 _ (List.mem_cons_of_mem _ wg69)) (S.2.2.2.2 _ (List.mem_cons_of_mem _ wg70)) (S.2.2.2.2 _ (List.mem_cons_of_mem _ wg71)) (Nat.le_of_ble_eq_true rfl) (Nat.le_of_ble_eq_true rfl) (Nat.le_of_ble_eq_true rfl) (Nat.le_of_ble_eq_true rfl) (dd_at ddX11_thieves 55 rfl) ?_
            refine lv_istore (lv' := [(5, .int (if v5 < (gA d b_1 (524 + v6).toNatClampNeg) then (gA d b_1 (524 + v6).toNatClampNeg) else v5)), (4, .int s0), (0, .ref a0), (1, .int p1), (2, .int v2), (3, .int v3), (6, .int v6)]) S.1 S.2.1 (dd_at ddX11_thieves 56 rfl) hl (by decide) rfl (fun ls hl => ?_)
            refine lv_iinc (v := v6 + 1) (lv' := [(6, .int (v6 + 1)), (5, .int (if v5 < (gA d b_1 (524 + v6).toNatClampNeg) then (gA d b_1 (524 + v6).toNatClampNeg) else v5)), (4, .int s0), (0, .ref a0), (1, .int p1), (2, .int v2), (3, .int v3)]) S.1 S.2.1 (dd_at ddX11_thieves 57 rfl) hl (k := 6) rfl rfl (by decide) rfl (fun ls hl => ?_)
            refine lv_goto (tgt := 37) S.1 S.2.1 (dd_at ddX11_thieves 58 rfl) (by decide) ?_
            exact ih37 v2 v3 s0 (if v5 < (gA d b_1 (524 + v6).toNatClampNeg) then (gA d b_1 (524 + v6).toNatClampNeg) else v5) (v6 + 1) d H locs ls h hw (lv_sub hl [3, 4, 5, 6, 2, 1, 0] rfl)
          have tb78 : ∀ (v2 : Int32) (v3 : Int32) (v5 : Int32) (v6 : Int32) (d : Dy) (H : Heap) (locs : List Loc) (ls : Array Slot), b_X11_thieves_78 E a0 p1 K (l_X11_thieves_22 E a0 p1 K n22) (l_X11_thieves_37 E a0 p1 K (l_X11_thieves_22 E a0 p1 K n22) n37) v2 v3 v5 v6 d → Wd D cs (AW E sz) s.heap s E d H locs → lv_has ls 7 [(0, .ref a0), (1, .int p1), (2, .int v2), (3, .int v3), (5, .int v5), (6, .int v6)] → W p l e rm_X11_thieves s m ([.ref a0, .int p1] : List Value).toArray below meth c H locs 0 0 (MQ below (va_Qi K (OutW D cs E (AW E sz)) (AW E sz)) ([.ref a0, .int p1] : List Value).toArray s rm_X11_thieves.cells rm_X11_thieves.slots (AW E sz)) (F0 m 78 ls []) := by
            intro v2 v3 v5 v6 d H locs ls h hw hl
            unfold b_X11_thieves_78 at h
            refine lv_iconst (v := 0) S.1 S.2.1 (dd_at ddX11_thieves 46 rfl) (by decide) ?_
            exact tb79 v2 v3 v5 v6 0 d H locs ls h hw (lv_sub hl [0, 1, 2, 3, 4, 5] rfl)
          intro v2 v3 v4 v5 v6 d H locs ls h hw hl
          have h : b_X11_thieves_37 E a0 p1 K (l_X11_thieves_22 E a0 p1 K n22) (l_X11_thieves_37 E a0 p1 K (l_X11_thieves_22 E a0 p1 K n22) n37) v2 v3 v4 v5 v6 d := h
          unfold b_X11_thieves_37 at h
          refine lv_iload S.1 S.2.1 (dd_at ddX11_thieves 24 rfl) (lv_at hl 6 rfl) ?_
          refine lv_iload_n S.1 S.2.1 (dd_at ddX11_thieves 25 rfl) rfl (lv_at hl 2 rfl) ?_
          refine lv_icmp_ge (tgt := 105) S.1 S.2.1 (dd_at ddX11_thieves 26 rfl) (by decide) (fun hc_5 => ?_) (fun hc_5 => ?_)
          · have h := h.1 hc_5
            refine lv_iload S.1 S.2.1 (dd_at ddX11_thieves 59 rfl) (lv_at hl 4 rfl) ?_
            refine lv_if_eq (tgt := 123) S.1 S.2.1 (dd_at ddX11_thieves 60 rfl) (by decide) (fun hc_6 => ?_) (fun hc_6 => ?_)
            · have h := h.1 hc_6
              refine lv_iinc (v := v3 + 1) (lv' := [(3, .int (v3 + 1)), (0, .ref a0), (1, .int p1), (2, .int v2), (4, .int v4), (5, .int v5), (6, .int v6)]) S.1 S.2.1 (dd_at ddX11_thieves 69 rfl) hl (k := 3) rfl rfl (by decide) rfl (fun ls hl => ?_)
              refine lv_goto (tgt := 22) S.1 S.2.1 (dd_at ddX11_thieves 70 rfl) (by decide) ?_
              exact ih22 v2 (v3 + 1) d H locs ls h hw (lv_sub hl [1, 2, 3, 0] rfl)
            · have h := h.2 hc_6
              refine lv_iload_n S.1 S.2.1 (dd_at ddX11_thieves 61 rfl) rfl (lv_at hl 1 rfl) ?_
              refine lv_if_eq (tgt := 121) S.1 S.2.1 (dd_at ddX11_thieves 62 rfl) (by decide) (fun hc_7 => ?_) (fun hc_7 => ?_)
              · have h := h.1 hc_7
                refine lv_iload_n S.1 S.2.1 (dd_at ddX11_thieves 67 rfl) rfl (lv_at hl 3 rfl) ?_
                exact e_I S hr hlocks hw h (dd_at ddX11_thieves 68 rfl)
              · have h := h.2 hc_7
                refine lv_iload S.1 S.2.1 (dd_at ddX11_thieves 63 rfl) (lv_at hl 5 rfl) ?_
                refine lv_iload_n S.1 S.2.1 (dd_at ddX11_thieves 64 rfl) rfl (lv_at hl 3 rfl) ?_
                refine lv_iadd S.1 S.2.1 (dd_at ddX11_thieves 65 rfl) ?_
                refine lv_goto (tgt := 122) S.1 S.2.1 (dd_at ddX11_thieves 66 rfl) (by decide) ?_
                exact e_I S hr hlocks hw h (dd_at ddX11_thieves 68 rfl)
          · have h := h.2 hc_5
            refine lv_iload S.1 S.2.1 (dd_at ddX11_thieves 27 rfl) (lv_at hl 4 rfl) ?_
            refine lv_if_eq (tgt := 78) S.1 S.2.1 (dd_at ddX11_thieves 28 rfl) (by decide) (fun hc_8 => ?_) (fun hc_8 => ?_)
            · have h := h.1 hc_8
              exact tb78 v2 v3 v5 v6 d H locs ls h hw (lv_sub hl [0, 1, 2, 3, 5, 6] rfl)
            · have h := h.2 hc_8
              refine lv_aload_n S.1 S.2.1 (dd_at ddX11_thieves 29 rfl) rfl (lv_at hl 0 rfl) ?_
              obtain ⟨b_9, hb_10, ho_11, h⟩ := h
              refine r_getR S hw 11 1 rfl inG11 (by decide) (List.mem_cons_of_mem _ wg150) (by decide) ha0 hb_10 (dd_at ddX11_thieves 30 rfl) ?_
              refine lv_sipush (v := 524) S.1 S.2.1 (dd_at ddX11_thieves 31 rfl) (by decide) ?_
              refine lv_iload S.1 S.2.1 (dd_at ddX11_thieves 32 rfl) (lv_at hl 6 rfl) ?_
              refine lv_iadd S.1 S.2.1 (dd_at ddX11_thieves 33 rfl) ?_
              obtain ⟨hx_12, h⟩ := h
              refine r_iald S hw ho_11 hx_12 (dd_at ddX11_thieves 34 rfl) ?_
              refine lv_iload_n S.1 S.2.1 (dd_at ddX11_thieves 35 rfl) rfl (lv_at hl 3 rfl) ?_
              obtain ⟨hz_13, h⟩ := h
              refine lv_irem S.1 S.2.1 (dd_at ddX11_thieves 36 rfl) hz_13 ?_
              refine lv_aload_n S.1 S.2.1 (dd_at ddX11_thieves 37 rfl) rfl (lv_at hl 0 rfl) ?_
              obtain ⟨b_14, hb_15, ho_16, h⟩ := h
              refine r_getR S hw 11 1 rfl inG11 (by decide) (List.mem_cons_of_mem _ wg150) (by decide) ha0 hb_15 (dd_at ddX11_thieves 38 rfl) ?_
              refine lv_sipush (v := 524) S.1 S.2.1 (dd_at ddX11_thieves 39 rfl) (by decide) ?_
              obtain ⟨hx_17, h⟩ := h
              refine r_iald S hw ho_16 hx_17 (dd_at ddX11_thieves 40 rfl) ?_
              refine lv_iload_n S.1 S.2.1 (dd_at ddX11_thieves 41 rfl) rfl (lv_at hl 3 rfl) ?_
              obtain ⟨hz_18, h⟩ := h
              refine lv_irem S.1 S.2.1 (dd_at ddX11_thieves 42 rfl) hz_18 ?_
              refine lv_icmp_ne (tgt := 78) S.1 S.2.1 (dd_at ddX11_thieves 43 rfl) (by decide) (fun hc_19 => ?_) (fun hc_19 => ?_)
              · have h := h.1 hc_19
                exact tb78 v2 v3 v5 v6 d H locs ls h hw (lv_sub hl [0, 1, 2, 3, 5, 6] rfl)
              · have h := h.2 hc_19
                refine lv_iconst (v := 1) S.1 S.2.1 (dd_at ddX11_thieves 44 rfl) (by decide) ?_
                refine lv_goto (tgt := 79) S.1 S.2.1 (dd_at ddX11_thieves 45 rfl) (by decide) ?_
                exact tb79 v2 v3 v5 v6 1 d H locs ls h hw (lv_sub hl [0, 1, 2, 3, 5, 6] rfl)
      intro v2 v3 d H locs ls h hw hl
      have h : b_X11_thieves_22 E a0 p1 K (l_X11_thieves_22 E a0 p1 K n22) v2 v3 d := h
      unfold b_X11_thieves_22 at h
      refine lv_iload_n S.1 S.2.1 (dd_at ddX11_thieves 15 rfl) rfl (lv_at hl 3 rfl) ?_
      refine lv_bipush (v := 40) S.1 S.2.1 (dd_at ddX11_thieves 16 rfl) (by decide) ?_
      refine lv_icmp_gt (tgt := 129) S.1 S.2.1 (dd_at ddX11_thieves 17 rfl) (by decide) (fun hc_20 => ?_) (fun hc_20 => ?_)
      · have h := h.1 hc_20
        refine lv_iconst (v := -1) S.1 S.2.1 (dd_at ddX11_thieves 71 rfl) (by decide) ?_
        exact e_I S hr hlocks hw h (dd_at ddX11_thieves 72 rfl)
      · have h := h.2 hc_20
        refine lv_iconst (v := 1) S.1 S.2.1 (dd_at ddX11_thieves 18 rfl) (by decide) ?_
        refine lv_istore (lv' := [(4, .int 1), (0, .ref a0), (1, .int p1), (2, .int v2), (3, .int v3)]) S.1 S.2.1 (dd_at ddX11_thieves 19 rfl) hl (by decide) rfl (fun ls hl => ?_)
        refine lv_iconst (v := 0) S.1 S.2.1 (dd_at ddX11_thieves 20 rfl) (by decide) ?_
        refine lv_istore (lv' := [(5, .int 0), (4, .int 1), (0, .ref a0), (1, .int p1), (2, .int v2), (3, .int v3)]) S.1 S.2.1 (dd_at ddX11_thieves 21 rfl) hl (by decide) rfl (fun ls hl => ?_)
        refine lv_iconst (v := 0) S.1 S.2.1 (dd_at ddX11_thieves 22 rfl) (by decide) ?_
        refine lv_istore (lv' := [(6, .int 0), (5, .int 0), (4, .int 1), (0, .ref a0), (1, .int p1), (2, .int v2), (3, .int v3)]) S.1 S.2.1 (dd_at ddX11_thieves 23 rfl) hl (by decide) rfl (fun ls hl => ?_)
        obtain ⟨n_21, h⟩ := h
        exact tl37 n_21 v2 v3 1 0 0 d H locs ls h hw (lv_sub hl [3, 4, 5, 6, 2, 1, 0] rfl)
  refine lv_aload_n S.1 S.2.1 (dd_at ddX11_thieves 0 rfl) rfl (lv_at hl 0 rfl) ?_
  refine lv_iconst (v := 0) S.1 S.2.1 (dd_at ddX11_thieves 1 rfl) (by decide) ?_
  refine r_putI S hw 11 0 (ty := .int) (v := 0) rfl inG11 tyX11 tyX11_ok nmX11 (by decide) (List.mem_cons_of_mem _ wg201) (by decide) rfl (by decide +kernel) rfl rfl ha0 (dd_at ddX11_thieves 2 rfl) (fun H locs hw => ?_)
  refine lv_aload_n S.1 S.2.1 (dd_at ddX11_thieves 3 rfl) rfl (lv_at hl 0 rfl) ?_
  obtain ⟨b_22, hb_23, ho_24, h⟩ := h
  refine r_getR S hw 11 1 rfl inG11 (by decide) (List.mem_cons_of_mem _ wg150) (by decide) ha0 hb_23 (dd_at ddX11_thieves 4 rfl) ?_
  refine lv_bipush (v := 9) S.1 S.2.1 (dd_at ddX11_thieves 5 rfl) (by decide) ?_
  obtain ⟨hx_25, h⟩ := h
  refine r_iald S hw ho_24 hx_25 (dd_at ddX11_thieves 6 rfl) ?_
  refine lv_istore_n (lv' := [(2, .int (gA (pI d a0 0 0) b_22 ((9 : Int32)).toNatClampNeg)), (0, .ref a0), (1, .int p1)]) S.1 S.2.1 (dd_at ddX11_thieves 7 rfl) rfl hl (by decide) rfl (fun ls hl => ?_)
  refine lv_iload_n S.1 S.2.1 (dd_at ddX11_thieves 8 rfl) rfl (lv_at hl 0 rfl) ?_
  refine lv_iconst (v := 2) S.1 S.2.1 (dd_at ddX11_thieves 9 rfl) (by decide) ?_
  refine lv_icmp_ge (tgt := 20) S.1 S.2.1 (dd_at ddX11_thieves 10 rfl) (by decide) (fun hc_26 => ?_) (fun hc_26 => ?_)
  · have h := h.1 hc_26
    refine lv_iconst (v := 2) S.1 S.2.1 (dd_at ddX11_thieves 13 rfl) (by decide) ?_
    refine lv_istore_n (lv' := [(3, .int 2), (2, .int (gA (pI d a0 0 0) b_22 ((9 : Int32)).toNatClampNeg)), (0, .ref a0), (1, .int p1)]) S.1 S.2.1 (dd_at ddX11_thieves 14 rfl) rfl hl (by decide) rfl (fun ls hl => ?_)
    obtain ⟨n_27, h⟩ := h
    exact tl22 n_27 (gA (pI d a0 0 0) b_22 ((9 : Int32)).toNatClampNeg) 2 (pI d a0 0 0) H locs ls h hw (lv_sub hl [2, 3, 1, 0] rfl)
  · have h := h.2 hc_26
    refine lv_iconst (v := -1) S.1 S.2.1 (dd_at ddX11_thieves 11 rfl) (by decide) ?_
    exact e_I S hr hlocks hw h (dd_at ddX11_thieves 12 rfl)
