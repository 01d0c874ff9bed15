def b_X11_waits_110 (E : En) (a0 : Nat) (p1 : Int32) (p2 : Int32) (K : Int32 → Dy → Prop) (s0 : Nat) (s1 : Int32) (d : Dy) : Prop := okO E s0 11 ∧ w_X11_throwsIf E s0 s1 3 d (fun r_2 d_1 => ((r_2 = 0 → ∃ b_4 : Nat, eR E a0 1 = some b_4 ∧ okA E b_4 13 ∧ vp_in 3 (eN E b_4) ∧ w_X11_puts E a0 4 360 p1 p2 (gA d_1 b_4 ((3 : Int32)).toNatClampNeg) d_1 (fun r_9 d_8 => K r_9 d_8)) ∧ (¬ r_2 = 0 → K 0 d_1)))
def b_X11_waits_40 (E : En) (a0 : Nat) (p1 : Int32) (p2 : Int32) (K : Int32 → Dy → Prop) (k40 : Int32 → Int32 → Dy → Prop) (v3 : Int32) (v4 : Int32) (d : Dy) : Prop := ∃ b_10 : Nat, eR E a0 1 = some b_10 ∧ okA E b_10 13 ∧ vp_in 4 (eN E b_10) ∧ (((gA d b_10 ((4 : Int32)).toNatClampNeg) ≤ v4 → w_X11_throwsIf E a0 v3 2 d (fun r_16 d_15 => ((¬ r_16 = 0 → K 0 d_15) ∧ (r_16 = 0 → ∃ b_18 : Nat, eR E a0 1 = some b_18 ∧ okA E b_18 13 ∧ vp_in 4 (eN E b_18) ∧ ((¬ (gA d_15 b_18 ((4 : Int32)).toNatClampNeg) = 10 → b_X11_waits_110 E a0 p1 p2 K a0 0 d_15) ∧ ((gA d_15 b_18 ((4 : Int32)).toNatClampNeg) = 10 → b_X11_waits_110 E a0 p1 p2 K a0 1 d_15)))))) ∧ (¬ (gA d b_10 ((4 : Int32)).toNatClampNeg) ≤ v4 → ((¬ v3 = 0 → k40 1 (v4 + 1) d) ∧ (v3 = 0 → ∃ b_24 : Nat, eR E a0 1 = some b_24 ∧ okA E b_24 13 ∧ vp_in (360 + (3 * v4)) (eN E b_24) ∧ ((¬ (gA d b_24 (360 + (3 * v4)).toNatClampNeg) = p1 → k40 0 (v4 + 1) d) ∧ ((gA d b_24 (360 + (3 * v4)).toNatClampNeg) = p1 → k40 1 (v4 + 1) d))))))
def l_X11_waits_40 (E : En) (a0 : Nat) (p1 : Int32) (p2 : Int32) (K : Int32 → Dy → Prop) : Nat → Int32 → Int32 → Dy → Prop
  | 0 => fun _ _ _ => False
  | n + 1 => b_X11_waits_40 E a0 p1 p2 K (l_X11_waits_40 E a0 p1 p2 K n)
def b_X11_waits_26 (E : En) (a0 : Nat) (p1 : Int32) (p2 : Int32) (K : Int32 → Dy → Prop) (s0 : Nat) (s1 : Int32) (d : Dy) : Prop := okO E s0 11 ∧ w_X11_throwsIf E s0 s1 1 d (fun r_30 d_29 => ((r_30 = 0 → (∃ n_32 : Nat, l_X11_waits_40 E a0 p1 p2 K n_32 0 0 d_29)) ∧ (¬ r_30 = 0 → K 0 d_29)))
def b_X11_waits_21 (E : En) (a0 : Nat) (p1 : Int32) (p2 : Int32) (K : Int32 → Dy → Prop) (s0 : Nat) (d : Dy) : Prop := okO E s0 11 ∧ b_X11_waits_26 E a0 p1 p2 K s0 1 d
def w_X11_waits (E : En) (a0 : Nat) (p1 : Int32) (p2 : Int32) (d : Dy) (K : Int32 → Dy → Prop) : Prop := okO E a0 11 ∧ w_X11_noPerson E a0 p1 (pI d a0 0 0) (fun r_34 d_33 => ((¬ r_34 = 0 → b_X11_waits_21 E a0 p1 p2 K a0 d_33) ∧ (r_34 = 0 → w_X11_noYear E p2 d_33 (fun r_37 d_36 => ((r_37 = 0 → b_X11_waits_26 E a0 p1 p2 K a0 0 d_36) ∧ (¬ r_37 = 0 → b_X11_waits_21 E a0 p1 p2 K a0 d_36))))))
abbrev rm_X11_waits : Room := { frames := 3, cells := 0, slots := 0, locals := 65 }
set_option maxRecDepth 100000 in
set_option maxHeartbeats 4000000 in
theorem m_X11_waits (l : Launch) (D : va_G) (cs : Nat → ClassId) (E : En) (d : Dy) (sz : Nat) (a0 : Nat) (p1 : Int32) (p2 : Int32) (K : Int32 → Dy → Prop) : CI l yX11_waits (.code yX11_waits cX11_waits 5 (some .int) :: wsL_law) rm_X11_waits D cs E d sz [.ref a0, .int p1, .int p2] (w_X11_waits E a0 p1 p2 d K) K := by
  refine e_of (cc := cX11_waits) (maxL := 5) (ret := (some .int)) (own := RX11) (by decide) rfl rfl (Nat.le_of_ble_eq_true rfl) ?_
  intro p e s m below meth c S hr hlocks hsz H locs hw h ls hl
  have hl : lv_has ls 5 [(0, .ref a0), (1, .int p1), (2, .int p2)] := hl
  unfold w_X11_waits at h
  obtain ⟨ha0, h⟩ := h
  have tb110 : ∀ (s0 : Nat) (s1 : Int32) (d : Dy) (H : Heap) (locs : List Loc) (ls : Array Slot), b_X11_waits_110 E a0 p1 p2 K s0 s1 d → Wd D cs (AW E sz) s.heap s E d H locs → lv_has ls 5 [(0, .ref a0), (1, .int p1), (2, .int p2)] → W p l e rm_X11_waits s m ([.ref a0, .int p1, .int p2] : List Value).toArray below meth c H locs 0 0 (MQ below (va_Qi K (OutW D cs E (AW E sz)) (AW E sz)) ([.ref a0, .int p1, .int p2] : List Value).toArray s rm_X11_waits.cells rm_X11_waits.slots (AW E sz)) (F0 m 110 ls [.int s1, .ref s0]) := by
    intro s0 s1 d H locs ls h hw hl
    unfold b_X11_waits_110 at h
    obtain ⟨hos0, h⟩ := h
    refine lv_iconst (v := 3) S.1 S.2.1 (dd_at ddX11_waits 62 rfl) (by decide) ?_
    refine r_callI hw (r_runV (As := [.int s1, .int 3]) (rest := []) S hw (m_X11_throwsIf l D cs E d H.size s0 s1 3 _) (cwV 2 S.2.2.2.2 (gV wg421 wg422 wg423 wg5 wg424) rfl rfl rfl (by decide +kernel) ⟨Nat.le_of_ble_eq_true rfl, Nat.le_of_ble_eq_true rfl⟩) (ci := 11) rfl hos0 h rfl hl.1 rfl (Nat.le_of_ble_eq_true rfl) (dd_at ddX11_waits 63 rfl) ⟨Nat.le_of_ble_eq_true rfl, Nat.le_of_ble_eq_true rfl⟩) (fun r_2 d_1 H locs h hw => ?_)
    refine lv_if_eq (tgt := 119) S.1 S.2.1 (dd_at ddX11_waits 64 rfl) (by decide) (fun hc_3 => ?_) (fun hc_3 => ?_)
    · have h := h.1 hc_3
      refine lv_aload_n S.1 S.2.1 (dd_at ddX11_waits 67 rfl) rfl (lv_at hl 0 rfl) ?_
      refine lv_iconst (v := 4) S.1 S.2.1 (dd_at ddX11_waits 68 rfl) (by decide) ?_
      refine lv_sipush (v := 360) S.1 S.2.1 (dd_at ddX11_waits 69 rfl) (by decide) ?_
      refine lv_iload_n S.1 S.2.1 (dd_at ddX11_waits 70 rfl) rfl (lv_at hl 1 rfl) ?_
      refine lv_iload_n S.1 S.2.1 (dd_at ddX11_waits 71 rfl) rfl (lv_at hl 2 rfl) ?_
      refine lv_aload_n S.1 S.2.1 (dd_at ddX11_waits 72 rfl) rfl (lv_at hl 0 rfl) ?_
      obtain ⟨b_4, hb_5, ho_6, h⟩ := h
      refine r_getR S hw 11 1 rfl inG11 (by decide) (List.mem_cons_of_mem _ wg150) (by decide) ha0 hb_5 (dd_at ddX11_waits 73 rfl) ?_
      refine lv_iconst (v := 3) S.1 S.2.1 (dd_at ddX11_waits 74 rfl) (by decide) ?_
      obtain ⟨hx_7, h⟩ := h
      refine r_iald S hw ho_6 hx_7 (dd_at ddX11_waits 75 rfl) ?_
      refine r_callI hw (r_runV (As := [.int 4, .int 360, .int p1, .int p2, .int (gA d_1 b_4 ((3 : Int32)).toNatClampNeg)]) (rest := []) S hw (m_X11_puts l D cs E d_1 H.size a0 4 360 p1 p2 (gA d_1 b_4 ((3 : Int32)).toNatClampNeg) _) (cwV 5 S.2.2.2.2 (gV wg562 wg563 wg564 wg5 wg565) rfl rfl rfl (by decide +kernel) ⟨Nat.le_of_ble_eq_true rfl, Nat.le_of_ble_eq_true rfl⟩) (ci := 11) rfl ha0 h rfl hl.1 rfl (Nat.le_of_ble_eq_true rfl) (dd_at ddX11_waits 76 rfl) ⟨Nat.le_of_ble_eq_true rfl, Nat.le_of_ble_eq_true rfl⟩) (fun r_9 d_8 H locs h hw => ?_)
      exact e_I S hr hlocks hw h (dd_at ddX11_waits 77 rfl)
    · have h := h.2 hc_3
      refine lv_iconst (v := 0) S.1 S.2.1 (dd_at ddX11_waits 65 rfl) (by decide) ?_
      exact e_I S hr hlocks hw h (dd_at ddX11_waits 66 rfl)
  have tl40 : ∀ (n : Nat) (v3 : Int32) (v4 : Int32) (d : Dy) (H : Heap) (locs : List Loc) (ls : Array Slot), l_X11_waits_40 E a0 p1 p2 K n v3 v4 d → Wd D cs (AW E sz) s.heap s E d H locs → lv_has ls 5 [(0, .ref a0), (1, .int p1), (2, .int p2), (3, .int v3), (4, .int v4)] → W p l e rm_X11_waits s m ([.ref a0, .int p1, .int p2] : List Value).toArray below meth c H locs 0 0 (MQ below (va_Qi K (OutW D cs E (AW E sz)) (AW E sz)) ([.ref a0, .int p1, .int p2] : List Value).toArray s rm_X11_waits.cells rm_X11_waits.slots (AW E sz)) (F0 m 40 ls []) := by
    intro n40
    induction n40 with
    | zero => intro v3 v4 d H locs ls h; exact absurd h id
    | succ n40 ih40 =>
      intro v3 v4 d H locs ls h hw hl
      have h : b_X11_waits_40 E a0 p1 p2 K (l_X11_waits_40 E a0 p1 p2 K n40) v3 v4 d := h
      unfold b_X11_waits_40 at h
      refine lv_iload S.1 S.2.1 (dd_at ddX11_waits 23 rfl) (lv_at hl 4 rfl) ?_
      refine lv_aload_n S.1 S.2.1 (dd_at ddX11_waits 24 rfl) rfl (lv_at hl 0 rfl) ?_
      obtain ⟨b_10, hb_11, ho_12, h⟩ := h
      refine r_getR S hw 11 1 rfl inG11 (by decide) (List.mem_cons_of_mem _ wg150) (by decide) ha0 hb_11 (dd_at ddX11_waits 25 rfl) ?_
      refine lv_iconst (v := 4) S.1 S.2.1 (dd_at ddX11_waits 26 rfl) (by decide) ?_
      obtain ⟨hx_13, h⟩ := h
      refine r_iald S hw ho_12 hx_13 (dd_at ddX11_waits 27 rfl) ?_
      refine lv_icmp_ge (tgt := 84) S.1 S.2.1 (dd_at ddX11_waits 28 rfl) (by decide) (fun hc_14 => ?_) (fun hc_14 => ?_)
      · have h := h.1 hc_14
        refine lv_aload_n S.1 S.2.1 (dd_at ddX11_waits 47 rfl) rfl (lv_at hl 0 rfl) ?_
        refine lv_iload_n S.1 S.2.1 (dd_at ddX11_waits 48 rfl) rfl (lv_at hl 3 rfl) ?_
        refine lv_iconst (v := 2) S.1 S.2.1 (dd_at ddX11_waits 49 rfl) (by decide) ?_
        refine r_callI hw (r_runV (As := [.int v3, .int 2]) (rest := []) S hw (m_X11_throwsIf l D cs E d H.size a0 v3 2 _) (cwV 2 S.2.2.2.2 (gV wg421 wg422 wg423 wg5 wg424) rfl rfl rfl (by decide +kernel) ⟨Nat.le_of_ble_eq_true rfl, Nat.le_of_ble_eq_true rfl⟩) (ci := 11) rfl ha0 h rfl hl.1 rfl (Nat.le_of_ble_eq_true rfl) (dd_at ddX11_waits 50 rfl) ⟨Nat.le_of_ble_eq_true rfl, Nat.le_of_ble_eq_true rfl⟩) (fun r_16 d_15 H locs h hw => ?_)
        refine lv_if_ne (tgt := 117) S.1 S.2.1 (dd_at ddX11_waits 51 rfl) (by decide) (fun hc_17 => ?_) (fun hc_17 => ?_)
        · have h := h.1 hc_17
          refine lv_iconst (v := 0) S.1 S.2.1 (dd_at ddX11_waits 65 rfl) (by decide) ?_
          exact e_I S hr hlocks hw h (dd_at ddX11_waits 66 rfl)
        · have h := h.2 hc_17
          refine lv_aload_n S.1 S.2.1 (dd_at ddX11_waits 52 rfl) rfl (lv_at hl 0 rfl) ?_
          refine lv_aload_n S.1 S.2.1 (dd_at ddX11_waits 53 rfl) rfl (lv_at hl 0 rfl) ?_
          obtain ⟨b_18, hb_19, ho_20, h⟩ := h
          refine r_getR S hw 11 1 rfl inG11 (by decide) (List.mem_cons_of_mem _ wg150) (by decide) ha0 hb_19 (dd_at ddX11_waits 54 rfl) ?_
          refine lv_iconst (v := 4) S.1 S.2.1 (dd_at ddX11_waits 55 rfl) (by decide) ?_
          obtain ⟨hx_21, h⟩ := h
          refine r_iald S hw ho_20 hx_21 (dd_at ddX11_waits 56 rfl) ?_
          refine lv_bipush (v := 10) S.1 S.2.1 (dd_at ddX11_waits 57 rfl) (by decide) ?_
          refine lv_icmp_ne (tgt := 109) S.1 S.2.1 (dd_at ddX11_waits 58 rfl) (by decide) (fun hc_22 => ?_) (fun hc_22 => ?_)
          · have h := h.1 hc_22
            refine lv_iconst (v := 0) S.1 S.2.1 (dd_at ddX11_waits 61 rfl) (by decide) ?_
            exact tb110 a0 0 d_15 H locs ls h hw (lv_sub hl [0, 1, 2] rfl)
          · have h := h.2 hc_22
            refine lv_iconst (v := 1) S.1 S.2.1 (dd_at ddX11_waits 59 rfl) (by decide) ?_
            refine lv_goto (tgt := 110) S.1 S.2.1 (dd_at ddX11_waits 60 rfl) (by decide) ?_
            exact tb110 a0 1 d_15 H locs ls h hw (lv_sub hl [0, 1, 2] rfl)
      · have h := h.2 hc_14
        refine lv_iload_n S.1 S.2.1 (dd_at ddX11_waits 29 rfl) rfl (lv_at hl 3 rfl) ?_
        refine lv_if_ne (tgt := 72) S.1 S.2.1 (dd_at ddX11_waits 30 rfl) (by decide) (fun hc_23 => ?_) (fun hc_23 => ?_)
        · have h := h.1 hc_23
          refine lv_iconst (v := 1) S.1 S.2.1 (dd_at ddX11_waits 41 rfl) (by decide) ?_
          refine lv_goto (tgt := 77) S.1 S.2.1 (dd_at ddX11_waits 42 rfl) (by decide) ?_
          refine lv_istore_n (lv' := [(3, .int 1), (0, .ref a0), (1, .int p1), (2, .int p2), (4, .int v4)]) S.1 S.2.1 (dd_at ddX11_waits 44 rfl) rfl hl (by decide) rfl (fun ls hl => ?_)
          refine lv_iinc (v := v4 + 1) (lv' := [(4, .int (v4 + 1)), (3, .int 1), (0, .ref a0), (1, .int p1), (2, .int p2)]) S.1 S.2.1 (dd_at ddX11_waits 45 rfl) hl (k := 4) rfl rfl (by decide) rfl (fun ls hl => ?_)
          refine lv_goto (tgt := 40) S.1 S.2.1 (dd_at ddX11_waits 46 rfl) (by decide) ?_
          exact ih40 1 (v4 + 1) d H locs ls h hw (lv_sub hl [2, 3, 4, 1, 0] rfl)
        · have h := h.2 hc_23
          refine lv_aload_n S.1 S.2.1 (dd_at ddX11_waits 31 rfl) rfl (lv_at hl 0 rfl) ?_
          obtain ⟨b_24, hb_25, ho_26, h⟩ := h
          refine r_getR S hw 11 1 rfl inG11 (by decide) (List.mem_cons_of_mem _ wg150) (by decide) ha0 hb_25 (dd_at ddX11_waits 32 rfl) ?_
          refine lv_sipush (v := 360) S.1 S.2.1 (dd_at ddX11_waits 33 rfl) (by decide) ?_
          refine lv_iconst (v := 3) S.1 S.2.1 (dd_at ddX11_waits 34 rfl) (by decide) ?_
          refine lv_iload S.1 S.2.1 (dd_at ddX11_waits 35 rfl) (lv_at hl 4 rfl) ?_
          refine lv_imul S.1 S.2.1 (dd_at ddX11_waits 36 rfl) ?_
          refine lv_iadd S.1 S.2.1 (dd_at ddX11_waits 37 rfl) ?_
          obtain ⟨hx_27, h⟩ := h
          refine r_iald S hw ho_26 hx_27 (dd_at ddX11_waits 38 rfl) ?_
          refine lv_iload_n S.1 S.2.1 (dd_at ddX11_waits 39 rfl) rfl (lv_at hl 1 rfl) ?_
          refine lv_icmp_ne (tgt := 76) S.1 S.2.1 (dd_at ddX11_waits 40 rfl) (by decide) (fun hc_28 => ?_) (fun hc_28 => ?_)
          · have h := h.1 hc_28
            refine lv_iconst (v := 0) S.1 S.2.1 (dd_at ddX11_waits 43 rfl) (by decide) ?_
            refine lv_istore_n (lv' := [(3, .int 0), (0, .ref a0), (1, .int p1), (2, .int p2), (4, .int v4)]) S.1 S.2.1 (dd_at ddX11_waits 44 rfl) rfl hl (by decide) rfl (fun ls hl => ?_)
            refine lv_iinc (v := v4 + 1) (lv' := [(4, .int (v4 + 1)), (3, .int 0), (0, .ref a0), (1, .int p1), (2, .int p2)]) S.1 S.2.1 (dd_at ddX11_waits 45 rfl) hl (k := 4) rfl rfl (by decide) rfl (fun ls hl => ?_)
            refine lv_goto (tgt := 40) S.1 S.2.1 (dd_at ddX11_waits 46 rfl) (by decide) ?_
            exact ih40 0 (v4 + 1) d H locs ls h hw (lv_sub hl [2, 3, 4, 1, 0] rfl)
          · have h := h.2 hc_28
            refine lv_iconst (v := 1) S.1 S.2.1 (dd_at ddX11_waits 41 rfl) (by decide) ?_
            refine lv_goto (tgt := 77) S.1 S.2.1 (dd_at ddX11_waits 42 rfl) (by decide) ?_
            refine lv_istore_n (lv' := [(3, .int 1), (0, .ref a0), (1, .int p1), (2, .int p2), (4, .int v4)]) S.1 S.2.1 (dd_at ddX11_waits 44 rfl) rfl hl (by decide) rfl (fun ls hl => ?_)
            refine lv_iinc (v := v4 + 1) (lv' := [(4, .int (v4 + 1)), (3, .int 1), (0, .ref a0), (1, .int p1), (2, .int p2)]) S.1 S.2.1 (dd_at ddX11_waits 45 rfl) hl (k := 4) rfl rfl (by decide) rfl (fun ls hl => ?_)
            refine lv_goto (tgt := 40) S.1 S.2.1 (dd_at ddX11_waits 46 rfl) (by decide) ?_
            exact ih40 1 (v4 + 1) d H locs ls h hw (lv_sub hl [2, 3, 4, 1, 0] rfl)
  have tb26 : ∀ (s0 : Nat) (s1 : Int32) (d : Dy) (H : Heap) (locs : List Loc) (ls : Array Slot), b_X11_waits_26 E a0 p1 p2 K s0 s1 d → Wd D cs (AW E sz) s.heap s E d H locs → lv_has ls 5 [(0, .ref a0), (1, .int p1), (2, .int p2)] → W p l e rm_X11_waits s m ([.ref a0, .int p1, .int p2] : List Value).toArray below meth c H locs 0 0 (MQ below (va_Qi K (OutW D cs E (AW E sz)) (AW E sz)) ([.ref a0, .int p1, .int p2] : List Value).toArray s rm_X11_waits.cells rm_X11_waits.slots (AW E sz)) (F0 m 26 ls [.int s1, .ref s0]) := by
    intro s0 s1 d H locs ls h hw hl
    unfold b_X11_waits_26 at h
    obtain ⟨hos0, h⟩ := h
    refine lv_iconst (v := 1) S.1 S.2.1 (dd_at ddX11_waits 14 rfl) (by decide) ?_
    refine r_callI hw (r_runV (As := [.int s1, .int 1]) (rest := []) S hw (m_X11_throwsIf l D cs E d H.size s0 s1 1 _) (cwV 2 S.2.2.2.2 (gV wg421 wg422 wg423 wg5 wg424) rfl rfl rfl (by decide +kernel) ⟨Nat.le_of_ble_eq_true rfl, Nat.le_of_ble_eq_true rfl⟩) (ci := 11) rfl hos0 h rfl hl.1 rfl (Nat.le_of_ble_eq_true rfl) (dd_at ddX11_waits 15 rfl) ⟨Nat.le_of_ble_eq_true rfl, Nat.le_of_ble_eq_true rfl⟩) (fun r_30 d_29 H locs h hw => ?_)
    refine lv_if_eq (tgt := 35) S.1 S.2.1 (dd_at ddX11_waits 16 rfl) (by decide) (fun hc_31 => ?_) (fun hc_31 => ?_)
    · have h := h.1 hc_31
      refine lv_iconst (v := 0) S.1 S.2.1 (dd_at ddX11_waits 19 rfl) (by decide) ?_
      refine lv_istore_n (lv' := [(3, .int 0), (0, .ref a0), (1, .int p1), (2, .int p2)]) S.1 S.2.1 (dd_at ddX11_waits 20 rfl) rfl hl (by decide) rfl (fun ls hl => ?_)
      refine lv_iconst (v := 0) S.1 S.2.1 (dd_at ddX11_waits 21 rfl) (by decide) ?_
      refine lv_istore (lv' := [(4, .int 0), (3, .int 0), (0, .ref a0), (1, .int p1), (2, .int p2)]) S.1 S.2.1 (dd_at ddX11_waits 22 rfl) hl (by decide) rfl (fun ls hl => ?_)
      obtain ⟨n_32, h⟩ := h
      exact tl40 n_32 0 0 d_29 H locs ls h hw (lv_sub hl [2, 3, 4, 1, 0] rfl)
    · have h := h.2 hc_31
      refine lv_iconst (v := 0) S.1 S.2.1 (dd_at ddX11_waits 17 rfl) (by decide) ?_
      exact e_I S hr hlocks hw h (dd_at ddX11_waits 18 rfl)
  have tb21 : ∀ (s0 : Nat) (d : Dy) (H : Heap) (locs : List Loc) (ls : Array Slot), b_X11_waits_21 E a0 p1 p2 K s0 d → Wd D cs (AW E sz) s.heap s E d H locs → lv_has ls 5 [(0, .ref a0), (1, .int p1), (2, .int p2)] → W p l e rm_X11_waits s m ([.ref a0, .int p1, .int p2] : List Value).toArray below meth c H locs 0 0 (MQ below (va_Qi K (OutW D cs E (AW E sz)) (AW E sz)) ([.ref a0, .int p1, .int p2] : List Value).toArray s rm_X11_waits.cells rm_X11_waits.slots (AW E sz)) (F0 m 21 ls [.ref s0]) := by
    intro s0 d H locs ls h hw hl
    unfold b_X11_waits_21 at h
    obtain ⟨hos0, h⟩ := h
    refine lv_iconst (v := 1) S.1 S.2.1 (dd_at ddX11_waits 11 rfl) (by decide) ?_
    refine lv_goto (tgt := 26) S.1 S.2.1 (dd_at ddX11_waits 12 rfl) (by decide) ?_
    exact tb26 s0 1 d H locs ls h hw (lv_sub hl [0, 1, 2] rfl)
  refine lv_aload_n S.1 S.2.1 (dd_at ddX11_waits 0 rfl) rfl (lv_at hl 0 rfl) ?_
  refine lv_iconst (v := 0) S.1 S.2.1 (dd_at ddX11_waits 1 rfl) (by decide) ?_
  refine r_putI S hw 11 0 (ty := .int) (v := 0) rfl inG11 tyX11 tyX11_ok nmX11 (by decide) (List.mem_cons_of_mem _ wg201) (by decide) rfl (by decide +kernel) rfl rfl ha0 (dd_at ddX11_waits 2 rfl) (fun H locs hw => ?_)
  refine lv_aload_n S.1 S.2.1 (dd_at ddX11_waits 3 rfl) rfl (lv_at hl 0 rfl) ?_
  refine lv_aload_n S.1 S.2.1 (dd_at ddX11_waits 4 rfl) rfl (lv_at hl 0 rfl) ?_
  refine lv_iload_n S.1 S.2.1 (dd_at ddX11_waits 5 rfl) rfl (lv_at hl 1 rfl) ?_
  refine r_callI hw (r_runV (As := [.int p1]) (rest := [.ref a0]) S hw (m_X11_noPerson l D cs E (pI d a0 0 0) H.size a0 p1 _) (cwV 1 S.2.2.2.2 (gV wg588 wg589 wg590 wg5 wg591) rfl rfl rfl (by decide +kernel) ⟨Nat.le_of_ble_eq_true rfl, Nat.le_of_ble_eq_true rfl⟩) (ci := 11) rfl ha0 h rfl hl.1 rfl (Nat.le_of_ble_eq_true rfl) (dd_at ddX11_waits 6 rfl) ⟨Nat.le_of_ble_eq_true rfl, Nat.le_of_ble_eq_true rfl⟩) (fun r_34 d_33 H locs h hw => ?_)
  refine lv_if_ne (tgt := 21) S.1 S.2.1 (dd_at ddX11_waits 7 rfl) (by decide) (fun hc_35 => ?_) (fun hc_35 => ?_)
  · have h := h.1 hc_35
    exact tb21 a0 d_33 H locs ls h hw (lv_sub hl [0, 1, 2] rfl)
  · have h := h.2 hc_35
    refine lv_iload_n S.1 S.2.1 (dd_at ddX11_waits 8 rfl) rfl (lv_at hl 2 rfl) ?_
    refine r_callI hw (r_runS (As := [.int p2]) (rest := [.ref a0]) S hw (m_X11_noYear l D cs E d_33 H.size p2 _) (va_cwS 1 S.2.2.2.2 (gS wg555 wg556 wg5 wg557) rfl rfl rfl (by decide +kernel) ⟨Nat.le_of_ble_eq_true rfl, Nat.le_of_ble_eq_true rfl⟩) h rfl hl.1 rfl (Nat.le_of_ble_eq_true rfl) (dd_at ddX11_waits 9 rfl) ⟨Nat.le_of_ble_eq_true rfl, Nat.le_of_ble_eq_true rfl⟩) (fun r_37 d_36 H locs h hw => ?_)
    refine lv_if_eq (tgt := 25) S.1 S.2.1 (dd_at ddX11_waits 10 rfl) (by decide) (fun hc_38 => ?_) (fun hc_38 => ?_)
    · have h := h.1 hc_38
      refine lv_iconst (v := 0) S.1 S.2.1 (dd_at ddX11_waits 13 rfl) (by decide) ?_
      exact tb26 a0 0 d_36 H locs ls h hw (lv_sub hl [0, 1, 2] rfl)
    · have h := h.2 hc_38
      exact tb21 a0 d_36 H locs ls h hw (lv_sub hl [0, 1, 2] rfl)

def w_X11_order (E : En) (a0 : Nat) (p1 : Int32) (p2 : Int32) (p3 : Int32) (d : Dy) (K : Int32 → Dy → Prop) : Prop := okO E a0 11 ∧ w_X11_noTimes E a0 p2 p3 (pI d a0 0 0) (fun r_2 d_1 => w_X11_throwsIf E a0 r_2 1 d_1 (fun r_4 d_3 => ((r_4 = 0 → w_X11_goes E a0 p2 p3 d_3 (fun d_6 => w_X11_orders E a0 p2 p3 d_6 (fun d_8 => w_X11_in E p1 1 (gI d_8 a0 29) d_8 (fun r_11 d_10 => ((r_11 = 0 → K (-1) d_10) ∧ (¬ r_11 = 0 → ∃ b_13 : Nat, eR E a0 26 = some b_13 ∧ okA E b_13 13 ∧ vp_in (p1 - 1) (eN E b_13) ∧ K (gA d_10 b_13 (p1 - 1).toNatClampNeg) d_10)))))) ∧ (¬ r_4 = 0 → K 0 d_3))))
abbrev rm_X11_order : Room := { frames := 7, cells := 0, slots := 0, locals := 167 }
set_option maxRecDepth 100000 in
set_option maxHeartbeats 4000000 in
theorem m_X11_order (l : Launch) (D : va_G) (cs : Nat → ClassId) (E : En) (d : Dy) (sz : Nat) (a0 : Nat) (p1 : Int32) (p2 : Int32) (p3 : Int32) (K : Int32 → Dy → Prop) : CI l yX11_order (.code yX11_order cX11_order 4 (some .int) :: wsL_law) rm_X11_order D cs E d sz [.ref a0, .int p1, .int p2, .int p3] (w_X11_order E a0 p1 p2 p3 d K) K := by
  refine e_of (cc := cX11_order) (maxL := 4) (ret := (some .int)) (own := RX11) (by decide) rfl rfl (Nat.le_of_ble_eq_true rfl) ?_
  intro p e s m below meth c S hr hlocks hsz H locs hw h ls hl
  have hl : lv_has ls 4 [(0, .ref a0), (1, .int p1), (2, .int p2), (3, .int p3)] := hl
  unfold w_X11_order at h
  obtain ⟨ha0, h⟩ := h
  refine lv_aload_n S.1 S.2.1 (dd_at ddX11_order 0 rfl) rfl (lv_at hl 0 rfl) ?_
  refine lv_iconst (v := 0) S.1 S.2.1 (dd_at ddX11_order 1 rfl) (by decide) ?_
  refine r_putI S hw 11 0 (ty := .int) (v := 0) rfl inG11 tyX11 tyX11_ok nmX11 (by decide) (List.mem_cons_of_mem _ wg201) (by decide) rfl (by decide +kernel) rfl rfl ha0 (dd_at ddX11_order 2 rfl) (fun H locs hw => ?_)
  refine lv_aload_n S.1 S.2.1 (dd_at ddX11_order 3 rfl) rfl (lv_at hl 0 rfl) ?_
  refine lv_aload_n S.1 S.2.1 (dd_at ddX11_order 4 rfl) rfl (lv_at hl 0 rfl) ?_
  refine lv_iload_n S.1 S.2.1 (dd_at ddX11_order 5 rfl) rfl (lv_at hl 2 rfl) ?_
  refine lv_iload_n S.1 S.2.1 (dd_at ddX11_order 6 rfl) rfl (lv_at hl 3 rfl) ?_
  refine r_callI hw (r_runV (As := [.int p2, .int p3]) (rest := [.ref a0]) S hw (m_X11_noTimes l D cs E (pI d a0 0 0) H.size a0 p2 p3 _) (cwV 2 S.2.2.2.2 (gV wg810 wg811 wg812 wg5 wg813) rfl rfl rfl (by decide +kernel) ⟨Nat.le_of_ble_eq_true rfl, Nat.le_of_ble_eq_true rfl⟩) (ci := 11) rfl ha0 h rfl hl.1 rfl (Nat.le_of_ble_eq_true rfl) (dd_at ddX11_order 7 rfl) ⟨Nat.le_of_ble_eq_true rfl, Nat.le_of_ble_eq_true rfl⟩) (fun r_2 d_1 H locs h hw => ?_)
  refine lv_iconst (v := 1) S.1 S.2.1 (dd_at ddX11_order 8 rfl) (by decide) ?_
  refine r_callI hw (r_runV (As := [.int r_2, .int 1]) (rest := []) S hw (m_X11_throwsIf l D cs E d_1 H.size a0 r_2 1 _) (cwV 2 S.2.2.2.2 (gV wg421 wg422 wg423 wg5 wg424) rfl rfl rfl (by decide +kernel) ⟨Nat.le_of_ble_eq_true rfl, Nat.le_of_ble_eq_true rfl⟩) (ci := 11) rfl ha0 h rfl hl.1 rfl (Nat.le_of_ble_eq_true rfl) (dd_at ddX11_order 9 rfl) ⟨Nat.le_of_ble_eq_true rfl, Nat.le_of_ble_eq_true rfl⟩) (fun r_4 d_3 H locs h hw => ?_)
  refine lv_if_eq (tgt := 21) S.1 S.2.1 (dd_at ddX11_order 10 rfl) (by decide) (fun hc_5 => ?_) (fun hc_5 => ?_)
  · have h := h.1 hc_5
    refine lv_aload_n S.1 S.2.1 (dd_at ddX11_order 13 rfl) rfl (lv_at hl 0 rfl) ?_
    refine lv_iload_n S.1 S.2.1 (dd_at ddX11_order 14 rfl) rfl (lv_at hl 2 rfl) ?_
    refine lv_iload_n S.1 S.2.1 (dd_at ddX11_order 15 rfl) rfl (lv_at hl 3 rfl) ?_
    refine r_callV hw (r_runV (As := [.int p2, .int p3]) (rest := []) S hw (m_X11_goes l D cs E d_3 H.size a0 p2 p3 _) (cwV 2 S.2.2.2.2 (gV wg814 wg815 wg816 wg5 wg817) rfl rfl rfl (by decide +kernel) ⟨Nat.le_of_ble_eq_true rfl, Nat.le_of_ble_eq_true rfl⟩) (ci := 11) rfl ha0 h rfl hl.1 rfl (Nat.le_of_ble_eq_true rfl) (dd_at ddX11_order 16 rfl) ⟨Nat.le_of_ble_eq_true rfl, Nat.le_of_ble_eq_true rfl⟩) (fun d_6 H locs h hw => ?_)
    refine lv_aload_n S.1 S.2.1 (dd_at ddX11_order 17 rfl) rfl (lv_at hl 0 rfl) ?_
    refine lv_iload_n S.1 S.2.1 (dd_at ddX11_order 18 rfl) rfl (lv_at hl 2 rfl) ?_
    refine lv_iload_n S.1 S.2.1 (dd_at ddX11_order 19 rfl) rfl (lv_at hl 3 rfl) ?_
    refine r_callV hw (r_runV (As := [.int p2, .int p3]) (rest := []) S hw (m_X11_orders l D cs E d_6 H.size a0 p2 p3 _) (cwV 2 S.2.2.2.2 (gV wg1047 wg1048 wg1049 wg5 wg1050) rfl rfl rfl (by decide +kernel) ⟨Nat.le_of_ble_eq_true rfl, Nat.le_of_ble_eq_true rfl⟩) (ci := 11) rfl ha0 h rfl hl.1 rfl (Nat.le_of_ble_eq_true rfl) (dd_at ddX11_order 20 rfl) ⟨Nat.le_of_ble_eq_true rfl, Nat.le_of_ble_eq_true rfl⟩) (fun d_8 H locs h hw => ?_)
    refine lv_iload_n S.1 S.2.1 (dd_at ddX11_order 21 rfl) rfl (lv_at hl 1 rfl) ?_
    refine lv_iconst (v := 1) S.1 S.2.1 (dd_at ddX11_order 22 rfl) (by decide) ?_
    refine lv_aload_n S.1 S.2.1 (dd_at ddX11_order 23 rfl) rfl (lv_at hl 0 rfl) ?_
    refine r_getI S hw 11 29 rfl inG11 (by decide) (List.mem_cons_of_mem _ wg1046) (by decide) ha0 (dd_at ddX11_order 24 rfl) ?_
    refine r_callI hw (r_runS (As := [.int p1, .int 1, .int (gI d_8 a0 29)]) (rest := []) S hw (m_X11_in l D cs E d_8 H.size p1 1 (gI d_8 a0 29) _) (va_cwS 3 S.2.2.2.2 (gS wg418 wg419 wg5 wg420) rfl rfl rfl (by decide +kernel) ⟨Nat.le_of_ble_eq_true rfl, Nat.le_of_ble_eq_true rfl⟩) h rfl hl.1 rfl (Nat.le_of_ble_eq_true rfl) (dd_at ddX11_order 25 rfl) ⟨Nat.le_of_ble_eq_true rfl, Nat.le_of_ble_eq_true rfl⟩) (fun r_11 d_10 H locs h hw => ?_)
    refine lv_if_eq (tgt := 56) S.1 S.2.1 (dd_at ddX11_order 26 rfl) (by decide) (fun hc_12 => ?_) (fun hc_12 => ?_)
    · have h := h.1 hc_12
      refine lv_iconst (v := -1) S.1 S.2.1 (dd_at ddX11_order 34 rfl) (by decide) ?_
      exact e_I S hr hlocks hw h (dd_at ddX11_order 35 rfl)
    · have h := h.2 hc_12
      refine lv_aload_n S.1 S.2.1 (dd_at ddX11_order 27 rfl) rfl (lv_at hl 0 rfl) ?_
      obtain ⟨b_13, hb_14, ho_15, h⟩ := h
      refine r_getR S hw 11 26 rfl inG11 (by decide) (List.mem_cons_of_mem _ wg168) (by decide) ha0 hb_14 (dd_at ddX11_order 28 rfl) ?_
      refine lv_iload_n S.1 S.2.1 (dd_at ddX11_order 29 rfl) rfl (lv_at hl 1 rfl) ?_
      refine lv_iconst (v := 1) S.1 S.2.1 (dd_at ddX11_order 30 rfl) (by decide) ?_
      refine lv_isub S.1 S.2.1 (dd_at ddX11_order 31 rfl) ?_
      obtain ⟨hx_16, h⟩ := h
      refine r_iald S hw ho_15 hx_16 (dd_at ddX11_order 32 rfl) ?_
      refine lv_goto (tgt := 57) S.1 S.2.1 (dd_at ddX11_order 33 rfl) (by decide) ?_
      exact e_I S hr hlocks hw h (dd_at ddX11_order 35 rfl)
  · have h := h.2 hc_5
    refine lv_iconst (v := 0) S.1 S.2.1 (dd_at ddX11_order 11 rfl) (by decide) ?_
    exact e_I S hr hlocks hw h (dd_at ddX11_order 12 rfl)

def b_X11_freed_46 (E : En) (a0 : Nat) (p1 : Int32) (K : Int32 → Dy → Prop) (s0 : Nat) (s1 : Int32) (d : Dy) : Prop := okO E s0 11 ∧ w_X11_throwsIf E s0 s1 2 d (fun r_2 d_1 => ((r_2 = 0 → ∃ b_4 : Nat, eR E a0 1 = some b_4 ∧ okA E b_4 13 ∧ ∃ b_7 : Nat, eR E a0 1 = some b_7 ∧ okA E b_7 13 ∧ vp_in 8 (eN E b_7) ∧ vp_in (504 + (gA d_1 b_7 ((8 : Int32)).toNatClampNeg)) (eN E b_4) ∧ ∃ b_12 : Nat, eR E a0 1 = some b_12 ∧ okA E b_12 13 ∧ vp_in 8 (eN E b_12) ∧ vp_in 8 (eN E b_12) ∧ ∃ b_17 : Nat, eR E a0 1 = some b_17 ∧ okA E b_17 13 ∧ vp_in 8 (eN E b_17) ∧ K (gA (pA (pA d_1 b_4 (504 + (gA d_1 b_7 ((8 : Int32)).toNatClampNeg)).toNatClampNeg p1) b_12 ((8 : Int32)).toNatClampNeg ((gA (pA d_1 b_4 (504 + (gA d_1 b_7 ((8 : Int32)).toNatClampNeg)).toNatClampNeg p1) b_12 ((8 : Int32)).toNatClampNeg) + 1)) b_17 ((8 : Int32)).toNatClampNeg) (pA (pA d_1 b_4 (504 + (gA d_1 b_7 ((8 : Int32)).toNatClampNeg)).toNatClampNeg p1) b_12 ((8 : Int32)).toNatClampNeg ((gA (pA d_1 b_4 (504 + (gA d_1 b_7 ((8 : Int32)).toNatClampNeg)).toNatClampNeg p1) b_12 ((8 : Int32)).toNatClampNeg) + 1))) ∧ (¬ r_2 = 0 → K 0 d_1)))
def b_X11_freed_21 (E : En) (a0 : Nat) (p1 : Int32) (K : Int32 → Dy → Prop) (s0 : Nat) (s1 : Int32) (d : Dy) : Prop := okO E s0 11 ∧ w_X11_throwsIf E s0 s1 1 d (fun r_22 d_21 => ((¬ r_22 = 0 → K 0 d_21) ∧ (r_22 = 0 → ∃ b_24 : Nat, eR E a0 1 = some b_24 ∧ okA E b_24 13 ∧ vp_in 8 (eN E b_24) ∧ ((¬ (gA d_21 b_24 ((8 : Int32)).toNatClampNeg) = 20 → b_X11_freed_46 E a0 p1 K a0 0 d_21) ∧ ((gA d_21 b_24 ((8 : Int32)).toNatClampNeg) = 20 → b_X11_freed_46 E a0 p1 K a0 1 d_21)))))
def w_X11_freed (E : En) (a0 : Nat) (p1 : Int32) (d : Dy) (K : Int32 → Dy → Prop) : Prop := okO E a0 11 ∧ w_X11_in E p1 0 9 (pI d a0 0 0) (fun r_30 d_29 => ((¬ r_30 = 0 → b_X11_freed_21 E a0 p1 K a0 0 d_29) ∧ (r_30 = 0 → b_X11_freed_21 E a0 p1 K a0 1 d_29)))
abbrev rm_X11_freed : Room := { frames := 1, cells := 0, slots := 0, locals := 22 }
set_option maxRecDepth 100000 in
set_option maxHeartbeats 4000000 in
theorem m_X11_freed (l : Launch) (D : va_G) (cs : Nat → ClassId) (E : En) (d : Dy) (sz : Nat) (a0 : Nat) (p1 : Int32) (K : Int32 → Dy → Prop) : CI l yX11_freed (.code yX11_freed cX11_freed 2 (some .int) :: wsL_law) rm_X11_freed D cs E d sz [.ref a0, .int p1] (w_X11_freed E a0 p1 d K) K := by
  refine e_of (cc := cX11_freed) (maxL := 2) (ret := (some .int)) (own := RX11) (by decide) rfl rfl (Nat.le_of_ble_eq_true rfl) ?_
  intro p e s m below meth c S hr hlocks hsz H locs hw h ls hl
  have hl : lv_has ls 2 [(0, .ref a0), (1, .int p1)] := hl
  unfold w_X11_freed at h
  obtain ⟨ha0, h⟩ := h
  have tb46 : ∀ (s0 : Nat) (s1 : Int32) (d : Dy) (H : Heap) (locs : List Loc) (ls : Array Slot), b_X11_freed_46 E a0 p1 K s0 s1 d → Wd D cs (AW E sz) s.heap s E d H locs → lv_has ls 2 [(0, .ref a0), (1, .int p1)] → W p l e rm_X11_freed s m ([.ref a0, .int p1] : List Value).toArray below meth c H locs 0 0 (MQ below (va_Qi K (OutW D cs E (AW E sz)) (AW E sz)) ([.ref a0, .int p1] : List Value).toArray s rm_X11_freed.cells rm_X11_freed.slots (AW E sz)) (F0 m 46 ls [.int s1, .ref s0]) := by
    intro s0 s1 d H locs ls h hw hl
    unfold b_X11_freed_46 at h
    obtain ⟨hos0, h⟩ := h
    refine lv_iconst (v := 2) S.1 S.2.1 (dd_at ddX11_freed 25 rfl) (by decide) ?_
    refine r_callI hw (r_runV (As := [.int s1, .int 2]) (rest := []) S hw (m_X11_throwsIf l D cs E d H.size s0 s1 2 _) (cwV 2 S.2.2.2.2 (gV wg421 wg422 wg423 wg5 wg424) rfl rfl rfl (by decide +kernel) ⟨Nat.le_of_ble_eq_true rfl, Nat.le_of_ble_eq_true rfl⟩) (ci := 11) rfl hos0 h rfl hl.1 rfl (Nat.le_of_ble_eq_true rfl) (dd_at ddX11_freed 26 rfl) ⟨Nat.le_of_ble_eq_true rfl, Nat.le_of_ble_eq_true rfl⟩) (fun r_2 d_1 H locs h hw => ?_)
    refine lv_if_eq (tgt := 55) S.1 S.2.1 (dd_at ddX11_freed 27 rfl) (by decide) (fun hc_3 => ?_) (fun hc_3 => ?_)
    · have h := h.1 hc_3
      refine lv_aload_n S.1 S.2.1 (dd_at ddX11_freed 30 rfl) rfl (lv_at hl 0 rfl) ?_
      obtain ⟨b_4, hb_5, ho_6, h⟩ := h
      refine r_getR S hw 11 1 rfl inG11 (by decide) (List.mem_cons_of_mem _ wg150) (by decide) ha0 hb_5 (dd_at ddX11_freed 31 rfl) ?_
      refine lv_sipush (v := 504) S.1 S.2.1 (dd_at ddX11_freed 32 rfl) (by decide) ?_
      refine lv_aload_n S.1 S.2.1 (dd_at ddX11_freed 33 rfl) rfl (lv_at hl 0 rfl) ?_
      obtain ⟨b_7, hb_8, ho_9, h⟩ := h
      refine r_getR S hw 11 1 rfl inG11 (by decide) (List.mem_cons_of_mem _ wg150) (by decide) ha0 hb_8 (dd_at ddX11_freed 34 rfl) ?_
      refine lv_bipush (v := 8) S.1 S.2.1 (dd_at ddX11_freed 35 rfl) (by decide) ?_
      obtain ⟨hx_10, h⟩ := h
      refine r_iald S hw ho_9 hx_10 (dd_at ddX11_freed 36 rfl) ?_
      refine lv_iadd S.1 S.2.1 (dd_at ddX11_freed 37 rfl) ?_
      refine lv_iload_n S.1 S.2.1 (dd_at ddX11_freed 38 rfl) rfl (lv_at hl 1 rfl) ?_
      obtain ⟨hx_11, h⟩ := h
      refine r_iast S hw ho_6 hx_11 (dd_at ddX11_freed 39 rfl) (fun H locs hw => ?_)
      refine lv_aload_n S.1 S.2.1 (dd_at ddX11_freed 40 rfl) rfl (lv_at hl 0 rfl) ?_
      obtain ⟨b_12, hb_13, ho_14, h⟩ := h
      refine r_getR S hw 11 1 rfl inG11 (by decide) (List.mem_cons_of_mem _ wg150) (by decide) ha0 hb_13 (dd_at ddX11_freed 41 rfl) ?_
      refine lv_bipush (v := 8) S.1 S.2.1 (dd_at ddX11_freed 42 rfl) (by decide) ?_
      refine lv_dup2_11 S.1 S.2.1 (dd_at ddX11_freed 43 rfl) rfl rfl ?_
      obtain ⟨hx_15, h⟩ := h
      refine r_iald S hw ho_14 hx_15 (dd_at ddX11_freed 44 rfl) ?_
      refine lv_iconst (v := 1) S.1 S.2.1 (dd_at ddX11_freed 45 rfl) (by decide) ?_
      refine lv_iadd S.1 S.2.1 (dd_at ddX11_freed 46 rfl) ?_
      obtain ⟨hx_16, h⟩ := h
      refine r_iast S hw ho_14 hx_16 (dd_at ddX11_freed 47 rfl) (fun H locs hw => ?_)
      refine lv_aload_n S.1 S.2.1 (dd_at ddX11_freed 48 rfl) rfl (lv_at hl 0 rfl) ?_
      obtain ⟨b_17, hb_18, ho_19, h⟩ := h
      refine r_getR S hw 11 1 rfl inG11 (by decide) (List.mem_cons_of_mem _ wg150) (by decide) ha0 hb_18 (dd_at ddX11_freed 49 rfl) ?_
      refine lv_bipush (v := 8) S.1 S.2.1 (dd_at ddX11_freed 50 rfl) (by decide) ?_
      obtain ⟨hx_20, h⟩ := h
      refine r_iald S hw ho_19 hx_20 (dd_at ddX11_freed 51 rfl) ?_
      exact e_I S hr hlocks hw h (dd_at ddX11_freed 52 rfl)
    · have h := h.2 hc_3
      refine lv_iconst (v := 0) S.1 S.2.1 (dd_at ddX11_freed 28 rfl) (by decide) ?_
      exact e_I S hr hlocks hw h (dd_at ddX11_freed 29 rfl)
  have tb21 : ∀ (s0 : Nat) (s1 : Int32) (d : Dy) (H : Heap) (locs : List Loc) (ls : Array Slot), b_X11_freed_21 E a0 p1 K s0 s1 d → Wd D cs (AW E sz) s.heap s E d H locs → lv_has ls 2 [(0, .ref a0), (1, .int p1)] → W p l e rm_X11_freed s m ([.ref a0, .int p1] : List Value).toArray below meth c H locs 0 0 (MQ below (va_Qi K (OutW D cs E (AW E sz)) (AW E sz)) ([.ref a0, .int p1] : List Value).toArray s rm_X11_freed.cells rm_X11_freed.slots (AW E sz)) (F0 m 21 ls [.int s1, .ref s0]) := by
    intro s0 s1 d H locs ls h hw hl
    unfold b_X11_freed_21 at h
    obtain ⟨hos0, h⟩ := h
    refine lv_iconst (v := 1) S.1 S.2.1 (dd_at ddX11_freed 12 rfl) (by decide) ?_
    refine r_callI hw (r_runV (As := [.int s1, .int 1]) (rest := []) S hw (m_X11_throwsIf l D cs E d H.size s0 s1 1 _) (cwV 2 S.2.2.2.2 (gV wg421 wg422 wg423 wg5 wg424) rfl rfl rfl (by decide +kernel) ⟨Nat.le_of_ble_eq_true rfl, Nat.le_of_ble_eq_true rfl⟩) (ci := 11) rfl hos0 h rfl hl.1 rfl (Nat.le_of_ble_eq_true rfl) (dd_at ddX11_freed 13 rfl) ⟨Nat.le_of_ble_eq_true rfl, Nat.le_of_ble_eq_true rfl⟩) (fun r_22 d_21 H locs h hw => ?_)
    refine lv_if_ne (tgt := 53) S.1 S.2.1 (dd_at ddX11_freed 14 rfl) (by decide) (fun hc_23 => ?_) (fun hc_23 => ?_)
    · have h := h.1 hc_23
      refine lv_iconst (v := 0) S.1 S.2.1 (dd_at ddX11_freed 28 rfl) (by decide) ?_
      exact e_I S hr hlocks hw h (dd_at ddX11_freed 29 rfl)
    · have h := h.2 hc_23
      refine lv_aload_n S.1 S.2.1 (dd_at ddX11_freed 15 rfl) rfl (lv_at hl 0 rfl) ?_
      refine lv_aload_n S.1 S.2.1 (dd_at ddX11_freed 16 rfl) rfl (lv_at hl 0 rfl) ?_
      obtain ⟨b_24, hb_25, ho_26, h⟩ := h
      refine r_getR S hw 11 1 rfl inG11 (by decide) (List.mem_cons_of_mem _ wg150) (by decide) ha0 hb_25 (dd_at ddX11_freed 17 rfl) ?_
      refine lv_bipush (v := 8) S.1 S.2.1 (dd_at ddX11_freed 18 rfl) (by decide) ?_
      obtain ⟨hx_27, h⟩ := h
      refine r_iald S hw ho_26 hx_27 (dd_at ddX11_freed 19 rfl) ?_
      refine lv_bipush (v := 20) S.1 S.2.1 (dd_at ddX11_freed 20 rfl) (by decide) ?_
      refine lv_icmp_ne (tgt := 45) S.1 S.2.1 (dd_at ddX11_freed 21 rfl) (by decide) (fun hc_28 => ?_) (fun hc_28 => ?_)
      · have h := h.1 hc_28
        refine lv_iconst (v := 0) S.1 S.2.1 (dd_at ddX11_freed 24 rfl) (by decide) ?_
        exact tb46 a0 0 d_21 H locs ls h hw (lv_sub hl [0, 1] rfl)
      · have h := h.2 hc_28
        refine lv_iconst (v := 1) S.1 S.2.1 (dd_at ddX11_freed 22 rfl) (by decide) ?_
        refine lv_goto (tgt := 46) S.1 S.2.1 (dd_at ddX11_freed 23 rfl) (by decide) ?_
        exact tb46 a0 1 d_21 H locs ls h hw (lv_sub hl [0, 1] rfl)
  refine lv_aload_n S.1 S.2.1 (dd_at ddX11_freed 0 rfl) rfl (lv_at hl 0 rfl) ?_
  refine lv_iconst (v := 0) S.1 S.2.1 (dd_at ddX11_freed 1 rfl) (by decide) ?_
  refine r_putI S hw 11 0 (ty := .int) (v := 0) rfl inG11 tyX11 tyX11_ok nmX11 (by decide) (List.mem_cons_of_mem _ wg201) (by decide) rfl (by decide +kernel) rfl rfl ha0 (dd_at ddX11_freed 2 rfl) (fun H locs hw => ?_)
  refine lv_aload_n S.1 S.2.1 (dd_at ddX11_freed 3 rfl) rfl (lv_at hl 0 rfl) ?_
  refine lv_iload_n S.1 S.2.1 (dd_at ddX11_freed 4 rfl) rfl (lv_at hl 1 rfl) ?_
  refine lv_iconst (v := 0) S.1 S.2.1 (dd_at ddX11_freed 5 rfl) (by decide) ?_
  refine lv_bipush (v := 9) S.1 S.2.1 (dd_at ddX11_freed 6 rfl) (by decide) ?_
  refine r_callI hw (r_runS (As := [.int p1, .int 0, .int 9]) (rest := [.ref a0]) S hw (m_X11_in l D cs E (pI d a0 0 0) H.size p1 0 9 _) (va_cwS 3 S.2.2.2.2 (gS wg418 wg419 wg5 wg420) rfl rfl rfl (by decide +kernel) ⟨Nat.le_of_ble_eq_true rfl, Nat.le_of_ble_eq_true rfl⟩) h rfl hl.1 rfl (Nat.le_of_ble_eq_true rfl) (dd_at ddX11_freed 7 rfl) ⟨Nat.le_of_ble_eq_true rfl, Nat.le_of_ble_eq_true rfl⟩) (fun r_30 d_29 H locs h hw => ?_)
  refine lv_if_ne (tgt := 20) S.1 S.2.1 (dd_at ddX11_freed 8 rfl) (by decide) (fun hc_31 => ?_) (fun hc_31 => ?_)
  · have h := h.1 hc_31
    refine lv_iconst (v := 0) S.1 S.2.1 (dd_at ddX11_freed 11 rfl) (by decide) ?_
    exact tb21 a0 0 d_29 H locs ls h hw (lv_sub hl [0, 1] rfl)
  · have h := h.2 hc_31
    refine lv_iconst (v := 1) S.1 S.2.1 (dd_at ddX11_freed 9 rfl) (by decide) ?_
    refine lv_goto (tgt := 21) S.1 S.2.1 (dd_at ddX11_freed 10 rfl) (by decide) ?_
    exact tb21 a0 1 d_29 H locs ls h hw (lv_sub hl [0, 1] rfl)

def b_X11_howLong_35 (E : En) (a0 : Nat) (p1 : Int32) (p2 : Int32) (K : Int32 → Dy → Prop) (k35 : Int32 → Int32 → Dy → Prop) (v3 : Int32) (v4 : Int32) (d : Dy) : Prop := ∃ b_1 : Nat, eR E a0 1 = some b_1 ∧ okA E b_1 13 ∧ vp_in 8 (eN E b_1) ∧ (((gA d b_1 ((8 : Int32)).toNatClampNeg) ≤ v4 → ((0 < v3 → ¬ v3 = 0 ∧ K (((p1 + v3) - 1) / v3) d) ∧ (¬ 0 < v3 → K (-1) d))) ∧ (¬ (gA d b_1 ((8 : Int32)).toNatClampNeg) ≤ v4 → ∃ b_8 : Nat, eR E a0 1 = some b_8 ∧ okA E b_8 13 ∧ vp_in (504 + v4) (eN E b_8) ∧ ((0 ≤ v3 → ((p2 = 0 → k35 (if v3 < (gA d b_8 (504 + v4).toNatClampNeg) then (gA d b_8 (504 + v4).toNatClampNeg) else v3) (v4 + 1) d) ∧ (¬ p2 = 0 → k35 (if (gA d b_8 (504 + v4).toNatClampNeg) < v3 then (gA d b_8 (504 + v4).toNatClampNeg) else v3) (v4 + 1) d))) ∧ (¬ 0 ≤ v3 → k35 (gA d b_8 (504 + v4).toNatClampNeg) (v4 + 1) d))))
def l_X11_howLong_35 (E : En) (a0 : Nat) (p1 : Int32) (p2 : Int32) (K : Int32 → Dy → Prop) : Nat → Int32 → Int32 → Dy → Prop
  | 0 => fun _ _ _ => False
  | n + 1 => b_X11_howLong_35 E a0 p1 p2 K (l_X11_howLong_35 E a0 p1 p2 K n)
def b_X11_howLong_21 (E : En) (a0 : Nat) (p1 : Int32) (p2 : Int32) (K : Int32 → Dy → Prop) (s0 : Nat) (s1 : Int32) (d : Dy) : Prop := okO E s0 11 ∧ w_X11_throwsIf E s0 s1 1 d (fun r_15 d_14 => ((r_15 = 0 → (∃ n_17 : Nat, l_X11_howLong_35 E a0 p1 p2 K n_17 (-1) 0 d_14)) ∧ (¬ r_15 = 0 → K 0 d_14)))
def w_X11_howLong (E : En) (a0 : Nat) (p1 : Int32) (p2 : Int32) (d : Dy) (K : Int32 → Dy → Prop) : Prop := okO E a0 11 ∧ w_X11_in E p1 1 10 (pI d a0 0 0) (fun r_19 d_18 => ((¬ r_19 = 0 → b_X11_howLong_21 E a0 p1 p2 K a0 0 d_18) ∧ (r_19 = 0 → b_X11_howLong_21 E a0 p1 p2 K a0 1 d_18)))
abbrev rm_X11_howLong : Room := { frames := 1, cells := 0, slots := 0, locals := 40 }
set_option maxRecDepth 100000 in
set_option maxHeartbeats 4000000 in
theorem m_X11_howLong (l : Launch) (D : va_G) (cs : Nat → ClassId) (E : En) (d : Dy) (sz : Nat) (a0 : Nat) (p1 : Int32) (p2 : Int32) (K : Int32 → Dy → Prop) : CI l yX11_howLong (.code yX11_howLong cX11_howLong 6 (some .int) :: wsL_law) rm_X11_howLong D cs E d sz [.ref a0, .int p1, .int p2] (w_X11_howLong E a0 p1 p2 d K) K := by
  refine e_of (cc := cX11_howLong) (maxL := 6) (ret := (some .int)) (own := RX11) (by decide) rfl rfl (Nat.le_of_ble_eq_true rfl) ?_
  intro p e s m below meth c S hr hlocks hsz H locs hw h ls hl
  have hl : lv_has ls 6 [(0, .ref a0), (1, .int p1), (2, .int p2)] := hl
  unfold w_X11_howLong at h
  obtain ⟨ha0, h⟩ := h
  have tl35 : ∀ (n : Nat) (v3 : Int32) (v4 : Int32) (d : Dy) (H : Heap) (locs : List Loc) (ls : Array Slot), l_X11_howLong_35 E a0 p1 p2 K n v3 v4 d → Wd D cs (AW E sz) s.heap s E d H locs → lv_has ls 6 [(0, .ref a0), (1, .int p1), (2, .int p2), (3, .int v3), (4, .int v4)] → W p l e rm_X11_howLong s m ([.ref a0, .int p1, .int p2] : List Value).toArray below meth c H locs 0 0 (MQ below (va_Qi K (OutW D cs E (AW E sz)) (AW E sz)) ([.ref a0, .int p1, .int p2] : List Value).toArray s rm_X11_howLong.cells rm_X11_howLong.slots (AW E sz)) (F0 m 35 ls []) := by
    intro n35
    induction n35 with
    | zero => intro v3 v4 d H locs ls h; exact absurd h id
    | succ n35 ih35 =>
      intro v3 v4 d H locs ls h hw hl
      have h : b_X11_howLong_35 E a0 p1 p2 K (l_X11_howLong_35 E a0 p1 p2 K n35) v3 v4 d := h
      unfold b_X11_howLong_35 at h
      refine lv_iload S.1 S.2.1 (dd_at ddX11_howLong 21 rfl) (lv_at hl 4 rfl) ?_
      refine lv_aload_n S.1 S.2.1 (dd_at ddX11_howLong 22 rfl) rfl (lv_at hl 0 rfl) ?_
      obtain ⟨b_1, hb_2, ho_3, h⟩ := h
      refine r_getR S hw 11 1 rfl inG11 (by decide) (List.mem_cons_of_mem _ wg150) (by decide) ha0 hb_2 (dd_at ddX11_howLong 23 rfl) ?_
      refine lv_bipush (v := 8) S.1 S.2.1 (dd_at ddX11_howLong 24 rfl) (by decide) ?_
      obtain ⟨hx_4, h⟩ := h
      refine r_iald S hw ho_3 hx_4 (dd_at ddX11_howLong 25 rfl) ?_
      refine lv_icmp_ge (tgt := 95) S.1 S.2.1 (dd_at ddX11_howLong 26 rfl) (by decide) (fun hc_5 => ?_) (fun hc_5 => ?_)
      · have h := h.1 hc_5
        refine lv_iload_n S.1 S.2.1 (dd_at ddX11_howLong 50 rfl) rfl (lv_at hl 3 rfl) ?_
        refine lv_if_gt (tgt := 103) S.1 S.2.1 (dd_at ddX11_howLong 51 rfl) (by decide) (fun hc_6 => ?_) (fun hc_6 => ?_)
        · have h := h.1 hc_6
          refine lv_iload_n S.1 S.2.1 (dd_at ddX11_howLong 54 rfl) rfl (lv_at hl 1 rfl) ?_
          refine lv_iload_n S.1 S.2.1 (dd_at ddX11_howLong 55 rfl) rfl (lv_at hl 3 rfl) ?_
          refine lv_iadd S.1 S.2.1 (dd_at ddX11_howLong 56 rfl) ?_
          refine lv_iconst (v := 1) S.1 S.2.1 (dd_at ddX11_howLong 57 rfl) (by decide) ?_
          refine lv_isub S.1 S.2.1 (dd_at ddX11_howLong 58 rfl) ?_
          refine lv_iload_n S.1 S.2.1 (dd_at ddX11_howLong 59 rfl) rfl (lv_at hl 3 rfl) ?_
          obtain ⟨hz_7, h⟩ := h
          refine lv_idiv S.1 S.2.1 (dd_at ddX11_howLong 60 rfl) hz_7 ?_
          exact e_I S hr hlocks hw h (dd_at ddX11_howLong 61 rfl)
        · have h := h.2 hc_6
          refine lv_iconst (v := -1) S.1 S.2.1 (dd_at ddX11_howLong 52 rfl) (by decide) ?_
          refine lv_goto (tgt := 110) S.1 S.2.1 (dd_at ddX11_howLong 53 rfl) (by decide) ?_
          exact e_I S hr hlocks hw h (dd_at ddX11_howLong 61 rfl)
      · have h := h.2 hc_5
        refine lv_aload_n S.1 S.2.1 (dd_at ddX11_howLong 27 rfl) rfl (lv_at hl 0 rfl) ?_
        obtain ⟨b_8, hb_9, ho_10, h⟩ := h
        refine r_getR S hw 11 1 rfl inG11 (by decide) (List.mem_cons_of_mem _ wg150) (by decide) ha0 hb_9 (dd_at ddX11_howLong 28 rfl) ?_
        refine lv_sipush (v := 504) S.1 S.2.1 (dd_at ddX11_howLong 29 rfl) (by decide) ?_
        refine lv_iload S.1 S.2.1 (dd_at ddX11_howLong 30 rfl) (lv_at hl 4 rfl) ?_
        refine lv_iadd S.1 S.2.1 (dd_at ddX11_howLong 31 rfl) ?_
        obtain ⟨hx_11, h⟩ := h
        refine r_iald S hw ho_10 hx_11 (dd_at ddX11_howLong 32 rfl) ?_
        refine lv_istore (lv' := [(5, .int (gA d b_8 (504 + v4).toNatClampNeg)), (0, .ref a0), (1, .int p1), (2, .int p2), (3, .int v3), (4, .int v4)]) S.1 S.2.1 (dd_at ddX11_howLong 33 rfl) hl (by decide) rfl (fun ls hl => ?_)
        refine lv_iload_n S.1 S.2.1 (dd_at ddX11_howLong 34 rfl) rfl (lv_at hl 4 rfl) ?_
        refine lv_if_ge (tgt := 69) S.1 S.2.1 (dd_at ddX11_howLong 35 rfl) (by decide) (fun hc_12 => ?_) (fun hc_12 => ?_)
        · have h := h.1 hc_12
          refine lv_iload_n S.1 S.2.1 (dd_at ddX11_howLong 38 rfl) rfl (lv_at hl 3 rfl) ?_
          refine lv_if_eq (tgt := 82) S.1 S.2.1 (dd_at ddX11_howLong 39 rfl) (by decide) (fun hc_13 => ?_) (fun hc_13 => ?_)
          · have h := h.1 hc_13
            refine lv_iload_n S.1 S.2.1 (dd_at ddX11_howLong 44 rfl) rfl (lv_at hl 4 rfl) ?_
            refine lv_iload S.1 S.2.1 (dd_at ddX11_howLong 45 rfl) (lv_at hl 0 rfl) ?_
            refine va_mmax S.1 S.2.1 (by rw [hl.1]; exact S.2.2.1) S.2.2.2.1 (S.2.2.2.2 _ (List.mem_cons_of_mem _ wg847)) (S.2.2.2.2 _ (List.mem_cons_of_mem _ wg69)) (S.2.2.2.2 _ (List.mem_cons_of_mem _ wg70)) (S.2.2.2.2 _ (List.mem_cons_of_mem _ wg71)) (Nat.le_of_ble_eq_true rfl) (Nat.le_of_ble_eq_true rfl) (Nat.le_of_ble_eq_true rfl) (Nat.le_of_ble_eq_true rfl) (dd_at ddX11_howLong 46 rfl) ?_
            refine lv_istore_n (lv' := [(3, .int (if v3 < (gA d b_8 (504 + v4).toNatClampNeg) then (gA d b_8 (504 + v4).toNatClampNeg) else v3)), (5, .int (gA d b_8 (504 + v4).toNatClampNeg)), (0, .ref a0), (1, .int p1), (2, .int p2), (4, .int v4)]) S.1 S.2.1 (dd_at ddX11_howLong 47 rfl) rfl hl (by decide) rfl (fun ls hl => ?_)
            refine lv_iinc (v := v4 + 1) (lv' := [(4, .int (v4 + 1)), (3, .int (if v3 < (gA d b_8 (504 + v4).toNatClampNeg) then (gA d b_8 (504 + v4).toNatClampNeg) else v3)), (5, .int (gA d b_8 (504 + v4).toNatClampNeg)), (0, .ref a0), (1, .int p1), (2, .int p2)]) S.1 S.2.1 (dd_at ddX11_howLong 48 rfl) hl (k := 5) rfl rfl (by decide) rfl (fun ls hl => ?_)
            refine lv_goto (tgt := 35) S.1 S.2.1 (dd_at ddX11_howLong 49 rfl) (by decide) ?_
            exact ih35 (if v3 < (gA d b_8 (504 + v4).toNatClampNeg) then (gA d b_8 (504 + v4).toNatClampNeg) else v3) (v4 + 1) d H locs ls h hw (lv_sub hl [3, 4, 5, 1, 0] rfl)
          · have h := h.2 hc_13
            refine lv_iload_n S.1 S.2.1 (dd_at ddX11_howLong 40 rfl) rfl (lv_at hl 4 rfl) ?_
            refine lv_iload S.1 S.2.1 (dd_at ddX11_howLong 41 rfl) (lv_at hl 0 rfl) ?_
            refine va_mmin S.1 S.2.1 (by rw [hl.1]; exact S.2.2.1) S.2.2.2.1 (S.2.2.2.2 _ (List.mem_cons_of_mem _ wg1105)) (S.2.2.2.2 _ (List.mem_cons_of_mem _ wg212)) (S.2.2.2.2 _ (List.mem_cons_of_mem _ wg70)) (S.2.2.2.2 _ (List.mem_cons_of_mem _ wg213)) (Nat.le_of_ble_eq_true rfl) (Nat.le_of_ble_eq_true rfl) (Nat.le_of_ble_eq_true rfl) (Nat.le_of_ble_eq_true rfl) (dd_at ddX11_howLong 42 rfl) ?_
            refine lv_goto (tgt := 88) S.1 S.2.1 (dd_at ddX11_howLong 43 rfl) (by decide) ?_
            refine lv_istore_n (lv' := [(3, .int (if (gA d b_8 (504 + v4).toNatClampNeg) < v3 then (gA d b_8 (504 + v4).toNatClampNeg) else v3)), (5, .int (gA d b_8 (504 + v4).toNatClampNeg)), (0, .ref a0), (1, .int p1), (2, .int p2), (4, .int v4)]) S.1 S.2.1 (dd_at ddX11_howLong 47 rfl) rfl hl (by decide) rfl (fun ls hl => ?_)
            refine lv_iinc (v := v4 + 1) (lv' := [(4, .int (v4 + 1)), (3, .int (if (gA d b_8 (504 + v4).toNatClampNeg) < v3 then (gA d b_8 (504 + v4).toNatClampNeg) else v3)), (5, .int (gA d b_8 (504 + v4).toNatClampNeg)), (0, .ref a0), (1, .int p1), (2, .int p2)]) S.1 S.2.1 (dd_at ddX11_howLong 48 rfl) hl (k := 5) rfl rfl (by decide) rfl (fun ls hl => ?_)
            refine lv_goto (tgt := 35) S.1 S.2.1 (dd_at ddX11_howLong 49 rfl) (by decide) ?_
            exact ih35 (if (gA d b_8 (504 + v4).toNatClampNeg) < v3 then (gA d b_8 (504 + v4).toNatClampNeg) else v3) (v4 + 1) d H locs ls h hw (lv_sub hl [3, 4, 5, 1, 0] rfl)
        · have h := h.2 hc_12
          refine lv_iload S.1 S.2.1 (dd_at ddX11_howLong 36 rfl) (lv_at hl 0 rfl) ?_
          refine lv_goto (tgt := 88) S.1 S.2.1 (dd_at ddX11_howLong 37 rfl) (by decide) ?_
          refine lv_istore_n (lv' := [(3, .int (gA d b_8 (504 + v4).toNatClampNeg)), (5, .int (gA d b_8 (504 + v4).toNatClampNeg)), (0, .ref a0), (1, .int p1), (2, .int p2), (4, .int v4)]) S.1 S.2.1 (dd_at ddX11_howLong 47 rfl) rfl hl (by decide) rfl (fun ls hl => ?_)
          refine lv_iinc (v := v4 + 1) (lv' := [(4, .int (v4 + 1)), (3, .int (gA d b_8 (504 + v4).toNatClampNeg)), (5, .int (gA d b_8 (504 + v4).toNatClampNeg)), (0, .ref a0), (1, .int p1), (2, .int p2)]) S.1 S.2.1 (dd_at ddX11_howLong 48 rfl) hl (k := 5) rfl rfl (by decide) rfl (fun ls hl => ?_)
          refine lv_goto (tgt := 35) S.1 S.2.1 (dd_at ddX11_howLong 49 rfl) (by decide) ?_
          exact ih35 (gA d b_8 (504 + v4).toNatClampNeg) (v4 + 1) d H locs ls h hw (lv_sub hl [3, 4, 5, 1, 0] rfl)
  have tb21 : ∀ (s0 : Nat) (s1 : Int32) (d : Dy) (H : Heap) (locs : List Loc) (ls : Array Slot), b_X11_howLong_21 E a0 p1 p2 K s0 s1 d → Wd D cs (AW E sz) s.heap s E d H locs → lv_has ls 6 [(0, .ref a0), (1, .int p1), (2, .int p2)] → W p l e rm_X11_howLong s m ([.ref a0, .int p1, .int p2] : List Value).toArray below meth c H locs 0 0 (MQ below (va_Qi K (OutW D cs E (AW E sz)) (AW E sz)) ([.ref a0, .int p1, .int p2] : List Value).toArray s rm_X11_howLong.cells rm_X11_howLong.slots (AW E sz)) (F0 m 21 ls [.int s1, .ref s0]) := by
    intro s0 s1 d H locs ls h hw hl
    unfold b_X11_howLong_21 at h
    obtain ⟨hos0, h⟩ := h
    refine lv_iconst (v := 1) S.1 S.2.1 (dd_at ddX11_howLong 12 rfl) (by decide) ?_
    refine r_callI hw (r_runV (As := [.int s1, .int 1]) (rest := []) S hw (m_X11_throwsIf l D cs E d H.size s0 s1 1 _) (cwV 2 S.2.2.2.2 (gV wg421 wg422 wg423 wg5 wg424) rfl rfl rfl (by decide +kernel) ⟨Nat.le_of_ble_eq_true rfl, Nat.le_of_ble_eq_true rfl⟩) (ci := 11) rfl hos0 h rfl hl.1 rfl (Nat.le_of_ble_eq_true rfl) (dd_at ddX11_howLong 13 rfl) ⟨Nat.le_of_ble_eq_true rfl, Nat.le_of_ble_eq_true rfl⟩) (fun r_15 d_14 H locs h hw => ?_)
    refine lv_if_eq (tgt := 30) S.1 S.2.1 (dd_at ddX11_howLong 14 rfl) (by decide) (fun hc_16 => ?_) (fun hc_16 => ?_)
    · have h := h.1 hc_16
      refine lv_iconst (v := -1) S.1 S.2.1 (dd_at ddX11_howLong 17 rfl) (by decide) ?_
      refine lv_istore_n (lv' := [(3, .int (-1)), (0, .ref a0), (1, .int p1), (2, .int p2)]) S.1 S.2.1 (dd_at ddX11_howLong 18 rfl) rfl hl (by decide) rfl (fun ls hl => ?_)
      refine lv_iconst (v := 0) S.1 S.2.1 (dd_at ddX11_howLong 19 rfl) (by decide) ?_
      refine lv_istore (lv' := [(4, .int 0), (3, .int (-1)), (0, .ref a0), (1, .int p1), (2, .int p2)]) S.1 S.2.1 (dd_at ddX11_howLong 20 rfl) hl (by decide) rfl (fun ls hl => ?_)
      obtain ⟨n_17, h⟩ := h
      exact tl35 n_17 (-1) 0 d_14 H locs ls h hw (lv_sub hl [2, 3, 4, 1, 0] rfl)
    · have h := h.2 hc_16
      refine lv_iconst (v := 0) S.1 S.2.1 (dd_at ddX11_howLong 15 rfl) (by decide) ?_
      exact e_I S hr hlocks hw h (dd_at ddX11_howLong 16 rfl)
  refine lv_aload_n S.1 S.2.1 (dd_at ddX11_howLong 0 rfl) rfl (lv_at hl 0 rfl) ?_
  refine lv_iconst (v := 0) S.1 S.2.1 (dd_at ddX11_howLong 1 rfl) (by decide) ?_
  refine r_putI S hw 11 0 (ty := .int) (v := 0) rfl inG11 tyX11 tyX11_ok nmX11 (by decide) (List.mem_cons_of_mem _ wg201) (by decide) rfl (by decide +kernel) rfl rfl ha0 (dd_at ddX11_howLong 2 rfl) (fun H locs hw => ?_)
  refine lv_aload_n S.1 S.2.1 (dd_at ddX11_howLong 3 rfl) rfl (lv_at hl 0 rfl) ?_
  refine lv_iload_n S.1 S.2.1 (dd_at ddX11_howLong 4 rfl) rfl (lv_at hl 1 rfl) ?_
  refine lv_iconst (v := 1) S.1 S.2.1 (dd_at ddX11_howLong 5 rfl) (by decide) ?_
  refine lv_bipush (v := 10) S.1 S.2.1 (dd_at ddX11_howLong 6 rfl) (by decide) ?_
  refine r_callI hw (r_runS (As := [.int p1, .int 1, .int 10]) (rest := [.ref a0]) S hw (m_X11_in l D cs E (pI d a0 0 0) H.size p1 1 10 _) (va_cwS 3 S.2.2.2.2 (gS wg418 wg419 wg5 wg420) rfl rfl rfl (by decide +kernel) ⟨Nat.le_of_ble_eq_true rfl, Nat.le_of_ble_eq_true rfl⟩) h rfl hl.1 rfl (Nat.le_of_ble_eq_true rfl) (dd_at ddX11_howLong 7 rfl) ⟨Nat.le_of_ble_eq_true rfl, Nat.le_of_ble_eq_true rfl⟩) (fun r_19 d_18 H locs h hw => ?_)
  refine lv_if_ne (tgt := 20) S.1 S.2.1 (dd_at ddX11_howLong 8 rfl) (by decide) (fun hc_20 => ?_) (fun hc_20 => ?_)
  · have h := h.1 hc_20
    refine lv_iconst (v := 0) S.1 S.2.1 (dd_at ddX11_howLong 11 rfl) (by decide) ?_
    exact tb21 a0 0 d_18 H locs ls h hw (lv_sub hl [0, 1, 2] rfl)
  · have h := h.2 hc_20
    refine lv_iconst (v := 1) S.1 S.2.1 (dd_at ddX11_howLong 9 rfl) (by decide) ?_
    refine lv_goto (tgt := 21) S.1 S.2.1 (dd_at ddX11_howLong 10 rfl) (by decide) ?_
    exact tb21 a0 1 d_18 H locs ls h hw (lv_sub hl [0, 1, 2] rfl)

def b_X11_toll_58 (E : En) (a0 : Nat) (p1 : Int32) (p2 : Int32) (K : Int32 → Dy → Prop) (k58 : Int32 → Int32 → Dy → Prop) (v3 : Int32) (v4 : Int32) (d : Dy) : Prop := ∃ b_1 : Nat, eR E a0 1 = some b_1 ∧ okA E b_1 13 ∧ vp_in 2 (eN E b_1) ∧ (((gA d b_1 ((2 : Int32)).toNatClampNeg) ≤ v4 → K v3 d) ∧ (¬ (gA d b_1 ((2 : Int32)).toNatClampNeg) ≤ v4 → ∃ b_6 : Nat, eR E a0 24 = some b_6 ∧ okA E b_6 15 ∧ vp_in v4 (eN E b_6) ∧ (((gA d b_6 (v4).toNatClampNeg) = 0 → k58 (v3 + 0) (v4 + 1) d) ∧ (¬ (gA d b_6 (v4).toNatClampNeg) = 0 → w_X11_ofEvent E a0 v4 0 d (fun r_12 d_11 => ((¬ r_12 = p1 → k58 (v3 + 0) (v4 + 1) d_11) ∧ (r_12 = p1 → w_X11_ofEvent E a0 v4 4 d_11 (fun r_15 d_14 => k58 (v3 + ((r_15 * p2) / 100)) (v4 + 1) d_14))))))))
def l_X11_toll_58 (E : En) (a0 : Nat) (p1 : Int32) (p2 : Int32) (K : Int32 → Dy → Prop) : Nat → Int32 → Int32 → Dy → Prop
  | 0 => fun _ _ _ => False
  | n + 1 => b_X11_toll_58 E a0 p1 p2 K (l_X11_toll_58 E a0 p1 p2 K n)
def b_X11_toll_33 (E : En) (a0 : Nat) (p1 : Int32) (p2 : Int32) (K : Int32 → Dy → Prop) (s0 : Nat) (s1 : Int32) (d : Dy) : Prop := okO E s0 11 ∧ w_X11_throwsIf E s0 s1 2 d (fun r_18 d_17 => ((r_18 = 0 → ∃ b_20 : Nat, eR E a0 1 = some b_20 ∧ okA E b_20 13 ∧ vp_in 3 (eN E b_20) ∧ w_X11_goes E a0 p1 (gA d_17 b_20 ((3 : Int32)).toNatClampNeg) d_17 (fun d_24 => (∃ n_26 : Nat, l_X11_toll_58 E a0 p1 p2 K n_26 0 0 d_24))) ∧ (¬ r_18 = 0 → K 0 d_17)))
def w_X11_toll (E : En) (a0 : Nat) (p1 : Int32) (p2 : Int32) (d : Dy) (K : Int32 → Dy → Prop) : Prop := okO E a0 11 ∧ w_X11_noYear E p1 (pI d a0 0 0) (fun r_28 d_27 => w_X11_throwsIf E a0 r_28 1 d_27 (fun r_30 d_29 => ((¬ r_30 = 0 → K 0 d_29) ∧ (r_30 = 0 → w_X11_in E p2 0 100 d_29 (fun r_33 d_32 => ((¬ r_33 = 0 → b_X11_toll_33 E a0 p1 p2 K a0 0 d_32) ∧ (r_33 = 0 → b_X11_toll_33 E a0 p1 p2 K a0 1 d_32)))))))
abbrev rm_X11_toll : Room := { frames := 7, cells := 0, slots := 0, locals := 167 }
set_option maxRecDepth 100000 in
set_option maxHeartbeats 4000000 in
theorem m_X11_toll (l : Launch) (D : va_G) (cs : Nat → ClassId) (E : En) (d : Dy) (sz : Nat) (a0 : Nat) (p1 : Int32) (p2 : Int32) (K : Int32 → Dy → Prop) : CI l yX11_toll (.code yX11_toll cX11_toll 5 (some .int) :: wsL_law) rm_X11_toll D cs E d sz [.ref a0, .int p1, .int p2] (w_X11_toll E a0 p1 p2 d K) K := by
  refine e_of (cc := cX11_toll) (maxL := 5) (ret := (some .int)) (own := RX11) (by decide) rfl rfl (Nat.le_of_ble_eq_true rfl) ?_
  intro p e s m below meth c S hr hlocks hsz H locs hw h ls hl
  have hl : lv_has ls 5 [(0, .ref a0), (1, .int p1), (2, .int p2)] := hl
  unfold w_X11_toll at h
  obtain ⟨ha0, h⟩ := h
  have tl58 : ∀ (n : Nat) (v3 : Int32) (v4 : Int32) (d : Dy) (H : Heap) (locs : List Loc) (ls : Array Slot), l_X11_toll_58 E a0 p1 p2 K n v3 v4 d → Wd D cs (AW E sz) s.heap s E d H locs → lv_has ls 5 [(0, .ref a0), (1, .int p1), (2, .int p2), (3, .int v3), (4, .int v4)] → W p l e rm_X11_toll s m ([.ref a0, .int p1, .int p2] : List Value).toArray below meth c H locs 0 0 (MQ below (va_Qi K (OutW D cs E (AW E sz)) (AW E sz)) ([.ref a0, .int p1, .int p2] : List Value).toArray s rm_X11_toll.cells rm_X11_toll.slots (AW E sz)) (F0 m 58 ls []) := by
    intro n58
    induction n58 with
    | zero => intro v3 v4 d H locs ls h; exact absurd h id
    | succ n58 ih58 =>
      intro v3 v4 d H locs ls h hw hl
      have h : b_X11_toll_58 E a0 p1 p2 K (l_X11_toll_58 E a0 p1 p2 K n58) v3 v4 d := h
      unfold b_X11_toll_58 at h
      refine lv_iload S.1 S.2.1 (dd_at ddX11_toll 34 rfl) (lv_at hl 4 rfl) ?_
      refine lv_aload_n S.1 S.2.1 (dd_at ddX11_toll 35 rfl) rfl (lv_at hl 0 rfl) ?_
      obtain ⟨b_1, hb_2, ho_3, h⟩ := h
      refine r_getR S hw 11 1 rfl inG11 (by decide) (List.mem_cons_of_mem _ wg150) (by decide) ha0 hb_2 (dd_at ddX11_toll 36 rfl) ?_
      refine lv_iconst (v := 2) S.1 S.2.1 (dd_at ddX11_toll 37 rfl) (by decide) ?_
      obtain ⟨hx_4, h⟩ := h
      refine r_iald S hw ho_3 hx_4 (dd_at ddX11_toll 38 rfl) ?_
      refine lv_icmp_ge (tgt := 115) S.1 S.2.1 (dd_at ddX11_toll 39 rfl) (by decide) (fun hc_5 => ?_) (fun hc_5 => ?_)
      · have h := h.1 hc_5
        refine lv_iload_n S.1 S.2.1 (dd_at ddX11_toll 66 rfl) rfl (lv_at hl 3 rfl) ?_
        exact e_I S hr hlocks hw h (dd_at ddX11_toll 67 rfl)
      · have h := h.2 hc_5
        refine lv_iload_n S.1 S.2.1 (dd_at ddX11_toll 40 rfl) rfl (lv_at hl 3 rfl) ?_
        refine lv_aload_n S.1 S.2.1 (dd_at ddX11_toll 41 rfl) rfl (lv_at hl 0 rfl) ?_
        obtain ⟨b_6, hb_7, ho_8, h⟩ := h
        refine r_getR S hw 11 24 rfl inG11 (by decide) (List.mem_cons_of_mem _ wg166) (by decide) ha0 hb_7 (dd_at ddX11_toll 42 rfl) ?_
        refine lv_iload S.1 S.2.1 (dd_at ddX11_toll 43 rfl) (lv_at hl 4 rfl) ?_
        obtain ⟨hx_9, h⟩ := h
        refine r_zald S hw ho_8 hx_9 (dd_at ddX11_toll 44 rfl) ?_
        refine lv_if_eq (tgt := 106) S.1 S.2.1 (dd_at ddX11_toll 45 rfl) (by decide) (fun hc_10 => ?_) (fun hc_10 => ?_)
        · have h := h.1 hc_10
          refine lv_iconst (v := 0) S.1 S.2.1 (dd_at ddX11_toll 61 rfl) (by decide) ?_
          refine lv_iadd S.1 S.2.1 (dd_at ddX11_toll 62 rfl) ?_
          refine lv_istore_n (lv' := [(3, .int (v3 + 0)), (0, .ref a0), (1, .int p1), (2, .int p2), (4, .int v4)]) S.1 S.2.1 (dd_at ddX11_toll 63 rfl) rfl hl (by decide) rfl (fun ls hl => ?_)
          refine lv_iinc (v := v4 + 1) (lv' := [(4, .int (v4 + 1)), (3, .int (v3 + 0)), (0, .ref a0), (1, .int p1), (2, .int p2)]) S.1 S.2.1 (dd_at ddX11_toll 64 rfl) hl (k := 4) rfl rfl (by decide) rfl (fun ls hl => ?_)
          refine lv_goto (tgt := 58) S.1 S.2.1 (dd_at ddX11_toll 65 rfl) (by decide) ?_
          exact ih58 (v3 + 0) (v4 + 1) d H locs ls h hw (lv_sub hl [2, 3, 4, 1, 0] rfl)
        · have h := h.2 hc_10
          refine lv_aload_n S.1 S.2.1 (dd_at ddX11_toll 46 rfl) rfl (lv_at hl 0 rfl) ?_
          refine lv_iload S.1 S.2.1 (dd_at ddX11_toll 47 rfl) (lv_at hl 4 rfl) ?_
          refine lv_iconst (v := 0) S.1 S.2.1 (dd_at ddX11_toll 48 rfl) (by decide) ?_
          refine r_callI hw (r_runV (As := [.int v4, .int 0]) (rest := [.int v3]) S hw (m_X11_ofEvent l D cs E d H.size a0 v4 0 _) (cwV 2 S.2.2.2.2 (gV wg823 wg824 wg825 wg5 wg826) rfl rfl rfl (by decide +kernel) ⟨Nat.le_of_ble_eq_true rfl, Nat.le_of_ble_eq_true rfl⟩) (ci := 11) rfl ha0 h rfl hl.1 rfl (Nat.le_of_ble_eq_true rfl) (dd_at ddX11_toll 49 rfl) ⟨Nat.le_of_ble_eq_true rfl, Nat.le_of_ble_eq_true rfl⟩) (fun r_12 d_11 H locs h hw => ?_)
          refine lv_iload_n S.1 S.2.1 (dd_at ddX11_toll 50 rfl) rfl (lv_at hl 1 rfl) ?_
          refine lv_icmp_ne (tgt := 106) S.1 S.2.1 (dd_at ddX11_toll 51 rfl) (by decide) (fun hc_13 => ?_) (fun hc_13 => ?_)
          · have h := h.1 hc_13
            refine lv_iconst (v := 0) S.1 S.2.1 (dd_at ddX11_toll 61 rfl) (by decide) ?_
            refine lv_iadd S.1 S.2.1 (dd_at ddX11_toll 62 rfl) ?_
            refine lv_istore_n (lv' := [(3, .int (v3 + 0)), (0, .ref a0), (1, .int p1), (2, .int p2), (4, .int v4)]) S.1 S.2.1 (dd_at ddX11_toll 63 rfl) rfl hl (by decide) rfl (fun ls hl => ?_)
            refine lv_iinc (v := v4 + 1) (lv' := [(4, .int (v4 + 1)), (3, .int (v3 + 0)), (0, .ref a0), (1, .int p1), (2, .int p2)]) S.1 S.2.1 (dd_at ddX11_toll 64 rfl) hl (k := 4) rfl rfl (by decide) rfl (fun ls hl => ?_)
            refine lv_goto (tgt := 58) S.1 S.2.1 (dd_at ddX11_toll 65 rfl) (by decide) ?_
            exact ih58 (v3 + 0) (v4 + 1) d_11 H locs ls h hw (lv_sub hl [2, 3, 4, 1, 0] rfl)
          · have h := h.2 hc_13
            refine lv_aload_n S.1 S.2.1 (dd_at ddX11_toll 52 rfl) rfl (lv_at hl 0 rfl) ?_
            refine lv_iload S.1 S.2.1 (dd_at ddX11_toll 53 rfl) (lv_at hl 4 rfl) ?_
            refine lv_iconst (v := 4) S.1 S.2.1 (dd_at ddX11_toll 54 rfl) (by decide) ?_
            refine r_callI hw (r_runV (As := [.int v4, .int 4]) (rest := [.int v3]) S hw (m_X11_ofEvent l D cs E d_11 H.size a0 v4 4 _) (cwV 2 S.2.2.2.2 (gV wg823 wg824 wg825 wg5 wg826) rfl rfl rfl (by decide +kernel) ⟨Nat.le_of_ble_eq_true rfl, Nat.le_of_ble_eq_true rfl⟩) (ci := 11) rfl ha0 h rfl hl.1 rfl (Nat.le_of_ble_eq_true rfl) (dd_at ddX11_toll 55 rfl) ⟨Nat.le_of_ble_eq_true rfl, Nat.le_of_ble_eq_true rfl⟩) (fun r_15 d_14 H locs h hw => ?_)
            refine lv_iload_n S.1 S.2.1 (dd_at ddX11_toll 56 rfl) rfl (lv_at hl 2 rfl) ?_
            refine lv_imul S.1 S.2.1 (dd_at ddX11_toll 57 rfl) ?_
            refine lv_bipush (v := 100) S.1 S.2.1 (dd_at ddX11_toll 58 rfl) (by decide) ?_
            refine lv_idiv S.1 S.2.1 (dd_at ddX11_toll 59 rfl) (by decide) ?_
            refine lv_goto (tgt := 107) S.1 S.2.1 (dd_at ddX11_toll 60 rfl) (by decide) ?_
            refine lv_iadd S.1 S.2.1 (dd_at ddX11_toll 62 rfl) ?_
            refine lv_istore_n (lv' := [(3, .int (v3 + ((r_15 * p2) / 100))), (0, .ref a0), (1, .int p1), (2, .int p2), (4, .int v4)]) S.1 S.2.1 (dd_at ddX11_toll 63 rfl) rfl hl (by decide) rfl (fun ls hl => ?_)
            refine lv_iinc (v := v4 + 1) (lv' := [(4, .int (v4 + 1)), (3, .int (v3 + ((r_15 * p2) / 100))), (0, .ref a0), (1, .int p1), (2, .int p2)]) S.1 S.2.1 (dd_at ddX11_toll 64 rfl) hl (k := 4) rfl rfl (by decide) rfl (fun ls hl => ?_)
            refine lv_goto (tgt := 58) S.1 S.2.1 (dd_at ddX11_toll 65 rfl) (by decide) ?_
            exact ih58 (v3 + ((r_15 * p2) / 100)) (v4 + 1) d_14 H locs ls h hw (lv_sub hl [2, 3, 4, 1, 0] rfl)
  have tb33 : ∀ (s0 : Nat) (s1 : Int32) (d : Dy) (H : Heap) (locs : List Loc) (ls : Array Slot), b_X11_toll_33 E a0 p1 p2 K s0 s1 d → Wd D cs (AW E sz) s.heap s E d H locs → lv_has ls 5 [(0, .ref a0), (1, .int p1), (2, .int p2)] → W p l e rm_X11_toll s m ([.ref a0, .int p1, .int p2] : List Value).toArray below meth c H locs 0 0 (MQ below (va_Qi K (OutW D cs E (AW E sz)) (AW E sz)) ([.ref a0, .int p1, .int p2] : List Value).toArray s rm_X11_toll.cells rm_X11_toll.slots (AW E sz)) (F0 m 33 ls [.int s1, .ref s0]) := by
    intro s0 s1 d H locs ls h hw hl
    unfold b_X11_toll_33 at h
    obtain ⟨hos0, h⟩ := h
    refine lv_iconst (v := 2) S.1 S.2.1 (dd_at ddX11_toll 18 rfl) (by decide) ?_
    refine r_callI hw (r_runV (As := [.int s1, .int 2]) (rest := []) S hw (m_X11_throwsIf l D cs E d H.size s0 s1 2 _) (cwV 2 S.2.2.2.2 (gV wg421 wg422 wg423 wg5 wg424) rfl rfl rfl (by decide +kernel) ⟨Nat.le_of_ble_eq_true rfl, Nat.le_of_ble_eq_true rfl⟩) (ci := 11) rfl hos0 h rfl hl.1 rfl (Nat.le_of_ble_eq_true rfl) (dd_at ddX11_toll 19 rfl) ⟨Nat.le_of_ble_eq_true rfl, Nat.le_of_ble_eq_true rfl⟩) (fun r_18 d_17 H locs h hw => ?_)
    refine lv_if_eq (tgt := 42) S.1 S.2.1 (dd_at ddX11_toll 20 rfl) (by decide) (fun hc_19 => ?_) (fun hc_19 => ?_)
    · have h := h.1 hc_19
      refine lv_aload_n S.1 S.2.1 (dd_at ddX11_toll 23 rfl) rfl (lv_at hl 0 rfl) ?_
      refine lv_iload_n S.1 S.2.1 (dd_at ddX11_toll 24 rfl) rfl (lv_at hl 1 rfl) ?_
      refine lv_aload_n S.1 S.2.1 (dd_at ddX11_toll 25 rfl) rfl (lv_at hl 0 rfl) ?_
      obtain ⟨b_20, hb_21, ho_22, h⟩ := h
      refine r_getR S hw 11 1 rfl inG11 (by decide) (List.mem_cons_of_mem _ wg150) (by decide) ha0 hb_21 (dd_at ddX11_toll 26 rfl) ?_
      refine lv_iconst (v := 3) S.1 S.2.1 (dd_at ddX11_toll 27 rfl) (by decide) ?_
      obtain ⟨hx_23, h⟩ := h
      refine r_iald S hw ho_22 hx_23 (dd_at ddX11_toll 28 rfl) ?_
      refine r_callV hw (r_runV (As := [.int p1, .int (gA d_17 b_20 ((3 : Int32)).toNatClampNeg)]) (rest := []) S hw (m_X11_goes l D cs E d_17 H.size a0 p1 (gA d_17 b_20 ((3 : Int32)).toNatClampNeg) _) (cwV 2 S.2.2.2.2 (gV wg814 wg815 wg816 wg5 wg817) rfl rfl rfl (by decide +kernel) ⟨Nat.le_of_ble_eq_true rfl, Nat.le_of_ble_eq_true rfl⟩) (ci := 11) rfl ha0 h rfl hl.1 rfl (Nat.le_of_ble_eq_true rfl) (dd_at ddX11_toll 29 rfl) ⟨Nat.le_of_ble_eq_true rfl, Nat.le_of_ble_eq_true rfl⟩) (fun d_24 H locs h hw => ?_)
      refine lv_iconst (v := 0) S.1 S.2.1 (dd_at ddX11_toll 30 rfl) (by decide) ?_
      refine lv_istore_n (lv' := [(3, .int 0), (0, .ref a0), (1, .int p1), (2, .int p2)]) S.1 S.2.1 (dd_at ddX11_toll 31 rfl) rfl hl (by decide) rfl (fun ls hl => ?_)
      refine lv_iconst (v := 0) S.1 S.2.1 (dd_at ddX11_toll 32 rfl) (by decide) ?_
      refine lv_istore (lv' := [(4, .int 0), (3, .int 0), (0, .ref a0), (1, .int p1), (2, .int p2)]) S.1 S.2.1 (dd_at ddX11_toll 33 rfl) hl (by decide) rfl (fun ls hl => ?_)
      obtain ⟨n_26, h⟩ := h
      exact tl58 n_26 0 0 d_24 H locs ls h hw (lv_sub hl [2, 3, 4, 1, 0] rfl)
    · have h := h.2 hc_19
      refine lv_iconst (v := 0) S.1 S.2.1 (dd_at ddX11_toll 21 rfl) (by decide) ?_
      exact e_I S hr hlocks hw h (dd_at ddX11_toll 22 rfl)
  refine lv_aload_n S.1 S.2.1 (dd_at ddX11_toll 0 rfl) rfl (lv_at hl 0 rfl) ?_
  refine lv_iconst (v := 0) S.1 S.2.1 (dd_at ddX11_toll 1 rfl) (by decide) ?_
  refine r_putI S hw 11 0 (ty := .int) (v := 0) rfl inG11 tyX11 tyX11_ok nmX11 (by decide) (List.mem_cons_of_mem _ wg201) (by decide) rfl (by decide +kernel) rfl rfl ha0 (dd_at ddX11_toll 2 rfl) (fun H locs hw => ?_)
  refine lv_aload_n S.1 S.2.1 (dd_at ddX11_toll 3 rfl) rfl (lv_at hl 0 rfl) ?_
  refine lv_iload_n S.1 S.2.1 (dd_at ddX11_toll 4 rfl) rfl (lv_at hl 1 rfl) ?_
  refine r_callI hw (r_runS (As := [.int p1]) (rest := [.ref a0]) S hw (m_X11_noYear l D cs E (pI d a0 0 0) H.size p1 _) (va_cwS 1 S.2.2.2.2 (gS wg555 wg556 wg5 wg557) rfl rfl rfl (by decide +kernel) ⟨Nat.le_of_ble_eq_true rfl, Nat.le_of_ble_eq_true rfl⟩) h rfl hl.1 rfl (Nat.le_of_ble_eq_true rfl) (dd_at ddX11_toll 5 rfl) ⟨Nat.le_of_ble_eq_true rfl, Nat.le_of_ble_eq_true rfl⟩) (fun r_28 d_27 H locs h hw => ?_)
  refine lv_iconst (v := 1) S.1 S.2.1 (dd_at ddX11_toll 6 rfl) (by decide) ?_
  refine r_callI hw (r_runV (As := [.int r_28, .int 1]) (rest := []) S hw (m_X11_throwsIf l D cs E d_27 H.size a0 r_28 1 _) (cwV 2 S.2.2.2.2 (gV wg421 wg422 wg423 wg5 wg424) rfl rfl rfl (by decide +kernel) ⟨Nat.le_of_ble_eq_true rfl, Nat.le_of_ble_eq_true rfl⟩) (ci := 11) rfl ha0 h rfl hl.1 rfl (Nat.le_of_ble_eq_true rfl) (dd_at ddX11_toll 7 rfl) ⟨Nat.le_of_ble_eq_true rfl, Nat.le_of_ble_eq_true rfl⟩) (fun r_30 d_29 H locs h hw => ?_)
  refine lv_if_ne (tgt := 40) S.1 S.2.1 (dd_at ddX11_toll 8 rfl) (by decide) (fun hc_31 => ?_) (fun hc_31 => ?_)
  · have h := h.1 hc_31
    refine lv_iconst (v := 0) S.1 S.2.1 (dd_at ddX11_toll 21 rfl) (by decide) ?_
    exact e_I S hr hlocks hw h (dd_at ddX11_toll 22 rfl)
  · have h := h.2 hc_31
    refine lv_aload_n S.1 S.2.1 (dd_at ddX11_toll 9 rfl) rfl (lv_at hl 0 rfl) ?_
    refine lv_iload_n S.1 S.2.1 (dd_at ddX11_toll 10 rfl) rfl (lv_at hl 2 rfl) ?_
    refine lv_iconst (v := 0) S.1 S.2.1 (dd_at ddX11_toll 11 rfl) (by decide) ?_
    refine lv_bipush (v := 100) S.1 S.2.1 (dd_at ddX11_toll 12 rfl) (by decide) ?_
    refine r_callI hw (r_runS (As := [.int p2, .int 0, .int 100]) (rest := [.ref a0]) S hw (m_X11_in l D cs E d_29 H.size p2 0 100 _) (va_cwS 3 S.2.2.2.2 (gS wg418 wg419 wg5 wg420) rfl rfl rfl (by decide +kernel) ⟨Nat.le_of_ble_eq_true rfl, Nat.le_of_ble_eq_true rfl⟩) h rfl hl.1 rfl (Nat.le_of_ble_eq_true rfl) (dd_at ddX11_toll 13 rfl) ⟨Nat.le_of_ble_eq_true rfl, Nat.le_of_ble_eq_true rfl⟩) (fun r_33 d_32 H locs h hw => ?_)
    refine lv_if_ne (tgt := 32) S.1 S.2.1 (dd_at ddX11_toll 14 rfl) (by decide) (fun hc_34 => ?_) (fun hc_34 => ?_)
    · have h := h.1 hc_34
      refine lv_iconst (v := 0) S.1 S.2.1 (dd_at ddX11_toll 17 rfl) (by decide) ?_
      exact tb33 a0 0 d_32 H locs ls h hw (lv_sub hl [0, 1, 2] rfl)
    · have h := h.2 hc_34
      refine lv_iconst (v := 1) S.1 S.2.1 (dd_at ddX11_toll 15 rfl) (by decide) ?_
      refine lv_goto (tgt := 33) S.1 S.2.1 (dd_at ddX11_toll 16 rfl) (by decide) ?_
      exact tb33 a0 1 d_32 H locs ls h hw (lv_sub hl [0, 1, 2] rfl)

def b_X11_dodged_102 (E : En) (a0 : Nat) (p1 : Int32) (K : Int32 → Dy → Prop) (k102 : Int32 → Int32 → Dy → Prop) (v2 : Int32) (v3 : Int32) (d : Dy) : Prop := ∃ b_1 : Nat, eR E a0 1 = some b_1 ∧ okA E b_1 13 ∧ vp_in 2 (eN E b_1) ∧ (((gA d b_1 ((2 : Int32)).toNatClampNeg) ≤ v3 → K v2 d) ∧ (¬ (gA d b_1 ((2 : Int32)).toNatClampNeg) ≤ v3 → ∃ b_6 : Nat, eR E a0 30 = some b_6 ∧ okA E b_6 15 ∧ vp_in v3 (eN E b_6) ∧ ((¬ (gA d b_6 (v3).toNatClampNeg) = 0 → w_X11_ofEvent E a0 v3 0 d (fun r_12 d_11 => ∃ b_13 : Nat, eR E a0 1 = some b_13 ∧ okA E b_13 13 ∧ vp_in 3 (eN E b_13) ∧ w_X11_goes E a0 (r_12 - 1) (gA d_11 b_13 ((3 : Int32)).toNatClampNeg) d_11 (fun d_17 => w_X11_ofEvent E a0 v3 4 d_17 (fun r_20 d_19 => w_X11_ofEvent E a0 v3 2 d_19 (fun r_22 d_21 => w_X11_rentOf E a0 r_22 (r_12 - 1) d_21 (fun r_24 d_23 => ((0 ≤ (lg_cmp r_20.toInt64 (p1.toInt64 * r_24.toInt64)) → k102 (v2 + 0) (v3 + 1) d_23) ∧ (¬ 0 ≤ (lg_cmp r_20.toInt64 (p1.toInt64 * r_24.toInt64)) → k102 (v2 + 1) (v3 + 1) d_23)))))))) ∧ ((gA d b_6 (v3).toNatClampNeg) = 0 → k102 v2 (v3 + 1) d))))
def l_X11_dodged_102 (E : En) (a0 : Nat) (p1 : Int32) (K : Int32 → Dy → Prop) : Nat → Int32 → Int32 → Dy → Prop
  | 0 => fun _ _ _ => False
  | n + 1 => b_X11_dodged_102 E a0 p1 K (l_X11_dodged_102 E a0 p1 K n)
def b_X11_dodged_45 (E : En) (a0 : Nat) (p1 : Int32) (K : Int32 → Dy → Prop) (k45 : Int32 → Dy → Prop) (v2 : Int32) (d : Dy) : Prop := ((40 ≤ v2 → (∃ n_27 : Nat, l_X11_dodged_102 E a0 p1 K n_27 0 0 d)) ∧ (¬ 40 ≤ v2 → ∃ b_28 : Nat, eR E a0 30 = some b_28 ∧ okA E b_28 15 ∧ ∃ b_31 : Nat, eR E a0 24 = some b_31 ∧ okA E b_31 15 ∧ vp_in v2 (eN E b_31) ∧ (((gA d b_31 (v2).toNatClampNeg) = 0 → vp_in v2 (eN E b_28) ∧ k45 (v2 + 1) (pA d b_28 (v2).toNatClampNeg (vp_nar .boolean 0))) ∧ (¬ (gA d b_31 (v2).toNatClampNeg) = 0 → ∃ b_37 : Nat, eR E a0 25 = some b_37 ∧ okA E b_37 15 ∧ vp_in v2 (eN E b_37) ∧ (((gA d b_37 (v2).toNatClampNeg) = 0 → vp_in v2 (eN E b_28) ∧ k45 (v2 + 1) (pA d b_28 (v2).toNatClampNeg (vp_nar .boolean 0))) ∧ (¬ (gA d b_37 (v2).toNatClampNeg) = 0 → w_X11_ofEvent E a0 v2 0 d (fun r_44 d_43 => ((r_44 ≤ 1900 → vp_in v2 (eN E b_28) ∧ k45 (v2 + 1) (pA d_43 b_28 (v2).toNatClampNeg (vp_nar .boolean 0))) ∧ (¬ r_44 ≤ 1900 → vp_in v2 (eN E b_28) ∧ k45 (v2 + 1) (pA d_43 b_28 (v2).toNatClampNeg (vp_nar .boolean 1)))))))))))
def l_X11_dodged_45 (E : En) (a0 : Nat) (p1 : Int32) (K : Int32 → Dy → Prop) : Nat → Int32 → Dy → Prop
  | 0 => fun _ _ => False
  | n + 1 => b_X11_dodged_45 E a0 p1 K (l_X11_dodged_45 E a0 p1 K n)
def b_X11_dodged_21 (E : En) (a0 : Nat) (p1 : Int32) (K : Int32 → Dy → Prop) (s0 : Nat) (s1 : Int32) (d : Dy) : Prop := okO E s0 11 ∧ w_X11_throwsIf E s0 s1 1 d (fun r_49 d_48 => ((r_49 = 0 → ∃ b_51 : Nat, eR E a0 1 = some b_51 ∧ okA E b_51 13 ∧ vp_in 3 (eN E b_51) ∧ w_X11_goes E a0 2099 (gA d_48 b_51 ((3 : Int32)).toNatClampNeg) d_48 (fun d_55 => (∃ n_57 : Nat, l_X11_dodged_45 E a0 p1 K n_57 0 d_55))) ∧ (¬ r_49 = 0 → K 0 d_48)))
def w_X11_dodged (E : En) (a0 : Nat) (p1 : Int32) (d : Dy) (K : Int32 → Dy → Prop) : Prop := okO E a0 11 ∧ w_X11_in E p1 1 99 (pI d a0 0 0) (fun r_59 d_58 => ((¬ r_59 = 0 → b_X11_dodged_21 E a0 p1 K a0 0 d_58) ∧ (r_59 = 0 → b_X11_dodged_21 E a0 p1 K a0 1 d_58)))
abbrev rm_X11_dodged : Room := { frames := 7, cells := 0, slots := 0, locals := 167 }
set_option maxRecDepth 100000 in
set_option maxHeartbeats 4000000 in
theorem m_X11_dodged (l : Launch) (D : va_G) (cs : Nat → ClassId) (E : En) (d : Dy) (sz : Nat) (a0 : Nat) (p1 : Int32) (K : Int32 → Dy → Prop) : CI l yX11_dodged (.code yX11_dodged cX11_dodged 5 (some .int) :: wsL_law) rm_X11_dodged D cs E d sz [.ref a0, .int p1] (w_X11_dodged E a0 p1 d K) K := by
  refine e_of (cc := cX11_dodged) (maxL := 5) (ret := (some .int)) (own := RX11) (by decide) rfl rfl (Nat.le_of_ble_eq_true rfl) ?_
  intro p e s m below meth c S hr hlocks hsz H locs hw h ls hl
  have hl : lv_has ls 5 [(0, .ref a0), (1, .int p1)] := hl
  unfold w_X11_dodged at h
  obtain ⟨ha0, h⟩ := h
  have tl102 : ∀ (n : Nat) (v2 : Int32) (v3 : Int32) (d : Dy) (H : Heap) (locs : List Loc) (ls : Array Slot), l_X11_dodged_102 E a0 p1 K n v2 v3 d → Wd D cs (AW E sz) s.heap s E d H locs → lv_has ls 5 [(0, .ref a0), (1, .int p1), (2, .int v2), (3, .int v3)] → W p l e rm_X11_dodged s m ([.ref a0, .int p1] : List Value).toArray below meth c H locs 0 0 (MQ below (va_Qi K (OutW D cs E (AW E sz)) (AW E sz)) ([.ref a0, .int p1] : List Value).toArray s rm_X11_dodged.cells rm_X11_dodged.slots (AW E sz)) (F0 m 102 ls []) := by
    intro n102
    induction n102 with
    | zero => intro v2 v3 d H locs ls h; exact absurd h id
    | succ n102 ih102 =>
      intro v2 v3 d H locs ls h hw hl
      have h : b_X11_dodged_102 E a0 p1 K (l_X11_dodged_102 E a0 p1 K n102) v2 v3 d := h
      unfold b_X11_dodged_102 at h
      refine lv_iload_n S.1 S.2.1 (dd_at ddX11_dodged 58 rfl) rfl (lv_at hl 3 rfl) ?_
      refine lv_aload_n S.1 S.2.1 (dd_at ddX11_dodged 59 rfl) rfl (lv_at hl 0 rfl) ?_
      obtain ⟨b_1, hb_2, ho_3, h⟩ := h
      refine r_getR S hw 11 1 rfl inG11 (by decide) (List.mem_cons_of_mem _ wg150) (by decide) ha0 hb_2 (dd_at ddX11_dodged 60 rfl) ?_
      refine lv_iconst (v := 2) S.1 S.2.1 (dd_at ddX11_dodged 61 rfl) (by decide) ?_
      obtain ⟨hx_4, h⟩ := h
      refine r_iald S hw ho_3 hx_4 (dd_at ddX11_dodged 62 rfl) ?_
      refine lv_icmp_ge (tgt := 187) S.1 S.2.1 (dd_at ddX11_dodged 63 rfl) (by decide) (fun hc_5 => ?_) (fun hc_5 => ?_)
      · have h := h.1 hc_5
        refine lv_iload_n S.1 S.2.1 (dd_at ddX11_dodged 110 rfl) rfl (lv_at hl 2 rfl) ?_
        exact e_I S hr hlocks hw h (dd_at ddX11_dodged 111 rfl)
      · have h := h.2 hc_5
        refine lv_aload_n S.1 S.2.1 (dd_at ddX11_dodged 64 rfl) rfl (lv_at hl 0 rfl) ?_
        obtain ⟨b_6, hb_7, ho_8, h⟩ := h
        refine r_getR S hw 11 30 rfl inG11 (by decide) (List.mem_cons_of_mem _ wg171) (by decide) ha0 hb_7 (dd_at ddX11_dodged 65 rfl) ?_
        refine lv_iload_n S.1 S.2.1 (dd_at ddX11_dodged 66 rfl) rfl (lv_at hl 3 rfl) ?_
        obtain ⟨hx_9, h⟩ := h
        refine r_zald S hw ho_8 hx_9 (dd_at ddX11_dodged 67 rfl) ?_
        refine lv_if_ne (tgt := 124) S.1 S.2.1 (dd_at ddX11_dodged 68 rfl) (by decide) (fun hc_10 => ?_) (fun hc_10 => ?_)
        · have h := h.1 hc_10
          refine lv_aload_n S.1 S.2.1 (dd_at ddX11_dodged 70 rfl) rfl (lv_at hl 0 rfl) ?_
          refine lv_iload_n S.1 S.2.1 (dd_at ddX11_dodged 71 rfl) rfl (lv_at hl 3 rfl) ?_
          refine lv_iconst (v := 0) S.1 S.2.1 (dd_at ddX11_dodged 72 rfl) (by decide) ?_
          refine r_callI hw (r_runV (As := [.int v3, .int 0]) (rest := []) S hw (m_X11_ofEvent l D cs E d H.size a0 v3 0 _) (cwV 2 S.2.2.2.2 (gV wg823 wg824 wg825 wg5 wg826) rfl rfl rfl (by decide +kernel) ⟨Nat.le_of_ble_eq_true rfl, Nat.le_of_ble_eq_true rfl⟩) (ci := 11) rfl ha0 h rfl hl.1 rfl (Nat.le_of_ble_eq_true rfl) (dd_at ddX11_dodged 73 rfl) ⟨Nat.le_of_ble_eq_true rfl, Nat.le_of_ble_eq_true rfl⟩) (fun r_12 d_11 H locs h hw => ?_)
          refine lv_iconst (v := 1) S.1 S.2.1 (dd_at ddX11_dodged 74 rfl) (by decide) ?_
          refine lv_isub S.1 S.2.1 (dd_at ddX11_dodged 75 rfl) ?_
          refine lv_istore (lv' := [(4, .int (r_12 - 1)), (0, .ref a0), (1, .int p1), (2, .int v2), (3, .int v3)]) S.1 S.2.1 (dd_at ddX11_dodged 76 rfl) hl (by decide) rfl (fun ls hl => ?_)
          refine lv_aload_n S.1 S.2.1 (dd_at ddX11_dodged 77 rfl) rfl (lv_at hl 1 rfl) ?_
          refine lv_iload S.1 S.2.1 (dd_at ddX11_dodged 78 rfl) (lv_at hl 0 rfl) ?_
          refine lv_aload_n S.1 S.2.1 (dd_at ddX11_dodged 79 rfl) rfl (lv_at hl 1 rfl) ?_
          obtain ⟨b_13, hb_14, ho_15, h⟩ := h
          refine r_getR S hw 11 1 rfl inG11 (by decide) (List.mem_cons_of_mem _ wg150) (by decide) ha0 hb_14 (dd_at ddX11_dodged 80 rfl) ?_
          refine lv_iconst (v := 3) S.1 S.2.1 (dd_at ddX11_dodged 81 rfl) (by decide) ?_
          obtain ⟨hx_16, h⟩ := h
          refine r_iald S hw ho_15 hx_16 (dd_at ddX11_dodged 82 rfl) ?_
          refine r_callV hw (r_runV (As := [.int (r_12 - 1), .int (gA d_11 b_13 ((3 : Int32)).toNatClampNeg)]) (rest := []) S hw (m_X11_goes l D cs E d_11 H.size a0 (r_12 - 1) (gA d_11 b_13 ((3 : Int32)).toNatClampNeg) _) (cwV 2 S.2.2.2.2 (gV wg814 wg815 wg816 wg5 wg817) rfl rfl rfl (by decide +kernel) ⟨Nat.le_of_ble_eq_true rfl, Nat.le_of_ble_eq_true rfl⟩) (ci := 11) rfl ha0 h rfl hl.1 rfl (Nat.le_of_ble_eq_true rfl) (dd_at ddX11_dodged 83 rfl) ⟨Nat.le_of_ble_eq_true rfl, Nat.le_of_ble_eq_true rfl⟩) (fun d_17 H locs h hw => ?_)
          refine lv_iload_n S.1 S.2.1 (dd_at ddX11_dodged 84 rfl) rfl (lv_at hl 3 rfl) ?_
          refine lv_aload_n S.1 S.2.1 (dd_at ddX11_dodged 85 rfl) rfl (lv_at hl 1 rfl) ?_
          refine lv_iload_n S.1 S.2.1 (dd_at ddX11_dodged 86 rfl) rfl (lv_at hl 4 rfl) ?_
          refine lv_iconst (v := 4) S.1 S.2.1 (dd_at ddX11_dodged 87 rfl) (by decide) ?_
          refine r_callI hw (r_runV (As := [.int v3, .int 4]) (rest := [.int v2]) S hw (m_X11_ofEvent l D cs E d_17 H.size a0 v3 4 _) (cwV 2 S.2.2.2.2 (gV wg823 wg824 wg825 wg5 wg826) rfl rfl rfl (by decide +kernel) ⟨Nat.le_of_ble_eq_true rfl, Nat.le_of_ble_eq_true rfl⟩) (ci := 11) rfl ha0 h rfl hl.1 rfl (Nat.le_of_ble_eq_true rfl) (dd_at ddX11_dodged 88 rfl) ⟨Nat.le_of_ble_eq_true rfl, Nat.le_of_ble_eq_true rfl⟩) (fun r_20 d_19 H locs h hw => ?_)
          refine lv_i2l S.1 S.2.1 (dd_at ddX11_dodged 89 rfl) rfl ?_
          refine lv_iload_n S.1 S.2.1 (dd_at ddX11_dodged 90 rfl) rfl (lv_at hl 2 rfl) ?_
          refine lv_i2l S.1 S.2.1 (dd_at ddX11_dodged 91 rfl) rfl ?_
          refine lv_aload_n S.1 S.2.1 (dd_at ddX11_dodged 92 rfl) rfl (lv_at hl 1 rfl) ?_
          refine lv_aload_n S.1 S.2.1 (dd_at ddX11_dodged 93 rfl) rfl (lv_at hl 1 rfl) ?_
          refine lv_iload_n S.1 S.2.1 (dd_at ddX11_dodged 94 rfl) rfl (lv_at hl 4 rfl) ?_
          refine lv_iconst (v := 2) S.1 S.2.1 (dd_at ddX11_dodged 95 rfl) (by decide) ?_
          refine r_callI hw (r_runV (As := [.int v3, .int 2]) (rest := [.ref a0, .long p1.toInt64, .long r_20.toInt64, .int v2]) S hw (m_X11_ofEvent l D cs E d_19 H.size a0 v3 2 _) (cwV 2 S.2.2.2.2 (gV wg823 wg824 wg825 wg5 wg826) rfl rfl rfl (by decide +kernel) ⟨Nat.le_of_ble_eq_true rfl, Nat.le_of_ble_eq_true rfl⟩) (ci := 11) rfl ha0 h rfl hl.1 rfl (Nat.le_of_ble_eq_true rfl) (dd_at ddX11_dodged 96 rfl) ⟨Nat.le_of_ble_eq_true rfl, Nat.le_of_ble_eq_true rfl⟩) (fun r_22 d_21 H locs h hw => ?_)
          refine lv_iload S.1 S.2.1 (dd_at ddX11_dodged 97 rfl) (lv_at hl 0 rfl) ?_
          refine r_callI hw (r_runV (As := [.int r_22, .int (r_12 - 1)]) (rest := [.long p1.toInt64, .long r_20.toInt64, .int v2]) S hw (m_X11_rentOf l D cs E d_21 H.size a0 r_22 (r_12 - 1) _) (cwV 2 S.2.2.2.2 (gV wg978 wg979 wg980 wg5 wg981) rfl rfl rfl (by decide +kernel) ⟨Nat.le_of_ble_eq_true rfl, Nat.le_of_ble_eq_true rfl⟩) (ci := 11) rfl ha0 h rfl hl.1 rfl (Nat.le_of_ble_eq_true rfl) (dd_at ddX11_dodged 98 rfl) ⟨Nat.le_of_ble_eq_true rfl, Nat.le_of_ble_eq_true rfl⟩) (fun r_24 d_23 H locs h hw => ?_)
          refine lv_i2l S.1 S.2.1 (dd_at ddX11_dodged 99 rfl) rfl ?_
          refine lv_lmul S.1 S.2.1 (dd_at ddX11_dodged 100 rfl) ?_
          refine W.lcmp S.1 S.2.1 (dd_at ddX11_dodged 101 rfl) ?_
          refine lv_if_ge (tgt := 178) S.1 S.2.1 (dd_at ddX11_dodged 102 rfl) (by decide) (fun hc_25 => ?_) (fun hc_25 => ?_)
          · have h := h.1 hc_25
            refine lv_iconst (v := 0) S.1 S.2.1 (dd_at ddX11_dodged 105 rfl) (by decide) ?_
            refine lv_iadd S.1 S.2.1 (dd_at ddX11_dodged 106 rfl) ?_
            refine lv_istore_n (lv' := [(2, .int (v2 + 0)), (4, .int (r_12 - 1)), (0, .ref a0), (1, .int p1), (3, .int v3)]) S.1 S.2.1 (dd_at ddX11_dodged 107 rfl) rfl hl (by decide) rfl (fun ls hl => ?_)
            refine lv_iinc (v := v3 + 1) (lv' := [(3, .int (v3 + 1)), (2, .int (v2 + 0)), (4, .int (r_12 - 1)), (0, .ref a0), (1, .int p1)]) S.1 S.2.1 (dd_at ddX11_dodged 108 rfl) hl (k := 4) rfl rfl (by decide) rfl (fun ls hl => ?_)
            refine lv_goto (tgt := 102) S.1 S.2.1 (dd_at ddX11_dodged 109 rfl) (by decide) ?_
            exact ih102 (v2 + 0) (v3 + 1) d_23 H locs ls h hw (lv_sub hl [3, 4, 1, 0] rfl)
          · have h := h.2 hc_25
            refine lv_iconst (v := 1) S.1 S.2.1 (dd_at ddX11_dodged 103 rfl) (by decide) ?_
            refine lv_goto (tgt := 179) S.1 S.2.1 (dd_at ddX11_dodged 104 rfl) (by decide) ?_
            refine lv_iadd S.1 S.2.1 (dd_at ddX11_dodged 106 rfl) ?_
            refine lv_istore_n (lv' := [(2, .int (v2 + 1)), (4, .int (r_12 - 1)), (0, .ref a0), (1, .int p1), (3, .int v3)]) S.1 S.2.1 (dd_at ddX11_dodged 107 rfl) rfl hl (by decide) rfl (fun ls hl => ?_)
            refine lv_iinc (v := v3 + 1) (lv' := [(3, .int (v3 + 1)), (2, .int (v2 + 1)), (4, .int (r_12 - 1)), (0, .ref a0), (1, .int p1)]) S.1 S.2.1 (dd_at ddX11_dodged 108 rfl) hl (k := 4) rfl rfl (by decide) rfl (fun ls hl => ?_)
            refine lv_goto (tgt := 102) S.1 S.2.1 (dd_at ddX11_dodged 109 rfl) (by decide) ?_
            exact ih102 (v2 + 1) (v3 + 1) d_23 H locs ls h hw (lv_sub hl [3, 4, 1, 0] rfl)
        · have h := h.2 hc_10
          refine lv_goto (tgt := 181) S.1 S.2.1 (dd_at ddX11_dodged 69 rfl) (by decide) ?_
          refine lv_iinc (v := v3 + 1) (lv' := [(3, .int (v3 + 1)), (0, .ref a0), (1, .int p1), (2, .int v2)]) S.1 S.2.1 (dd_at ddX11_dodged 108 rfl) hl (k := 3) rfl rfl (by decide) rfl (fun ls hl => ?_)
          refine lv_goto (tgt := 102) S.1 S.2.1 (dd_at ddX11_dodged 109 rfl) (by decide) ?_
          exact ih102 v2 (v3 + 1) d H locs ls h hw (lv_sub hl [1, 2, 3, 0] rfl)
  have tl45 : ∀ (n : Nat) (v2 : Int32) (d : Dy) (H : Heap) (locs : List Loc) (ls : Array Slot), l_X11_dodged_45 E a0 p1 K n v2 d → Wd D cs (AW E sz) s.heap s E d H locs → lv_has ls 5 [(0, .ref a0), (1, .int p1), (2, .int v2)] → W p l e rm_X11_dodged s m ([.ref a0, .int p1] : List Value).toArray below meth c H locs 0 0 (MQ below (va_Qi K (OutW D cs E (AW E sz)) (AW E sz)) ([.ref a0, .int p1] : List Value).toArray s rm_X11_dodged.cells rm_X11_dodged.slots (AW E sz)) (F0 m 45 ls []) := by
    intro n45
    induction n45 with
    | zero => intro v2 d H locs ls h; exact absurd h id
    | succ n45 ih45 =>
      intro v2 d H locs ls h hw hl
      have h : b_X11_dodged_45 E a0 p1 K (l_X11_dodged_45 E a0 p1 K n45) v2 d := h
      unfold b_X11_dodged_45 at h
      refine lv_iload_n S.1 S.2.1 (dd_at ddX11_dodged 26 rfl) rfl (lv_at hl 2 rfl) ?_
      refine lv_bipush (v := 40) S.1 S.2.1 (dd_at ddX11_dodged 27 rfl) (by decide) ?_
      refine lv_icmp_ge (tgt := 98) S.1 S.2.1 (dd_at ddX11_dodged 28 rfl) (by decide) (fun hc_26 => ?_) (fun hc_26 => ?_)
      · have h := h.1 hc_26
        refine lv_iconst (v := 0) S.1 S.2.1 (dd_at ddX11_dodged 54 rfl) (by decide) ?_
        refine lv_istore_n (lv' := [(2, .int 0), (0, .ref a0), (1, .int p1)]) S.1 S.2.1 (dd_at ddX11_dodged 55 rfl) rfl hl (by decide) rfl (fun ls hl => ?_)
        refine lv_iconst (v := 0) S.1 S.2.1 (dd_at ddX11_dodged 56 rfl) (by decide) ?_
        refine lv_istore_n (lv' := [(3, .int 0), (2, .int 0), (0, .ref a0), (1, .int p1)]) S.1 S.2.1 (dd_at ddX11_dodged 57 rfl) rfl hl (by decide) rfl (fun ls hl => ?_)
        obtain ⟨n_27, h⟩ := h
        exact tl102 n_27 0 0 d H locs ls h hw (lv_sub hl [2, 3, 1, 0] rfl)
      · have h := h.2 hc_26
        refine lv_aload_n S.1 S.2.1 (dd_at ddX11_dodged 29 rfl) rfl (lv_at hl 0 rfl) ?_
        obtain ⟨b_28, hb_29, ho_30, h⟩ := h
        refine r_getR S hw 11 30 rfl inG11 (by decide) (List.mem_cons_of_mem _ wg171) (by decide) ha0 hb_29 (dd_at ddX11_dodged 30 rfl) ?_
        refine lv_iload_n S.1 S.2.1 (dd_at ddX11_dodged 31 rfl) rfl (lv_at hl 2 rfl) ?_
        refine lv_aload_n S.1 S.2.1 (dd_at ddX11_dodged 32 rfl) rfl (lv_at hl 0 rfl) ?_
        obtain ⟨b_31, hb_32, ho_33, h⟩ := h
        refine r_getR S hw 11 24 rfl inG11 (by decide) (List.mem_cons_of_mem _ wg166) (by decide) ha0 hb_32 (dd_at ddX11_dodged 33 rfl) ?_
        refine lv_iload_n S.1 S.2.1 (dd_at ddX11_dodged 34 rfl) rfl (lv_at hl 2 rfl) ?_
        obtain ⟨hx_34, h⟩ := h
        refine r_zald S hw ho_33 hx_34 (dd_at ddX11_dodged 35 rfl) ?_
        refine lv_if_eq (tgt := 90) S.1 S.2.1 (dd_at ddX11_dodged 36 rfl) (by decide) (fun hc_35 => ?_) (fun hc_35 => ?_)
        · have h := h.1 hc_35
          refine lv_iconst (v := 0) S.1 S.2.1 (dd_at ddX11_dodged 50 rfl) (by decide) ?_
          obtain ⟨hx_36, h⟩ := h
          refine r_zast S hw ho_30 hx_36 (dd_at ddX11_dodged 51 rfl) (fun H locs hw => ?_)
          refine lv_iinc (v := v2 + 1) (lv' := [(2, .int (v2 + 1)), (0, .ref a0), (1, .int p1)]) S.1 S.2.1 (dd_at ddX11_dodged 52 rfl) hl (k := 2) rfl rfl (by decide) rfl (fun ls hl => ?_)
          refine lv_goto (tgt := 45) S.1 S.2.1 (dd_at ddX11_dodged 53 rfl) (by decide) ?_
          exact ih45 (v2 + 1) (pA d b_28 (v2).toNatClampNeg (vp_nar .boolean 0)) H locs ls h hw (lv_sub hl [1, 2, 0] rfl)
        · have h := h.2 hc_35
          refine lv_aload_n S.1 S.2.1 (dd_at ddX11_dodged 37 rfl) rfl (lv_at hl 0 rfl) ?_
          obtain ⟨b_37, hb_38, ho_39, h⟩ := h
          refine r_getR S hw 11 25 rfl inG11 (by decide) (List.mem_cons_of_mem _ wg167) (by decide) ha0 hb_38 (dd_at ddX11_dodged 38 rfl) ?_
          refine lv_iload_n S.1 S.2.1 (dd_at ddX11_dodged 39 rfl) rfl (lv_at hl 2 rfl) ?_
          obtain ⟨hx_40, h⟩ := h
          refine r_zald S hw ho_39 hx_40 (dd_at ddX11_dodged 40 rfl) ?_
          refine lv_if_eq (tgt := 90) S.1 S.2.1 (dd_at ddX11_dodged 41 rfl) (by decide) (fun hc_41 => ?_) (fun hc_41 => ?_)
          · have h := h.1 hc_41
            refine lv_iconst (v := 0) S.1 S.2.1 (dd_at ddX11_dodged 50 rfl) (by decide) ?_
            obtain ⟨hx_42, h⟩ := h
            refine r_zast S hw ho_30 hx_42 (dd_at ddX11_dodged 51 rfl) (fun H locs hw => ?_)
            refine lv_iinc (v := v2 + 1) (lv' := [(2, .int (v2 + 1)), (0, .ref a0), (1, .int p1)]) S.1 S.2.1 (dd_at ddX11_dodged 52 rfl) hl (k := 2) rfl rfl (by decide) rfl (fun ls hl => ?_)
            refine lv_goto (tgt := 45) S.1 S.2.1 (dd_at ddX11_dodged 53 rfl) (by decide) ?_
            exact ih45 (v2 + 1) (pA d b_28 (v2).toNatClampNeg (vp_nar .boolean 0)) H locs ls h hw (lv_sub hl [1, 2, 0] rfl)
          · have h := h.2 hc_41
            refine lv_aload_n S.1 S.2.1 (dd_at ddX11_dodged 42 rfl) rfl (lv_at hl 0 rfl) ?_
            refine lv_iload_n S.1 S.2.1 (dd_at ddX11_dodged 43 rfl) rfl (lv_at hl 2 rfl) ?_
            refine lv_iconst (v := 0) S.1 S.2.1 (dd_at ddX11_dodged 44 rfl) (by decide) ?_
            refine r_callI hw (r_runV (As := [.int v2, .int 0]) (rest := [.int v2, .ref b_28]) S hw (m_X11_ofEvent l D cs E d H.size a0 v2 0 _) (cwV 2 S.2.2.2.2 (gV wg823 wg824 wg825 wg5 wg826) rfl rfl rfl (by decide +kernel) ⟨Nat.le_of_ble_eq_true rfl, Nat.le_of_ble_eq_true rfl⟩) (ci := 11) rfl ha0 h rfl hl.1 rfl (Nat.le_of_ble_eq_true rfl) (dd_at ddX11_dodged 45 rfl) ⟨Nat.le_of_ble_eq_true rfl, Nat.le_of_ble_eq_true rfl⟩) (fun r_44 d_43 H locs h hw => ?_)
            refine lv_sipush (v := 1900) S.1 S.2.1 (dd_at ddX11_dodged 46 rfl) (by decide) ?_
            refine lv_icmp_le (tgt := 90) S.1 S.2.1 (dd_at ddX11_dodged 47 rfl) (by decide) (fun hc_45 => ?_) (fun hc_45 => ?_)
            · have h := h.1 hc_45
              refine lv_iconst (v := 0) S.1 S.2.1 (dd_at ddX11_dodged 50 rfl) (by decide) ?_
              obtain ⟨hx_46, h⟩ := h
              refine r_zast S hw ho_30 hx_46 (dd_at ddX11_dodged 51 rfl) (fun H locs hw => ?_)
              refine lv_iinc (v := v2 + 1) (lv' := [(2, .int (v2 + 1)), (0, .ref a0), (1, .int p1)]) S.1 S.2.1 (dd_at ddX11_dodged 52 rfl) hl (k := 2) rfl rfl (by decide) rfl (fun ls hl => ?_)
              refine lv_goto (tgt := 45) S.1 S.2.1 (dd_at ddX11_dodged 53 rfl) (by decide) ?_
              exact ih45 (v2 + 1) (pA d_43 b_28 (v2).toNatClampNeg (vp_nar .boolean 0)) H locs ls h hw (lv_sub hl [1, 2, 0] rfl)
            · have h := h.2 hc_45
              refine lv_iconst (v := 1) S.1 S.2.1 (dd_at ddX11_dodged 48 rfl) (by decide) ?_
              refine lv_goto (tgt := 91) S.1 S.2.1 (dd_at ddX11_dodged 49 rfl) (by decide) ?_
              obtain ⟨hx_47, h⟩ := h
              refine r_zast S hw ho_30 hx_47 (dd_at ddX11_dodged 51 rfl) (fun H locs hw => ?_)
              refine lv_iinc (v := v2 + 1) (lv' := [(2, .int (v2 + 1)), (0, .ref a0), (1, .int p1)]) S.1 S.2.1 (dd_at ddX11_dodged 52 rfl) hl (k := 2) rfl rfl (by decide) rfl (fun ls hl => ?_)
              refine lv_goto (tgt := 45) S.1 S.2.1 (dd_at ddX11_dodged 53 rfl) (by decide) ?_
              exact ih45 (v2 + 1) (pA d_43 b_28 (v2).toNatClampNeg (vp_nar .boolean 1)) H locs ls h hw (lv_sub hl [1, 2, 0] rfl)
  have tb21 : ∀ (s0 : Nat) (s1 : Int32) (d : Dy) (H : Heap) (locs : List Loc) (ls : Array Slot), b_X11_dodged_21 E a0 p1 K s0 s1 d → Wd D cs (AW E sz) s.heap s E d H locs → lv_has ls 5 [(0, .ref a0), (1, .int p1)] → W p l e rm_X11_dodged s m ([.ref a0, .int p1] : List Value).toArray below meth c H locs 0 0 (MQ below (va_Qi K (OutW D cs E (AW E sz)) (AW E sz)) ([.ref a0, .int p1] : List Value).toArray s rm_X11_dodged.cells rm_X11_dodged.slots (AW E sz)) (F0 m 21 ls [.int s1, .ref s0]) := by
    intro s0 s1 d H locs ls h hw hl
    unfold b_X11_dodged_21 at h
    obtain ⟨hos0, h⟩ := h
    refine lv_iconst (v := 1) S.1 S.2.1 (dd_at ddX11_dodged 12 rfl) (by decide) ?_
    refine r_callI hw (r_runV (As := [.int s1, .int 1]) (rest := []) S hw (m_X11_throwsIf l D cs E d H.size s0 s1 1 _) (cwV 2 S.2.2.2.2 (gV wg421 wg422 wg423 wg5 wg424) rfl rfl rfl (by decide +kernel) ⟨Nat.le_of_ble_eq_true rfl, Nat.le_of_ble_eq_true rfl⟩) (ci := 11) rfl hos0 h rfl hl.1 rfl (Nat.le_of_ble_eq_true rfl) (dd_at ddX11_dodged 13 rfl) ⟨Nat.le_of_ble_eq_true rfl, Nat.le_of_ble_eq_true rfl⟩) (fun r_49 d_48 H locs h hw => ?_)
    refine lv_if_eq (tgt := 30) S.1 S.2.1 (dd_at ddX11_dodged 14 rfl) (by decide) (fun hc_50 => ?_) (fun hc_50 => ?_)
    · have h := h.1 hc_50
      refine lv_aload_n S.1 S.2.1 (dd_at ddX11_dodged 17 rfl) rfl (lv_at hl 0 rfl) ?_
      refine lv_sipush (v := 2099) S.1 S.2.1 (dd_at ddX11_dodged 18 rfl) (by decide) ?_
      refine lv_aload_n S.1 S.2.1 (dd_at ddX11_dodged 19 rfl) rfl (lv_at hl 0 rfl) ?_
      obtain ⟨b_51, hb_52, ho_53, h⟩ := h
      refine r_getR S hw 11 1 rfl inG11 (by decide) (List.mem_cons_of_mem _ wg150) (by decide) ha0 hb_52 (dd_at ddX11_dodged 20 rfl) ?_
      refine lv_iconst (v := 3) S.1 S.2.1 (dd_at ddX11_dodged 21 rfl) (by decide) ?_
      obtain ⟨hx_54, h⟩ := h
      refine r_iald S hw ho_53 hx_54 (dd_at ddX11_dodged 22 rfl) ?_
      refine r_callV hw (r_runV (As := [.int 2099, .int (gA d_48 b_51 ((3 : Int32)).toNatClampNeg)]) (rest := []) S hw (m_X11_goes l D cs E d_48 H.size a0 2099 (gA d_48 b_51 ((3 : Int32)).toNatClampNeg) _) (cwV 2 S.2.2.2.2 (gV wg814 wg815 wg816 wg5 wg817) rfl rfl rfl (by decide +kernel) ⟨Nat.le_of_ble_eq_true rfl, Nat.le_of_ble_eq_true rfl⟩) (ci := 11) rfl ha0 h rfl hl.1 rfl (Nat.le_of_ble_eq_true rfl) (dd_at ddX11_dodged 23 rfl) ⟨Nat.le_of_ble_eq_true rfl, Nat.le_of_ble_eq_true rfl⟩) (fun d_55 H locs h hw => ?_)
      refine lv_iconst (v := 0) S.1 S.2.1 (dd_at ddX11_dodged 24 rfl) (by decide) ?_
      refine lv_istore_n (lv' := [(2, .int 0), (0, .ref a0), (1, .int p1)]) S.1 S.2.1 (dd_at ddX11_dodged 25 rfl) rfl hl (by decide) rfl (fun ls hl => ?_)
      obtain ⟨n_57, h⟩ := h
      exact tl45 n_57 0 d_55 H locs ls h hw (lv_sub hl [1, 2, 0] rfl)
    · have h := h.2 hc_50
      refine lv_iconst (v := 0) S.1 S.2.1 (dd_at ddX11_dodged 15 rfl) (by decide) ?_
      exact e_I S hr hlocks hw h (dd_at ddX11_dodged 16 rfl)
  refine lv_aload_n S.1 S.2.1 (dd_at ddX11_dodged 0 rfl) rfl (lv_at hl 0 rfl) ?_
  refine lv_iconst (v := 0) S.1 S.2.1 (dd_at ddX11_dodged 1 rfl) (by decide) ?_
  refine r_putI S hw 11 0 (ty := .int) (v := 0) rfl inG11 tyX11 tyX11_ok nmX11 (by decide) (List.mem_cons_of_mem _ wg201) (by decide) rfl (by decide +kernel) rfl rfl ha0 (dd_at ddX11_dodged 2 rfl) (fun H locs hw => ?_)
  refine lv_aload_n S.1 S.2.1 (dd_at ddX11_dodged 3 rfl) rfl (lv_at hl 0 rfl) ?_
  refine lv_iload_n S.1 S.2.1 (dd_at ddX11_dodged 4 rfl) rfl (lv_at hl 1 rfl) ?_
  refine lv_iconst (v := 1) S.1 S.2.1 (dd_at ddX11_dodged 5 rfl) (by decide) ?_
  refine lv_bipush (v := 99) S.1 S.2.1 (dd_at ddX11_dodged 6 rfl) (by decide) ?_
  refine r_callI hw (r_runS (As := [.int p1, .int 1, .int 99]) (rest := [.ref a0]) S hw (m_X11_in l D cs E (pI d a0 0 0) H.size p1 1 99 _) (va_cwS 3 S.2.2.2.2 (gS wg418 wg419 wg5 wg420) rfl rfl rfl (by decide +kernel) ⟨Nat.le_of_ble_eq_true rfl, Nat.le_of_ble_eq_true rfl⟩) h rfl hl.1 rfl (Nat.le_of_ble_eq_true rfl) (dd_at ddX11_dodged 7 rfl) ⟨Nat.le_of_ble_eq_true rfl, Nat.le_of_ble_eq_true rfl⟩) (fun r_59 d_58 H locs h hw => ?_)
  refine lv_if_ne (tgt := 20) S.1 S.2.1 (dd_at ddX11_dodged 8 rfl) (by decide) (fun hc_60 => ?_) (fun hc_60 => ?_)
  · have h := h.1 hc_60
    refine lv_iconst (v := 0) S.1 S.2.1 (dd_at ddX11_dodged 11 rfl) (by decide) ?_
    exact tb21 a0 0 d_58 H locs ls h hw (lv_sub hl [0, 1] rfl)
  · have h := h.2 hc_60
    refine lv_iconst (v := 1) S.1 S.2.1 (dd_at ddX11_dodged 9 rfl) (by decide) ?_
    refine lv_goto (tgt := 21) S.1 S.2.1 (dd_at ddX11_dodged 10 rfl) (by decide) ?_
    exact tb21 a0 1 d_58 H locs ls h hw (lv_sub hl [0, 1] rfl)

def w_X11_goesToday (E : En) (a0 : Nat) (d : Dy) (K : Dy → Prop) : Prop := okO E a0 11 ∧ ∃ b_1 : Nat, eR E a0 1 = some b_1 ∧ okA E b_1 13 ∧ vp_in 3 (eN E b_1) ∧ ∃ b_5 : Nat, eR E a0 1 = some b_5 ∧ okA E b_5 13 ∧ vp_in 3 (eN E b_5) ∧ w_X11_goes E a0 (gA d b_1 ((3 : Int32)).toNatClampNeg) (gA d b_5 ((3 : Int32)).toNatClampNeg) d (fun d_9 => K d_9)
abbrev rm_X11_goesToday : Room := { frames := 7, cells := 0, slots := 0, locals := 167 }
set_option maxRecDepth 100000 in
set_option maxHeartbeats 4000000 in
theorem m_X11_goesToday (l : Launch) (D : va_G) (cs : Nat → ClassId) (E : En) (d : Dy) (sz : Nat) (a0 : Nat) (K : Dy → Prop) : CV l yX11_goesToday (.code yX11_goesToday cX11_goesToday 1 none :: wsL_law) rm_X11_goesToday D cs E d sz [.ref a0] (w_X11_goesToday E a0 d K) K := by
  refine e_of (cc := cX11_goesToday) (maxL := 1) (ret := none) (own := RX11) (by decide) rfl rfl (Nat.le_of_ble_eq_true rfl) ?_
  intro p e s m below meth c S hr hlocks hsz H locs hw h ls hl
  have hl : lv_has ls 1 [(0, .ref a0)] := hl
  unfold w_X11_goesToday at h
  obtain ⟨ha0, h⟩ := h
  refine lv_aload_n S.1 S.2.1 (dd_at ddX11_goesToday 0 rfl) rfl (lv_at hl 0 rfl) ?_
  refine lv_aload_n S.1 S.2.1 (dd_at ddX11_goesToday 1 rfl) rfl (lv_at hl 0 rfl) ?_
  obtain ⟨b_1, hb_2, ho_3, h⟩ := h
  refine r_getR S hw 11 1 rfl inG11 (by decide) (List.mem_cons_of_mem _ wg150) (by decide) ha0 hb_2 (dd_at ddX11_goesToday 2 rfl) ?_
  refine lv_iconst (v := 3) S.1 S.2.1 (dd_at ddX11_goesToday 3 rfl) (by decide) ?_
  obtain ⟨hx_4, h⟩ := h
  refine r_iald S hw ho_3 hx_4 (dd_at ddX11_goesToday 4 rfl) ?_
  refine lv_aload_n S.1 S.2.1 (dd_at ddX11_goesToday 5 rfl) rfl (lv_at hl 0 rfl) ?_
  obtain ⟨b_5, hb_6, ho_7, h⟩ := h
  refine r_getR S hw 11 1 rfl inG11 (by decide) (List.mem_cons_of_mem _ wg150) (by decide) ha0 hb_6 (dd_at ddX11_goesToday 6 rfl) ?_
  refine lv_iconst (v := 3) S.1 S.2.1 (dd_at ddX11_goesToday 7 rfl) (by decide) ?_
  obtain ⟨hx_8, h⟩ := h
  refine r_iald S hw ho_7 hx_8 (dd_at ddX11_goesToday 8 rfl) ?_
  refine r_callV hw (r_runV (As := [.int (gA d b_1 ((3 : Int32)).toNatClampNeg), .int (gA d b_5 ((3 : Int32)).toNatClampNeg)]) (rest := []) S hw (m_X11_goes l D cs E d H.size a0 (gA d b_1 ((3 : Int32)).toNatClampNeg) (gA d b_5 ((3 : Int32)).toNatClampNeg) _) (cwV 2 S.2.2.2.2 (gV wg814 wg815 wg816 wg5 wg817) rfl rfl rfl (by decide +kernel) ⟨Nat.le_of_ble_eq_true rfl, Nat.le_of_ble_eq_true rfl⟩) (ci := 11) rfl ha0 h rfl hl.1 rfl (Nat.le_of_ble_eq_true rfl) (dd_at ddX11_goesToday 9 rfl) ⟨Nat.le_of_ble_eq_true rfl, Nat.le_of_ble_eq_true rfl⟩) (fun d_9 H locs h hw => ?_)
  exact e_V S hr hlocks hw h (dd_at ddX11_goesToday 10 rfl)

def w_X11_isAheadBack (E : En) (a0 : Nat) (p1 : Int32) (p2 : Int32) (p3 : Int32) (d : Dy) (K : Int32 → Dy → Prop) : Prop := okO E a0 11 ∧ ((p3 = 0 → K 1 d) ∧ (¬ p3 = 0 → ((¬ p3 = 2 → K 0 d) ∧ (p3 = 2 → ∃ b_3 : Nat, eR E a0 31 = some b_3 ∧ okA E b_3 13 ∧ vp_in p1 (eN E b_3) ∧ ∃ b_7 : Nat, eR E a0 31 = some b_7 ∧ okA E b_7 13 ∧ vp_in p2 (eN E b_7) ∧ (((gA d b_7 (p2).toNatClampNeg) ≤ (gA d b_3 (p1).toNatClampNeg) → K 0 d) ∧ (¬ (gA d b_7 (p2).toNatClampNeg) ≤ (gA d b_3 (p1).toNatClampNeg) → K 1 d))))))
abbrev rm_X11_isAheadBack : Room := { frames := 0, cells := 0, slots := 0, locals := 0 }
set_option maxRecDepth 100000 in
set_option maxHeartbeats 4000000 in
theorem m_X11_isAheadBack (l : Launch) (D : va_G) (cs : Nat → ClassId) (E : En) (d : Dy) (sz : Nat) (a0 : Nat) (p1 : Int32) (p2 : Int32) (p3 : Int32) (K : Int32 → Dy → Prop) : CI l yX11_isAheadBack (.code yX11_isAheadBack cX11_isAheadBack 4 (some .boolean) :: wsL_law) rm_X11_isAheadBack D cs E d sz [.ref a0, .int p1, .int p2, .int p3] (w_X11_isAheadBack E a0 p1 p2 p3 d K) K := by
  refine e_of (cc := cX11_isAheadBack) (maxL := 4) (ret := (some .boolean)) (own := RX11) (by decide) rfl rfl (Nat.le_of_ble_eq_true rfl) ?_
  intro p e s m below meth c S hr hlocks hsz H locs hw h ls hl
  have hl : lv_has ls 4 [(0, .ref a0), (1, .int p1), (2, .int p2), (3, .int p3)] := hl
  unfold w_X11_isAheadBack at h
  obtain ⟨ha0, h⟩ := h
  refine lv_iload_n S.1 S.2.1 (dd_at ddX11_isAheadBack 0 rfl) rfl (lv_at hl 3 rfl) ?_
  refine lv_if_eq (tgt := 24) S.1 S.2.1 (dd_at ddX11_isAheadBack 1 rfl) (by decide) (fun hc_1 => ?_) (fun hc_1 => ?_)
  · have h := h.1 hc_1
    refine lv_iconst (v := 1) S.1 S.2.1 (dd_at ddX11_isAheadBack 14 rfl) (by decide) ?_
    refine lv_goto (tgt := 29) S.1 S.2.1 (dd_at ddX11_isAheadBack 15 rfl) (by decide) ?_
    exact e_Z S hr hlocks hw (Or.inr rfl) h (dd_at ddX11_isAheadBack 17 rfl)
  · have h := h.2 hc_1
    refine lv_iload_n S.1 S.2.1 (dd_at ddX11_isAheadBack 2 rfl) rfl (lv_at hl 3 rfl) ?_
    refine lv_iconst (v := 2) S.1 S.2.1 (dd_at ddX11_isAheadBack 3 rfl) (by decide) ?_
    refine lv_icmp_ne (tgt := 28) S.1 S.2.1 (dd_at ddX11_isAheadBack 4 rfl) (by decide) (fun hc_2 => ?_) (fun hc_2 => ?_)
    · have h := h.1 hc_2
      refine lv_iconst (v := 0) S.1 S.2.1 (dd_at ddX11_isAheadBack 16 rfl) (by decide) ?_
      exact e_Z S hr hlocks hw (Or.inl rfl) h (dd_at ddX11_isAheadBack 17 rfl)
    · have h := h.2 hc_2
      refine lv_aload_n S.1 S.2.1 (dd_at ddX11_isAheadBack 5 rfl) rfl (lv_at hl 0 rfl) ?_
      obtain ⟨b_3, hb_4, ho_5, h⟩ := h
      refine r_getR S hw 11 31 rfl inG11 (by decide) (List.mem_cons_of_mem _ wg172) (by decide) ha0 hb_4 (dd_at ddX11_isAheadBack 6 rfl) ?_
      refine lv_iload_n S.1 S.2.1 (dd_at ddX11_isAheadBack 7 rfl) rfl (lv_at hl 1 rfl) ?_
      obtain ⟨hx_6, h⟩ := h
      refine r_iald S hw ho_5 hx_6 (dd_at ddX11_isAheadBack 8 rfl) ?_
      refine lv_aload_n S.1 S.2.1 (dd_at ddX11_isAheadBack 9 rfl) rfl (lv_at hl 0 rfl) ?_
      obtain ⟨b_7, hb_8, ho_9, h⟩ := h
      refine r_getR S hw 11 31 rfl inG11 (by decide) (List.mem_cons_of_mem _ wg172) (by decide) ha0 hb_8 (dd_at ddX11_isAheadBack 10 rfl) ?_
      refine lv_iload_n S.1 S.2.1 (dd_at ddX11_isAheadBack 11 rfl) rfl (lv_at hl 2 rfl) ?_
      obtain ⟨hx_10, h⟩ := h
      refine r_iald S hw ho_9 hx_10 (dd_at ddX11_isAheadBack 12 rfl) ?_
      refine lv_icmp_ge (tgt := 28) S.1 S.2.1 (dd_at ddX11_isAheadBack 13 rfl) (by decide) (fun hc_11 => ?_) (fun hc_11 => ?_)
      · have h := h.1 hc_11
        refine lv_iconst (v := 0) S.1 S.2.1 (dd_at ddX11_isAheadBack 16 rfl) (by decide) ?_
        exact e_Z S hr hlocks hw (Or.inl rfl) h (dd_at ddX11_isAheadBack 17 rfl)
      · have h := h.2 hc_11
        refine lv_iconst (v := 1) S.1 S.2.1 (dd_at ddX11_isAheadBack 14 rfl) (by decide) ?_
        refine lv_goto (tgt := 29) S.1 S.2.1 (dd_at ddX11_isAheadBack 15 rfl) (by decide) ?_
        exact e_Z S hr hlocks hw (Or.inr rfl) h (dd_at ddX11_isAheadBack 17 rfl)

def b_X11_twice_60 (E : En) (a0 : Nat) (p1 : Int32) (p2 : Int32) (p3 : Int32) (K : Int32 → Dy → Prop) (k45 : Int32 → Int32 → Dy → Prop) (k60 : Int32 → Int32 → Int32 → Int32 → Dy → Prop) (v5 : Int32) (v6 : Int32) (v7 : Int32) (v8 : Int32) (d : Dy) : Prop := ((v6 ≤ v8 → ((v7 = 0 → k45 (v5 + 0) (v6 + 1) d) ∧ (¬ v7 = 0 → ∃ b_3 : Nat, eR E a0 31 = some b_3 ∧ okA E b_3 13 ∧ vp_in v6 (eN E b_3) ∧ w_X11_ofHut E a0 (gA d b_3 (v6).toNatClampNeg) 0 d (fun r_8 d_7 => k45 (v5 + r_8) (v6 + 1) d_7)))) ∧ (¬ v6 ≤ v8 → ((¬ v7 = 0 → k60 v5 v6 1 (v8 + 1) d) ∧ (v7 = 0 → ∃ b_10 : Nat, eR E a0 32 = some b_10 ∧ okA E b_10 13 ∧ vp_in v8 (eN E b_10) ∧ ∃ b_14 : Nat, eR E a0 32 = some b_14 ∧ okA E b_14 13 ∧ vp_in v6 (eN E b_14) ∧ ((¬ (gA d b_10 (v8).toNatClampNeg) = (gA d b_14 (v6).toNatClampNeg) → k60 v5 v6 0 (v8 + 1) d) ∧ ((gA d b_10 (v8).toNatClampNeg) = (gA d b_14 (v6).toNatClampNeg) → w_X11_isAheadBack E a0 v8 v6 p3 d (fun r_20 d_19 => ((r_20 = 0 → k60 v5 v6 0 (v8 + 1) d_19) ∧ (¬ r_20 = 0 → k60 v5 v6 1 (v8 + 1) d_19)))))))))
def l_X11_twice_60 (E : En) (a0 : Nat) (p1 : Int32) (p2 : Int32) (p3 : Int32) (K : Int32 → Dy → Prop) (k45 : Int32 → Int32 → Dy → Prop) : Nat → Int32 → Int32 → Int32 → Int32 → Dy → Prop
  | 0 => fun _ _ _ _ _ => False
  | n + 1 => b_X11_twice_60 E a0 p1 p2 p3 K k45 (l_X11_twice_60 E a0 p1 p2 p3 K k45 n)
def b_X11_twice_45 (E : En) (a0 : Nat) (p1 : Int32) (p2 : Int32) (p3 : Int32) (K : Int32 → Dy → Prop) (k45 : Int32 → Int32 → Dy → Prop) (v5 : Int32) (v6 : Int32) (d : Dy) : Prop := (((gI d a0 33) ≤ v6 → K v5 d) ∧ (¬ (gI d a0 33) ≤ v6 → (∃ n_23 : Nat, l_X11_twice_60 E a0 p1 p2 p3 K k45 n_23 v5 v6 0 0 d)))
def l_X11_twice_45 (E : En) (a0 : Nat) (p1 : Int32) (p2 : Int32) (p3 : Int32) (K : Int32 → Dy → Prop) : Nat → Int32 → Int32 → Dy → Prop
  | 0 => fun _ _ _ => False
  | n + 1 => b_X11_twice_45 E a0 p1 p2 p3 K (l_X11_twice_45 E a0 p1 p2 p3 K n)
def b_X11_twice_11 (E : En) (a0 : Nat) (p1 : Int32) (p2 : Int32) (p3 : Int32) (K : Int32 → Dy → Prop) (k11 : Int32 → Int32 → Dy → Prop) (v4 : Int32) (v5 : Int32) (d : Dy) : Prop := ((v5 < 0 → (∃ n_25 : Nat, l_X11_twice_45 E a0 p1 p2 p3 K n_25 0 1 d)) ∧ (¬ v5 < 0 → ∃ b_26 : Nat, eR E a0 32 = some b_26 ∧ okA E b_26 13 ∧ ¬ p2 = 0 ∧ vp_in v5 (eN E b_26) ∧ ¬ p2 = 0 ∧ k11 (v4 / p2) (v5 + (-1)) (pA d b_26 (v5).toNatClampNeg (v4 - v4 / p2 * p2))))
def l_X11_twice_11 (E : En) (a0 : Nat) (p1 : Int32) (p2 : Int32) (p3 : Int32) (K : Int32 → Dy → Prop) : Nat → Int32 → Int32 → Dy → Prop
  | 0 => fun _ _ _ => False
  | n + 1 => b_X11_twice_11 E a0 p1 p2 p3 K (l_X11_twice_11 E a0 p1 p2 p3 K n)
def w_X11_twice (E : En) (a0 : Nat) (p1 : Int32) (p2 : Int32) (p3 : Int32) (d : Dy) (K : Int32 → Dy → Prop) : Prop := okO E a0 11 ∧ (∃ n_32 : Nat, l_X11_twice_11 E a0 p1 p2 p3 K n_32 p1 ((gI d a0 33) - 1) d)
abbrev rm_X11_twice : Room := { frames := 1, cells := 0, slots := 0, locals := 23 }
set_option maxRecDepth 100000 in
set_option maxHeartbeats 4000000 in
theorem m_X11_twice (l : Launch) (D : va_G) (cs : Nat → ClassId) (E : En) (d : Dy) (sz : Nat) (a0 : Nat) (p1 : Int32) (p2 : Int32) (p3 : Int32) (K : Int32 → Dy → Prop) : CI l yX11_twice (.code yX11_twice cX11_twice 9 (some .int) :: wsL_law) rm_X11_twice D cs E d sz [.ref a0, .int p1, .int p2, .int p3] (w_X11_twice E a0 p1 p2 p3 d K) K := by
  refine e_of (cc := cX11_twice) (maxL := 9) (ret := (some .int)) (own := RX11) (by decide) rfl rfl (Nat.le_of_ble_eq_true rfl) ?_
  intro p e s m below meth c S hr hlocks hsz H locs hw h ls hl
  have hl : lv_has ls 9 [(0, .ref a0), (1, .int p1), (2, .int p2), (3, .int p3)] := hl
  unfold w_X11_twice at h
  obtain ⟨ha0, h⟩ := h
  have tl45 : ∀ (n : Nat) (v5 : Int32) (v6 : Int32) (d : Dy) (H : Heap) (locs : List Loc) (ls : Array Slot), l_X11_twice_45 E a0 p1 p2 p3 K n v5 v6 d → Wd D cs (AW E sz) s.heap s E d H locs → lv_has ls 9 [(0, .ref a0), (3, .int p3), (5, .int v5), (6, .int v6)] → W p l e rm_X11_twice s m ([.ref a0, .int p1, .int p2, .int p3] : List Value).toArray below meth c H locs 0 0 (MQ below (va_Qi K (OutW D cs E (AW E sz)) (AW E sz)) ([.ref a0, .int p1, .int p2, .int p3] : List Value).toArray s rm_X11_twice.cells rm_X11_twice.slots (AW E sz)) (F0 m 45 ls []) := by
    intro n45
    induction n45 with
    | zero => intro v5 v6 d H locs ls h; exact absurd h id
    | succ n45 ih45 =>
      have tl60 : ∀ (n : Nat) (v5 : Int32) (v6 : Int32) (v7 : Int32) (v8 : Int32) (d : Dy) (H : Heap) (locs : List Loc) (ls : Array Slot), l_X11_twice_60 E a0 p1 p2 p3 K (l_X11_twice_45 E a0 p1 p2 p3 K n45) n v5 v6 v7 v8 d → Wd D cs (AW E sz) s.heap s E d H locs → lv_has ls 9 [(0, .ref a0), (3, .int p3), (5, .int v5), (6, .int v6), (7, .int v7), (8, .int v8)] → W p l e rm_X11_twice s m ([.ref a0, .int p1, .int p2, .int p3] : List Value).toArray below meth c H locs 0 0 (MQ below (va_Qi K (OutW D cs E (AW E sz)) (AW E sz)) ([.ref a0, .int p1, .int p2, .int p3] : List Value).toArray s rm_X11_twice.cells rm_X11_twice.slots (AW E sz)) (F0 m 60 ls []) := by
        intro n60
        induction n60 with
        | zero => intro v5 v6 v7 v8 d H locs ls h; exact absurd h id
        | succ n60 ih60 =>
          intro v5 v6 v7 v8 d H locs ls h hw hl
          have h : b_X11_twice_60 E a0 p1 p2 p3 K (l_X11_twice_45 E a0 p1 p2 p3 K n45) (l_X11_twice_60 E a0 p1 p2 p3 K (l_X11_twice_45 E a0 p1 p2 p3 K n45) n60) v5 v6 v7 v8 d := h
          unfold b_X11_twice_60 at h
          refine lv_iload S.1 S.2.1 (dd_at ddX11_twice 34 rfl) (lv_at hl 5 rfl) ?_
          refine lv_iload S.1 S.2.1 (dd_at ddX11_twice 35 rfl) (lv_at hl 3 rfl) ?_
          refine lv_icmp_ge (tgt := 114) S.1 S.2.1 (dd_at ddX11_twice 36 rfl) (by decide) (fun hc_1 => ?_) (fun hc_1 => ?_)
          · have h := h.1 hc_1
            refine lv_iload S.1 S.2.1 (dd_at ddX11_twice 60 rfl) (lv_at hl 2 rfl) ?_
            refine lv_iload S.1 S.2.1 (dd_at ddX11_twice 61 rfl) (lv_at hl 4 rfl) ?_
            refine lv_if_eq (tgt := 136) S.1 S.2.1 (dd_at ddX11_twice 62 rfl) (by decide) (fun hc_2 => ?_) (fun hc_2 => ?_)
            · have h := h.1 hc_2
              refine lv_iconst (v := 0) S.1 S.2.1 (dd_at ddX11_twice 71 rfl) (by decide) ?_
              refine lv_iadd S.1 S.2.1 (dd_at ddX11_twice 72 rfl) ?_
              refine lv_istore (lv' := [(5, .int (v5 + 0)), (0, .ref a0), (3, .int p3), (6, .int v6), (7, .int v7), (8, .int v8)]) S.1 S.2.1 (dd_at ddX11_twice 73 rfl) hl (by decide) rfl (fun ls hl => ?_)
              refine lv_iinc (v := v6 + 1) (lv' := [(6, .int (v6 + 1)), (5, .int (v5 + 0)), (0, .ref a0), (3, .int p3), (7, .int v7), (8, .int v8)]) S.1 S.2.1 (dd_at ddX11_twice 74 rfl) hl (k := 3) rfl rfl (by decide) rfl (fun ls hl => ?_)
              refine lv_goto (tgt := 45) S.1 S.2.1 (dd_at ddX11_twice 75 rfl) (by decide) ?_
              exact ih45 (v5 + 0) (v6 + 1) d H locs ls h hw (lv_sub hl [2, 3, 1, 0] rfl)
            · have h := h.2 hc_2
              refine lv_aload_n S.1 S.2.1 (dd_at ddX11_twice 63 rfl) rfl (lv_at hl 0 rfl) ?_
              refine lv_aload_n S.1 S.2.1 (dd_at ddX11_twice 64 rfl) rfl (lv_at hl 0 rfl) ?_
              obtain ⟨b_3, hb_4, ho_5, h⟩ := h
              refine r_getR S hw 11 31 rfl inG11 (by decide) (List.mem_cons_of_mem _ wg172) (by decide) ha0 hb_4 (dd_at ddX11_twice 65 rfl) ?_
              refine lv_iload S.1 S.2.1 (dd_at ddX11_twice 66 rfl) (lv_at hl 3 rfl) ?_
              obtain ⟨hx_6, h⟩ := h
              refine r_iald S hw ho_5 hx_6 (dd_at ddX11_twice 67 rfl) ?_
              refine lv_iconst (v := 0) S.1 S.2.1 (dd_at ddX11_twice 68 rfl) (by decide) ?_
              refine r_callI hw (r_runV (As := [.int (gA d b_3 (v6).toNatClampNeg), .int 0]) (rest := [.int v5]) S hw (m_X11_ofHut l D cs E d H.size a0 (gA d b_3 (v6).toNatClampNeg) 0 _) (cwV 2 S.2.2.2.2 (gV wg827 wg828 wg829 wg5 wg830) rfl rfl rfl (by decide +kernel) ⟨Nat.le_of_ble_eq_true rfl, Nat.le_of_ble_eq_true rfl⟩) (ci := 11) rfl ha0 h rfl hl.1 rfl (Nat.le_of_ble_eq_true rfl) (dd_at ddX11_twice 69 rfl) ⟨Nat.le_of_ble_eq_true rfl, Nat.le_of_ble_eq_true rfl⟩) (fun r_8 d_7 H locs h hw => ?_)
              refine lv_goto (tgt := 137) S.1 S.2.1 (dd_at ddX11_twice 70 rfl) (by decide) ?_
              refine lv_iadd S.1 S.2.1 (dd_at ddX11_twice 72 rfl) ?_
              refine lv_istore (lv' := [(5, .int (v5 + r_8)), (0, .ref a0), (3, .int p3), (6, .int v6), (7, .int v7), (8, .int v8)]) S.1 S.2.1 (dd_at ddX11_twice 73 rfl) hl (by decide) rfl (fun ls hl => ?_)
              refine lv_iinc (v := v6 + 1) (lv' := [(6, .int (v6 + 1)), (5, .int (v5 + r_8)), (0, .ref a0), (3, .int p3), (7, .int v7), (8, .int v8)]) S.1 S.2.1 (dd_at ddX11_twice 74 rfl) hl (k := 3) rfl rfl (by decide) rfl (fun ls hl => ?_)
              refine lv_goto (tgt := 45) S.1 S.2.1 (dd_at ddX11_twice 75 rfl) (by decide) ?_
              exact ih45 (v5 + r_8) (v6 + 1) d_7 H locs ls h hw (lv_sub hl [2, 3, 1, 0] rfl)
          · have h := h.2 hc_1
            refine lv_iload S.1 S.2.1 (dd_at ddX11_twice 37 rfl) (lv_at hl 4 rfl) ?_
            refine lv_if_ne (tgt := 101) S.1 S.2.1 (dd_at ddX11_twice 38 rfl) (by decide) (fun hc_9 => ?_) (fun hc_9 => ?_)
            · have h := h.1 hc_9
              refine lv_iconst (v := 1) S.1 S.2.1 (dd_at ddX11_twice 54 rfl) (by decide) ?_
              refine lv_goto (tgt := 106) S.1 S.2.1 (dd_at ddX11_twice 55 rfl) (by decide) ?_
              refine lv_istore (lv' := [(7, .int 1), (0, .ref a0), (3, .int p3), (5, .int v5), (6, .int v6), (8, .int v8)]) S.1 S.2.1 (dd_at ddX11_twice 57 rfl) hl (by decide) rfl (fun ls hl => ?_)
              refine lv_iinc (v := v8 + 1) (lv' := [(8, .int (v8 + 1)), (7, .int 1), (0, .ref a0), (3, .int p3), (5, .int v5), (6, .int v6)]) S.1 S.2.1 (dd_at ddX11_twice 58 rfl) hl (k := 5) rfl rfl (by decide) rfl (fun ls hl => ?_)
              refine lv_goto (tgt := 60) S.1 S.2.1 (dd_at ddX11_twice 59 rfl) (by decide) ?_
              exact ih60 v5 v6 1 (v8 + 1) d H locs ls h hw (lv_sub hl [2, 3, 4, 5, 1, 0] rfl)
            · have h := h.2 hc_9
              refine lv_aload_n S.1 S.2.1 (dd_at ddX11_twice 39 rfl) rfl (lv_at hl 0 rfl) ?_
              obtain ⟨b_10, hb_11, ho_12, h⟩ := h
              refine r_getR S hw 11 32 rfl inG11 (by decide) (List.mem_cons_of_mem _ wg173) (by decide) ha0 hb_11 (dd_at ddX11_twice 40 rfl) ?_
              refine lv_iload S.1 S.2.1 (dd_at ddX11_twice 41 rfl) (lv_at hl 5 rfl) ?_
              obtain ⟨hx_13, h⟩ := h
              refine r_iald S hw ho_12 hx_13 (dd_at ddX11_twice 42 rfl) ?_
              refine lv_aload_n S.1 S.2.1 (dd_at ddX11_twice 43 rfl) rfl (lv_at hl 0 rfl) ?_
              obtain ⟨b_14, hb_15, ho_16, h⟩ := h
              refine r_getR S hw 11 32 rfl inG11 (by decide) (List.mem_cons_of_mem _ wg173) (by decide) ha0 hb_15 (dd_at ddX11_twice 44 rfl) ?_
              refine lv_iload S.1 S.2.1 (dd_at ddX11_twice 45 rfl) (lv_at hl 3 rfl) ?_
              obtain ⟨hx_17, h⟩ := h
              refine r_iald S hw ho_16 hx_17 (dd_at ddX11_twice 46 rfl) ?_
              refine lv_icmp_ne (tgt := 105) S.1 S.2.1 (dd_at ddX11_twice 47 rfl) (by decide) (fun hc_18 => ?_) (fun hc_18 => ?_)
              · have h := h.1 hc_18
                refine lv_iconst (v := 0) S.1 S.2.1 (dd_at ddX11_twice 56 rfl) (by decide) ?_
                refine lv_istore (lv' := [(7, .int 0), (0, .ref a0), (3, .int p3), (5, .int v5), (6, .int v6), (8, .int v8)]) S.1 S.2.1 (dd_at ddX11_twice 57 rfl) hl (by decide) rfl (fun ls hl => ?_)
                refine lv_iinc (v := v8 + 1) (lv' := [(8, .int (v8 + 1)), (7, .int 0), (0, .ref a0), (3, .int p3), (5, .int v5), (6, .int v6)]) S.1 S.2.1 (dd_at ddX11_twice 58 rfl) hl (k := 5) rfl rfl (by decide) rfl (fun ls hl => ?_)
                refine lv_goto (tgt := 60) S.1 S.2.1 (dd_at ddX11_twice 59 rfl) (by decide) ?_
                exact ih60 v5 v6 0 (v8 + 1) d H locs ls h hw (lv_sub hl [2, 3, 4, 5, 1, 0] rfl)
              · have h := h.2 hc_18
                refine lv_aload_n S.1 S.2.1 (dd_at ddX11_twice 48 rfl) rfl (lv_at hl 0 rfl) ?_
                refine lv_iload S.1 S.2.1 (dd_at ddX11_twice 49 rfl) (lv_at hl 5 rfl) ?_
                refine lv_iload S.1 S.2.1 (dd_at ddX11_twice 50 rfl) (lv_at hl 3 rfl) ?_
                refine lv_iload_n S.1 S.2.1 (dd_at ddX11_twice 51 rfl) rfl (lv_at hl 1 rfl) ?_
                refine r_callI hw (r_runV (As := [.int v8, .int v6, .int p3]) (rest := []) S hw (m_X11_isAheadBack l D cs E d H.size a0 v8 v6 p3 _) (cwV 3 S.2.2.2.2 (gV wg1200 wg1201 wg1202 wg5 wg1203) rfl rfl rfl (by decide +kernel) ⟨Nat.le_of_ble_eq_true rfl, Nat.le_of_ble_eq_true rfl⟩) (ci := 11) rfl ha0 h rfl hl.1 rfl (Nat.le_of_ble_eq_true rfl) (dd_at ddX11_twice 52 rfl) ⟨Nat.le_of_ble_eq_true rfl, Nat.le_of_ble_eq_true rfl⟩) (fun r_20 d_19 H locs h hw => ?_)
                refine lv_if_eq (tgt := 105) S.1 S.2.1 (dd_at ddX11_twice 53 rfl) (by decide) (fun hc_21 => ?_) (fun hc_21 => ?_)
                · have h := h.1 hc_21
                  refine lv_iconst (v := 0) S.1 S.2.1 (dd_at ddX11_twice 56 rfl) (by decide) ?_
                  refine lv_istore (lv' := [(7, .int 0), (0, .ref a0), (3, .int p3), (5, .int v5), (6, .int v6), (8, .int v8)]) S.1 S.2.1 (dd_at ddX11_twice 57 rfl) hl (by decide) rfl (fun ls hl => ?_)
                  refine lv_iinc (v := v8 + 1) (lv' := [(8, .int (v8 + 1)), (7, .int 0), (0, .ref a0), (3, .int p3), (5, .int v5), (6, .int v6)]) S.1 S.2.1 (dd_at ddX11_twice 58 rfl) hl (k := 5) rfl rfl (by decide) rfl (fun ls hl => ?_)
                  refine lv_goto (tgt := 60) S.1 S.2.1 (dd_at ddX11_twice 59 rfl) (by decide) ?_
                  exact ih60 v5 v6 0 (v8 + 1) d_19 H locs ls h hw (lv_sub hl [2, 3, 4, 5, 1, 0] rfl)
                · have h := h.2 hc_21
                  refine lv_iconst (v := 1) S.1 S.2.1 (dd_at ddX11_twice 54 rfl) (by decide) ?_
                  refine lv_goto (tgt := 106) S.1 S.2.1 (dd_at ddX11_twice 55 rfl) (by decide) ?_
                  refine lv_istore (lv' := [(7, .int 1), (0, .ref a0), (3, .int p3), (5, .int v5), (6, .int v6), (8, .int v8)]) S.1 S.2.1 (dd_at ddX11_twice 57 rfl) hl (by decide) rfl (fun ls hl => ?_)
                  refine lv_iinc (v := v8 + 1) (lv' := [(8, .int (v8 + 1)), (7, .int 1), (0, .ref a0), (3, .int p3), (5, .int v5), (6, .int v6)]) S.1 S.2.1 (dd_at ddX11_twice 58 rfl) hl (k := 5) rfl rfl (by decide) rfl (fun ls hl => ?_)
                  refine lv_goto (tgt := 60) S.1 S.2.1 (dd_at ddX11_twice 59 rfl) (by decide) ?_
                  exact ih60 v5 v6 1 (v8 + 1) d_19 H locs ls h hw (lv_sub hl [2, 3, 4, 5, 1, 0] rfl)
      intro v5 v6 d H locs ls h hw hl
      have h : b_X11_twice_45 E a0 p1 p2 p3 K (l_X11_twice_45 E a0 p1 p2 p3 K n45) v5 v6 d := h
      unfold b_X11_twice_45 at h
      refine lv_iload S.1 S.2.1 (dd_at ddX11_twice 26 rfl) (lv_at hl 3 rfl) ?_
      refine lv_aload_n S.1 S.2.1 (dd_at ddX11_twice 27 rfl) rfl (lv_at hl 0 rfl) ?_
      refine r_getI S hw 11 33 rfl inG11 (by decide) (List.mem_cons_of_mem _ wg1190) (by decide) ha0 (dd_at ddX11_twice 28 rfl) ?_
      refine lv_icmp_ge (tgt := 146) S.1 S.2.1 (dd_at ddX11_twice 29 rfl) (by decide) (fun hc_22 => ?_) (fun hc_22 => ?_)
      · have h := h.1 hc_22
        refine lv_iload S.1 S.2.1 (dd_at ddX11_twice 76 rfl) (lv_at hl 2 rfl) ?_
        exact e_I S hr hlocks hw h (dd_at ddX11_twice 77 rfl)
      · have h := h.2 hc_22
        refine lv_iconst (v := 0) S.1 S.2.1 (dd_at ddX11_twice 30 rfl) (by decide) ?_
        refine lv_istore (lv' := [(7, .int 0), (0, .ref a0), (3, .int p3), (5, .int v5), (6, .int v6)]) S.1 S.2.1 (dd_at ddX11_twice 31 rfl) hl (by decide) rfl (fun ls hl => ?_)
        refine lv_iconst (v := 0) S.1 S.2.1 (dd_at ddX11_twice 32 rfl) (by decide) ?_
        refine lv_istore (lv' := [(8, .int 0), (7, .int 0), (0, .ref a0), (3, .int p3), (5, .int v5), (6, .int v6)]) S.1 S.2.1 (dd_at ddX11_twice 33 rfl) hl (by decide) rfl (fun ls hl => ?_)
        obtain ⟨n_23, h⟩ := h
        exact tl60 n_23 v5 v6 0 0 d H locs ls h hw (lv_sub hl [2, 3, 4, 5, 1, 0] rfl)
  have tl11 : ∀ (n : Nat) (v4 : Int32) (v5 : Int32) (d : Dy) (H : Heap) (locs : List Loc) (ls : Array Slot), l_X11_twice_11 E a0 p1 p2 p3 K n v4 v5 d → Wd D cs (AW E sz) s.heap s E d H locs → lv_has ls 9 [(0, .ref a0), (2, .int p2), (3, .int p3), (4, .int v4), (5, .int v5)] → W p l e rm_X11_twice s m ([.ref a0, .int p1, .int p2, .int p3] : List Value).toArray below meth c H locs 0 0 (MQ below (va_Qi K (OutW D cs E (AW E sz)) (AW E sz)) ([.ref a0, .int p1, .int p2, .int p3] : List Value).toArray s rm_X11_twice.cells rm_X11_twice.slots (AW E sz)) (F0 m 11 ls []) := by
    intro n11
    induction n11 with
    | zero => intro v4 v5 d H locs ls h; exact absurd h id
    | succ n11 ih11 =>
      intro v4 v5 d H locs ls h hw hl
      have h : b_X11_twice_11 E a0 p1 p2 p3 K (l_X11_twice_11 E a0 p1 p2 p3 K n11) v4 v5 d := h
      unfold b_X11_twice_11 at h
      refine lv_iload S.1 S.2.1 (dd_at ddX11_twice 7 rfl) (lv_at hl 4 rfl) ?_
      refine lv_if_lt (tgt := 39) S.1 S.2.1 (dd_at ddX11_twice 8 rfl) (by decide) (fun hc_24 => ?_) (fun hc_24 => ?_)
      · have h := h.1 hc_24
        refine lv_iconst (v := 0) S.1 S.2.1 (dd_at ddX11_twice 22 rfl) (by decide) ?_
        refine lv_istore (lv' := [(5, .int 0), (0, .ref a0), (2, .int p2), (3, .int p3), (4, .int v4)]) S.1 S.2.1 (dd_at ddX11_twice 23 rfl) hl (by decide) rfl (fun ls hl => ?_)
        refine lv_iconst (v := 1) S.1 S.2.1 (dd_at ddX11_twice 24 rfl) (by decide) ?_
        refine lv_istore (lv' := [(6, .int 1), (5, .int 0), (0, .ref a0), (2, .int p2), (3, .int p3), (4, .int v4)]) S.1 S.2.1 (dd_at ddX11_twice 25 rfl) hl (by decide) rfl (fun ls hl => ?_)
        obtain ⟨n_25, h⟩ := h
        exact tl45 n_25 0 1 d H locs ls h hw (lv_sub hl [2, 4, 1, 0] rfl)
      · have h := h.2 hc_24
        refine lv_aload_n S.1 S.2.1 (dd_at ddX11_twice 9 rfl) rfl (lv_at hl 0 rfl) ?_
        obtain ⟨b_26, hb_27, ho_28, h⟩ := h
        refine r_getR S hw 11 32 rfl inG11 (by decide) (List.mem_cons_of_mem _ wg173) (by decide) ha0 hb_27 (dd_at ddX11_twice 10 rfl) ?_
        refine lv_iload S.1 S.2.1 (dd_at ddX11_twice 11 rfl) (lv_at hl 4 rfl) ?_
        refine lv_iload S.1 S.2.1 (dd_at ddX11_twice 12 rfl) (lv_at hl 3 rfl) ?_
        refine lv_iload_n S.1 S.2.1 (dd_at ddX11_twice 13 rfl) rfl (lv_at hl 1 rfl) ?_
        obtain ⟨hz_29, h⟩ := h
        refine lv_irem S.1 S.2.1 (dd_at ddX11_twice 14 rfl) hz_29 ?_
        obtain ⟨hx_30, h⟩ := h
        refine r_iast S hw ho_28 hx_30 (dd_at ddX11_twice 15 rfl) (fun H locs hw => ?_)
        refine lv_iload S.1 S.2.1 (dd_at ddX11_twice 16 rfl) (lv_at hl 3 rfl) ?_
        refine lv_iload_n S.1 S.2.1 (dd_at ddX11_twice 17 rfl) rfl (lv_at hl 1 rfl) ?_
        obtain ⟨hz_31, h⟩ := h
        refine lv_idiv S.1 S.2.1 (dd_at ddX11_twice 18 rfl) hz_31 ?_
        refine lv_istore (lv' := [(4, .int (v4 / p2)), (0, .ref a0), (2, .int p2), (3, .int p3), (5, .int v5)]) S.1 S.2.1 (dd_at ddX11_twice 19 rfl) hl (by decide) rfl (fun ls hl => ?_)
        refine lv_iinc (v := v5 + (-1)) (lv' := [(5, .int (v5 + (-1))), (4, .int (v4 / p2)), (0, .ref a0), (2, .int p2), (3, .int p3)]) S.1 S.2.1 (dd_at ddX11_twice 20 rfl) hl (k := 4) rfl rfl (by decide) rfl (fun ls hl => ?_)
        refine lv_goto (tgt := 11) S.1 S.2.1 (dd_at ddX11_twice 21 rfl) (by decide) ?_
        exact ih11 (v4 / p2) (v5 + (-1)) (pA d b_26 (v5).toNatClampNeg (v4 - v4 / p2 * p2)) H locs ls h hw (lv_sub hl [2, 3, 4, 1, 0] rfl)
  refine lv_iload_n S.1 S.2.1 (dd_at ddX11_twice 0 rfl) rfl (lv_at hl 1 rfl) ?_
  refine lv_istore (lv' := [(4, .int p1), (0, .ref a0), (1, .int p1), (2, .int p2), (3, .int p3)]) S.1 S.2.1 (dd_at ddX11_twice 1 rfl) hl (by decide) rfl (fun ls hl => ?_)
  refine lv_aload_n S.1 S.2.1 (dd_at ddX11_twice 2 rfl) rfl (lv_at hl 1 rfl) ?_
  refine r_getI S hw 11 33 rfl inG11 (by decide) (List.mem_cons_of_mem _ wg1190) (by decide) ha0 (dd_at ddX11_twice 3 rfl) ?_
  refine lv_iconst (v := 1) S.1 S.2.1 (dd_at ddX11_twice 4 rfl) (by decide) ?_
  refine lv_isub S.1 S.2.1 (dd_at ddX11_twice 5 rfl) ?_
  refine lv_istore (lv' := [(5, .int ((gI d a0 33) - 1)), (4, .int p1), (0, .ref a0), (1, .int p1), (2, .int p2), (3, .int p3)]) S.1 S.2.1 (dd_at ddX11_twice 6 rfl) hl (by decide) rfl (fun ls hl => ?_)
  obtain ⟨n_32, h⟩ := h
  exact tl11 n_32 p1 ((gI d a0 33) - 1) d H locs ls h hw (lv_sub hl [2, 4, 5, 1, 0] rfl)

def b_X11_lift_265 (E : En) (a0 : Nat) (p1 : Int32) (p2 : Int32) (p3 : Int32) (p4 : Int32) (K : Int32 → Dy → Prop) (k265 : Int32 → Dy → Prop) (v9 : Int32) (d : Dy) : Prop := (((gI d a0 33) ≤ v9 → K (-1) d) ∧ (¬ (gI d a0 33) ≤ v9 → ∃ b_2 : Nat, eR E a0 31 = some b_2 ∧ okA E b_2 13 ∧ vp_in v9 (eN E b_2) ∧ ((¬ (gA d b_2 (v9).toNatClampNeg) = p4 → k265 (v9 + 1) d) ∧ ((gA d b_2 (v9).toNatClampNeg) = p4 → ∃ b_7 : Nat, eR E a0 32 = some b_7 ∧ okA E b_7 13 ∧ vp_in v9 (eN E b_7) ∧ K (gA d b_7 (v9).toNatClampNeg) d))))
def l_X11_lift_265 (E : En) (a0 : Nat) (p1 : Int32) (p2 : Int32) (p3 : Int32) (p4 : Int32) (K : Int32 → Dy → Prop) : Nat → Int32 → Dy → Prop
  | 0 => fun _ _ => False
  | n + 1 => b_X11_lift_265 E a0 p1 p2 p3 p4 K (l_X11_lift_265 E a0 p1 p2 p3 p4 K n)
def b_X11_lift_203 (E : En) (a0 : Nat) (p1 : Int32) (p2 : Int32) (p3 : Int32) (p4 : Int32) (K : Int32 → Dy → Prop) (k203 : Int32 → Int32 → Int32 → Int32 → Dy → Prop) (v6 : Int32) (v7 : Int32) (v8 : Int32) (v9 : Int32) (d : Dy) : Prop := ((v6 ≤ v9 → ((¬ p4 = (-1) → w_X11_twice E a0 v7 p2 p3 d (fun r_14 d_13 => (∃ n_15 : Nat, l_X11_lift_265 E a0 p1 p2 p3 p4 K n_15 0 d_13))) ∧ (p4 = (-1) → K v8 d))) ∧ (¬ v6 ≤ v9 → w_X11_twice E a0 v9 p2 p3 d (fun r_17 d_16 => ((r_17 < v8 → k203 v6 v9 r_17 (v9 + 1) d_16) ∧ (¬ r_17 < v8 → k203 v6 v7 v8 (v9 + 1) d_16)))))
def l_X11_lift_203 (E : En) (a0 : Nat) (p1 : Int32) (p2 : Int32) (p3 : Int32) (p4 : Int32) (K : Int32 → Dy → Prop) : Nat → Int32 → Int32 → Int32 → Int32 → Dy → Prop
  | 0 => fun _ _ _ _ _ => False
  | n + 1 => b_X11_lift_203 E a0 p1 p2 p3 p4 K (l_X11_lift_203 E a0 p1 p2 p3 p4 K n)
def b_X11_lift_167 (E : En) (a0 : Nat) (p1 : Int32) (p2 : Int32) (p3 : Int32) (p4 : Int32) (K : Int32 → Dy → Prop) (k167 : Int32 → Int32 → Dy → Prop) (v6 : Int32) (v7 : Int32) (d : Dy) : Prop := (((gI d a0 33) ≤ v7 → w_X11_twice E a0 0 p2 p3 d (fun r_21 d_20 => (∃ n_22 : Nat, l_X11_lift_203 E a0 p1 p2 p3 p4 K n_22 v6 0 r_21 1 d_20))) ∧ (¬ (gI d a0 33) ≤ v7 → k167 (v6 * p2) (v7 + 1) d))
def l_X11_lift_167 (E : En) (a0 : Nat) (p1 : Int32) (p2 : Int32) (p3 : Int32) (p4 : Int32) (K : Int32 → Dy → Prop) : Nat → Int32 → Int32 → Dy → Prop
  | 0 => fun _ _ _ => False
  | n + 1 => b_X11_lift_167 E a0 p1 p2 p3 p4 K (l_X11_lift_167 E a0 p1 p2 p3 p4 K n)
def b_X11_lift_102 (E : En) (a0 : Nat) (p1 : Int32) (p2 : Int32) (p3 : Int32) (p4 : Int32) (K : Int32 → Dy → Prop) (k102 : Int32 → Int32 → Dy → Prop) (v5 : Int32) (v6 : Int32) (d : Dy) : Prop := w_X11_huts E a0 d (fun r_24 d_23 => ((r_24 ≤ v6 → (∃ n_26 : Nat, l_X11_lift_167 E a0 p1 p2 p3 p4 K n_26 1 0 d_23)) ∧ (¬ r_24 ≤ v6 → ∃ b_27 : Nat, eR E a0 23 = some b_27 ∧ okA E b_27 13 ∧ vp_in v6 (eN E b_27) ∧ ((¬ ((v5 >>> ((gA d_23 b_27 (v6).toNatClampNeg) &&& 31)) &&& 1) = 0 → ∃ b_32 : Nat, eR E a0 31 = some b_32 ∧ okA E b_32 13 ∧ ∃ b_35 : Nat, eR E a0 23 = some b_35 ∧ okA E b_35 13 ∧ vp_in v6 (eN E b_35) ∧ vp_in (gI d_23 a0 33) (eN E b_32) ∧ k102 v5 (v6 + 1) (pI (pA d_23 b_32 (gI d_23 a0 33).toNatClampNeg (gA d_23 b_35 (v6).toNatClampNeg)) a0 33 ((gI (pA d_23 b_32 (gI d_23 a0 33).toNatClampNeg (gA d_23 b_35 (v6).toNatClampNeg)) a0 33) + 1))) ∧ (((v5 >>> ((gA d_23 b_27 (v6).toNatClampNeg) &&& 31)) &&& 1) = 0 → k102 v5 (v6 + 1) d_23)))))
def l_X11_lift_102 (E : En) (a0 : Nat) (p1 : Int32) (p2 : Int32) (p3 : Int32) (p4 : Int32) (K : Int32 → Dy → Prop) : Nat → Int32 → Int32 → Dy → Prop
  | 0 => fun _ _ _ => False
  | n + 1 => b_X11_lift_102 E a0 p1 p2 p3 p4 K (l_X11_lift_102 E a0 p1 p2 p3 p4 K n)
def b_X11_lift_81 (E : En) (a0 : Nat) (p1 : Int32) (p2 : Int32) (p3 : Int32) (p4 : Int32) (K : Int32 → Dy → Prop) (v5 : Int32) (s0 : Nat) (s1 : Int32) (d : Dy) : Prop := okO E s0 11 ∧ w_X11_throwsIf E s0 s1 2 d (fun r_41 d_40 => ((r_41 = 0 → w_X11_goesToday E a0 d_40 (fun d_43 => (∃ n_45 : Nat, l_X11_lift_102 E a0 p1 p2 p3 p4 K n_45 v5 0 (pI d_43 a0 33 0)))) ∧ (¬ r_41 = 0 → K 0 d_40)))
def b_X11_lift_76 (E : En) (a0 : Nat) (p1 : Int32) (p2 : Int32) (p3 : Int32) (p4 : Int32) (K : Int32 → Dy → Prop) (v5 : Int32) (s0 : Nat) (d : Dy) : Prop := okO E s0 11 ∧ b_X11_lift_81 E a0 p1 p2 p3 p4 K v5 s0 1 d
def b_X11_lift_26 (E : En) (a0 : Nat) (p1 : Int32) (p2 : Int32) (p3 : Int32) (p4 : Int32) (K : Int32 → Dy → Prop) (s0 : Nat) (s1 : Int32) (d : Dy) : Prop := okO E s0 11 ∧ w_X11_throwsIf E s0 s1 1 d (fun r_47 d_46 => ((r_47 = 0 → w_X11_huts E a0 d_46 (fun r_50 d_49 => w_X11_in E p2 1 4 d_49 (fun r_52 d_51 => ((r_52 = 0 → b_X11_lift_76 E a0 p1 p2 p3 p4 K (p1 &&& (((1 : Int32) <<< (r_50 &&& 31)) - 1)) a0 d_51) ∧ (¬ r_52 = 0 → w_X11_in E p3 0 2 d_51 (fun r_55 d_54 => ((r_55 = 0 → b_X11_lift_76 E a0 p1 p2 p3 p4 K (p1 &&& (((1 : Int32) <<< (r_50 &&& 31)) - 1)) a0 d_54) ∧ (¬ r_55 = 0 → w_J6_bitCount_0f7a4 E (p1 &&& (((1 : Int32) <<< (r_50 &&& 31)) - 1)) d_54 (fun r_58 d_57 => ((r_58 ≤ 7 → b_X11_lift_81 E a0 p1 p2 p3 p4 K (p1 &&& (((1 : Int32) <<< (r_50 &&& 31)) - 1)) a0 0 d_57) ∧ (¬ r_58 ≤ 7 → b_X11_lift_76 E a0 p1 p2 p3 p4 K (p1 &&& (((1 : Int32) <<< (r_50 &&& 31)) - 1)) a0 d_57))))))))))) ∧ (¬ r_47 = 0 → K 0 d_46)))
def b_X11_lift_25 (E : En) (a0 : Nat) (p1 : Int32) (p2 : Int32) (p3 : Int32) (p4 : Int32) (K : Int32 → Dy → Prop) (s0 : Nat) (d : Dy) : Prop := okO E s0 11 ∧ b_X11_lift_26 E a0 p1 p2 p3 p4 K s0 0 d
def w_X11_lift (E : En) (a0 : Nat) (p1 : Int32) (p2 : Int32) (p3 : Int32) (p4 : Int32) (d : Dy) (K : Int32 → Dy → Prop) : Prop := okO E a0 11 ∧ ((p4 = (-1) → b_X11_lift_25 E a0 p1 p2 p3 p4 K a0 (pI d a0 0 0)) ∧ (¬ p4 = (-1) → w_X11_noHut E a0 p4 (pI d a0 0 0) (fun r_62 d_61 => ((r_62 = 0 → b_X11_lift_25 E a0 p1 p2 p3 p4 K a0 d_61) ∧ (¬ r_62 = 0 → b_X11_lift_26 E a0 p1 p2 p3 p4 K a0 1 d_61)))))
abbrev rm_X11_lift : Room := { frames := 8, cells := 0, slots := 0, locals := 187 }
set_option maxRecDepth 100000 in
set_option maxHeartbeats 4000000 in
theorem m_X11_lift (l : Launch) (D : va_G) (cs : Nat → ClassId) (E : En) (d : Dy) (sz : Nat) (a0 : Nat) (p1 : Int32) (p2 : Int32) (p3 : Int32) (p4 : Int32) (K : Int32 → Dy → Prop) : CI l yX11_lift (.code yX11_lift cX11_lift 11 (some .int) :: wsL_law) rm_X11_lift D cs E d sz [.ref a0, .int p1, .int p2, .int p3, .int p4] (w_X11_lift E a0 p1 p2 p3 p4 d K) K := by
  refine e_of (cc := cX11_lift) (maxL := 11) (ret := (some .int)) (own := RX11) (by decide) rfl rfl (Nat.le_of_ble_eq_true rfl) ?_
  intro p e s m below meth c S hr hlocks hsz H locs hw h ls hl
  have hl : lv_has ls 11 [(0, .ref a0), (1, .int p1), (2, .int p2), (3, .int p3), (4, .int p4)] := hl
  unfold w_X11_lift at h
  obtain ⟨ha0, h⟩ := h
  have tl265 : ∀ (n : Nat) (v9 : Int32) (d : Dy) (H : Heap) (locs : List Loc) (ls : Array Slot), l_X11_lift_265 E a0 p1 p2 p3 p4 K n v9 d → Wd D cs (AW E sz) s.heap s E d H locs → lv_has ls 11 [(0, .ref a0), (4, .int p4), (9, .int v9)] → W p l e rm_X11_lift s m ([.ref a0, .int p1, .int p2, .int p3, .int p4] : List Value).toArray below meth c H locs 0 0 (MQ below (va_Qi K (OutW D cs E (AW E sz)) (AW E sz)) ([.ref a0, .int p1, .int p2, .int p3, .int p4] : List Value).toArray s rm_X11_lift.cells rm_X11_lift.slots (AW E sz)) (F0 m 265 ls []) := by
    intro n265
    induction n265 with
    | zero => intro v9 d H locs ls h; exact absurd h id
    | succ n265 ih265 =>
      intro v9 d H locs ls h hw hl
      have h : b_X11_lift_265 E a0 p1 p2 p3 p4 K (l_X11_lift_265 E a0 p1 p2 p3 p4 K n265) v9 d := h
      unfold b_X11_lift_265 at h
      refine lv_iload S.1 S.2.1 (dd_at ddX11_lift 145 rfl) (lv_at hl 2 rfl) ?_
      refine lv_aload_n S.1 S.2.1 (dd_at ddX11_lift 146 rfl) rfl (lv_at hl 0 rfl) ?_
      refine r_getI S hw 11 33 rfl inG11 (by decide) (List.mem_cons_of_mem _ wg1190) (by decide) ha0 (dd_at ddX11_lift 147 rfl) ?_
      refine lv_icmp_ge (tgt := 300) S.1 S.2.1 (dd_at ddX11_lift 148 rfl) (by decide) (fun hc_1 => ?_) (fun hc_1 => ?_)
      · have h := h.1 hc_1
        refine lv_iconst (v := -1) S.1 S.2.1 (dd_at ddX11_lift 162 rfl) (by decide) ?_
        exact e_I S hr hlocks hw h (dd_at ddX11_lift 163 rfl)
      · have h := h.2 hc_1
        refine lv_aload_n S.1 S.2.1 (dd_at ddX11_lift 149 rfl) rfl (lv_at hl 0 rfl) ?_
        obtain ⟨b_2, hb_3, ho_4, h⟩ := h
        refine r_getR S hw 11 31 rfl inG11 (by decide) (List.mem_cons_of_mem _ wg172) (by decide) ha0 hb_3 (dd_at ddX11_lift 150 rfl) ?_
        refine lv_iload S.1 S.2.1 (dd_at ddX11_lift 151 rfl) (lv_at hl 2 rfl) ?_
        obtain ⟨hx_5, h⟩ := h
        refine r_iald S hw ho_4 hx_5 (dd_at ddX11_lift 152 rfl) ?_
        refine lv_iload S.1 S.2.1 (dd_at ddX11_lift 153 rfl) (lv_at hl 1 rfl) ?_
        refine lv_icmp_ne (tgt := 294) S.1 S.2.1 (dd_at ddX11_lift 154 rfl) (by decide) (fun hc_6 => ?_) (fun hc_6 => ?_)
        · have h := h.1 hc_6
          refine lv_iinc (v := v9 + 1) (lv' := [(9, .int (v9 + 1)), (0, .ref a0), (4, .int p4)]) S.1 S.2.1 (dd_at ddX11_lift 160 rfl) hl (k := 2) rfl rfl (by decide) rfl (fun ls hl => ?_)
          refine lv_goto (tgt := 265) S.1 S.2.1 (dd_at ddX11_lift 161 rfl) (by decide) ?_
          exact ih265 (v9 + 1) d H locs ls h hw (lv_sub hl [1, 2, 0] rfl)
        · have h := h.2 hc_6
          refine lv_aload_n S.1 S.2.1 (dd_at ddX11_lift 155 rfl) rfl (lv_at hl 0 rfl) ?_
          obtain ⟨b_7, hb_8, ho_9, h⟩ := h
          refine r_getR S hw 11 32 rfl inG11 (by decide) (List.mem_cons_of_mem _ wg173) (by decide) ha0 hb_8 (dd_at ddX11_lift 156 rfl) ?_
          refine lv_iload S.1 S.2.1 (dd_at ddX11_lift 157 rfl) (lv_at hl 2 rfl) ?_
          obtain ⟨hx_10, h⟩ := h
          refine r_iald S hw ho_9 hx_10 (dd_at ddX11_lift 158 rfl) ?_
          exact e_I S hr hlocks hw h (dd_at ddX11_lift 159 rfl)
  have tl203 : ∀ (n : Nat) (v6 : Int32) (v7 : Int32) (v8 : Int32) (v9 : Int32) (d : Dy) (H : Heap) (locs : List Loc) (ls : Array Slot), l_X11_lift_203 E a0 p1 p2 p3 p4 K n v6 v7 v8 v9 d → Wd D cs (AW E sz) s.heap s E d H locs → lv_has ls 11 [(0, .ref a0), (2, .int p2), (3, .int p3), (4, .int p4), (6, .int v6), (7, .int v7), (8, .int v8), (9, .int v9)] → W p l e rm_X11_lift s m ([.ref a0, .int p1, .int p2, .int p3, .int p4] : List Value).toArray below meth c H locs 0 0 (MQ below (va_Qi K (OutW D cs E (AW E sz)) (AW E sz)) ([.ref a0, .int p1, .int p2, .int p3, .int p4] : List Value).toArray s rm_X11_lift.cells rm_X11_lift.slots (AW E sz)) (F0 m 203 ls []) := by
    intro n203
    induction n203 with
    | zero => intro v6 v7 v8 v9 d H locs ls h; exact absurd h id
    | succ n203 ih203 =>
      intro v6 v7 v8 v9 d H locs ls h hw hl
      have h : b_X11_lift_203 E a0 p1 p2 p3 p4 K (l_X11_lift_203 E a0 p1 p2 p3 p4 K n203) v6 v7 v8 v9 d := h
      unfold b_X11_lift_203 at h
      refine lv_iload S.1 S.2.1 (dd_at ddX11_lift 113 rfl) (lv_at hl 7 rfl) ?_
      refine lv_iload S.1 S.2.1 (dd_at ddX11_lift 114 rfl) (lv_at hl 4 rfl) ?_
      refine lv_icmp_ge (tgt := 244) S.1 S.2.1 (dd_at ddX11_lift 115 rfl) (by decide) (fun hc_11 => ?_) (fun hc_11 => ?_)
      · have h := h.1 hc_11
        refine lv_iload S.1 S.2.1 (dd_at ddX11_lift 132 rfl) (lv_at hl 3 rfl) ?_
        refine lv_iconst (v := -1) S.1 S.2.1 (dd_at ddX11_lift 133 rfl) (by decide) ?_
        refine lv_icmp_ne (tgt := 253) S.1 S.2.1 (dd_at ddX11_lift 134 rfl) (by decide) (fun hc_12 => ?_) (fun hc_12 => ?_)
        · have h := h.1 hc_12
          refine lv_aload_n S.1 S.2.1 (dd_at ddX11_lift 137 rfl) rfl (lv_at hl 0 rfl) ?_
          refine lv_iload S.1 S.2.1 (dd_at ddX11_lift 138 rfl) (lv_at hl 5 rfl) ?_
          refine lv_iload_n S.1 S.2.1 (dd_at ddX11_lift 139 rfl) rfl (lv_at hl 1 rfl) ?_
          refine lv_iload_n S.1 S.2.1 (dd_at ddX11_lift 140 rfl) rfl (lv_at hl 2 rfl) ?_
          refine r_callI hw (r_runV (As := [.int v7, .int p2, .int p3]) (rest := []) S hw (m_X11_twice l D cs E d H.size a0 v7 p2 p3 _) (cwV 3 S.2.2.2.2 (gV wg1196 wg1197 wg1198 wg5 wg1199) rfl rfl rfl (by decide +kernel) ⟨Nat.le_of_ble_eq_true rfl, Nat.le_of_ble_eq_true rfl⟩) (ci := 11) rfl ha0 h rfl hl.1 rfl (Nat.le_of_ble_eq_true rfl) (dd_at ddX11_lift 141 rfl) ⟨Nat.le_of_ble_eq_true rfl, Nat.le_of_ble_eq_true rfl⟩) (fun r_14 d_13 H locs h hw => ?_)
          refine lv_pop S.1 S.2.1 (dd_at ddX11_lift 142 rfl) rfl ?_
          refine lv_iconst (v := 0) S.1 S.2.1 (dd_at ddX11_lift 143 rfl) (by decide) ?_
          refine lv_istore (lv' := [(9, .int 0), (0, .ref a0), (2, .int p2), (3, .int p3), (4, .int p4), (6, .int v6), (7, .int v7), (8, .int v8)]) S.1 S.2.1 (dd_at ddX11_lift 144 rfl) hl (by decide) rfl (fun ls hl => ?_)
          obtain ⟨n_15, h⟩ := h
          exact tl265 n_15 0 d_13 H locs ls h hw (lv_sub hl [1, 4, 0] rfl)
        · have h := h.2 hc_12
          refine lv_iload S.1 S.2.1 (dd_at ddX11_lift 135 rfl) (lv_at hl 6 rfl) ?_
          exact e_I S hr hlocks hw h (dd_at ddX11_lift 136 rfl)
      · have h := h.2 hc_11
        refine lv_aload_n S.1 S.2.1 (dd_at ddX11_lift 116 rfl) rfl (lv_at hl 0 rfl) ?_
        refine lv_iload S.1 S.2.1 (dd_at ddX11_lift 117 rfl) (lv_at hl 7 rfl) ?_
        refine lv_iload_n S.1 S.2.1 (dd_at ddX11_lift 118 rfl) rfl (lv_at hl 1 rfl) ?_
        refine lv_iload_n S.1 S.2.1 (dd_at ddX11_lift 119 rfl) rfl (lv_at hl 2 rfl) ?_
        refine r_callI hw (r_runV (As := [.int v9, .int p2, .int p3]) (rest := []) S hw (m_X11_twice l D cs E d H.size a0 v9 p2 p3 _) (cwV 3 S.2.2.2.2 (gV wg1196 wg1197 wg1198 wg5 wg1199) rfl rfl rfl (by decide +kernel) ⟨Nat.le_of_ble_eq_true rfl, Nat.le_of_ble_eq_true rfl⟩) (ci := 11) rfl ha0 h rfl hl.1 rfl (Nat.le_of_ble_eq_true rfl) (dd_at ddX11_lift 120 rfl) ⟨Nat.le_of_ble_eq_true rfl, Nat.le_of_ble_eq_true rfl⟩) (fun r_17 d_16 H locs h hw => ?_)
        refine lv_istore (lv' := [(10, .int r_17), (0, .ref a0), (2, .int p2), (3, .int p3), (4, .int p4), (6, .int v6), (7, .int v7), (8, .int v8), (9, .int v9)]) S.1 S.2.1 (dd_at ddX11_lift 121 rfl) hl (by decide) rfl (fun ls hl => ?_)
        refine lv_iload S.1 S.2.1 (dd_at ddX11_lift 122 rfl) (lv_at hl 0 rfl) ?_
        refine lv_iload S.1 S.2.1 (dd_at ddX11_lift 123 rfl) (lv_at hl 7 rfl) ?_
        refine lv_icmp_lt (tgt := 230) S.1 S.2.1 (dd_at ddX11_lift 124 rfl) (by decide) (fun hc_18 => ?_) (fun hc_18 => ?_)
        · have h := h.1 hc_18
          refine lv_iload S.1 S.2.1 (dd_at ddX11_lift 126 rfl) (lv_at hl 8 rfl) ?_
          refine lv_istore (lv' := [(7, .int v9), (10, .int r_17), (0, .ref a0), (2, .int p2), (3, .int p3), (4, .int p4), (6, .int v6), (8, .int v8), (9, .int v9)]) S.1 S.2.1 (dd_at ddX11_lift 127 rfl) hl (by decide) rfl (fun ls hl => ?_)
          refine lv_iload S.1 S.2.1 (dd_at ddX11_lift 128 rfl) (lv_at hl 1 rfl) ?_
          refine lv_istore (lv' := [(8, .int r_17), (7, .int v9), (10, .int r_17), (0, .ref a0), (2, .int p2), (3, .int p3), (4, .int p4), (6, .int v6), (9, .int v9)]) S.1 S.2.1 (dd_at ddX11_lift 129 rfl) hl (by decide) rfl (fun ls hl => ?_)
          refine lv_iinc (v := v9 + 1) (lv' := [(9, .int (v9 + 1)), (8, .int r_17), (7, .int v9), (10, .int r_17), (0, .ref a0), (2, .int p2), (3, .int p3), (4, .int p4), (6, .int v6)]) S.1 S.2.1 (dd_at ddX11_lift 130 rfl) hl (k := 8) rfl rfl (by decide) rfl (fun ls hl => ?_)
          refine lv_goto (tgt := 203) S.1 S.2.1 (dd_at ddX11_lift 131 rfl) (by decide) ?_
          exact ih203 v6 v9 r_17 (v9 + 1) d_16 H locs ls h hw (lv_sub hl [4, 5, 6, 7, 8, 2, 1, 0] rfl)
        · have h := h.2 hc_18
          refine lv_goto (tgt := 238) S.1 S.2.1 (dd_at ddX11_lift 125 rfl) (by decide) ?_
          refine lv_iinc (v := v9 + 1) (lv' := [(9, .int (v9 + 1)), (10, .int r_17), (0, .ref a0), (2, .int p2), (3, .int p3), (4, .int p4), (6, .int v6), (7, .int v7), (8, .int v8)]) S.1 S.2.1 (dd_at ddX11_lift 130 rfl) hl (k := 8) rfl rfl (by decide) rfl (fun ls hl => ?_)
          refine lv_goto (tgt := 203) S.1 S.2.1 (dd_at ddX11_lift 131 rfl) (by decide) ?_
          exact ih203 v6 v7 v8 (v9 + 1) d_16 H locs ls h hw (lv_sub hl [2, 3, 4, 5, 6, 7, 8, 0] rfl)
  have tl167 : ∀ (n : Nat) (v6 : Int32) (v7 : Int32) (d : Dy) (H : Heap) (locs : List Loc) (ls : Array Slot), l_X11_lift_167 E a0 p1 p2 p3 p4 K n v6 v7 d → Wd D cs (AW E sz) s.heap s E d H locs → lv_has ls 11 [(0, .ref a0), (2, .int p2), (3, .int p3), (4, .int p4), (6, .int v6), (7, .int v7)] → W p l e rm_X11_lift s m ([.ref a0, .int p1, .int p2, .int p3, .int p4] : List Value).toArray below meth c H locs 0 0 (MQ below (va_Qi K (OutW D cs E (AW E sz)) (AW E sz)) ([.ref a0, .int p1, .int p2, .int p3, .int p4] : List Value).toArray s rm_X11_lift.cells rm_X11_lift.slots (AW E sz)) (F0 m 167 ls []) := by
    intro n167
    induction n167 with
    | zero => intro v6 v7 d H locs ls h; exact absurd h id
    | succ n167 ih167 =>
      intro v6 v7 d H locs ls h hw hl
      have h : b_X11_lift_167 E a0 p1 p2 p3 p4 K (l_X11_lift_167 E a0 p1 p2 p3 p4 K n167) v6 v7 d := h
      unfold b_X11_lift_167 at h
      refine lv_iload S.1 S.2.1 (dd_at ddX11_lift 93 rfl) (lv_at hl 5 rfl) ?_
      refine lv_aload_n S.1 S.2.1 (dd_at ddX11_lift 94 rfl) rfl (lv_at hl 0 rfl) ?_
      refine r_getI S hw 11 33 rfl inG11 (by decide) (List.mem_cons_of_mem _ wg1190) (by decide) ha0 (dd_at ddX11_lift 95 rfl) ?_
      refine lv_icmp_ge (tgt := 188) S.1 S.2.1 (dd_at ddX11_lift 96 rfl) (by decide) (fun hc_19 => ?_) (fun hc_19 => ?_)
      · have h := h.1 hc_19
        refine lv_iconst (v := 0) S.1 S.2.1 (dd_at ddX11_lift 103 rfl) (by decide) ?_
        refine lv_istore (lv' := [(7, .int 0), (0, .ref a0), (2, .int p2), (3, .int p3), (4, .int p4), (6, .int v6)]) S.1 S.2.1 (dd_at ddX11_lift 104 rfl) hl (by decide) rfl (fun ls hl => ?_)
        refine lv_aload_n S.1 S.2.1 (dd_at ddX11_lift 105 rfl) rfl (lv_at hl 1 rfl) ?_
        refine lv_iconst (v := 0) S.1 S.2.1 (dd_at ddX11_lift 106 rfl) (by decide) ?_
        refine lv_iload_n S.1 S.2.1 (dd_at ddX11_lift 107 rfl) rfl (lv_at hl 2 rfl) ?_
        refine lv_iload_n S.1 S.2.1 (dd_at ddX11_lift 108 rfl) rfl (lv_at hl 3 rfl) ?_
        refine r_callI hw (r_runV (As := [.int 0, .int p2, .int p3]) (rest := []) S hw (m_X11_twice l D cs E d H.size a0 0 p2 p3 _) (cwV 3 S.2.2.2.2 (gV wg1196 wg1197 wg1198 wg5 wg1199) rfl rfl rfl (by decide +kernel) ⟨Nat.le_of_ble_eq_true rfl, Nat.le_of_ble_eq_true rfl⟩) (ci := 11) rfl ha0 h rfl hl.1 rfl (Nat.le_of_ble_eq_true rfl) (dd_at ddX11_lift 109 rfl) ⟨Nat.le_of_ble_eq_true rfl, Nat.le_of_ble_eq_true rfl⟩) (fun r_21 d_20 H locs h hw => ?_)
        refine lv_istore (lv' := [(8, .int r_21), (7, .int 0), (0, .ref a0), (2, .int p2), (3, .int p3), (4, .int p4), (6, .int v6)]) S.1 S.2.1 (dd_at ddX11_lift 110 rfl) hl (by decide) rfl (fun ls hl => ?_)
        refine lv_iconst (v := 1) S.1 S.2.1 (dd_at ddX11_lift 111 rfl) (by decide) ?_
        refine lv_istore (lv' := [(9, .int 1), (8, .int r_21), (7, .int 0), (0, .ref a0), (2, .int p2), (3, .int p3), (4, .int p4), (6, .int v6)]) S.1 S.2.1 (dd_at ddX11_lift 112 rfl) hl (by decide) rfl (fun ls hl => ?_)
        obtain ⟨n_22, h⟩ := h
        exact tl203 n_22 v6 0 r_21 1 d_20 H locs ls h hw (lv_sub hl [3, 4, 5, 6, 7, 2, 1, 0] rfl)
      · have h := h.2 hc_19
        refine lv_iload S.1 S.2.1 (dd_at ddX11_lift 97 rfl) (lv_at hl 4 rfl) ?_
        refine lv_iload_n S.1 S.2.1 (dd_at ddX11_lift 98 rfl) rfl (lv_at hl 1 rfl) ?_
        refine lv_imul S.1 S.2.1 (dd_at ddX11_lift 99 rfl) ?_
        refine lv_istore (lv' := [(6, .int (v6 * p2)), (0, .ref a0), (2, .int p2), (3, .int p3), (4, .int p4), (7, .int v7)]) S.1 S.2.1 (dd_at ddX11_lift 100 rfl) hl (by decide) rfl (fun ls hl => ?_)
        refine lv_iinc (v := v7 + 1) (lv' := [(7, .int (v7 + 1)), (6, .int (v6 * p2)), (0, .ref a0), (2, .int p2), (3, .int p3), (4, .int p4)]) S.1 S.2.1 (dd_at ddX11_lift 101 rfl) hl (k := 5) rfl rfl (by decide) rfl (fun ls hl => ?_)
        refine lv_goto (tgt := 167) S.1 S.2.1 (dd_at ddX11_lift 102 rfl) (by decide) ?_
        exact ih167 (v6 * p2) (v7 + 1) d H locs ls h hw (lv_sub hl [2, 3, 4, 5, 1, 0] rfl)
  have tl102 : ∀ (n : Nat) (v5 : Int32) (v6 : Int32) (d : Dy) (H : Heap) (locs : List Loc) (ls : Array Slot), l_X11_lift_102 E a0 p1 p2 p3 p4 K n v5 v6 d → Wd D cs (AW E sz) s.heap s E d H locs → lv_has ls 11 [(0, .ref a0), (2, .int p2), (3, .int p3), (4, .int p4), (5, .int v5), (6, .int v6)] → W p l e rm_X11_lift s m ([.ref a0, .int p1, .int p2, .int p3, .int p4] : List Value).toArray below meth c H locs 0 0 (MQ below (va_Qi K (OutW D cs E (AW E sz)) (AW E sz)) ([.ref a0, .int p1, .int p2, .int p3, .int p4] : List Value).toArray s rm_X11_lift.cells rm_X11_lift.slots (AW E sz)) (F0 m 102 ls []) := by
    intro n102
    induction n102 with
    | zero => intro v5 v6 d H locs ls h; exact absurd h id
    | succ n102 ih102 =>
      intro v5 v6 d H locs ls h hw hl
      have h : b_X11_lift_102 E a0 p1 p2 p3 p4 K (l_X11_lift_102 E a0 p1 p2 p3 p4 K n102) v5 v6 d := h
      unfold b_X11_lift_102 at h
      refine lv_iload S.1 S.2.1 (dd_at ddX11_lift 58 rfl) (lv_at hl 5 rfl) ?_
      refine lv_aload_n S.1 S.2.1 (dd_at ddX11_lift 59 rfl) rfl (lv_at hl 0 rfl) ?_
      refine r_callI hw (r_runV (As := []) (rest := [.int v6]) S hw (m_X11_huts l D cs E d H.size a0 _) (cwV 0 S.2.2.2.2 (gV wg596 wg597 wg598 wg5 wg599) rfl rfl rfl (by decide +kernel) ⟨Nat.le_of_ble_eq_true rfl, Nat.le_of_ble_eq_true rfl⟩) (ci := 11) rfl ha0 h rfl hl.1 rfl (Nat.le_of_ble_eq_true rfl) (dd_at ddX11_lift 60 rfl) ⟨Nat.le_of_ble_eq_true rfl, Nat.le_of_ble_eq_true rfl⟩) (fun r_24 d_23 H locs h hw => ?_)
      refine lv_icmp_ge (tgt := 161) S.1 S.2.1 (dd_at ddX11_lift 61 rfl) (by decide) (fun hc_25 => ?_) (fun hc_25 => ?_)
      · have h := h.1 hc_25
        refine lv_iconst (v := 1) S.1 S.2.1 (dd_at ddX11_lift 89 rfl) (by decide) ?_
        refine lv_istore (lv' := [(6, .int 1), (0, .ref a0), (2, .int p2), (3, .int p3), (4, .int p4), (5, .int v5)]) S.1 S.2.1 (dd_at ddX11_lift 90 rfl) hl (by decide) rfl (fun ls hl => ?_)
        refine lv_iconst (v := 0) S.1 S.2.1 (dd_at ddX11_lift 91 rfl) (by decide) ?_
        refine lv_istore (lv' := [(7, .int 0), (6, .int 1), (0, .ref a0), (2, .int p2), (3, .int p3), (4, .int p4), (5, .int v5)]) S.1 S.2.1 (dd_at ddX11_lift 92 rfl) hl (by decide) rfl (fun ls hl => ?_)
        obtain ⟨n_26, h⟩ := h
        exact tl167 n_26 1 0 d_23 H locs ls h hw (lv_sub hl [2, 3, 4, 5, 1, 0] rfl)
      · have h := h.2 hc_25
        refine lv_iload S.1 S.2.1 (dd_at ddX11_lift 62 rfl) (lv_at hl 4 rfl) ?_
        refine lv_aload_n S.1 S.2.1 (dd_at ddX11_lift 63 rfl) rfl (lv_at hl 0 rfl) ?_
        obtain ⟨b_27, hb_28, ho_29, h⟩ := h
        refine r_getR S hw 11 23 rfl inG11 (by decide) (List.mem_cons_of_mem _ wg165) (by decide) ha0 hb_28 (dd_at ddX11_lift 64 rfl) ?_
        refine lv_iload S.1 S.2.1 (dd_at ddX11_lift 65 rfl) (lv_at hl 5 rfl) ?_
        obtain ⟨hx_30, h⟩ := h
        refine r_iald S hw ho_29 hx_30 (dd_at ddX11_lift 66 rfl) ?_
        refine lv_ishr S.1 S.2.1 (dd_at ddX11_lift 67 rfl) ?_
        refine lv_iconst (v := 1) S.1 S.2.1 (dd_at ddX11_lift 68 rfl) (by decide) ?_
        refine lv_iand S.1 S.2.1 (dd_at ddX11_lift 69 rfl) ?_
        refine lv_if_ne (tgt := 129) S.1 S.2.1 (dd_at ddX11_lift 70 rfl) (by decide) (fun hc_31 => ?_) (fun hc_31 => ?_)
        · have h := h.1 hc_31
          refine lv_aload_n S.1 S.2.1 (dd_at ddX11_lift 72 rfl) rfl (lv_at hl 0 rfl) ?_
          obtain ⟨b_32, hb_33, ho_34, h⟩ := h
          refine r_getR S hw 11 31 rfl inG11 (by decide) (List.mem_cons_of_mem _ wg172) (by decide) ha0 hb_33 (dd_at ddX11_lift 73 rfl) ?_
          refine lv_aload_n S.1 S.2.1 (dd_at ddX11_lift 74 rfl) rfl (lv_at hl 0 rfl) ?_
          refine r_getI S hw 11 33 rfl inG11 (by decide) (List.mem_cons_of_mem _ wg1190) (by decide) ha0 (dd_at ddX11_lift 75 rfl) ?_
          refine lv_aload_n S.1 S.2.1 (dd_at ddX11_lift 76 rfl) rfl (lv_at hl 0 rfl) ?_
          obtain ⟨b_35, hb_36, ho_37, h⟩ := h
          refine r_getR S hw 11 23 rfl inG11 (by decide) (List.mem_cons_of_mem _ wg165) (by decide) ha0 hb_36 (dd_at ddX11_lift 77 rfl) ?_
          refine lv_iload S.1 S.2.1 (dd_at ddX11_lift 78 rfl) (lv_at hl 5 rfl) ?_
          obtain ⟨hx_38, h⟩ := h
          refine r_iald S hw ho_37 hx_38 (dd_at ddX11_lift 79 rfl) ?_
          obtain ⟨hx_39, h⟩ := h
          refine r_iast S hw ho_34 hx_39 (dd_at ddX11_lift 80 rfl) (fun H locs hw => ?_)
          refine lv_aload_n S.1 S.2.1 (dd_at ddX11_lift 81 rfl) rfl (lv_at hl 0 rfl) ?_
          refine lv_dup S.1 S.2.1 (dd_at ddX11_lift 82 rfl) rfl ?_
          refine r_getI S hw 11 33 rfl inG11 (by decide) (List.mem_cons_of_mem _ wg1190) (by decide) ha0 (dd_at ddX11_lift 83 rfl) ?_
          refine lv_iconst (v := 1) S.1 S.2.1 (dd_at ddX11_lift 84 rfl) (by decide) ?_
          refine lv_iadd S.1 S.2.1 (dd_at ddX11_lift 85 rfl) ?_
          refine r_putI S hw 11 33 (ty := .int) (v := (gI (pA d_23 b_32 (gI d_23 a0 33).toNatClampNeg (gA d_23 b_35 (v6).toNatClampNeg)) a0 33) + 1) rfl inG11 tyX11 tyX11_ok nmX11 (by decide) (List.mem_cons_of_mem _ wg1190) (by decide) rfl (by decide +kernel) rfl rfl ha0 (dd_at ddX11_lift 86 rfl) (fun H locs hw => ?_)
          refine lv_iinc (v := v6 + 1) (lv' := [(6, .int (v6 + 1)), (0, .ref a0), (2, .int p2), (3, .int p3), (4, .int p4), (5, .int v5)]) S.1 S.2.1 (dd_at ddX11_lift 87 rfl) hl (k := 5) rfl rfl (by decide) rfl (fun ls hl => ?_)
          refine lv_goto (tgt := 102) S.1 S.2.1 (dd_at ddX11_lift 88 rfl) (by decide) ?_
          exact ih102 v5 (v6 + 1) (pI (pA d_23 b_32 (gI d_23 a0 33).toNatClampNeg (gA d_23 b_35 (v6).toNatClampNeg)) a0 33 ((gI (pA d_23 b_32 (gI d_23 a0 33).toNatClampNeg (gA d_23 b_35 (v6).toNatClampNeg)) a0 33) + 1)) H locs ls h hw (lv_sub hl [1, 2, 3, 4, 5, 0] rfl)
        · have h := h.2 hc_31
          refine lv_goto (tgt := 155) S.1 S.2.1 (dd_at ddX11_lift 71 rfl) (by decide) ?_
          refine lv_iinc (v := v6 + 1) (lv' := [(6, .int (v6 + 1)), (0, .ref a0), (2, .int p2), (3, .int p3), (4, .int p4), (5, .int v5)]) S.1 S.2.1 (dd_at ddX11_lift 87 rfl) hl (k := 5) rfl rfl (by decide) rfl (fun ls hl => ?_)
          refine lv_goto (tgt := 102) S.1 S.2.1 (dd_at ddX11_lift 88 rfl) (by decide) ?_
          exact ih102 v5 (v6 + 1) d_23 H locs ls h hw (lv_sub hl [1, 2, 3, 4, 5, 0] rfl)
  have tb81 : ∀ (v5 : Int32) (s0 : Nat) (s1 : Int32) (d : Dy) (H : Heap) (locs : List Loc) (ls : Array Slot), b_X11_lift_81 E a0 p1 p2 p3 p4 K v5 s0 s1 d → Wd D cs (AW E sz) s.heap s E d H locs → lv_has ls 11 [(0, .ref a0), (2, .int p2), (3, .int p3), (4, .int p4), (5, .int v5)] → W p l e rm_X11_lift s m ([.ref a0, .int p1, .int p2, .int p3, .int p4] : List Value).toArray below meth c H locs 0 0 (MQ below (va_Qi K (OutW D cs E (AW E sz)) (AW E sz)) ([.ref a0, .int p1, .int p2, .int p3, .int p4] : List Value).toArray s rm_X11_lift.cells rm_X11_lift.slots (AW E sz)) (F0 m 81 ls [.int s1, .ref s0]) := by
    intro v5 s0 s1 d H locs ls h hw hl
    unfold b_X11_lift_81 at h
    obtain ⟨hos0, h⟩ := h
    refine lv_iconst (v := 2) S.1 S.2.1 (dd_at ddX11_lift 46 rfl) (by decide) ?_
    refine r_callI hw (r_runV (As := [.int s1, .int 2]) (rest := []) S hw (m_X11_throwsIf l D cs E d H.size s0 s1 2 _) (cwV 2 S.2.2.2.2 (gV wg421 wg422 wg423 wg5 wg424) rfl rfl rfl (by decide +kernel) ⟨Nat.le_of_ble_eq_true rfl, Nat.le_of_ble_eq_true rfl⟩) (ci := 11) rfl hos0 h rfl hl.1 rfl (Nat.le_of_ble_eq_true rfl) (dd_at ddX11_lift 47 rfl) ⟨Nat.le_of_ble_eq_true rfl, Nat.le_of_ble_eq_true rfl⟩) (fun r_41 d_40 H locs h hw => ?_)
    refine lv_if_eq (tgt := 90) S.1 S.2.1 (dd_at ddX11_lift 48 rfl) (by decide) (fun hc_42 => ?_) (fun hc_42 => ?_)
    · have h := h.1 hc_42
      refine lv_aload_n S.1 S.2.1 (dd_at ddX11_lift 51 rfl) rfl (lv_at hl 0 rfl) ?_
      refine r_callV hw (r_runV (As := []) (rest := []) S hw (m_X11_goesToday l D cs E d_40 H.size a0 _) (cwV 0 S.2.2.2.2 (gV wg1192 wg1193 wg1194 wg5 wg1195) rfl rfl rfl (by decide +kernel) ⟨Nat.le_of_ble_eq_true rfl, Nat.le_of_ble_eq_true rfl⟩) (ci := 11) rfl ha0 h rfl hl.1 rfl (Nat.le_of_ble_eq_true rfl) (dd_at ddX11_lift 52 rfl) ⟨Nat.le_of_ble_eq_true rfl, Nat.le_of_ble_eq_true rfl⟩) (fun d_43 H locs h hw => ?_)
      refine lv_aload_n S.1 S.2.1 (dd_at ddX11_lift 53 rfl) rfl (lv_at hl 0 rfl) ?_
      refine lv_iconst (v := 0) S.1 S.2.1 (dd_at ddX11_lift 54 rfl) (by decide) ?_
      refine r_putI S hw 11 33 (ty := .int) (v := 0) rfl inG11 tyX11 tyX11_ok nmX11 (by decide) (List.mem_cons_of_mem _ wg1190) (by decide) rfl (by decide +kernel) rfl rfl ha0 (dd_at ddX11_lift 55 rfl) (fun H locs hw => ?_)
      refine lv_iconst (v := 0) S.1 S.2.1 (dd_at ddX11_lift 56 rfl) (by decide) ?_
      refine lv_istore (lv' := [(6, .int 0), (0, .ref a0), (2, .int p2), (3, .int p3), (4, .int p4), (5, .int v5)]) S.1 S.2.1 (dd_at ddX11_lift 57 rfl) hl (by decide) rfl (fun ls hl => ?_)
      obtain ⟨n_45, h⟩ := h
      exact tl102 n_45 v5 0 (pI d_43 a0 33 0) H locs ls h hw (lv_sub hl [1, 2, 3, 4, 5, 0] rfl)
    · have h := h.2 hc_42
      refine lv_iconst (v := 0) S.1 S.2.1 (dd_at ddX11_lift 49 rfl) (by decide) ?_
      exact e_I S hr hlocks hw h (dd_at ddX11_lift 50 rfl)
  have tb76 : ∀ (v5 : Int32) (s0 : Nat) (d : Dy) (H : Heap) (locs : List Loc) (ls : Array Slot), b_X11_lift_76 E a0 p1 p2 p3 p4 K v5 s0 d → Wd D cs (AW E sz) s.heap s E d H locs → lv_has ls 11 [(0, .ref a0), (2, .int p2), (3, .int p3), (4, .int p4), (5, .int v5)] → W p l e rm_X11_lift s m ([.ref a0, .int p1, .int p2, .int p3, .int p4] : List Value).toArray below meth c H locs 0 0 (MQ below (va_Qi K (OutW D cs E (AW E sz)) (AW E sz)) ([.ref a0, .int p1, .int p2, .int p3, .int p4] : List Value).toArray s rm_X11_lift.cells rm_X11_lift.slots (AW E sz)) (F0 m 76 ls [.ref s0]) := by
    intro v5 s0 d H locs ls h hw hl
    unfold b_X11_lift_76 at h
    obtain ⟨hos0, h⟩ := h
    refine lv_iconst (v := 1) S.1 S.2.1 (dd_at ddX11_lift 43 rfl) (by decide) ?_
    refine lv_goto (tgt := 81) S.1 S.2.1 (dd_at ddX11_lift 44 rfl) (by decide) ?_
    exact tb81 v5 s0 1 d H locs ls h hw (lv_sub hl [0, 1, 2, 3, 4] rfl)
  have tb26 : ∀ (s0 : Nat) (s1 : Int32) (d : Dy) (H : Heap) (locs : List Loc) (ls : Array Slot), b_X11_lift_26 E a0 p1 p2 p3 p4 K s0 s1 d → Wd D cs (AW E sz) s.heap s E d H locs → lv_has ls 11 [(0, .ref a0), (1, .int p1), (2, .int p2), (3, .int p3), (4, .int p4)] → W p l e rm_X11_lift s m ([.ref a0, .int p1, .int p2, .int p3, .int p4] : List Value).toArray below meth c H locs 0 0 (MQ below (va_Qi K (OutW D cs E (AW E sz)) (AW E sz)) ([.ref a0, .int p1, .int p2, .int p3, .int p4] : List Value).toArray s rm_X11_lift.cells rm_X11_lift.slots (AW E sz)) (F0 m 26 ls [.int s1, .ref s0]) := by
    intro s0 s1 d H locs ls h hw hl
    unfold b_X11_lift_26 at h
    obtain ⟨hos0, h⟩ := h
    refine lv_iconst (v := 1) S.1 S.2.1 (dd_at ddX11_lift 14 rfl) (by decide) ?_
    refine r_callI hw (r_runV (As := [.int s1, .int 1]) (rest := []) S hw (m_X11_throwsIf l D cs E d H.size s0 s1 1 _) (cwV 2 S.2.2.2.2 (gV wg421 wg422 wg423 wg5 wg424) rfl rfl rfl (by decide +kernel) ⟨Nat.le_of_ble_eq_true rfl, Nat.le_of_ble_eq_true rfl⟩) (ci := 11) rfl hos0 h rfl hl.1 rfl (Nat.le_of_ble_eq_true rfl) (dd_at ddX11_lift 15 rfl) ⟨Nat.le_of_ble_eq_true rfl, Nat.le_of_ble_eq_true rfl⟩) (fun r_47 d_46 H locs h hw => ?_)
    refine lv_if_eq (tgt := 35) S.1 S.2.1 (dd_at ddX11_lift 16 rfl) (by decide) (fun hc_48 => ?_) (fun hc_48 => ?_)
    · have h := h.1 hc_48
      refine lv_iload_n S.1 S.2.1 (dd_at ddX11_lift 19 rfl) rfl (lv_at hl 1 rfl) ?_
      refine lv_iconst (v := 1) S.1 S.2.1 (dd_at ddX11_lift 20 rfl) (by decide) ?_
      refine lv_aload_n S.1 S.2.1 (dd_at ddX11_lift 21 rfl) rfl (lv_at hl 0 rfl) ?_
      refine r_callI hw (r_runV (As := []) (rest := [.int 1, .int p1]) S hw (m_X11_huts l D cs E d_46 H.size a0 _) (cwV 0 S.2.2.2.2 (gV wg596 wg597 wg598 wg5 wg599) rfl rfl rfl (by decide +kernel) ⟨Nat.le_of_ble_eq_true rfl, Nat.le_of_ble_eq_true rfl⟩) (ci := 11) rfl ha0 h rfl hl.1 rfl (Nat.le_of_ble_eq_true rfl) (dd_at ddX11_lift 22 rfl) ⟨Nat.le_of_ble_eq_true rfl, Nat.le_of_ble_eq_true rfl⟩) (fun r_50 d_49 H locs h hw => ?_)
      refine lv_ishl S.1 S.2.1 (dd_at ddX11_lift 23 rfl) ?_
      refine lv_iconst (v := 1) S.1 S.2.1 (dd_at ddX11_lift 24 rfl) (by decide) ?_
      refine lv_isub S.1 S.2.1 (dd_at ddX11_lift 25 rfl) ?_
      refine lv_iand S.1 S.2.1 (dd_at ddX11_lift 26 rfl) ?_
      refine lv_istore (lv' := [(5, .int (p1 &&& (((1 : Int32) <<< (r_50 &&& 31)) - 1))), (0, .ref a0), (1, .int p1), (2, .int p2), (3, .int p3), (4, .int p4)]) S.1 S.2.1 (dd_at ddX11_lift 27 rfl) hl (by decide) rfl (fun ls hl => ?_)
      refine lv_aload_n S.1 S.2.1 (dd_at ddX11_lift 28 rfl) rfl (lv_at hl 1 rfl) ?_
      refine lv_iload_n S.1 S.2.1 (dd_at ddX11_lift 29 rfl) rfl (lv_at hl 3 rfl) ?_
      refine lv_iconst (v := 1) S.1 S.2.1 (dd_at ddX11_lift 30 rfl) (by decide) ?_
      refine lv_iconst (v := 4) S.1 S.2.1 (dd_at ddX11_lift 31 rfl) (by decide) ?_
      refine r_callI hw (r_runS (As := [.int p2, .int 1, .int 4]) (rest := [.ref a0]) S hw (m_X11_in l D cs E d_49 H.size p2 1 4 _) (va_cwS 3 S.2.2.2.2 (gS wg418 wg419 wg5 wg420) rfl rfl rfl (by decide +kernel) ⟨Nat.le_of_ble_eq_true rfl, Nat.le_of_ble_eq_true rfl⟩) h rfl hl.1 rfl (Nat.le_of_ble_eq_true rfl) (dd_at ddX11_lift 32 rfl) ⟨Nat.le_of_ble_eq_true rfl, Nat.le_of_ble_eq_true rfl⟩) (fun r_52 d_51 H locs h hw => ?_)
      refine lv_if_eq (tgt := 76) S.1 S.2.1 (dd_at ddX11_lift 33 rfl) (by decide) (fun hc_53 => ?_) (fun hc_53 => ?_)
      · have h := h.1 hc_53
        exact tb76 (p1 &&& (((1 : Int32) <<< (r_50 &&& 31)) - 1)) a0 d_51 H locs ls h hw (lv_sub hl [1, 3, 4, 5, 0] rfl)
      · have h := h.2 hc_53
        refine lv_iload_n S.1 S.2.1 (dd_at ddX11_lift 34 rfl) rfl (lv_at hl 4 rfl) ?_
        refine lv_iconst (v := 0) S.1 S.2.1 (dd_at ddX11_lift 35 rfl) (by decide) ?_
        refine lv_iconst (v := 2) S.1 S.2.1 (dd_at ddX11_lift 36 rfl) (by decide) ?_
        refine r_callI hw (r_runS (As := [.int p3, .int 0, .int 2]) (rest := [.ref a0]) S hw (m_X11_in l D cs E d_51 H.size p3 0 2 _) (va_cwS 3 S.2.2.2.2 (gS wg418 wg419 wg5 wg420) rfl rfl rfl (by decide +kernel) ⟨Nat.le_of_ble_eq_true rfl, Nat.le_of_ble_eq_true rfl⟩) h rfl hl.1 rfl (Nat.le_of_ble_eq_true rfl) (dd_at ddX11_lift 37 rfl) ⟨Nat.le_of_ble_eq_true rfl, Nat.le_of_ble_eq_true rfl⟩) (fun r_55 d_54 H locs h hw => ?_)
        refine lv_if_eq (tgt := 76) S.1 S.2.1 (dd_at ddX11_lift 38 rfl) (by decide) (fun hc_56 => ?_) (fun hc_56 => ?_)
        · have h := h.1 hc_56
          exact tb76 (p1 &&& (((1 : Int32) <<< (r_50 &&& 31)) - 1)) a0 d_54 H locs ls h hw (lv_sub hl [1, 3, 4, 5, 0] rfl)
        · have h := h.2 hc_56
          refine lv_iload S.1 S.2.1 (dd_at ddX11_lift 39 rfl) (lv_at hl 0 rfl) ?_
          refine r_callI hw (r_runS (As := [.int (p1 &&& (((1 : Int32) <<< (r_50 &&& 31)) - 1))]) (rest := [.ref a0]) S hw (m_J6_bitCount_0f7a4 l D cs E d_54 H.size (p1 &&& (((1 : Int32) <<< (r_50 &&& 31)) - 1)) _) (va_cwS 1 S.2.2.2.2 (gS wg1191 wg724 wg725 wg726) rfl rfl rfl (by decide +kernel) ⟨Nat.le_of_ble_eq_true rfl, Nat.le_of_ble_eq_true rfl⟩) h rfl hl.1 rfl (Nat.le_of_ble_eq_true rfl) (dd_at ddX11_lift 40 rfl) ⟨Nat.le_of_ble_eq_true rfl, Nat.le_of_ble_eq_true rfl⟩) (fun r_58 d_57 H locs h hw => ?_)
          refine lv_bipush (v := 7) S.1 S.2.1 (dd_at ddX11_lift 41 rfl) (by decide) ?_
          refine lv_icmp_le (tgt := 80) S.1 S.2.1 (dd_at ddX11_lift 42 rfl) (by decide) (fun hc_59 => ?_) (fun hc_59 => ?_)
          · have h := h.1 hc_59
            refine lv_iconst (v := 0) S.1 S.2.1 (dd_at ddX11_lift 45 rfl) (by decide) ?_
            exact tb81 (p1 &&& (((1 : Int32) <<< (r_50 &&& 31)) - 1)) a0 0 d_57 H locs ls h hw (lv_sub hl [1, 3, 4, 5, 0] rfl)
          · have h := h.2 hc_59
            exact tb76 (p1 &&& (((1 : Int32) <<< (r_50 &&& 31)) - 1)) a0 d_57 H locs ls h hw (lv_sub hl [1, 3, 4, 5, 0] rfl)
    · have h := h.2 hc_48
      refine lv_iconst (v := 0) S.1 S.2.1 (dd_at ddX11_lift 17 rfl) (by decide) ?_
      exact e_I S hr hlocks hw h (dd_at ddX11_lift 18 rfl)
  have tb25 : ∀ (s0 : Nat) (d : Dy) (H : Heap) (locs : List Loc) (ls : Array Slot), b_X11_lift_25 E a0 p1 p2 p3 p4 K s0 d → Wd D cs (AW E sz) s.heap s E d H locs → lv_has ls 11 [(0, .ref a0), (1, .int p1), (2, .int p2), (3, .int p3), (4, .int p4)] → W p l e rm_X11_lift s m ([.ref a0, .int p1, .int p2, .int p3, .int p4] : List Value).toArray below meth c H locs 0 0 (MQ below (va_Qi K (OutW D cs E (AW E sz)) (AW E sz)) ([.ref a0, .int p1, .int p2, .int p3, .int p4] : List Value).toArray s rm_X11_lift.cells rm_X11_lift.slots (AW E sz)) (F0 m 25 ls [.ref s0]) := by
    intro s0 d H locs ls h hw hl
    unfold b_X11_lift_25 at h
    obtain ⟨hos0, h⟩ := h
    refine lv_iconst (v := 0) S.1 S.2.1 (dd_at ddX11_lift 13 rfl) (by decide) ?_
    exact tb26 s0 0 d H locs ls h hw (lv_sub hl [0, 1, 2, 3, 4] rfl)
  refine lv_aload_n S.1 S.2.1 (dd_at ddX11_lift 0 rfl) rfl (lv_at hl 0 rfl) ?_
  refine lv_iconst (v := 0) S.1 S.2.1 (dd_at ddX11_lift 1 rfl) (by decide) ?_
  refine r_putI S hw 11 0 (ty := .int) (v := 0) rfl inG11 tyX11 tyX11_ok nmX11 (by decide) (List.mem_cons_of_mem _ wg201) (by decide) rfl (by decide +kernel) rfl rfl ha0 (dd_at ddX11_lift 2 rfl) (fun H locs hw => ?_)
  refine lv_aload_n S.1 S.2.1 (dd_at ddX11_lift 3 rfl) rfl (lv_at hl 0 rfl) ?_
  refine lv_iload S.1 S.2.1 (dd_at ddX11_lift 4 rfl) (lv_at hl 4 rfl) ?_
  refine lv_iconst (v := -1) S.1 S.2.1 (dd_at ddX11_lift 5 rfl) (by decide) ?_
  refine lv_icmp_eq (tgt := 25) S.1 S.2.1 (dd_at ddX11_lift 6 rfl) (by decide) (fun hc_60 => ?_) (fun hc_60 => ?_)
  · have h := h.1 hc_60
    exact tb25 a0 (pI d a0 0 0) H locs ls h hw (lv_sub hl [0, 1, 2, 3, 4] rfl)
  · have h := h.2 hc_60
    refine lv_aload_n S.1 S.2.1 (dd_at ddX11_lift 7 rfl) rfl (lv_at hl 0 rfl) ?_
    refine lv_iload S.1 S.2.1 (dd_at ddX11_lift 8 rfl) (lv_at hl 4 rfl) ?_
    refine r_callI hw (r_runV (As := [.int p4]) (rest := [.ref a0]) S hw (m_X11_noHut l D cs E (pI d a0 0 0) H.size a0 p4 _) (cwV 1 S.2.2.2.2 (gV wg631 wg632 wg633 wg5 wg634) rfl rfl rfl (by decide +kernel) ⟨Nat.le_of_ble_eq_true rfl, Nat.le_of_ble_eq_true rfl⟩) (ci := 11) rfl ha0 h rfl hl.1 rfl (Nat.le_of_ble_eq_true rfl) (dd_at ddX11_lift 9 rfl) ⟨Nat.le_of_ble_eq_true rfl, Nat.le_of_ble_eq_true rfl⟩) (fun r_62 d_61 H locs h hw => ?_)
    refine lv_if_eq (tgt := 25) S.1 S.2.1 (dd_at ddX11_lift 10 rfl) (by decide) (fun hc_63 => ?_) (fun hc_63 => ?_)
    · have h := h.1 hc_63
      exact tb25 a0 d_61 H locs ls h hw (lv_sub hl [0, 1, 2, 3, 4] rfl)
    · have h := h.2 hc_63
      refine lv_iconst (v := 1) S.1 S.2.1 (dd_at ddX11_lift 11 rfl) (by decide) ?_
      refine lv_goto (tgt := 26) S.1 S.2.1 (dd_at ddX11_lift 12 rfl) (by decide) ?_
      exact tb26 a0 1 d_61 H locs ls h hw (lv_sub hl [0, 1, 2, 3, 4] rfl)

def w_X11_noDay (E : En) (p0 : Int32) (d : Dy) (K : Int32 → Dy → Prop) : Prop := w_X11_in E p0 0 59 d (fun r_2 d_1 => ((¬ r_2 = 0 → K 0 d_1) ∧ (r_2 = 0 → K 1 d_1)))
abbrev rm_X11_noDay : Room := { frames := 1, cells := 0, slots := 0, locals := 22 }
set_option maxRecDepth 100000 in
set_option maxHeartbeats 4000000 in
theorem m_X11_noDay (l : Launch) (D : va_G) (cs : Nat → ClassId) (E : En) (d : Dy) (sz : Nat) (p0 : Int32) (K : Int32 → Dy → Prop) : CI l yX11_noDay (.code yX11_noDay cX11_noDay 1 (some .boolean) :: wsL_law) rm_X11_noDay D cs E d sz [.int p0] (w_X11_noDay E p0 d K) K := by
  refine e_of (cc := cX11_noDay) (maxL := 1) (ret := (some .boolean)) (own := RX11) (by decide) rfl rfl (Nat.le_of_ble_eq_true rfl) ?_
  intro p e s m below meth c S hr hlocks hsz H locs hw h ls hl
  have hl : lv_has ls 1 [(0, .int p0)] := hl
  unfold w_X11_noDay at h
  refine lv_iload_n S.1 S.2.1 (dd_at ddX11_noDay 0 rfl) rfl (lv_at hl 0 rfl) ?_
  refine lv_iconst (v := 0) S.1 S.2.1 (dd_at ddX11_noDay 1 rfl) (by decide) ?_
  refine lv_bipush (v := 59) S.1 S.2.1 (dd_at ddX11_noDay 2 rfl) (by decide) ?_
  refine r_callI hw (r_runS (As := [.int p0, .int 0, .int 59]) (rest := []) S hw (m_X11_in l D cs E d H.size p0 0 59 _) (va_cwS 3 S.2.2.2.2 (gS wg418 wg419 wg5 wg420) rfl rfl rfl (by decide +kernel) ⟨Nat.le_of_ble_eq_true rfl, Nat.le_of_ble_eq_true rfl⟩) h rfl hl.1 rfl (Nat.le_of_ble_eq_true rfl) (dd_at ddX11_noDay 3 rfl) ⟨Nat.le_of_ble_eq_true rfl, Nat.le_of_ble_eq_true rfl⟩) (fun r_2 d_1 H locs h hw => ?_)
  refine lv_if_ne (tgt := 14) S.1 S.2.1 (dd_at ddX11_noDay 4 rfl) (by decide) (fun hc_3 => ?_) (fun hc_3 => ?_)
  · have h := h.1 hc_3
    refine lv_iconst (v := 0) S.1 S.2.1 (dd_at ddX11_noDay 7 rfl) (by decide) ?_
    exact e_Z S hr hlocks hw (Or.inl rfl) h (dd_at ddX11_noDay 8 rfl)
  · have h := h.2 hc_3
    refine lv_iconst (v := 1) S.1 S.2.1 (dd_at ddX11_noDay 5 rfl) (by decide) ?_
    refine lv_goto (tgt := 15) S.1 S.2.1 (dd_at ddX11_noDay 6 rfl) (by decide) ?_
    exact e_Z S hr hlocks hw (Or.inr rfl) h (dd_at ddX11_noDay 8 rfl)

def b_X11_wind_33 (E : En) (a0 : Nat) (p1 : Int32) (p2 : Int32) (K : Dy → Prop) (s0 : Nat) (s1 : Int32) (d : Dy) : Prop := okO E s0 11 ∧ w_X11_throwsIf E s0 s1 2 d (fun r_2 d_1 => ((r_2 = 0 → ∃ b_4 : Nat, eR E a0 1 = some b_4 ∧ okA E b_4 13 ∧ vp_in (536 + p1) (eN E b_4) ∧ K (pA d_1 b_4 (536 + p1).toNatClampNeg p2)) ∧ (¬ r_2 = 0 → K d_1)))
def w_X11_wind (E : En) (a0 : Nat) (p1 : Int32) (p2 : Int32) (d : Dy) (K : Dy → Prop) : Prop := okO E a0 11 ∧ w_X11_noDay E p1 (pI d a0 0 0) (fun r_9 d_8 => w_X11_throwsIf E a0 r_9 1 d_8 (fun r_11 d_10 => ((¬ r_11 = 0 → K d_10) ∧ (r_11 = 0 → w_X11_in E p2 0 9 d_10 (fun r_14 d_13 => ((¬ r_14 = 0 → b_X11_wind_33 E a0 p1 p2 K a0 0 d_13) ∧ (r_14 = 0 → b_X11_wind_33 E a0 p1 p2 K a0 1 d_13)))))))
abbrev rm_X11_wind : Room := { frames := 2, cells := 0, slots := 0, locals := 42 }
set_option maxRecDepth 100000 in
set_option maxHeartbeats 4000000 in
theorem m_X11_wind (l : Launch) (D : va_G) (cs : Nat → ClassId) (E : En) (d : Dy) (sz : Nat) (a0 : Nat) (p1 : Int32) (p2 : Int32) (K : Dy → Prop) : CV l yX11_wind (.code yX11_wind cX11_wind 3 none :: wsL_law) rm_X11_wind D cs E d sz [.ref a0, .int p1, .int p2] (w_X11_wind E a0 p1 p2 d K) K := by
  refine e_of (cc := cX11_wind) (maxL := 3) (ret := none) (own := RX11) (by decide) rfl rfl (Nat.le_of_ble_eq_true rfl) ?_
  intro p e s m below meth c S hr hlocks hsz H locs hw h ls hl
  have hl : lv_has ls 3 [(0, .ref a0), (1, .int p1), (2, .int p2)] := hl
  unfold w_X11_wind at h
  obtain ⟨ha0, h⟩ := h
  have tb33 : ∀ (s0 : Nat) (s1 : Int32) (d : Dy) (H : Heap) (locs : List Loc) (ls : Array Slot), b_X11_wind_33 E a0 p1 p2 K s0 s1 d → Wd D cs (AW E sz) s.heap s E d H locs → lv_has ls 3 [(0, .ref a0), (1, .int p1), (2, .int p2)] → W p l e rm_X11_wind s m ([.ref a0, .int p1, .int p2] : List Value).toArray below meth c H locs 0 0 (MQ below (va_Qv K (OutW D cs E (AW E sz)) (AW E sz)) ([.ref a0, .int p1, .int p2] : List Value).toArray s rm_X11_wind.cells rm_X11_wind.slots (AW E sz)) (F0 m 33 ls [.int s1, .ref s0]) := by
    intro s0 s1 d H locs ls h hw hl
    unfold b_X11_wind_33 at h
    obtain ⟨hos0, h⟩ := h
    refine lv_iconst (v := 2) S.1 S.2.1 (dd_at ddX11_wind 18 rfl) (by decide) ?_
    refine r_callI hw (r_runV (As := [.int s1, .int 2]) (rest := []) S hw (m_X11_throwsIf l D cs E d H.size s0 s1 2 _) (cwV 2 S.2.2.2.2 (gV wg421 wg422 wg423 wg5 wg424) rfl rfl rfl (by decide +kernel) ⟨Nat.le_of_ble_eq_true rfl, Nat.le_of_ble_eq_true rfl⟩) (ci := 11) rfl hos0 h rfl hl.1 rfl (Nat.le_of_ble_eq_true rfl) (dd_at ddX11_wind 19 rfl) ⟨Nat.le_of_ble_eq_true rfl, Nat.le_of_ble_eq_true rfl⟩) (fun r_2 d_1 H locs h hw => ?_)
    refine lv_if_eq (tgt := 41) S.1 S.2.1 (dd_at ddX11_wind 20 rfl) (by decide) (fun hc_3 => ?_) (fun hc_3 => ?_)
    · have h := h.1 hc_3
      refine lv_aload_n S.1 S.2.1 (dd_at ddX11_wind 22 rfl) rfl (lv_at hl 0 rfl) ?_
      obtain ⟨b_4, hb_5, ho_6, h⟩ := h
      refine r_getR S hw 11 1 rfl inG11 (by decide) (List.mem_cons_of_mem _ wg150) (by decide) ha0 hb_5 (dd_at ddX11_wind 23 rfl) ?_
      refine lv_sipush (v := 536) S.1 S.2.1 (dd_at ddX11_wind 24 rfl) (by decide) ?_
      refine lv_iload_n S.1 S.2.1 (dd_at ddX11_wind 25 rfl) rfl (lv_at hl 1 rfl) ?_
      refine lv_iadd S.1 S.2.1 (dd_at ddX11_wind 26 rfl) ?_
      refine lv_iload_n S.1 S.2.1 (dd_at ddX11_wind 27 rfl) rfl (lv_at hl 2 rfl) ?_
      obtain ⟨hx_7, h⟩ := h
      refine r_iast S hw ho_6 hx_7 (dd_at ddX11_wind 28 rfl) (fun H locs hw => ?_)
      exact e_V S hr hlocks hw h (dd_at ddX11_wind 29 rfl)
    · have h := h.2 hc_3
      exact e_V S hr hlocks hw h (dd_at ddX11_wind 21 rfl)
  refine lv_aload_n S.1 S.2.1 (dd_at ddX11_wind 0 rfl) rfl (lv_at hl 0 rfl) ?_
  refine lv_iconst (v := 0) S.1 S.2.1 (dd_at ddX11_wind 1 rfl) (by decide) ?_
  refine r_putI S hw 11 0 (ty := .int) (v := 0) rfl inG11 tyX11 tyX11_ok nmX11 (by decide) (List.mem_cons_of_mem _ wg201) (by decide) rfl (by decide +kernel) rfl rfl ha0 (dd_at ddX11_wind 2 rfl) (fun H locs hw => ?_)
  refine lv_aload_n S.1 S.2.1 (dd_at ddX11_wind 3 rfl) rfl (lv_at hl 0 rfl) ?_
  refine lv_iload_n S.1 S.2.1 (dd_at ddX11_wind 4 rfl) rfl (lv_at hl 1 rfl) ?_
  refine r_callI hw (r_runS (As := [.int p1]) (rest := [.ref a0]) S hw (m_X11_noDay l D cs E (pI d a0 0 0) H.size p1 _) (va_cwS 1 S.2.2.2.2 (gS wg1215 wg1216 wg5 wg1217) rfl rfl rfl (by decide +kernel) ⟨Nat.le_of_ble_eq_true rfl, Nat.le_of_ble_eq_true rfl⟩) h rfl hl.1 rfl (Nat.le_of_ble_eq_true rfl) (dd_at ddX11_wind 5 rfl) ⟨Nat.le_of_ble_eq_true rfl, Nat.le_of_ble_eq_true rfl⟩) (fun r_9 d_8 H locs h hw => ?_)
  refine lv_iconst (v := 1) S.1 S.2.1 (dd_at ddX11_wind 6 rfl) (by decide) ?_
  refine r_callI hw (r_runV (As := [.int r_9, .int 1]) (rest := []) S hw (m_X11_throwsIf l D cs E d_8 H.size a0 r_9 1 _) (cwV 2 S.2.2.2.2 (gV wg421 wg422 wg423 wg5 wg424) rfl rfl rfl (by decide +kernel) ⟨Nat.le_of_ble_eq_true rfl, Nat.le_of_ble_eq_true rfl⟩) (ci := 11) rfl ha0 h rfl hl.1 rfl (Nat.le_of_ble_eq_true rfl) (dd_at ddX11_wind 7 rfl) ⟨Nat.le_of_ble_eq_true rfl, Nat.le_of_ble_eq_true rfl⟩) (fun r_11 d_10 H locs h hw => ?_)
  refine lv_if_ne (tgt := 40) S.1 S.2.1 (dd_at ddX11_wind 8 rfl) (by decide) (fun hc_12 => ?_) (fun hc_12 => ?_)
  · have h := h.1 hc_12
    exact e_V S hr hlocks hw h (dd_at ddX11_wind 21 rfl)
  · have h := h.2 hc_12
    refine lv_aload_n S.1 S.2.1 (dd_at ddX11_wind 9 rfl) rfl (lv_at hl 0 rfl) ?_
    refine lv_iload_n S.1 S.2.1 (dd_at ddX11_wind 10 rfl) rfl (lv_at hl 2 rfl) ?_
    refine lv_iconst (v := 0) S.1 S.2.1 (dd_at ddX11_wind 11 rfl) (by decide) ?_
    refine lv_bipush (v := 9) S.1 S.2.1 (dd_at ddX11_wind 12 rfl) (by decide) ?_
    refine r_callI hw (r_runS (As := [.int p2, .int 0, .int 9]) (rest := [.ref a0]) S hw (m_X11_in l D cs E d_10 H.size p2 0 9 _) (va_cwS 3 S.2.2.2.2 (gS wg418 wg419 wg5 wg420) rfl rfl rfl (by decide +kernel) ⟨Nat.le_of_ble_eq_true rfl, Nat.le_of_ble_eq_true rfl⟩) h rfl hl.1 rfl (Nat.le_of_ble_eq_true rfl) (dd_at ddX11_wind 13 rfl) ⟨Nat.le_of_ble_eq_true rfl, Nat.le_of_ble_eq_true rfl⟩) (fun r_14 d_13 H locs h hw => ?_)
    refine lv_if_ne (tgt := 32) S.1 S.2.1 (dd_at ddX11_wind 14 rfl) (by decide) (fun hc_15 => ?_) (fun hc_15 => ?_)
    · have h := h.1 hc_15
      refine lv_iconst (v := 0) S.1 S.2.1 (dd_at ddX11_wind 17 rfl) (by decide) ?_
      exact tb33 a0 0 d_13 H locs ls h hw (lv_sub hl [0, 1, 2] rfl)
    · have h := h.2 hc_15
      refine lv_iconst (v := 1) S.1 S.2.1 (dd_at ddX11_wind 15 rfl) (by decide) ?_
      refine lv_goto (tgt := 33) S.1 S.2.1 (dd_at ddX11_wind 16 rfl) (by decide) ?_
      exact tb33 a0 1 d_13 H locs ls h hw (lv_sub hl [0, 1, 2] rfl)
