def b_X11_count_82 (E : En) (a0 : Nat) (p1 : Int32) (K : Int32 → Dy → Prop) (k82 : Int32 → Int32 → Dy → Prop) (v2 : Int32) (v3 : Int32) (d : Dy) : Prop := w_X11_huts E a0 d (fun r_2 d_1 => ((r_2 ≤ v3 → K v2 d_1) ∧ (¬ r_2 ≤ v3 → ((¬ p1 = 9 → K v2 d_1) ∧ (p1 = 9 → ∃ b_5 : Nat, eR E a0 21 = some b_5 ∧ okA E b_5 13 ∧ vp_in v3 (eN E b_5) ∧ (((gA d_1 b_5 (v3).toNatClampNeg) < 0 → k82 (v2 + 0) (v3 + 1) d_1) ∧ (¬ (gA d_1 b_5 (v3).toNatClampNeg) < 0 → k82 (v2 + 1) (v3 + 1) d_1)))))))
def l_X11_count_82 (E : En) (a0 : Nat) (p1 : Int32) (K : Int32 → Dy → Prop) : Nat → Int32 → Int32 → Dy → Prop
  | 0 => fun _ _ _ => False
  | n + 1 => b_X11_count_82 E a0 p1 K (l_X11_count_82 E a0 p1 K n)
def b_X11_count_43 (E : En) (a0 : Nat) (p1 : Int32) (K : Int32 → Dy → Prop) (k43 : Int32 → Int32 → Dy → Prop) (v2 : Int32) (v3 : Int32) (d : Dy) : Prop := w_X11_persons E a0 d (fun r_11 d_10 => ((r_11 ≤ v3 → (∃ n_13 : Nat, l_X11_count_82 E a0 p1 K n_13 v2 0 d_10)) ∧ (¬ r_11 ≤ v3 → ((¬ p1 = 8 → (∃ n_15 : Nat, l_X11_count_82 E a0 p1 K n_15 v2 0 d_10)) ∧ (p1 = 8 → ∃ b_16 : Nat, eR E a0 18 = some b_16 ∧ okA E b_16 15 ∧ vp_in v3 (eN E b_16) ∧ (((gA d_10 b_16 (v3).toNatClampNeg) = 0 → k43 (v2 + 0) (v3 + 1) d_10) ∧ (¬ (gA d_10 b_16 (v3).toNatClampNeg) = 0 → k43 (v2 + 1) (v3 + 1) d_10)))))))
def l_X11_count_43 (E : En) (a0 : Nat) (p1 : Int32) (K : Int32 → Dy → Prop) : Nat → Int32 → Int32 → Dy → Prop
  | 0 => fun _ _ _ => False
  | n + 1 => b_X11_count_43 E a0 p1 K (l_X11_count_43 E a0 p1 K n)
def w_X11_count (E : En) (a0 : Nat) (p1 : Int32) (d : Dy) (K : Int32 → Dy → Prop) : Prop := okO E a0 11 ∧ w_X11_in E p1 0 7 (pI d a0 0 0) (fun r_22 d_21 => ((r_22 = 0 → w_X11_in E p1 8 9 d_21 (fun r_25 d_24 => ((¬ r_25 = 0 → w_X11_goesToday E a0 d_24 (fun d_27 => (∃ n_29 : Nat, l_X11_count_43 E a0 p1 K n_29 0 0 d_27))) ∧ (r_25 = 0 → K (-1) d_24)))) ∧ (¬ r_22 = 0 → ∃ b_30 : Nat, eR E a0 1 = some b_30 ∧ okA E b_30 13 ∧ vp_in p1 (eN E b_30) ∧ K (gA d_21 b_30 (p1).toNatClampNeg) d_21)))
abbrev rm_X11_count : Room := { frames := 8, cells := 0, slots := 0, locals := 187 }
set_option maxRecDepth 100000 in
set_option maxHeartbeats 4000000 in
theorem m_X11_count (l : Launch) (D : va_G) (cs : Nat → ClassId) (E : En) (d : Dy) (sz : Nat) (a0 : Nat) (p1 : Int32) (K : Int32 → Dy → Prop) : CI l yX11_count (.code yX11_count cX11_count 4 (some .int) :: wsL_law) rm_X11_count D cs E d sz [.ref a0, .int p1] (w_X11_count E a0 p1 d K) K := by
  refine e_of (cc := cX11_count) (maxL := 4) (ret := (some .int)) (own := RX11) (by decide) rfl rfl (Nat.le_of_ble_eq_true rfl) ?_
  intro p e s m below meth c S hr hlocks hsz H locs hw h ls hl
  have hl : lv_has ls 4 [(0, .ref a0), (1, .int p1)] := hl
  unfold w_X11_count at h
  obtain ⟨ha0, h⟩ := h
  have tl82 : ∀ (n : Nat) (v2 : Int32) (v3 : Int32) (d : Dy) (H : Heap) (locs : List Loc) (ls : Array Slot), l_X11_count_82 E a0 p1 K n v2 v3 d → Wd D cs (AW E sz) s.heap s E d H locs → lv_has ls 4 [(0, .ref a0), (1, .int p1), (2, .int v2), (3, .int v3)] → W p l e rm_X11_count s m ([.ref a0, .int p1] : List Value).toArray below meth c H locs 0 0 (MQ below (va_Qi K (OutW D cs E (AW E sz)) (AW E sz)) ([.ref a0, .int p1] : List Value).toArray s rm_X11_count.cells rm_X11_count.slots (AW E sz)) (F0 m 82 ls []) := by
    intro n82
    induction n82 with
    | zero => intro v2 v3 d H locs ls h; exact absurd h id
    | succ n82 ih82 =>
      intro v2 v3 d H locs ls h hw hl
      have h : b_X11_count_82 E a0 p1 K (l_X11_count_82 E a0 p1 K n82) v2 v3 d := h
      unfold b_X11_count_82 at h
      refine lv_iload_n S.1 S.2.1 (dd_at ddX11_count 48 rfl) rfl (lv_at hl 3 rfl) ?_
      refine lv_aload_n S.1 S.2.1 (dd_at ddX11_count 49 rfl) rfl (lv_at hl 0 rfl) ?_
      refine r_callI hw (r_runV (As := []) (rest := [.int v3]) S hw (m_X11_huts l D cs E d H.size a0 _) (cwV 0 S.2.2.2.2 (gV wg596 wg597 wg598 wg5 wg599) rfl rfl rfl (by decide +kernel) ⟨Nat.le_of_ble_eq_true rfl, Nat.le_of_ble_eq_true rfl⟩) (ci := 11) rfl ha0 h rfl hl.1 rfl (Nat.le_of_ble_eq_true rfl) (dd_at ddX11_count 50 rfl) ⟨Nat.le_of_ble_eq_true rfl, Nat.le_of_ble_eq_true rfl⟩) (fun r_2 d_1 H locs h hw => ?_)
      refine lv_icmp_ge (tgt := 119) S.1 S.2.1 (dd_at ddX11_count 51 rfl) (by decide) (fun hc_3 => ?_) (fun hc_3 => ?_)
      · have h := h.1 hc_3
        refine lv_iload_n S.1 S.2.1 (dd_at ddX11_count 68 rfl) rfl (lv_at hl 2 rfl) ?_
        exact e_I S hr hlocks hw h (dd_at ddX11_count 69 rfl)
      · have h := h.2 hc_3
        refine lv_iload_n S.1 S.2.1 (dd_at ddX11_count 52 rfl) rfl (lv_at hl 1 rfl) ?_
        refine lv_bipush (v := 9) S.1 S.2.1 (dd_at ddX11_count 53 rfl) (by decide) ?_
        refine lv_icmp_ne (tgt := 119) S.1 S.2.1 (dd_at ddX11_count 54 rfl) (by decide) (fun hc_4 => ?_) (fun hc_4 => ?_)
        · have h := h.1 hc_4
          refine lv_iload_n S.1 S.2.1 (dd_at ddX11_count 68 rfl) rfl (lv_at hl 2 rfl) ?_
          exact e_I S hr hlocks hw h (dd_at ddX11_count 69 rfl)
        · have h := h.2 hc_4
          refine lv_iload_n S.1 S.2.1 (dd_at ddX11_count 55 rfl) rfl (lv_at hl 2 rfl) ?_
          refine lv_aload_n S.1 S.2.1 (dd_at ddX11_count 56 rfl) rfl (lv_at hl 0 rfl) ?_
          obtain ⟨b_5, hb_6, ho_7, h⟩ := h
          refine r_getR S hw 11 21 rfl inG11 (by decide) (List.mem_cons_of_mem _ wg163) (by decide) ha0 hb_6 (dd_at ddX11_count 57 rfl) ?_
          refine lv_iload_n S.1 S.2.1 (dd_at ddX11_count 58 rfl) rfl (lv_at hl 3 rfl) ?_
          obtain ⟨hx_8, h⟩ := h
          refine r_iald S hw ho_7 hx_8 (dd_at ddX11_count 59 rfl) ?_
          refine lv_if_lt (tgt := 110) S.1 S.2.1 (dd_at ddX11_count 60 rfl) (by decide) (fun hc_9 => ?_) (fun hc_9 => ?_)
          · have h := h.1 hc_9
            refine lv_iconst (v := 0) S.1 S.2.1 (dd_at ddX11_count 63 rfl) (by decide) ?_
            refine lv_iadd S.1 S.2.1 (dd_at ddX11_count 64 rfl) ?_
            refine lv_istore_n (lv' := [(2, .int (v2 + 0)), (0, .ref a0), (1, .int p1), (3, .int v3)]) S.1 S.2.1 (dd_at ddX11_count 65 rfl) rfl hl (by decide) rfl (fun ls hl => ?_)
            refine lv_iinc (v := v3 + 1) (lv' := [(3, .int (v3 + 1)), (2, .int (v2 + 0)), (0, .ref a0), (1, .int p1)]) S.1 S.2.1 (dd_at ddX11_count 66 rfl) hl (k := 3) rfl rfl (by decide) rfl (fun ls hl => ?_)
            refine lv_goto (tgt := 82) S.1 S.2.1 (dd_at ddX11_count 67 rfl) (by decide) ?_
            exact ih82 (v2 + 0) (v3 + 1) d_1 H locs ls h hw (lv_sub hl [2, 3, 1, 0] rfl)
          · have h := h.2 hc_9
            refine lv_iconst (v := 1) S.1 S.2.1 (dd_at ddX11_count 61 rfl) (by decide) ?_
            refine lv_goto (tgt := 111) S.1 S.2.1 (dd_at ddX11_count 62 rfl) (by decide) ?_
            refine lv_iadd S.1 S.2.1 (dd_at ddX11_count 64 rfl) ?_
            refine lv_istore_n (lv' := [(2, .int (v2 + 1)), (0, .ref a0), (1, .int p1), (3, .int v3)]) S.1 S.2.1 (dd_at ddX11_count 65 rfl) rfl hl (by decide) rfl (fun ls hl => ?_)
            refine lv_iinc (v := v3 + 1) (lv' := [(3, .int (v3 + 1)), (2, .int (v2 + 1)), (0, .ref a0), (1, .int p1)]) S.1 S.2.1 (dd_at ddX11_count 66 rfl) hl (k := 3) rfl rfl (by decide) rfl (fun ls hl => ?_)
            refine lv_goto (tgt := 82) S.1 S.2.1 (dd_at ddX11_count 67 rfl) (by decide) ?_
            exact ih82 (v2 + 1) (v3 + 1) d_1 H locs ls h hw (lv_sub hl [2, 3, 1, 0] rfl)
  have tl43 : ∀ (n : Nat) (v2 : Int32) (v3 : Int32) (d : Dy) (H : Heap) (locs : List Loc) (ls : Array Slot), l_X11_count_43 E a0 p1 K n v2 v3 d → Wd D cs (AW E sz) s.heap s E d H locs → lv_has ls 4 [(0, .ref a0), (1, .int p1), (2, .int v2), (3, .int v3)] → W p l e rm_X11_count s m ([.ref a0, .int p1] : List Value).toArray below meth c H locs 0 0 (MQ below (va_Qi K (OutW D cs E (AW E sz)) (AW E sz)) ([.ref a0, .int p1] : List Value).toArray s rm_X11_count.cells rm_X11_count.slots (AW E sz)) (F0 m 43 ls []) := by
    intro n43
    induction n43 with
    | zero => intro v2 v3 d H locs ls h; exact absurd h id
    | succ n43 ih43 =>
      intro v2 v3 d H locs ls h hw hl
      have h : b_X11_count_43 E a0 p1 K (l_X11_count_43 E a0 p1 K n43) v2 v3 d := h
      unfold b_X11_count_43 at h
      refine lv_iload_n S.1 S.2.1 (dd_at ddX11_count 26 rfl) rfl (lv_at hl 3 rfl) ?_
      refine lv_aload_n S.1 S.2.1 (dd_at ddX11_count 27 rfl) rfl (lv_at hl 0 rfl) ?_
      refine r_callI hw (r_runV (As := []) (rest := [.int v3]) S hw (m_X11_persons l D cs E d H.size a0 _) (cwV 0 S.2.2.2.2 (gV wg558 wg559 wg560 wg5 wg561) rfl rfl rfl (by decide +kernel) ⟨Nat.le_of_ble_eq_true rfl, Nat.le_of_ble_eq_true rfl⟩) (ci := 11) rfl ha0 h rfl hl.1 rfl (Nat.le_of_ble_eq_true rfl) (dd_at ddX11_count 28 rfl) ⟨Nat.le_of_ble_eq_true rfl, Nat.le_of_ble_eq_true rfl⟩) (fun r_11 d_10 H locs h hw => ?_)
      refine lv_icmp_ge (tgt := 80) S.1 S.2.1 (dd_at ddX11_count 29 rfl) (by decide) (fun hc_12 => ?_) (fun hc_12 => ?_)
      · have h := h.1 hc_12
        refine lv_iconst (v := 0) S.1 S.2.1 (dd_at ddX11_count 46 rfl) (by decide) ?_
        refine lv_istore_n (lv' := [(3, .int 0), (0, .ref a0), (1, .int p1), (2, .int v2)]) S.1 S.2.1 (dd_at ddX11_count 47 rfl) rfl hl (by decide) rfl (fun ls hl => ?_)
        obtain ⟨n_13, h⟩ := h
        exact tl82 n_13 v2 0 d_10 H locs ls h hw (lv_sub hl [1, 2, 3, 0] rfl)
      · have h := h.2 hc_12
        refine lv_iload_n S.1 S.2.1 (dd_at ddX11_count 30 rfl) rfl (lv_at hl 1 rfl) ?_
        refine lv_bipush (v := 8) S.1 S.2.1 (dd_at ddX11_count 31 rfl) (by decide) ?_
        refine lv_icmp_ne (tgt := 80) S.1 S.2.1 (dd_at ddX11_count 32 rfl) (by decide) (fun hc_14 => ?_) (fun hc_14 => ?_)
        · have h := h.1 hc_14
          refine lv_iconst (v := 0) S.1 S.2.1 (dd_at ddX11_count 46 rfl) (by decide) ?_
          refine lv_istore_n (lv' := [(3, .int 0), (0, .ref a0), (1, .int p1), (2, .int v2)]) S.1 S.2.1 (dd_at ddX11_count 47 rfl) rfl hl (by decide) rfl (fun ls hl => ?_)
          obtain ⟨n_15, h⟩ := h
          exact tl82 n_15 v2 0 d_10 H locs ls h hw (lv_sub hl [1, 2, 3, 0] rfl)
        · have h := h.2 hc_14
          refine lv_iload_n S.1 S.2.1 (dd_at ddX11_count 33 rfl) rfl (lv_at hl 2 rfl) ?_
          refine lv_aload_n S.1 S.2.1 (dd_at ddX11_count 34 rfl) rfl (lv_at hl 0 rfl) ?_
          obtain ⟨b_16, hb_17, ho_18, h⟩ := h
          refine r_getR S hw 11 18 rfl inG11 (by decide) (List.mem_cons_of_mem _ wg160) (by decide) ha0 hb_17 (dd_at ddX11_count 35 rfl) ?_
          refine lv_iload_n S.1 S.2.1 (dd_at ddX11_count 36 rfl) rfl (lv_at hl 3 rfl) ?_
          obtain ⟨hx_19, h⟩ := h
          refine r_zald S hw ho_18 hx_19 (dd_at ddX11_count 37 rfl) ?_
          refine lv_if_eq (tgt := 71) S.1 S.2.1 (dd_at ddX11_count 38 rfl) (by decide) (fun hc_20 => ?_) (fun hc_20 => ?_)
          · have h := h.1 hc_20
            refine lv_iconst (v := 0) S.1 S.2.1 (dd_at ddX11_count 41 rfl) (by decide) ?_
            refine lv_iadd S.1 S.2.1 (dd_at ddX11_count 42 rfl) ?_
            refine lv_istore_n (lv' := [(2, .int (v2 + 0)), (0, .ref a0), (1, .int p1), (3, .int v3)]) S.1 S.2.1 (dd_at ddX11_count 43 rfl) rfl hl (by decide) rfl (fun ls hl => ?_)
            refine lv_iinc (v := v3 + 1) (lv' := [(3, .int (v3 + 1)), (2, .int (v2 + 0)), (0, .ref a0), (1, .int p1)]) S.1 S.2.1 (dd_at ddX11_count 44 rfl) hl (k := 3) rfl rfl (by decide) rfl (fun ls hl => ?_)
            refine lv_goto (tgt := 43) S.1 S.2.1 (dd_at ddX11_count 45 rfl) (by decide) ?_
            exact ih43 (v2 + 0) (v3 + 1) d_10 H locs ls h hw (lv_sub hl [2, 3, 1, 0] rfl)
          · have h := h.2 hc_20
            refine lv_iconst (v := 1) S.1 S.2.1 (dd_at ddX11_count 39 rfl) (by decide) ?_
            refine lv_goto (tgt := 72) S.1 S.2.1 (dd_at ddX11_count 40 rfl) (by decide) ?_
            refine lv_iadd S.1 S.2.1 (dd_at ddX11_count 42 rfl) ?_
            refine lv_istore_n (lv' := [(2, .int (v2 + 1)), (0, .ref a0), (1, .int p1), (3, .int v3)]) S.1 S.2.1 (dd_at ddX11_count 43 rfl) rfl hl (by decide) rfl (fun ls hl => ?_)
            refine lv_iinc (v := v3 + 1) (lv' := [(3, .int (v3 + 1)), (2, .int (v2 + 1)), (0, .ref a0), (1, .int p1)]) S.1 S.2.1 (dd_at ddX11_count 44 rfl) hl (k := 3) rfl rfl (by decide) rfl (fun ls hl => ?_)
            refine lv_goto (tgt := 43) S.1 S.2.1 (dd_at ddX11_count 45 rfl) (by decide) ?_
            exact ih43 (v2 + 1) (v3 + 1) d_10 H locs ls h hw (lv_sub hl [2, 3, 1, 0] rfl)
  refine lv_aload_n S.1 S.2.1 (dd_at ddX11_count 0 rfl) rfl (lv_at hl 0 rfl) ?_
  refine lv_iconst (v := 0) S.1 S.2.1 (dd_at ddX11_count 1 rfl) (by decide) ?_
  refine r_putI S hw 11 0 (ty := .int) (v := 0) rfl inG11 tyX11 tyX11_ok nmX11 (by decide) (List.mem_cons_of_mem _ wg201) (by decide) rfl (by decide +kernel) rfl rfl ha0 (dd_at ddX11_count 2 rfl) (fun H locs hw => ?_)
  refine lv_iload_n S.1 S.2.1 (dd_at ddX11_count 3 rfl) rfl (lv_at hl 1 rfl) ?_
  refine lv_iconst (v := 0) S.1 S.2.1 (dd_at ddX11_count 4 rfl) (by decide) ?_
  refine lv_bipush (v := 7) S.1 S.2.1 (dd_at ddX11_count 5 rfl) (by decide) ?_
  refine r_callI hw (r_runS (As := [.int p1, .int 0, .int 7]) (rest := []) S hw (m_X11_in l D cs E (pI d a0 0 0) H.size p1 0 7 _) (va_cwS 3 S.2.2.2.2 (gS wg418 wg419 wg5 wg420) rfl rfl rfl (by decide +kernel) ⟨Nat.le_of_ble_eq_true rfl, Nat.le_of_ble_eq_true rfl⟩) h rfl hl.1 rfl (Nat.le_of_ble_eq_true rfl) (dd_at ddX11_count 6 rfl) ⟨Nat.le_of_ble_eq_true rfl, Nat.le_of_ble_eq_true rfl⟩) (fun r_22 d_21 H locs h hw => ?_)
  refine lv_if_eq (tgt := 22) S.1 S.2.1 (dd_at ddX11_count 7 rfl) (by decide) (fun hc_23 => ?_) (fun hc_23 => ?_)
  · have h := h.1 hc_23
    refine lv_iload_n S.1 S.2.1 (dd_at ddX11_count 13 rfl) rfl (lv_at hl 1 rfl) ?_
    refine lv_bipush (v := 8) S.1 S.2.1 (dd_at ddX11_count 14 rfl) (by decide) ?_
    refine lv_bipush (v := 9) S.1 S.2.1 (dd_at ddX11_count 15 rfl) (by decide) ?_
    refine r_callI hw (r_runS (As := [.int p1, .int 8, .int 9]) (rest := []) S hw (m_X11_in l D cs E d_21 H.size p1 8 9 _) (va_cwS 3 S.2.2.2.2 (gS wg418 wg419 wg5 wg420) rfl rfl rfl (by decide +kernel) ⟨Nat.le_of_ble_eq_true rfl, Nat.le_of_ble_eq_true rfl⟩) h rfl hl.1 rfl (Nat.le_of_ble_eq_true rfl) (dd_at ddX11_count 16 rfl) ⟨Nat.le_of_ble_eq_true rfl, Nat.le_of_ble_eq_true rfl⟩) (fun r_25 d_24 H locs h hw => ?_)
    refine lv_if_ne (tgt := 35) S.1 S.2.1 (dd_at ddX11_count 17 rfl) (by decide) (fun hc_26 => ?_) (fun hc_26 => ?_)
    · have h := h.1 hc_26
      refine lv_aload_n S.1 S.2.1 (dd_at ddX11_count 20 rfl) rfl (lv_at hl 0 rfl) ?_
      refine r_callV hw (r_runV (As := []) (rest := []) S hw (m_X11_goesToday l D cs E d_24 H.size a0 _) (cwV 0 S.2.2.2.2 (gV wg1192 wg1193 wg1194 wg5 wg1195) rfl rfl rfl (by decide +kernel) ⟨Nat.le_of_ble_eq_true rfl, Nat.le_of_ble_eq_true rfl⟩) (ci := 11) rfl ha0 h rfl hl.1 rfl (Nat.le_of_ble_eq_true rfl) (dd_at ddX11_count 21 rfl) ⟨Nat.le_of_ble_eq_true rfl, Nat.le_of_ble_eq_true rfl⟩) (fun d_27 H locs h hw => ?_)
      refine lv_iconst (v := 0) S.1 S.2.1 (dd_at ddX11_count 22 rfl) (by decide) ?_
      refine lv_istore_n (lv' := [(2, .int 0), (0, .ref a0), (1, .int p1)]) S.1 S.2.1 (dd_at ddX11_count 23 rfl) rfl hl (by decide) rfl (fun ls hl => ?_)
      refine lv_iconst (v := 0) S.1 S.2.1 (dd_at ddX11_count 24 rfl) (by decide) ?_
      refine lv_istore_n (lv' := [(3, .int 0), (2, .int 0), (0, .ref a0), (1, .int p1)]) S.1 S.2.1 (dd_at ddX11_count 25 rfl) rfl hl (by decide) rfl (fun ls hl => ?_)
      obtain ⟨n_29, h⟩ := h
      exact tl43 n_29 0 0 d_27 H locs ls h hw (lv_sub hl [2, 3, 1, 0] rfl)
    · have h := h.2 hc_26
      refine lv_iconst (v := -1) S.1 S.2.1 (dd_at ddX11_count 18 rfl) (by decide) ?_
      exact e_I S hr hlocks hw h (dd_at ddX11_count 19 rfl)
  · have h := h.2 hc_23
    refine lv_aload_n S.1 S.2.1 (dd_at ddX11_count 8 rfl) rfl (lv_at hl 0 rfl) ?_
    obtain ⟨b_30, hb_31, ho_32, h⟩ := h
    refine r_getR S hw 11 1 rfl inG11 (by decide) (List.mem_cons_of_mem _ wg150) (by decide) ha0 hb_31 (dd_at ddX11_count 9 rfl) ?_
    refine lv_iload_n S.1 S.2.1 (dd_at ddX11_count 10 rfl) rfl (lv_at hl 1 rfl) ?_
    obtain ⟨hx_33, h⟩ := h
    refine r_iald S hw ho_32 hx_33 (dd_at ddX11_count 11 rfl) ?_
    exact e_I S hr hlocks hw h (dd_at ddX11_count 12 rfl)
