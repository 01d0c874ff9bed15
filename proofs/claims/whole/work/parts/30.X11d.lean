def b_X11_summed_75 (E : En) (a0 : Nat) (p1 : Int32) (K : Int32 → Dy → Prop) (k4 : Int32 → Int32 → Dy → Prop) (v2 : Int32) (v3 : Int32) (v4 : Int32) (s0 : Int32) (s1 : Int32) (d : Dy) : Prop := ∃ b_1 : Nat, eR E a0 1 = some b_1 ∧ okA E b_1 13 ∧ vp_in v4 (eN E b_1) ∧ ((¬ (gA d b_1 (v4).toNatClampNeg) = 4 → k4 (v2 + (-(s0 * s1))) (v3 + 1) d) ∧ ((gA d b_1 (v4).toNatClampNeg) = 4 → k4 (v2 + (s0 * s1)) (v3 + 1) d))
def b_X11_summed_4 (E : En) (a0 : Nat) (p1 : Int32) (K : Int32 → Dy → Prop) (k4 : Int32 → Int32 → Dy → Prop) (v2 : Int32) (v3 : Int32) (d : Dy) : Prop := ∃ b_6 : Nat, eR E a0 1 = some b_6 ∧ okA E b_6 13 ∧ w_X11_textAt E p1 d (fun r_10 d_9 => vp_in r_10 (eN E b_6) ∧ (((gA d_9 b_6 (r_10).toNatClampNeg) ≤ v3 → K v2 d_9) ∧ (¬ (gA d_9 b_6 (r_10).toNatClampNeg) ≤ v3 → w_X11_holdsLine E a0 p1 v3 d_9 (fun r_14 d_13 => ((¬ r_14 = 0 → w_X11_lineAt E p1 v3 d_13 (fun r_17 d_16 => ∃ b_18 : Nat, eR E a0 1 = some b_18 ∧ okA E b_18 13 ∧ vp_in (r_17 + 1) (eN E b_18) ∧ ∃ b_22 : Nat, eR E a0 1 = some b_22 ∧ okA E b_22 13 ∧ vp_in (r_17 + 2) (eN E b_22) ∧ ((0 ≤ (gA d_16 b_22 (r_17 + 2).toNatClampNeg) → ∃ b_27 : Nat, eR E a0 14 = some b_27 ∧ okA E b_27 13 ∧ ∃ b_30 : Nat, eR E a0 1 = some b_30 ∧ okA E b_30 13 ∧ vp_in (r_17 + 2) (eN E b_30) ∧ vp_in (gA d_16 b_30 (r_17 + 2).toNatClampNeg) (eN E b_27) ∧ b_X11_summed_75 E a0 p1 K k4 v2 v3 r_17 (gA d_16 b_18 (r_17 + 1).toNatClampNeg) (gA d_16 b_27 (gA d_16 b_30 (r_17 + 2).toNatClampNeg).toNatClampNeg) d_16) ∧ (¬ 0 ≤ (gA d_16 b_22 (r_17 + 2).toNatClampNeg) → b_X11_summed_75 E a0 p1 K k4 v2 v3 r_17 (gA d_16 b_18 (r_17 + 1).toNatClampNeg) 1 d_16)))) ∧ (r_14 = 0 → k4 v2 (v3 + 1) d_13))))))
def l_X11_summed_4 (E : En) (a0 : Nat) (p1 : Int32) (K : Int32 → Dy → Prop) : Nat → Int32 → Int32 → Dy → Prop
  | 0 => fun _ _ _ => False
  | n + 1 => b_X11_summed_4 E a0 p1 K (l_X11_summed_4 E a0 p1 K n)
def w_X11_summed (E : En) (a0 : Nat) (p1 : Int32) (d : Dy) (K : Int32 → Dy → Prop) : Prop := okO E a0 11 ∧ (∃ n_35 : Nat, l_X11_summed_4 E a0 p1 K n_35 0 0 d)
abbrev rm_X11_summed : Room := { frames := 3, cells := 0, slots := 0, locals := 70 }
set_option maxRecDepth 100000 in
set_option maxHeartbeats 4000000 in
theorem m_X11_summed (l : Launch) (D : va_G) (cs : Nat → ClassId) (E : En) (d : Dy) (sz : Nat) (a0 : Nat) (p1 : Int32) (K : Int32 → Dy → Prop) : CI l yX11_summed (.code yX11_summed cX11_summed 6 (some .int) :: wsL_law) rm_X11_summed D cs E d sz [.ref a0, .int p1] (w_X11_summed E a0 p1 d K) K := by
  refine e_of (cc := cX11_summed) (maxL := 6) (ret := (some .int)) (own := RX11) (by decide) rfl rfl (Nat.le_of_ble_eq_true rfl) ?_
  intro p e s m below meth c S hr hlocks hsz H locs hw h ls hl
  have hl : lv_has ls 6 [(0, .ref a0), (1, .int p1)] := hl
  unfold w_X11_summed at h
  obtain ⟨ha0, h⟩ := h
  have tl4 : ∀ (n : Nat) (v2 : Int32) (v3 : Int32) (d : Dy) (H : Heap) (locs : List Loc) (ls : Array Slot), l_X11_summed_4 E a0 p1 K n v2 v3 d → Wd D cs (AW E sz) s.heap s E d H locs → lv_has ls 6 [(0, .ref a0), (1, .int p1), (2, .int v2), (3, .int v3)] → W p l e rm_X11_summed s m ([.ref a0, .int p1] : List Value).toArray below meth c H locs 0 0 (MQ below (va_Qi K (OutW D cs E (AW E sz)) (AW E sz)) ([.ref a0, .int p1] : List Value).toArray s rm_X11_summed.cells rm_X11_summed.slots (AW E sz)) (F0 m 4 ls []) := by
    intro n4
    induction n4 with
    | zero => intro v2 v3 d H locs ls h; exact absurd h id
    | succ n4 ih4 =>
      have tb75 : ∀ (v2 : Int32) (v3 : Int32) (v4 : Int32) (s0 : Int32) (s1 : Int32) (d : Dy) (H : Heap) (locs : List Loc) (ls : Array Slot), b_X11_summed_75 E a0 p1 K (l_X11_summed_4 E a0 p1 K n4) v2 v3 v4 s0 s1 d → Wd D cs (AW E sz) s.heap s E d H locs → lv_has ls 6 [(0, .ref a0), (1, .int p1), (2, .int v2), (3, .int v3), (4, .int v4)] → W p l e rm_X11_summed s m ([.ref a0, .int p1] : List Value).toArray below meth c H locs 0 0 (MQ below (va_Qi K (OutW D cs E (AW E sz)) (AW E sz)) ([.ref a0, .int p1] : List Value).toArray s rm_X11_summed.cells rm_X11_summed.slots (AW E sz)) (F0 m 75 ls [.int s1, .int s0]) := by
        intro v2 v3 v4 s0 s1 d H locs ls h hw hl
        unfold b_X11_summed_75 at h
        refine lv_imul S.1 S.2.1 (dd_at ddX11_summed 45 rfl) ?_
        refine lv_istore (lv' := [(5, .int (s0 * s1)), (0, .ref a0), (1, .int p1), (2, .int v2), (3, .int v3), (4, .int v4)]) S.1 S.2.1 (dd_at ddX11_summed 46 rfl) hl (by decide) rfl (fun ls hl => ?_)
        refine lv_iload_n S.1 S.2.1 (dd_at ddX11_summed 47 rfl) rfl (lv_at hl 3 rfl) ?_
        refine lv_aload_n S.1 S.2.1 (dd_at ddX11_summed 48 rfl) rfl (lv_at hl 1 rfl) ?_
        obtain ⟨b_1, hb_2, ho_3, h⟩ := h
        refine r_getR S hw 11 1 rfl inG11 (by decide) (List.mem_cons_of_mem _ wg150) (by decide) ha0 hb_2 (dd_at ddX11_summed 49 rfl) ?_
        refine lv_iload S.1 S.2.1 (dd_at ddX11_summed 50 rfl) (lv_at hl 5 rfl) ?_
        obtain ⟨hx_4, h⟩ := h
        refine r_iald S hw ho_3 hx_4 (dd_at ddX11_summed 51 rfl) ?_
        refine lv_iconst (v := 4) S.1 S.2.1 (dd_at ddX11_summed 52 rfl) (by decide) ?_
        refine lv_icmp_ne (tgt := 95) S.1 S.2.1 (dd_at ddX11_summed 53 rfl) (by decide) (fun hc_5 => ?_) (fun hc_5 => ?_)
        · have h := h.1 hc_5
          refine lv_iload S.1 S.2.1 (dd_at ddX11_summed 56 rfl) (lv_at hl 0 rfl) ?_
          refine lv_ineg S.1 S.2.1 (dd_at ddX11_summed 57 rfl) ?_
          refine lv_iadd S.1 S.2.1 (dd_at ddX11_summed 58 rfl) ?_
          refine lv_istore_n (lv' := [(2, .int (v2 + (-(s0 * s1)))), (5, .int (s0 * s1)), (0, .ref a0), (1, .int p1), (3, .int v3), (4, .int v4)]) S.1 S.2.1 (dd_at ddX11_summed 59 rfl) rfl hl (by decide) rfl (fun ls hl => ?_)
          refine lv_iinc (v := v3 + 1) (lv' := [(3, .int (v3 + 1)), (2, .int (v2 + (-(s0 * s1)))), (5, .int (s0 * s1)), (0, .ref a0), (1, .int p1), (4, .int v4)]) S.1 S.2.1 (dd_at ddX11_summed 60 rfl) hl (k := 4) rfl rfl (by decide) rfl (fun ls hl => ?_)
          refine lv_goto (tgt := 4) S.1 S.2.1 (dd_at ddX11_summed 61 rfl) (by decide) ?_
          exact ih4 (v2 + (-(s0 * s1))) (v3 + 1) d H locs ls h hw (lv_sub hl [3, 4, 1, 0] rfl)
        · have h := h.2 hc_5
          refine lv_iload S.1 S.2.1 (dd_at ddX11_summed 54 rfl) (lv_at hl 0 rfl) ?_
          refine lv_goto (tgt := 98) S.1 S.2.1 (dd_at ddX11_summed 55 rfl) (by decide) ?_
          refine lv_iadd S.1 S.2.1 (dd_at ddX11_summed 58 rfl) ?_
          refine lv_istore_n (lv' := [(2, .int (v2 + (s0 * s1))), (5, .int (s0 * s1)), (0, .ref a0), (1, .int p1), (3, .int v3), (4, .int v4)]) S.1 S.2.1 (dd_at ddX11_summed 59 rfl) rfl hl (by decide) rfl (fun ls hl => ?_)
          refine lv_iinc (v := v3 + 1) (lv' := [(3, .int (v3 + 1)), (2, .int (v2 + (s0 * s1))), (5, .int (s0 * s1)), (0, .ref a0), (1, .int p1), (4, .int v4)]) S.1 S.2.1 (dd_at ddX11_summed 60 rfl) hl (k := 4) rfl rfl (by decide) rfl (fun ls hl => ?_)
          refine lv_goto (tgt := 4) S.1 S.2.1 (dd_at ddX11_summed 61 rfl) (by decide) ?_
          exact ih4 (v2 + (s0 * s1)) (v3 + 1) d H locs ls h hw (lv_sub hl [3, 4, 1, 0] rfl)
      intro v2 v3 d H locs ls h hw hl
      have h : b_X11_summed_4 E a0 p1 K (l_X11_summed_4 E a0 p1 K n4) v2 v3 d := h
      unfold b_X11_summed_4 at h
      refine lv_iload_n S.1 S.2.1 (dd_at ddX11_summed 4 rfl) rfl (lv_at hl 3 rfl) ?_
      refine lv_aload_n S.1 S.2.1 (dd_at ddX11_summed 5 rfl) rfl (lv_at hl 0 rfl) ?_
      obtain ⟨b_6, hb_7, ho_8, h⟩ := h
      refine r_getR S hw 11 1 rfl inG11 (by decide) (List.mem_cons_of_mem _ wg150) (by decide) ha0 hb_7 (dd_at ddX11_summed 6 rfl) ?_
      refine lv_iload_n S.1 S.2.1 (dd_at ddX11_summed 7 rfl) rfl (lv_at hl 1 rfl) ?_
      refine r_callI hw (r_runS (As := [.int p1]) (rest := [.ref b_6, .int v3]) S hw (m_X11_textAt l D cs E d H.size p1 _) (va_cwS 1 S.2.2.2.2 (gS wg449 wg450 wg5 wg451) rfl rfl rfl (by decide +kernel) ⟨Nat.le_of_ble_eq_true rfl, Nat.le_of_ble_eq_true rfl⟩) h rfl hl.1 rfl (Nat.le_of_ble_eq_true rfl) (dd_at ddX11_summed 8 rfl) ⟨Nat.le_of_ble_eq_true rfl, Nat.le_of_ble_eq_true rfl⟩) (fun r_10 d_9 H locs h hw => ?_)
      obtain ⟨hx_11, h⟩ := h
      refine r_iald S hw ho_8 hx_11 (dd_at ddX11_summed 9 rfl) ?_
      refine lv_icmp_ge (tgt := 106) S.1 S.2.1 (dd_at ddX11_summed 10 rfl) (by decide) (fun hc_12 => ?_) (fun hc_12 => ?_)
      · have h := h.1 hc_12
        refine lv_iload_n S.1 S.2.1 (dd_at ddX11_summed 62 rfl) rfl (lv_at hl 2 rfl) ?_
        exact e_I S hr hlocks hw h (dd_at ddX11_summed 63 rfl)
      · have h := h.2 hc_12
        refine lv_aload_n S.1 S.2.1 (dd_at ddX11_summed 11 rfl) rfl (lv_at hl 0 rfl) ?_
        refine lv_iload_n S.1 S.2.1 (dd_at ddX11_summed 12 rfl) rfl (lv_at hl 1 rfl) ?_
        refine lv_iload_n S.1 S.2.1 (dd_at ddX11_summed 13 rfl) rfl (lv_at hl 3 rfl) ?_
        refine r_callI hw (r_runV (As := [.int p1, .int v3]) (rest := []) S hw (m_X11_holdsLine l D cs E d_9 H.size a0 p1 v3 _) (cwV 2 S.2.2.2.2 (gV wg860 wg861 wg862 wg5 wg863) rfl rfl rfl (by decide +kernel) ⟨Nat.le_of_ble_eq_true rfl, Nat.le_of_ble_eq_true rfl⟩) (ci := 11) rfl ha0 h rfl hl.1 rfl (Nat.le_of_ble_eq_true rfl) (dd_at ddX11_summed 14 rfl) ⟨Nat.le_of_ble_eq_true rfl, Nat.le_of_ble_eq_true rfl⟩) (fun r_14 d_13 H locs h hw => ?_)
        refine lv_if_ne (tgt := 29) S.1 S.2.1 (dd_at ddX11_summed 15 rfl) (by decide) (fun hc_15 => ?_) (fun hc_15 => ?_)
        · have h := h.1 hc_15
          refine lv_iload_n S.1 S.2.1 (dd_at ddX11_summed 17 rfl) rfl (lv_at hl 1 rfl) ?_
          refine lv_iload_n S.1 S.2.1 (dd_at ddX11_summed 18 rfl) rfl (lv_at hl 3 rfl) ?_
          refine r_callI hw (r_runS (As := [.int p1, .int v3]) (rest := []) S hw (m_X11_lineAt l D cs E d_13 H.size p1 v3 _) (va_cwS 2 S.2.2.2.2 (gS wg446 wg447 wg5 wg448) rfl rfl rfl (by decide +kernel) ⟨Nat.le_of_ble_eq_true rfl, Nat.le_of_ble_eq_true rfl⟩) h rfl hl.1 rfl (Nat.le_of_ble_eq_true rfl) (dd_at ddX11_summed 19 rfl) ⟨Nat.le_of_ble_eq_true rfl, Nat.le_of_ble_eq_true rfl⟩) (fun r_17 d_16 H locs h hw => ?_)
          refine lv_istore (lv' := [(4, .int r_17), (0, .ref a0), (1, .int p1), (2, .int v2), (3, .int v3)]) S.1 S.2.1 (dd_at ddX11_summed 20 rfl) hl (by decide) rfl (fun ls hl => ?_)
          refine lv_aload_n S.1 S.2.1 (dd_at ddX11_summed 21 rfl) rfl (lv_at hl 1 rfl) ?_
          obtain ⟨b_18, hb_19, ho_20, h⟩ := h
          refine r_getR S hw 11 1 rfl inG11 (by decide) (List.mem_cons_of_mem _ wg150) (by decide) ha0 hb_19 (dd_at ddX11_summed 22 rfl) ?_
          refine lv_iload S.1 S.2.1 (dd_at ddX11_summed 23 rfl) (lv_at hl 0 rfl) ?_
          refine lv_iconst (v := 1) S.1 S.2.1 (dd_at ddX11_summed 24 rfl) (by decide) ?_
          refine lv_iadd S.1 S.2.1 (dd_at ddX11_summed 25 rfl) ?_
          obtain ⟨hx_21, h⟩ := h
          refine r_iald S hw ho_20 hx_21 (dd_at ddX11_summed 26 rfl) ?_
          refine lv_aload_n S.1 S.2.1 (dd_at ddX11_summed 27 rfl) rfl (lv_at hl 1 rfl) ?_
          obtain ⟨b_22, hb_23, ho_24, h⟩ := h
          refine r_getR S hw 11 1 rfl inG11 (by decide) (List.mem_cons_of_mem _ wg150) (by decide) ha0 hb_23 (dd_at ddX11_summed 28 rfl) ?_
          refine lv_iload S.1 S.2.1 (dd_at ddX11_summed 29 rfl) (lv_at hl 0 rfl) ?_
          refine lv_iconst (v := 2) S.1 S.2.1 (dd_at ddX11_summed 30 rfl) (by decide) ?_
          refine lv_iadd S.1 S.2.1 (dd_at ddX11_summed 31 rfl) ?_
          obtain ⟨hx_25, h⟩ := h
          refine r_iald S hw ho_24 hx_25 (dd_at ddX11_summed 32 rfl) ?_
          refine lv_if_ge (tgt := 61) S.1 S.2.1 (dd_at ddX11_summed 33 rfl) (by decide) (fun hc_26 => ?_) (fun hc_26 => ?_)
          · have h := h.1 hc_26
            refine lv_aload_n S.1 S.2.1 (dd_at ddX11_summed 36 rfl) rfl (lv_at hl 1 rfl) ?_
            obtain ⟨b_27, hb_28, ho_29, h⟩ := h
            refine r_getR S hw 11 14 rfl inG11 (by decide) (List.mem_cons_of_mem _ wg156) (by decide) ha0 hb_28 (dd_at ddX11_summed 37 rfl) ?_
            refine lv_aload_n S.1 S.2.1 (dd_at ddX11_summed 38 rfl) rfl (lv_at hl 1 rfl) ?_
            obtain ⟨b_30, hb_31, ho_32, h⟩ := h
            refine r_getR S hw 11 1 rfl inG11 (by decide) (List.mem_cons_of_mem _ wg150) (by decide) ha0 hb_31 (dd_at ddX11_summed 39 rfl) ?_
            refine lv_iload S.1 S.2.1 (dd_at ddX11_summed 40 rfl) (lv_at hl 0 rfl) ?_
            refine lv_iconst (v := 2) S.1 S.2.1 (dd_at ddX11_summed 41 rfl) (by decide) ?_
            refine lv_iadd S.1 S.2.1 (dd_at ddX11_summed 42 rfl) ?_
            obtain ⟨hx_33, h⟩ := h
            refine r_iald S hw ho_32 hx_33 (dd_at ddX11_summed 43 rfl) ?_
            obtain ⟨hx_34, h⟩ := h
            refine r_iald S hw ho_29 hx_34 (dd_at ddX11_summed 44 rfl) ?_
            exact tb75 v2 v3 r_17 (gA d_16 b_18 (r_17 + 1).toNatClampNeg) (gA d_16 b_27 (gA d_16 b_30 (r_17 + 2).toNatClampNeg).toNatClampNeg) d_16 H locs ls h hw (lv_sub hl [1, 2, 3, 4, 0] rfl)
          · have h := h.2 hc_26
            refine lv_iconst (v := 1) S.1 S.2.1 (dd_at ddX11_summed 34 rfl) (by decide) ?_
            refine lv_goto (tgt := 75) S.1 S.2.1 (dd_at ddX11_summed 35 rfl) (by decide) ?_
            exact tb75 v2 v3 r_17 (gA d_16 b_18 (r_17 + 1).toNatClampNeg) 1 d_16 H locs ls h hw (lv_sub hl [1, 2, 3, 4, 0] rfl)
        · have h := h.2 hc_15
          refine lv_goto (tgt := 100) S.1 S.2.1 (dd_at ddX11_summed 16 rfl) (by decide) ?_
          refine lv_iinc (v := v3 + 1) (lv' := [(3, .int (v3 + 1)), (0, .ref a0), (1, .int p1), (2, .int v2)]) S.1 S.2.1 (dd_at ddX11_summed 60 rfl) hl (k := 3) rfl rfl (by decide) rfl (fun ls hl => ?_)
          refine lv_goto (tgt := 4) S.1 S.2.1 (dd_at ddX11_summed 61 rfl) (by decide) ?_
          exact ih4 v2 (v3 + 1) d_13 H locs ls h hw (lv_sub hl [1, 2, 3, 0] rfl)
  refine lv_iconst (v := 0) S.1 S.2.1 (dd_at ddX11_summed 0 rfl) (by decide) ?_
  refine lv_istore_n (lv' := [(2, .int 0), (0, .ref a0), (1, .int p1)]) S.1 S.2.1 (dd_at ddX11_summed 1 rfl) rfl hl (by decide) rfl (fun ls hl => ?_)
  refine lv_iconst (v := 0) S.1 S.2.1 (dd_at ddX11_summed 2 rfl) (by decide) ?_
  refine lv_istore_n (lv' := [(3, .int 0), (2, .int 0), (0, .ref a0), (1, .int p1)]) S.1 S.2.1 (dd_at ddX11_summed 3 rfl) rfl hl (by decide) rfl (fun ls hl => ?_)
  obtain ⟨n_35, h⟩ := h
  exact tl4 n_35 0 0 d H locs ls h hw (lv_sub hl [2, 3, 1, 0] rfl)

def b_X11_sorts_17 (E : En) (a0 : Nat) (p1 : Int32) (p2 : Int32) (K : Dy → Prop) (k9 : Int32 → Dy → Prop) (k17 : Int32 → Int32 → Dy → Prop) (v3 : Int32) (v4 : Int32) (d : Dy) : Prop := ∃ b_1 : Nat, eR E a0 1 = some b_1 ∧ okA E b_1 13 ∧ vp_in 2 (eN E b_1) ∧ (((gA d b_1 ((2 : Int32)).toNatClampNeg) ≤ v4 → k9 (v3 + 1) d) ∧ (¬ (gA d b_1 ((2 : Int32)).toNatClampNeg) ≤ v4 → w_X11_ofEvent E a0 v4 0 d (fun r_7 d_6 => ((¬ r_7 = v3 → k17 v3 (v4 + 1) d_6) ∧ (r_7 = v3 → w_X11_ofEvent E a0 v4 5 d_6 (fun r_10 d_9 => ((r_10 ≤ p2 → ∃ b_12 : Nat, eR E a0 16 = some b_12 ∧ okA E b_12 13 ∧ vp_in (gI d_9 a0 17) (eN E b_12) ∧ k17 v3 (v4 + 1) (pI (pA d_9 b_12 (gI d_9 a0 17).toNatClampNeg v4) a0 17 ((gI (pA d_9 b_12 (gI d_9 a0 17).toNatClampNeg v4) a0 17) + 1))) ∧ (¬ r_10 ≤ p2 → k17 v3 (v4 + 1) d_9))))))))
def l_X11_sorts_17 (E : En) (a0 : Nat) (p1 : Int32) (p2 : Int32) (K : Dy → Prop) (k9 : Int32 → Dy → Prop) : Nat → Int32 → Int32 → Dy → Prop
  | 0 => fun _ _ _ => False
  | n + 1 => b_X11_sorts_17 E a0 p1 p2 K k9 (l_X11_sorts_17 E a0 p1 p2 K k9 n)
def b_X11_sorts_9 (E : En) (a0 : Nat) (p1 : Int32) (p2 : Int32) (K : Dy → Prop) (k9 : Int32 → Dy → Prop) (v3 : Int32) (d : Dy) : Prop := ((p1 < v3 → K d) ∧ (¬ p1 < v3 → (∃ n_17 : Nat, l_X11_sorts_17 E a0 p1 p2 K k9 n_17 v3 0 d)))
def l_X11_sorts_9 (E : En) (a0 : Nat) (p1 : Int32) (p2 : Int32) (K : Dy → Prop) : Nat → Int32 → Dy → Prop
  | 0 => fun _ _ => False
  | n + 1 => b_X11_sorts_9 E a0 p1 p2 K (l_X11_sorts_9 E a0 p1 p2 K n)
def w_X11_sorts (E : En) (a0 : Nat) (p1 : Int32) (p2 : Int32) (d : Dy) (K : Dy → Prop) : Prop := okO E a0 11 ∧ (∃ n_18 : Nat, l_X11_sorts_9 E a0 p1 p2 K n_18 1900 (pI d a0 17 0))
abbrev rm_X11_sorts : Room := { frames := 1, cells := 0, slots := 0, locals := 22 }
set_option maxRecDepth 100000 in
set_option maxHeartbeats 4000000 in
theorem m_X11_sorts (l : Launch) (D : va_G) (cs : Nat → ClassId) (E : En) (d : Dy) (sz : Nat) (a0 : Nat) (p1 : Int32) (p2 : Int32) (K : Dy → Prop) : CV l yX11_sorts (.code yX11_sorts cX11_sorts 5 none :: wsL_law) rm_X11_sorts D cs E d sz [.ref a0, .int p1, .int p2] (w_X11_sorts E a0 p1 p2 d K) K := by
  refine e_of (cc := cX11_sorts) (maxL := 5) (ret := none) (own := RX11) (by decide) rfl rfl (Nat.le_of_ble_eq_true rfl) ?_
  intro p e s m below meth c S hr hlocks hsz H locs hw h ls hl
  have hl : lv_has ls 5 [(0, .ref a0), (1, .int p1), (2, .int p2)] := hl
  unfold w_X11_sorts at h
  obtain ⟨ha0, h⟩ := h
  have tl9 : ∀ (n : Nat) (v3 : Int32) (d : Dy) (H : Heap) (locs : List Loc) (ls : Array Slot), l_X11_sorts_9 E a0 p1 p2 K n v3 d → Wd D cs (AW E sz) s.heap s E d H locs → lv_has ls 5 [(0, .ref a0), (1, .int p1), (2, .int p2), (3, .int v3)] → W p l e rm_X11_sorts s m ([.ref a0, .int p1, .int p2] : List Value).toArray below meth c H locs 0 0 (MQ below (va_Qv K (OutW D cs E (AW E sz)) (AW E sz)) ([.ref a0, .int p1, .int p2] : List Value).toArray s rm_X11_sorts.cells rm_X11_sorts.slots (AW E sz)) (F0 m 9 ls []) := by
    intro n9
    induction n9 with
    | zero => intro v3 d H locs ls h; exact absurd h id
    | succ n9 ih9 =>
      have tl17 : ∀ (n : Nat) (v3 : Int32) (v4 : Int32) (d : Dy) (H : Heap) (locs : List Loc) (ls : Array Slot), l_X11_sorts_17 E a0 p1 p2 K (l_X11_sorts_9 E a0 p1 p2 K n9) n v3 v4 d → Wd D cs (AW E sz) s.heap s E d H locs → lv_has ls 5 [(0, .ref a0), (1, .int p1), (2, .int p2), (3, .int v3), (4, .int v4)] → W p l e rm_X11_sorts s m ([.ref a0, .int p1, .int p2] : List Value).toArray below meth c H locs 0 0 (MQ below (va_Qv K (OutW D cs E (AW E sz)) (AW E sz)) ([.ref a0, .int p1, .int p2] : List Value).toArray s rm_X11_sorts.cells rm_X11_sorts.slots (AW E sz)) (F0 m 17 ls []) := by
        intro n17
        induction n17 with
        | zero => intro v3 v4 d H locs ls h; exact absurd h id
        | succ n17 ih17 =>
          intro v3 v4 d H locs ls h hw hl
          have h : b_X11_sorts_17 E a0 p1 p2 K (l_X11_sorts_9 E a0 p1 p2 K n9) (l_X11_sorts_17 E a0 p1 p2 K (l_X11_sorts_9 E a0 p1 p2 K n9) n17) v3 v4 d := h
          unfold b_X11_sorts_17 at h
          refine lv_iload S.1 S.2.1 (dd_at ddX11_sorts 10 rfl) (lv_at hl 4 rfl) ?_
          refine lv_aload_n S.1 S.2.1 (dd_at ddX11_sorts 11 rfl) rfl (lv_at hl 0 rfl) ?_
          obtain ⟨b_1, hb_2, ho_3, h⟩ := h
          refine r_getR S hw 11 1 rfl inG11 (by decide) (List.mem_cons_of_mem _ wg150) (by decide) ha0 hb_2 (dd_at ddX11_sorts 12 rfl) ?_
          refine lv_iconst (v := 2) S.1 S.2.1 (dd_at ddX11_sorts 13 rfl) (by decide) ?_
          obtain ⟨hx_4, h⟩ := h
          refine r_iald S hw ho_3 hx_4 (dd_at ddX11_sorts 14 rfl) ?_
          refine lv_icmp_ge (tgt := 80) S.1 S.2.1 (dd_at ddX11_sorts 15 rfl) (by decide) (fun hc_5 => ?_) (fun hc_5 => ?_)
          · have h := h.1 hc_5
            refine lv_iinc (v := v3 + 1) (lv' := [(3, .int (v3 + 1)), (0, .ref a0), (1, .int p1), (2, .int p2), (4, .int v4)]) S.1 S.2.1 (dd_at ddX11_sorts 43 rfl) hl (k := 3) rfl rfl (by decide) rfl (fun ls hl => ?_)
            refine lv_goto (tgt := 9) S.1 S.2.1 (dd_at ddX11_sorts 44 rfl) (by decide) ?_
            exact ih9 (v3 + 1) d H locs ls h hw (lv_sub hl [1, 2, 3, 0] rfl)
          · have h := h.2 hc_5
            refine lv_aload_n S.1 S.2.1 (dd_at ddX11_sorts 16 rfl) rfl (lv_at hl 0 rfl) ?_
            refine lv_iload S.1 S.2.1 (dd_at ddX11_sorts 17 rfl) (lv_at hl 4 rfl) ?_
            refine lv_iconst (v := 0) S.1 S.2.1 (dd_at ddX11_sorts 18 rfl) (by decide) ?_
            refine r_callI hw (r_runV (As := [.int v4, .int 0]) (rest := []) S hw (m_X11_ofEvent l D cs E d H.size a0 v4 0 _) (cwV 2 S.2.2.2.2 (gV wg823 wg824 wg825 wg5 wg826) rfl rfl rfl (by decide +kernel) ⟨Nat.le_of_ble_eq_true rfl, Nat.le_of_ble_eq_true rfl⟩) (ci := 11) rfl ha0 h rfl hl.1 rfl (Nat.le_of_ble_eq_true rfl) (dd_at ddX11_sorts 19 rfl) ⟨Nat.le_of_ble_eq_true rfl, Nat.le_of_ble_eq_true rfl⟩) (fun r_7 d_6 H locs h hw => ?_)
            refine lv_iload_n S.1 S.2.1 (dd_at ddX11_sorts 20 rfl) rfl (lv_at hl 3 rfl) ?_
            refine lv_icmp_ne (tgt := 74) S.1 S.2.1 (dd_at ddX11_sorts 21 rfl) (by decide) (fun hc_8 => ?_) (fun hc_8 => ?_)
            · have h := h.1 hc_8
              refine lv_iinc (v := v4 + 1) (lv' := [(4, .int (v4 + 1)), (0, .ref a0), (1, .int p1), (2, .int p2), (3, .int v3)]) S.1 S.2.1 (dd_at ddX11_sorts 41 rfl) hl (k := 4) rfl rfl (by decide) rfl (fun ls hl => ?_)
              refine lv_goto (tgt := 17) S.1 S.2.1 (dd_at ddX11_sorts 42 rfl) (by decide) ?_
              exact ih17 v3 (v4 + 1) d_6 H locs ls h hw (lv_sub hl [1, 2, 3, 4, 0] rfl)
            · have h := h.2 hc_8
              refine lv_aload_n S.1 S.2.1 (dd_at ddX11_sorts 22 rfl) rfl (lv_at hl 0 rfl) ?_
              refine lv_iload S.1 S.2.1 (dd_at ddX11_sorts 23 rfl) (lv_at hl 4 rfl) ?_
              refine lv_iconst (v := 5) S.1 S.2.1 (dd_at ddX11_sorts 24 rfl) (by decide) ?_
              refine r_callI hw (r_runV (As := [.int v4, .int 5]) (rest := []) S hw (m_X11_ofEvent l D cs E d_6 H.size a0 v4 5 _) (cwV 2 S.2.2.2.2 (gV wg823 wg824 wg825 wg5 wg826) rfl rfl rfl (by decide +kernel) ⟨Nat.le_of_ble_eq_true rfl, Nat.le_of_ble_eq_true rfl⟩) (ci := 11) rfl ha0 h rfl hl.1 rfl (Nat.le_of_ble_eq_true rfl) (dd_at ddX11_sorts 25 rfl) ⟨Nat.le_of_ble_eq_true rfl, Nat.le_of_ble_eq_true rfl⟩) (fun r_10 d_9 H locs h hw => ?_)
              refine lv_iload_n S.1 S.2.1 (dd_at ddX11_sorts 26 rfl) rfl (lv_at hl 2 rfl) ?_
              refine lv_icmp_le (tgt := 53) S.1 S.2.1 (dd_at ddX11_sorts 27 rfl) (by decide) (fun hc_11 => ?_) (fun hc_11 => ?_)
              · have h := h.1 hc_11
                refine lv_aload_n S.1 S.2.1 (dd_at ddX11_sorts 29 rfl) rfl (lv_at hl 0 rfl) ?_
                obtain ⟨b_12, hb_13, ho_14, h⟩ := h
                refine r_getR S hw 11 16 rfl inG11 (by decide) (List.mem_cons_of_mem _ wg158) (by decide) ha0 hb_13 (dd_at ddX11_sorts 30 rfl) ?_
                refine lv_aload_n S.1 S.2.1 (dd_at ddX11_sorts 31 rfl) rfl (lv_at hl 0 rfl) ?_
                refine r_getI S hw 11 17 rfl inG11 (by decide) (List.mem_cons_of_mem _ wg818) (by decide) ha0 (dd_at ddX11_sorts 32 rfl) ?_
                refine lv_iload S.1 S.2.1 (dd_at ddX11_sorts 33 rfl) (lv_at hl 4 rfl) ?_
                obtain ⟨hx_15, h⟩ := h
                refine r_iast S hw ho_14 hx_15 (dd_at ddX11_sorts 34 rfl) (fun H locs hw => ?_)
                refine lv_aload_n S.1 S.2.1 (dd_at ddX11_sorts 35 rfl) rfl (lv_at hl 0 rfl) ?_
                refine lv_dup S.1 S.2.1 (dd_at ddX11_sorts 36 rfl) rfl ?_
                refine r_getI S hw 11 17 rfl inG11 (by decide) (List.mem_cons_of_mem _ wg818) (by decide) ha0 (dd_at ddX11_sorts 37 rfl) ?_
                refine lv_iconst (v := 1) S.1 S.2.1 (dd_at ddX11_sorts 38 rfl) (by decide) ?_
                refine lv_iadd S.1 S.2.1 (dd_at ddX11_sorts 39 rfl) ?_
                refine r_putI S hw 11 17 (ty := .int) (v := (gI (pA d_9 b_12 (gI d_9 a0 17).toNatClampNeg v4) a0 17) + 1) rfl inG11 tyX11 tyX11_ok nmX11 (by decide) (List.mem_cons_of_mem _ wg818) (by decide) rfl (by decide +kernel) rfl rfl ha0 (dd_at ddX11_sorts 40 rfl) (fun H locs hw => ?_)
                refine lv_iinc (v := v4 + 1) (lv' := [(4, .int (v4 + 1)), (0, .ref a0), (1, .int p1), (2, .int p2), (3, .int v3)]) S.1 S.2.1 (dd_at ddX11_sorts 41 rfl) hl (k := 4) rfl rfl (by decide) rfl (fun ls hl => ?_)
                refine lv_goto (tgt := 17) S.1 S.2.1 (dd_at ddX11_sorts 42 rfl) (by decide) ?_
                exact ih17 v3 (v4 + 1) (pI (pA d_9 b_12 (gI d_9 a0 17).toNatClampNeg v4) a0 17 ((gI (pA d_9 b_12 (gI d_9 a0 17).toNatClampNeg v4) a0 17) + 1)) H locs ls h hw (lv_sub hl [1, 2, 3, 4, 0] rfl)
              · have h := h.2 hc_11
                refine lv_goto (tgt := 74) S.1 S.2.1 (dd_at ddX11_sorts 28 rfl) (by decide) ?_
                refine lv_iinc (v := v4 + 1) (lv' := [(4, .int (v4 + 1)), (0, .ref a0), (1, .int p1), (2, .int p2), (3, .int v3)]) S.1 S.2.1 (dd_at ddX11_sorts 41 rfl) hl (k := 4) rfl rfl (by decide) rfl (fun ls hl => ?_)
                refine lv_goto (tgt := 17) S.1 S.2.1 (dd_at ddX11_sorts 42 rfl) (by decide) ?_
                exact ih17 v3 (v4 + 1) d_9 H locs ls h hw (lv_sub hl [1, 2, 3, 4, 0] rfl)
      intro v3 d H locs ls h hw hl
      have h : b_X11_sorts_9 E a0 p1 p2 K (l_X11_sorts_9 E a0 p1 p2 K n9) v3 d := h
      unfold b_X11_sorts_9 at h
      refine lv_iload_n S.1 S.2.1 (dd_at ddX11_sorts 5 rfl) rfl (lv_at hl 3 rfl) ?_
      refine lv_iload_n S.1 S.2.1 (dd_at ddX11_sorts 6 rfl) rfl (lv_at hl 1 rfl) ?_
      refine lv_icmp_gt (tgt := 86) S.1 S.2.1 (dd_at ddX11_sorts 7 rfl) (by decide) (fun hc_16 => ?_) (fun hc_16 => ?_)
      · have h := h.1 hc_16
        exact e_V S hr hlocks hw h (dd_at ddX11_sorts 45 rfl)
      · have h := h.2 hc_16
        refine lv_iconst (v := 0) S.1 S.2.1 (dd_at ddX11_sorts 8 rfl) (by decide) ?_
        refine lv_istore (lv' := [(4, .int 0), (0, .ref a0), (1, .int p1), (2, .int p2), (3, .int v3)]) S.1 S.2.1 (dd_at ddX11_sorts 9 rfl) hl (by decide) rfl (fun ls hl => ?_)
        obtain ⟨n_17, h⟩ := h
        exact tl17 n_17 v3 0 d H locs ls h hw (lv_sub hl [1, 2, 3, 4, 0] rfl)
  refine lv_aload_n S.1 S.2.1 (dd_at ddX11_sorts 0 rfl) rfl (lv_at hl 0 rfl) ?_
  refine lv_iconst (v := 0) S.1 S.2.1 (dd_at ddX11_sorts 1 rfl) (by decide) ?_
  refine r_putI S hw 11 17 (ty := .int) (v := 0) rfl inG11 tyX11 tyX11_ok nmX11 (by decide) (List.mem_cons_of_mem _ wg818) (by decide) rfl (by decide +kernel) rfl rfl ha0 (dd_at ddX11_sorts 2 rfl) (fun H locs hw => ?_)
  refine lv_sipush (v := 1900) S.1 S.2.1 (dd_at ddX11_sorts 3 rfl) (by decide) ?_
  refine lv_istore_n (lv' := [(3, .int 1900), (0, .ref a0), (1, .int p1), (2, .int p2)]) S.1 S.2.1 (dd_at ddX11_sorts 4 rfl) rfl hl (by decide) rfl (fun ls hl => ?_)
  obtain ⟨n_18, h⟩ := h
  exact tl9 n_18 1900 (pI d a0 17 0) H locs ls h hw (lv_sub hl [1, 2, 3, 0] rfl)

def w_X11_ageOf (E : En) (a0 : Nat) (p1 : Int32) (p2 : Int32) (d : Dy) (K : Int32 → Dy → Prop) : Prop := okO E a0 11 ∧ w_X11_ofPerson E a0 p1 0 d (fun r_2 d_1 => K (if 0 < (p2 - r_2) then (p2 - r_2) else 0) d_1)
abbrev rm_X11_ageOf : Room := { frames := 1, cells := 0, slots := 0, locals := 40 }
set_option maxRecDepth 100000 in
set_option maxHeartbeats 4000000 in
theorem m_X11_ageOf (l : Launch) (D : va_G) (cs : Nat → ClassId) (E : En) (d : Dy) (sz : Nat) (a0 : Nat) (p1 : Int32) (p2 : Int32) (K : Int32 → Dy → Prop) : CI l yX11_ageOf (.code yX11_ageOf cX11_ageOf 3 (some .int) :: wsL_law) rm_X11_ageOf D cs E d sz [.ref a0, .int p1, .int p2] (w_X11_ageOf E a0 p1 p2 d K) K := by
  refine e_of (cc := cX11_ageOf) (maxL := 3) (ret := (some .int)) (own := RX11) (by decide) rfl rfl (Nat.le_of_ble_eq_true rfl) ?_
  intro p e s m below meth c S hr hlocks hsz H locs hw h ls hl
  have hl : lv_has ls 3 [(0, .ref a0), (1, .int p1), (2, .int p2)] := hl
  unfold w_X11_ageOf at h
  obtain ⟨ha0, h⟩ := h
  refine lv_iconst (v := 0) S.1 S.2.1 (dd_at ddX11_ageOf 0 rfl) (by decide) ?_
  refine lv_iload_n S.1 S.2.1 (dd_at ddX11_ageOf 1 rfl) rfl (lv_at hl 2 rfl) ?_
  refine lv_aload_n S.1 S.2.1 (dd_at ddX11_ageOf 2 rfl) rfl (lv_at hl 0 rfl) ?_
  refine lv_iload_n S.1 S.2.1 (dd_at ddX11_ageOf 3 rfl) rfl (lv_at hl 1 rfl) ?_
  refine lv_iconst (v := 0) S.1 S.2.1 (dd_at ddX11_ageOf 4 rfl) (by decide) ?_
  refine r_callI hw (r_runV (As := [.int p1, .int 0]) (rest := [.int p2, .int 0]) S hw (m_X11_ofPerson l D cs E d H.size a0 p1 0 _) (cwV 2 S.2.2.2.2 (gV wg848 wg849 wg850 wg5 wg851) rfl rfl rfl (by decide +kernel) ⟨Nat.le_of_ble_eq_true rfl, Nat.le_of_ble_eq_true rfl⟩) (ci := 11) rfl ha0 h rfl hl.1 rfl (Nat.le_of_ble_eq_true rfl) (dd_at ddX11_ageOf 5 rfl) ⟨Nat.le_of_ble_eq_true rfl, Nat.le_of_ble_eq_true rfl⟩) (fun r_2 d_1 H locs h hw => ?_)
  refine lv_isub S.1 S.2.1 (dd_at ddX11_ageOf 6 rfl) ?_
  refine va_mmax S.1 S.2.1 (by rw [hl.1]; exact S.2.2.1) S.2.2.2.1 (S.2.2.2.2 _ (List.mem_cons_of_mem _ wg847)) (S.2.2.2.2 _ (List.mem_cons_of_mem _ wg69)) (S.2.2.2.2 _ (List.mem_cons_of_mem _ wg70)) (S.2.2.2.2 _ (List.mem_cons_of_mem _ wg71)) (Nat.le_of_ble_eq_true rfl) (Nat.le_of_ble_eq_true rfl) (Nat.le_of_ble_eq_true rfl) (Nat.le_of_ble_eq_true rfl) (dd_at ddX11_ageOf 7 rfl) ?_
  exact e_I S hr hlocks hw h (dd_at ddX11_ageOf 8 rfl)

def w_X11_isChild (E : En) (a0 : Nat) (p1 : Int32) (p2 : Int32) (d : Dy) (K : Int32 → Dy → Prop) : Prop := okO E a0 11 ∧ ∃ b_1 : Nat, eR E a0 20 = some b_1 ∧ okA E b_1 15 ∧ vp_in ((12 * p1) + p2) (eN E b_1) ∧ (((gA d b_1 ((12 * p1) + p2).toNatClampNeg) = 0 → K 0 d) ∧ (¬ (gA d b_1 ((12 * p1) + p2).toNatClampNeg) = 0 → ∃ b_6 : Nat, eR E a0 18 = some b_6 ∧ okA E b_6 15 ∧ vp_in p2 (eN E b_6) ∧ (((gA d b_6 (p2).toNatClampNeg) = 0 → K 0 d) ∧ (¬ (gA d b_6 (p2).toNatClampNeg) = 0 → K 1 d))))
abbrev rm_X11_isChild : Room := { frames := 0, cells := 0, slots := 0, locals := 0 }
set_option maxRecDepth 100000 in
set_option maxHeartbeats 4000000 in
theorem m_X11_isChild (l : Launch) (D : va_G) (cs : Nat → ClassId) (E : En) (d : Dy) (sz : Nat) (a0 : Nat) (p1 : Int32) (p2 : Int32) (K : Int32 → Dy → Prop) : CI l yX11_isChild (.code yX11_isChild cX11_isChild 3 (some .boolean) :: wsL_law) rm_X11_isChild D cs E d sz [.ref a0, .int p1, .int p2] (w_X11_isChild E a0 p1 p2 d K) K := by
  refine e_of (cc := cX11_isChild) (maxL := 3) (ret := (some .boolean)) (own := RX11) (by decide) rfl rfl (Nat.le_of_ble_eq_true rfl) ?_
  intro p e s m below meth c S hr hlocks hsz H locs hw h ls hl
  have hl : lv_has ls 3 [(0, .ref a0), (1, .int p1), (2, .int p2)] := hl
  unfold w_X11_isChild at h
  obtain ⟨ha0, h⟩ := h
  refine lv_aload_n S.1 S.2.1 (dd_at ddX11_isChild 0 rfl) rfl (lv_at hl 0 rfl) ?_
  obtain ⟨b_1, hb_2, ho_3, h⟩ := h
  refine r_getR S hw 11 20 rfl inG11 (by decide) (List.mem_cons_of_mem _ wg162) (by decide) ha0 hb_2 (dd_at ddX11_isChild 1 rfl) ?_
  refine lv_bipush (v := 12) S.1 S.2.1 (dd_at ddX11_isChild 2 rfl) (by decide) ?_
  refine lv_iload_n S.1 S.2.1 (dd_at ddX11_isChild 3 rfl) rfl (lv_at hl 1 rfl) ?_
  refine lv_imul S.1 S.2.1 (dd_at ddX11_isChild 4 rfl) ?_
  refine lv_iload_n S.1 S.2.1 (dd_at ddX11_isChild 5 rfl) rfl (lv_at hl 2 rfl) ?_
  refine lv_iadd S.1 S.2.1 (dd_at ddX11_isChild 6 rfl) ?_
  obtain ⟨hx_4, h⟩ := h
  refine r_zald S hw ho_3 hx_4 (dd_at ddX11_isChild 7 rfl) ?_
  refine lv_if_eq (tgt := 27) S.1 S.2.1 (dd_at ddX11_isChild 8 rfl) (by decide) (fun hc_5 => ?_) (fun hc_5 => ?_)
  · have h := h.1 hc_5
    refine lv_iconst (v := 0) S.1 S.2.1 (dd_at ddX11_isChild 16 rfl) (by decide) ?_
    exact e_Z S hr hlocks hw (Or.inl rfl) h (dd_at ddX11_isChild 17 rfl)
  · have h := h.2 hc_5
    refine lv_aload_n S.1 S.2.1 (dd_at ddX11_isChild 9 rfl) rfl (lv_at hl 0 rfl) ?_
    obtain ⟨b_6, hb_7, ho_8, h⟩ := h
    refine r_getR S hw 11 18 rfl inG11 (by decide) (List.mem_cons_of_mem _ wg160) (by decide) ha0 hb_7 (dd_at ddX11_isChild 10 rfl) ?_
    refine lv_iload_n S.1 S.2.1 (dd_at ddX11_isChild 11 rfl) rfl (lv_at hl 2 rfl) ?_
    obtain ⟨hx_9, h⟩ := h
    refine r_zald S hw ho_8 hx_9 (dd_at ddX11_isChild 12 rfl) ?_
    refine lv_if_eq (tgt := 27) S.1 S.2.1 (dd_at ddX11_isChild 13 rfl) (by decide) (fun hc_10 => ?_) (fun hc_10 => ?_)
    · have h := h.1 hc_10
      refine lv_iconst (v := 0) S.1 S.2.1 (dd_at ddX11_isChild 16 rfl) (by decide) ?_
      exact e_Z S hr hlocks hw (Or.inl rfl) h (dd_at ddX11_isChild 17 rfl)
    · have h := h.2 hc_10
      refine lv_iconst (v := 1) S.1 S.2.1 (dd_at ddX11_isChild 14 rfl) (by decide) ?_
      refine lv_goto (tgt := 28) S.1 S.2.1 (dd_at ddX11_isChild 15 rfl) (by decide) ?_
      exact e_Z S hr hlocks hw (Or.inr rfl) h (dd_at ddX11_isChild 17 rfl)

def b_X11_childrenOf_4 (E : En) (a0 : Nat) (p1 : Int32) (K : Int32 → Dy → Prop) (k4 : Int32 → Int32 → Dy → Prop) (v2 : Int32) (v3 : Int32) (d : Dy) : Prop := w_X11_persons E a0 d (fun r_2 d_1 => ((r_2 ≤ v3 → K v2 d_1) ∧ (¬ r_2 ≤ v3 → w_X11_isChild E a0 p1 v3 d_1 (fun r_5 d_4 => ((r_5 = 0 → k4 (v2 + 0) (v3 + 1) d_4) ∧ (¬ r_5 = 0 → k4 (v2 + 1) (v3 + 1) d_4))))))
def l_X11_childrenOf_4 (E : En) (a0 : Nat) (p1 : Int32) (K : Int32 → Dy → Prop) : Nat → Int32 → Int32 → Dy → Prop
  | 0 => fun _ _ _ => False
  | n + 1 => b_X11_childrenOf_4 E a0 p1 K (l_X11_childrenOf_4 E a0 p1 K n)
def w_X11_childrenOf (E : En) (a0 : Nat) (p1 : Int32) (d : Dy) (K : Int32 → Dy → Prop) : Prop := okO E a0 11 ∧ (∃ n_7 : Nat, l_X11_childrenOf_4 E a0 p1 K n_7 0 0 d)
abbrev rm_X11_childrenOf : Room := { frames := 1, cells := 0, slots := 0, locals := 22 }
set_option maxRecDepth 100000 in
set_option maxHeartbeats 4000000 in
theorem m_X11_childrenOf (l : Launch) (D : va_G) (cs : Nat → ClassId) (E : En) (d : Dy) (sz : Nat) (a0 : Nat) (p1 : Int32) (K : Int32 → Dy → Prop) : CI l yX11_childrenOf (.code yX11_childrenOf cX11_childrenOf 4 (some .int) :: wsL_law) rm_X11_childrenOf D cs E d sz [.ref a0, .int p1] (w_X11_childrenOf E a0 p1 d K) K := by
  refine e_of (cc := cX11_childrenOf) (maxL := 4) (ret := (some .int)) (own := RX11) (by decide) rfl rfl (Nat.le_of_ble_eq_true rfl) ?_
  intro p e s m below meth c S hr hlocks hsz H locs hw h ls hl
  have hl : lv_has ls 4 [(0, .ref a0), (1, .int p1)] := hl
  unfold w_X11_childrenOf at h
  obtain ⟨ha0, h⟩ := h
  have tl4 : ∀ (n : Nat) (v2 : Int32) (v3 : Int32) (d : Dy) (H : Heap) (locs : List Loc) (ls : Array Slot), l_X11_childrenOf_4 E a0 p1 K n v2 v3 d → Wd D cs (AW E sz) s.heap s E d H locs → lv_has ls 4 [(0, .ref a0), (1, .int p1), (2, .int v2), (3, .int v3)] → W p l e rm_X11_childrenOf s m ([.ref a0, .int p1] : List Value).toArray below meth c H locs 0 0 (MQ below (va_Qi K (OutW D cs E (AW E sz)) (AW E sz)) ([.ref a0, .int p1] : List Value).toArray s rm_X11_childrenOf.cells rm_X11_childrenOf.slots (AW E sz)) (F0 m 4 ls []) := by
    intro n4
    induction n4 with
    | zero => intro v2 v3 d H locs ls h; exact absurd h id
    | succ n4 ih4 =>
      intro v2 v3 d H locs ls h hw hl
      have h : b_X11_childrenOf_4 E a0 p1 K (l_X11_childrenOf_4 E a0 p1 K n4) v2 v3 d := h
      unfold b_X11_childrenOf_4 at h
      refine lv_iload_n S.1 S.2.1 (dd_at ddX11_childrenOf 4 rfl) rfl (lv_at hl 3 rfl) ?_
      refine lv_aload_n S.1 S.2.1 (dd_at ddX11_childrenOf 5 rfl) rfl (lv_at hl 0 rfl) ?_
      refine r_callI hw (r_runV (As := []) (rest := [.int v3]) S hw (m_X11_persons l D cs E d H.size a0 _) (cwV 0 S.2.2.2.2 (gV wg558 wg559 wg560 wg5 wg561) rfl rfl rfl (by decide +kernel) ⟨Nat.le_of_ble_eq_true rfl, Nat.le_of_ble_eq_true rfl⟩) (ci := 11) rfl ha0 h rfl hl.1 rfl (Nat.le_of_ble_eq_true rfl) (dd_at ddX11_childrenOf 6 rfl) ⟨Nat.le_of_ble_eq_true rfl, Nat.le_of_ble_eq_true rfl⟩) (fun r_2 d_1 H locs h hw => ?_)
      refine lv_icmp_ge (tgt := 35) S.1 S.2.1 (dd_at ddX11_childrenOf 7 rfl) (by decide) (fun hc_3 => ?_) (fun hc_3 => ?_)
      · have h := h.1 hc_3
        refine lv_iload_n S.1 S.2.1 (dd_at ddX11_childrenOf 21 rfl) rfl (lv_at hl 2 rfl) ?_
        exact e_I S hr hlocks hw h (dd_at ddX11_childrenOf 22 rfl)
      · have h := h.2 hc_3
        refine lv_iload_n S.1 S.2.1 (dd_at ddX11_childrenOf 8 rfl) rfl (lv_at hl 2 rfl) ?_
        refine lv_aload_n S.1 S.2.1 (dd_at ddX11_childrenOf 9 rfl) rfl (lv_at hl 0 rfl) ?_
        refine lv_iload_n S.1 S.2.1 (dd_at ddX11_childrenOf 10 rfl) rfl (lv_at hl 1 rfl) ?_
        refine lv_iload_n S.1 S.2.1 (dd_at ddX11_childrenOf 11 rfl) rfl (lv_at hl 3 rfl) ?_
        refine r_callI hw (r_runV (As := [.int p1, .int v3]) (rest := [.int v2]) S hw (m_X11_isChild l D cs E d_1 H.size a0 p1 v3 _) (cwV 2 S.2.2.2.2 (gV wg856 wg857 wg858 wg5 wg859) rfl rfl rfl (by decide +kernel) ⟨Nat.le_of_ble_eq_true rfl, Nat.le_of_ble_eq_true rfl⟩) (ci := 11) rfl ha0 h rfl hl.1 rfl (Nat.le_of_ble_eq_true rfl) (dd_at ddX11_childrenOf 12 rfl) ⟨Nat.le_of_ble_eq_true rfl, Nat.le_of_ble_eq_true rfl⟩) (fun r_5 d_4 H locs h hw => ?_)
        refine lv_if_eq (tgt := 26) S.1 S.2.1 (dd_at ddX11_childrenOf 13 rfl) (by decide) (fun hc_6 => ?_) (fun hc_6 => ?_)
        · have h := h.1 hc_6
          refine lv_iconst (v := 0) S.1 S.2.1 (dd_at ddX11_childrenOf 16 rfl) (by decide) ?_
          refine lv_iadd S.1 S.2.1 (dd_at ddX11_childrenOf 17 rfl) ?_
          refine lv_istore_n (lv' := [(2, .int (v2 + 0)), (0, .ref a0), (1, .int p1), (3, .int v3)]) S.1 S.2.1 (dd_at ddX11_childrenOf 18 rfl) rfl hl (by decide) rfl (fun ls hl => ?_)
          refine lv_iinc (v := v3 + 1) (lv' := [(3, .int (v3 + 1)), (2, .int (v2 + 0)), (0, .ref a0), (1, .int p1)]) S.1 S.2.1 (dd_at ddX11_childrenOf 19 rfl) hl (k := 3) rfl rfl (by decide) rfl (fun ls hl => ?_)
          refine lv_goto (tgt := 4) S.1 S.2.1 (dd_at ddX11_childrenOf 20 rfl) (by decide) ?_
          exact ih4 (v2 + 0) (v3 + 1) d_4 H locs ls h hw (lv_sub hl [2, 3, 1, 0] rfl)
        · have h := h.2 hc_6
          refine lv_iconst (v := 1) S.1 S.2.1 (dd_at ddX11_childrenOf 14 rfl) (by decide) ?_
          refine lv_goto (tgt := 27) S.1 S.2.1 (dd_at ddX11_childrenOf 15 rfl) (by decide) ?_
          refine lv_iadd S.1 S.2.1 (dd_at ddX11_childrenOf 17 rfl) ?_
          refine lv_istore_n (lv' := [(2, .int (v2 + 1)), (0, .ref a0), (1, .int p1), (3, .int v3)]) S.1 S.2.1 (dd_at ddX11_childrenOf 18 rfl) rfl hl (by decide) rfl (fun ls hl => ?_)
          refine lv_iinc (v := v3 + 1) (lv' := [(3, .int (v3 + 1)), (2, .int (v2 + 1)), (0, .ref a0), (1, .int p1)]) S.1 S.2.1 (dd_at ddX11_childrenOf 19 rfl) hl (k := 3) rfl rfl (by decide) rfl (fun ls hl => ?_)
          refine lv_goto (tgt := 4) S.1 S.2.1 (dd_at ddX11_childrenOf 20 rfl) (by decide) ?_
          exact ih4 (v2 + 1) (v3 + 1) d_4 H locs ls h hw (lv_sub hl [2, 3, 1, 0] rfl)
  refine lv_iconst (v := 0) S.1 S.2.1 (dd_at ddX11_childrenOf 0 rfl) (by decide) ?_
  refine lv_istore_n (lv' := [(2, .int 0), (0, .ref a0), (1, .int p1)]) S.1 S.2.1 (dd_at ddX11_childrenOf 1 rfl) rfl hl (by decide) rfl (fun ls hl => ?_)
  refine lv_iconst (v := 0) S.1 S.2.1 (dd_at ddX11_childrenOf 2 rfl) (by decide) ?_
  refine lv_istore_n (lv' := [(3, .int 0), (2, .int 0), (0, .ref a0), (1, .int p1)]) S.1 S.2.1 (dd_at ddX11_childrenOf 3 rfl) rfl hl (by decide) rfl (fun ls hl => ?_)
  obtain ⟨n_7, h⟩ := h
  exact tl4 n_7 0 0 d H locs ls h hw (lv_sub hl [2, 3, 1, 0] rfl)

def w_X11_spouseOf (E : En) (a0 : Nat) (p1 : Int32) (d : Dy) (K : Int32 → Dy → Prop) : Prop := okO E a0 11 ∧ ∃ b_1 : Nat, eR E a0 19 = some b_1 ∧ okA E b_1 13 ∧ vp_in p1 (eN E b_1) ∧ (((gA d b_1 (p1).toNatClampNeg) < 0 → K (-1) d) ∧ (¬ (gA d b_1 (p1).toNatClampNeg) < 0 → ∃ b_6 : Nat, eR E a0 18 = some b_6 ∧ okA E b_6 15 ∧ ∃ b_9 : Nat, eR E a0 19 = some b_9 ∧ okA E b_9 13 ∧ vp_in p1 (eN E b_9) ∧ vp_in (gA d b_9 (p1).toNatClampNeg) (eN E b_6) ∧ (((gA d b_6 (gA d b_9 (p1).toNatClampNeg).toNatClampNeg) = 0 → K (-1) d) ∧ (¬ (gA d b_6 (gA d b_9 (p1).toNatClampNeg).toNatClampNeg) = 0 → ∃ b_15 : Nat, eR E a0 19 = some b_15 ∧ okA E b_15 13 ∧ vp_in p1 (eN E b_15) ∧ K (gA d b_15 (p1).toNatClampNeg) d))))
abbrev rm_X11_spouseOf : Room := { frames := 0, cells := 0, slots := 0, locals := 0 }
set_option maxRecDepth 100000 in
set_option maxHeartbeats 4000000 in
theorem m_X11_spouseOf (l : Launch) (D : va_G) (cs : Nat → ClassId) (E : En) (d : Dy) (sz : Nat) (a0 : Nat) (p1 : Int32) (K : Int32 → Dy → Prop) : CI l yX11_spouseOf (.code yX11_spouseOf cX11_spouseOf 2 (some .int) :: wsL_law) rm_X11_spouseOf D cs E d sz [.ref a0, .int p1] (w_X11_spouseOf E a0 p1 d K) K := by
  refine e_of (cc := cX11_spouseOf) (maxL := 2) (ret := (some .int)) (own := RX11) (by decide) rfl rfl (Nat.le_of_ble_eq_true rfl) ?_
  intro p e s m below meth c S hr hlocks hsz H locs hw h ls hl
  have hl : lv_has ls 2 [(0, .ref a0), (1, .int p1)] := hl
  unfold w_X11_spouseOf at h
  obtain ⟨ha0, h⟩ := h
  refine lv_aload_n S.1 S.2.1 (dd_at ddX11_spouseOf 0 rfl) rfl (lv_at hl 0 rfl) ?_
  obtain ⟨b_1, hb_2, ho_3, h⟩ := h
  refine r_getR S hw 11 19 rfl inG11 (by decide) (List.mem_cons_of_mem _ wg161) (by decide) ha0 hb_2 (dd_at ddX11_spouseOf 1 rfl) ?_
  refine lv_iload_n S.1 S.2.1 (dd_at ddX11_spouseOf 2 rfl) rfl (lv_at hl 1 rfl) ?_
  obtain ⟨hx_4, h⟩ := h
  refine r_iald S hw ho_3 hx_4 (dd_at ddX11_spouseOf 3 rfl) ?_
  refine lv_if_lt (tgt := 32) S.1 S.2.1 (dd_at ddX11_spouseOf 4 rfl) (by decide) (fun hc_5 => ?_) (fun hc_5 => ?_)
  · have h := h.1 hc_5
    refine lv_iconst (v := -1) S.1 S.2.1 (dd_at ddX11_spouseOf 18 rfl) (by decide) ?_
    exact e_I S hr hlocks hw h (dd_at ddX11_spouseOf 19 rfl)
  · have h := h.2 hc_5
    refine lv_aload_n S.1 S.2.1 (dd_at ddX11_spouseOf 5 rfl) rfl (lv_at hl 0 rfl) ?_
    obtain ⟨b_6, hb_7, ho_8, h⟩ := h
    refine r_getR S hw 11 18 rfl inG11 (by decide) (List.mem_cons_of_mem _ wg160) (by decide) ha0 hb_7 (dd_at ddX11_spouseOf 6 rfl) ?_
    refine lv_aload_n S.1 S.2.1 (dd_at ddX11_spouseOf 7 rfl) rfl (lv_at hl 0 rfl) ?_
    obtain ⟨b_9, hb_10, ho_11, h⟩ := h
    refine r_getR S hw 11 19 rfl inG11 (by decide) (List.mem_cons_of_mem _ wg161) (by decide) ha0 hb_10 (dd_at ddX11_spouseOf 8 rfl) ?_
    refine lv_iload_n S.1 S.2.1 (dd_at ddX11_spouseOf 9 rfl) rfl (lv_at hl 1 rfl) ?_
    obtain ⟨hx_12, h⟩ := h
    refine r_iald S hw ho_11 hx_12 (dd_at ddX11_spouseOf 10 rfl) ?_
    obtain ⟨hx_13, h⟩ := h
    refine r_zald S hw ho_8 hx_13 (dd_at ddX11_spouseOf 11 rfl) ?_
    refine lv_if_eq (tgt := 32) S.1 S.2.1 (dd_at ddX11_spouseOf 12 rfl) (by decide) (fun hc_14 => ?_) (fun hc_14 => ?_)
    · have h := h.1 hc_14
      refine lv_iconst (v := -1) S.1 S.2.1 (dd_at ddX11_spouseOf 18 rfl) (by decide) ?_
      exact e_I S hr hlocks hw h (dd_at ddX11_spouseOf 19 rfl)
    · have h := h.2 hc_14
      refine lv_aload_n S.1 S.2.1 (dd_at ddX11_spouseOf 13 rfl) rfl (lv_at hl 0 rfl) ?_
      obtain ⟨b_15, hb_16, ho_17, h⟩ := h
      refine r_getR S hw 11 19 rfl inG11 (by decide) (List.mem_cons_of_mem _ wg161) (by decide) ha0 hb_16 (dd_at ddX11_spouseOf 14 rfl) ?_
      refine lv_iload_n S.1 S.2.1 (dd_at ddX11_spouseOf 15 rfl) rfl (lv_at hl 1 rfl) ?_
      obtain ⟨hx_18, h⟩ := h
      refine r_iald S hw ho_17 hx_18 (dd_at ddX11_spouseOf 16 rfl) ?_
      refine lv_goto (tgt := 33) S.1 S.2.1 (dd_at ddX11_spouseOf 17 rfl) (by decide) ?_
      exact e_I S hr hlocks hw h (dd_at ddX11_spouseOf 19 rfl)

def w_X11_elder (E : En) (a0 : Nat) (p1 : Int32) (p2 : Int32) (d : Dy) (K : Int32 → Dy → Prop) : Prop := okO E a0 11 ∧ ((p1 < 0 → K p2 d) ∧ (¬ p1 < 0 → w_X11_ofPerson E a0 p2 0 d (fun r_3 d_2 => w_X11_ofPerson E a0 p1 0 d_2 (fun r_5 d_4 => ((r_5 ≤ r_3 → K p1 d_4) ∧ (¬ r_5 ≤ r_3 → K p2 d_4))))))
abbrev rm_X11_elder : Room := { frames := 1, cells := 0, slots := 0, locals := 22 }
set_option maxRecDepth 100000 in
set_option maxHeartbeats 4000000 in
theorem m_X11_elder (l : Launch) (D : va_G) (cs : Nat → ClassId) (E : En) (d : Dy) (sz : Nat) (a0 : Nat) (p1 : Int32) (p2 : Int32) (K : Int32 → Dy → Prop) : CI l yX11_elder (.code yX11_elder cX11_elder 3 (some .int) :: wsL_law) rm_X11_elder D cs E d sz [.ref a0, .int p1, .int p2] (w_X11_elder E a0 p1 p2 d K) K := by
  refine e_of (cc := cX11_elder) (maxL := 3) (ret := (some .int)) (own := RX11) (by decide) rfl rfl (Nat.le_of_ble_eq_true rfl) ?_
  intro p e s m below meth c S hr hlocks hsz H locs hw h ls hl
  have hl : lv_has ls 3 [(0, .ref a0), (1, .int p1), (2, .int p2)] := hl
  unfold w_X11_elder at h
  obtain ⟨ha0, h⟩ := h
  refine lv_iload_n S.1 S.2.1 (dd_at ddX11_elder 0 rfl) rfl (lv_at hl 1 rfl) ?_
  refine lv_if_lt (tgt := 19) S.1 S.2.1 (dd_at ddX11_elder 1 rfl) (by decide) (fun hc_1 => ?_) (fun hc_1 => ?_)
  · have h := h.1 hc_1
    refine lv_iload_n S.1 S.2.1 (dd_at ddX11_elder 11 rfl) rfl (lv_at hl 2 rfl) ?_
    refine lv_goto (tgt := 24) S.1 S.2.1 (dd_at ddX11_elder 12 rfl) (by decide) ?_
    exact e_I S hr hlocks hw h (dd_at ddX11_elder 14 rfl)
  · have h := h.2 hc_1
    refine lv_aload_n S.1 S.2.1 (dd_at ddX11_elder 2 rfl) rfl (lv_at hl 0 rfl) ?_
    refine lv_iload_n S.1 S.2.1 (dd_at ddX11_elder 3 rfl) rfl (lv_at hl 2 rfl) ?_
    refine lv_iconst (v := 0) S.1 S.2.1 (dd_at ddX11_elder 4 rfl) (by decide) ?_
    refine r_callI hw (r_runV (As := [.int p2, .int 0]) (rest := []) S hw (m_X11_ofPerson l D cs E d H.size a0 p2 0 _) (cwV 2 S.2.2.2.2 (gV wg848 wg849 wg850 wg5 wg851) rfl rfl rfl (by decide +kernel) ⟨Nat.le_of_ble_eq_true rfl, Nat.le_of_ble_eq_true rfl⟩) (ci := 11) rfl ha0 h rfl hl.1 rfl (Nat.le_of_ble_eq_true rfl) (dd_at ddX11_elder 5 rfl) ⟨Nat.le_of_ble_eq_true rfl, Nat.le_of_ble_eq_true rfl⟩) (fun r_3 d_2 H locs h hw => ?_)
    refine lv_aload_n S.1 S.2.1 (dd_at ddX11_elder 6 rfl) rfl (lv_at hl 0 rfl) ?_
    refine lv_iload_n S.1 S.2.1 (dd_at ddX11_elder 7 rfl) rfl (lv_at hl 1 rfl) ?_
    refine lv_iconst (v := 0) S.1 S.2.1 (dd_at ddX11_elder 8 rfl) (by decide) ?_
    refine r_callI hw (r_runV (As := [.int p1, .int 0]) (rest := [.int r_3]) S hw (m_X11_ofPerson l D cs E d_2 H.size a0 p1 0 _) (cwV 2 S.2.2.2.2 (gV wg848 wg849 wg850 wg5 wg851) rfl rfl rfl (by decide +kernel) ⟨Nat.le_of_ble_eq_true rfl, Nat.le_of_ble_eq_true rfl⟩) (ci := 11) rfl ha0 h rfl hl.1 rfl (Nat.le_of_ble_eq_true rfl) (dd_at ddX11_elder 9 rfl) ⟨Nat.le_of_ble_eq_true rfl, Nat.le_of_ble_eq_true rfl⟩) (fun r_5 d_4 H locs h hw => ?_)
    refine lv_icmp_ge (tgt := 23) S.1 S.2.1 (dd_at ddX11_elder 10 rfl) (by decide) (fun hc_6 => ?_) (fun hc_6 => ?_)
    · have h := h.1 hc_6
      refine lv_iload_n S.1 S.2.1 (dd_at ddX11_elder 13 rfl) rfl (lv_at hl 1 rfl) ?_
      exact e_I S hr hlocks hw h (dd_at ddX11_elder 14 rfl)
    · have h := h.2 hc_6
      refine lv_iload_n S.1 S.2.1 (dd_at ddX11_elder 11 rfl) rfl (lv_at hl 2 rfl) ?_
      refine lv_goto (tgt := 24) S.1 S.2.1 (dd_at ddX11_elder 12 rfl) (by decide) ?_
      exact e_I S hr hlocks hw h (dd_at ddX11_elder 14 rfl)

def b_X11_eldestOf_4 (E : En) (a0 : Nat) (p1 : Int32) (K : Int32 → Dy → Prop) (k4 : Int32 → Int32 → Dy → Prop) (v2 : Int32) (v3 : Int32) (d : Dy) : Prop := w_X11_persons E a0 d (fun r_2 d_1 => ((r_2 ≤ v3 → K v2 d_1) ∧ (¬ r_2 ≤ v3 → w_X11_isChild E a0 p1 v3 d_1 (fun r_5 d_4 => ((r_5 = 0 → k4 v2 (v3 + 1) d_4) ∧ (¬ r_5 = 0 → w_X11_elder E a0 v2 v3 d_4 (fun r_8 d_7 => k4 r_8 (v3 + 1) d_7)))))))
def l_X11_eldestOf_4 (E : En) (a0 : Nat) (p1 : Int32) (K : Int32 → Dy → Prop) : Nat → Int32 → Int32 → Dy → Prop
  | 0 => fun _ _ _ => False
  | n + 1 => b_X11_eldestOf_4 E a0 p1 K (l_X11_eldestOf_4 E a0 p1 K n)
def w_X11_eldestOf (E : En) (a0 : Nat) (p1 : Int32) (d : Dy) (K : Int32 → Dy → Prop) : Prop := okO E a0 11 ∧ (∃ n_9 : Nat, l_X11_eldestOf_4 E a0 p1 K n_9 (-1) 0 d)
abbrev rm_X11_eldestOf : Room := { frames := 2, cells := 0, slots := 0, locals := 44 }
set_option maxRecDepth 100000 in
set_option maxHeartbeats 4000000 in
theorem m_X11_eldestOf (l : Launch) (D : va_G) (cs : Nat → ClassId) (E : En) (d : Dy) (sz : Nat) (a0 : Nat) (p1 : Int32) (K : Int32 → Dy → Prop) : CI l yX11_eldestOf (.code yX11_eldestOf cX11_eldestOf 4 (some .int) :: wsL_law) rm_X11_eldestOf D cs E d sz [.ref a0, .int p1] (w_X11_eldestOf E a0 p1 d K) K := by
  refine e_of (cc := cX11_eldestOf) (maxL := 4) (ret := (some .int)) (own := RX11) (by decide) rfl rfl (Nat.le_of_ble_eq_true rfl) ?_
  intro p e s m below meth c S hr hlocks hsz H locs hw h ls hl
  have hl : lv_has ls 4 [(0, .ref a0), (1, .int p1)] := hl
  unfold w_X11_eldestOf at h
  obtain ⟨ha0, h⟩ := h
  have tl4 : ∀ (n : Nat) (v2 : Int32) (v3 : Int32) (d : Dy) (H : Heap) (locs : List Loc) (ls : Array Slot), l_X11_eldestOf_4 E a0 p1 K n v2 v3 d → Wd D cs (AW E sz) s.heap s E d H locs → lv_has ls 4 [(0, .ref a0), (1, .int p1), (2, .int v2), (3, .int v3)] → W p l e rm_X11_eldestOf s m ([.ref a0, .int p1] : List Value).toArray below meth c H locs 0 0 (MQ below (va_Qi K (OutW D cs E (AW E sz)) (AW E sz)) ([.ref a0, .int p1] : List Value).toArray s rm_X11_eldestOf.cells rm_X11_eldestOf.slots (AW E sz)) (F0 m 4 ls []) := by
    intro n4
    induction n4 with
    | zero => intro v2 v3 d H locs ls h; exact absurd h id
    | succ n4 ih4 =>
      intro v2 v3 d H locs ls h hw hl
      have h : b_X11_eldestOf_4 E a0 p1 K (l_X11_eldestOf_4 E a0 p1 K n4) v2 v3 d := h
      unfold b_X11_eldestOf_4 at h
      refine lv_iload_n S.1 S.2.1 (dd_at ddX11_eldestOf 4 rfl) rfl (lv_at hl 3 rfl) ?_
      refine lv_aload_n S.1 S.2.1 (dd_at ddX11_eldestOf 5 rfl) rfl (lv_at hl 0 rfl) ?_
      refine r_callI hw (r_runV (As := []) (rest := [.int v3]) S hw (m_X11_persons l D cs E d H.size a0 _) (cwV 0 S.2.2.2.2 (gV wg558 wg559 wg560 wg5 wg561) rfl rfl rfl (by decide +kernel) ⟨Nat.le_of_ble_eq_true rfl, Nat.le_of_ble_eq_true rfl⟩) (ci := 11) rfl ha0 h rfl hl.1 rfl (Nat.le_of_ble_eq_true rfl) (dd_at ddX11_eldestOf 6 rfl) ⟨Nat.le_of_ble_eq_true rfl, Nat.le_of_ble_eq_true rfl⟩) (fun r_2 d_1 H locs h hw => ?_)
      refine lv_icmp_ge (tgt := 34) S.1 S.2.1 (dd_at ddX11_eldestOf 7 rfl) (by decide) (fun hc_3 => ?_) (fun hc_3 => ?_)
      · have h := h.1 hc_3
        refine lv_iload_n S.1 S.2.1 (dd_at ddX11_eldestOf 20 rfl) rfl (lv_at hl 2 rfl) ?_
        exact e_I S hr hlocks hw h (dd_at ddX11_eldestOf 21 rfl)
      · have h := h.2 hc_3
        refine lv_aload_n S.1 S.2.1 (dd_at ddX11_eldestOf 8 rfl) rfl (lv_at hl 0 rfl) ?_
        refine lv_iload_n S.1 S.2.1 (dd_at ddX11_eldestOf 9 rfl) rfl (lv_at hl 1 rfl) ?_
        refine lv_iload_n S.1 S.2.1 (dd_at ddX11_eldestOf 10 rfl) rfl (lv_at hl 3 rfl) ?_
        refine r_callI hw (r_runV (As := [.int p1, .int v3]) (rest := []) S hw (m_X11_isChild l D cs E d_1 H.size a0 p1 v3 _) (cwV 2 S.2.2.2.2 (gV wg856 wg857 wg858 wg5 wg859) rfl rfl rfl (by decide +kernel) ⟨Nat.le_of_ble_eq_true rfl, Nat.le_of_ble_eq_true rfl⟩) (ci := 11) rfl ha0 h rfl hl.1 rfl (Nat.le_of_ble_eq_true rfl) (dd_at ddX11_eldestOf 11 rfl) ⟨Nat.le_of_ble_eq_true rfl, Nat.le_of_ble_eq_true rfl⟩) (fun r_5 d_4 H locs h hw => ?_)
        refine lv_if_eq (tgt := 28) S.1 S.2.1 (dd_at ddX11_eldestOf 12 rfl) (by decide) (fun hc_6 => ?_) (fun hc_6 => ?_)
        · have h := h.1 hc_6
          refine lv_iinc (v := v3 + 1) (lv' := [(3, .int (v3 + 1)), (0, .ref a0), (1, .int p1), (2, .int v2)]) S.1 S.2.1 (dd_at ddX11_eldestOf 18 rfl) hl (k := 3) rfl rfl (by decide) rfl (fun ls hl => ?_)
          refine lv_goto (tgt := 4) S.1 S.2.1 (dd_at ddX11_eldestOf 19 rfl) (by decide) ?_
          exact ih4 v2 (v3 + 1) d_4 H locs ls h hw (lv_sub hl [1, 2, 3, 0] rfl)
        · have h := h.2 hc_6
          refine lv_aload_n S.1 S.2.1 (dd_at ddX11_eldestOf 13 rfl) rfl (lv_at hl 0 rfl) ?_
          refine lv_iload_n S.1 S.2.1 (dd_at ddX11_eldestOf 14 rfl) rfl (lv_at hl 2 rfl) ?_
          refine lv_iload_n S.1 S.2.1 (dd_at ddX11_eldestOf 15 rfl) rfl (lv_at hl 3 rfl) ?_
          refine r_callI hw (r_runV (As := [.int v2, .int v3]) (rest := []) S hw (m_X11_elder l D cs E d_4 H.size a0 v2 v3 _) (cwV 2 S.2.2.2.2 (gV wg872 wg873 wg874 wg5 wg875) rfl rfl rfl (by decide +kernel) ⟨Nat.le_of_ble_eq_true rfl, Nat.le_of_ble_eq_true rfl⟩) (ci := 11) rfl ha0 h rfl hl.1 rfl (Nat.le_of_ble_eq_true rfl) (dd_at ddX11_eldestOf 16 rfl) ⟨Nat.le_of_ble_eq_true rfl, Nat.le_of_ble_eq_true rfl⟩) (fun r_8 d_7 H locs h hw => ?_)
          refine lv_istore_n (lv' := [(2, .int r_8), (0, .ref a0), (1, .int p1), (3, .int v3)]) S.1 S.2.1 (dd_at ddX11_eldestOf 17 rfl) rfl hl (by decide) rfl (fun ls hl => ?_)
          refine lv_iinc (v := v3 + 1) (lv' := [(3, .int (v3 + 1)), (2, .int r_8), (0, .ref a0), (1, .int p1)]) S.1 S.2.1 (dd_at ddX11_eldestOf 18 rfl) hl (k := 3) rfl rfl (by decide) rfl (fun ls hl => ?_)
          refine lv_goto (tgt := 4) S.1 S.2.1 (dd_at ddX11_eldestOf 19 rfl) (by decide) ?_
          exact ih4 r_8 (v3 + 1) d_7 H locs ls h hw (lv_sub hl [2, 3, 1, 0] rfl)
  refine lv_iconst (v := -1) S.1 S.2.1 (dd_at ddX11_eldestOf 0 rfl) (by decide) ?_
  refine lv_istore_n (lv' := [(2, .int (-1)), (0, .ref a0), (1, .int p1)]) S.1 S.2.1 (dd_at ddX11_eldestOf 1 rfl) rfl hl (by decide) rfl (fun ls hl => ?_)
  refine lv_iconst (v := 0) S.1 S.2.1 (dd_at ddX11_eldestOf 2 rfl) (by decide) ?_
  refine lv_istore_n (lv' := [(3, .int 0), (2, .int (-1)), (0, .ref a0), (1, .int p1)]) S.1 S.2.1 (dd_at ddX11_eldestOf 3 rfl) rfl hl (by decide) rfl (fun ls hl => ?_)
  obtain ⟨n_9, h⟩ := h
  exact tl4 n_9 (-1) 0 d H locs ls h hw (lv_sub hl [2, 3, 1, 0] rfl)

def b_X11_parentOf_2 (E : En) (a0 : Nat) (p1 : Int32) (K : Int32 → Dy → Prop) (k2 : Int32 → Dy → Prop) (v2 : Int32) (d : Dy) : Prop := w_X11_persons E a0 d (fun r_2 d_1 => ((r_2 ≤ v2 → K (-1) d_1) ∧ (¬ r_2 ≤ v2 → ∃ b_4 : Nat, eR E a0 20 = some b_4 ∧ okA E b_4 15 ∧ vp_in ((12 * v2) + p1) (eN E b_4) ∧ (((gA d_1 b_4 ((12 * v2) + p1).toNatClampNeg) = 0 → k2 (v2 + 1) d_1) ∧ (¬ (gA d_1 b_4 ((12 * v2) + p1).toNatClampNeg) = 0 → ∃ b_9 : Nat, eR E a0 18 = some b_9 ∧ okA E b_9 15 ∧ vp_in v2 (eN E b_9) ∧ (((gA d_1 b_9 (v2).toNatClampNeg) = 0 → k2 (v2 + 1) d_1) ∧ (¬ (gA d_1 b_9 (v2).toNatClampNeg) = 0 → K v2 d_1)))))))
def l_X11_parentOf_2 (E : En) (a0 : Nat) (p1 : Int32) (K : Int32 → Dy → Prop) : Nat → Int32 → Dy → Prop
  | 0 => fun _ _ => False
  | n + 1 => b_X11_parentOf_2 E a0 p1 K (l_X11_parentOf_2 E a0 p1 K n)
def w_X11_parentOf (E : En) (a0 : Nat) (p1 : Int32) (d : Dy) (K : Int32 → Dy → Prop) : Prop := okO E a0 11 ∧ (∃ n_14 : Nat, l_X11_parentOf_2 E a0 p1 K n_14 0 d)
abbrev rm_X11_parentOf : Room := { frames := 1, cells := 0, slots := 0, locals := 20 }
set_option maxRecDepth 100000 in
set_option maxHeartbeats 4000000 in
theorem m_X11_parentOf (l : Launch) (D : va_G) (cs : Nat → ClassId) (E : En) (d : Dy) (sz : Nat) (a0 : Nat) (p1 : Int32) (K : Int32 → Dy → Prop) : CI l yX11_parentOf (.code yX11_parentOf cX11_parentOf 3 (some .int) :: wsL_law) rm_X11_parentOf D cs E d sz [.ref a0, .int p1] (w_X11_parentOf E a0 p1 d K) K := by
  refine e_of (cc := cX11_parentOf) (maxL := 3) (ret := (some .int)) (own := RX11) (by decide) rfl rfl (Nat.le_of_ble_eq_true rfl) ?_
  intro p e s m below meth c S hr hlocks hsz H locs hw h ls hl
  have hl : lv_has ls 3 [(0, .ref a0), (1, .int p1)] := hl
  unfold w_X11_parentOf at h
  obtain ⟨ha0, h⟩ := h
  have tl2 : ∀ (n : Nat) (v2 : Int32) (d : Dy) (H : Heap) (locs : List Loc) (ls : Array Slot), l_X11_parentOf_2 E a0 p1 K n v2 d → Wd D cs (AW E sz) s.heap s E d H locs → lv_has ls 3 [(0, .ref a0), (1, .int p1), (2, .int v2)] → W p l e rm_X11_parentOf s m ([.ref a0, .int p1] : List Value).toArray below meth c H locs 0 0 (MQ below (va_Qi K (OutW D cs E (AW E sz)) (AW E sz)) ([.ref a0, .int p1] : List Value).toArray s rm_X11_parentOf.cells rm_X11_parentOf.slots (AW E sz)) (F0 m 2 ls []) := by
    intro n2
    induction n2 with
    | zero => intro v2 d H locs ls h; exact absurd h id
    | succ n2 ih2 =>
      intro v2 d H locs ls h hw hl
      have h : b_X11_parentOf_2 E a0 p1 K (l_X11_parentOf_2 E a0 p1 K n2) v2 d := h
      unfold b_X11_parentOf_2 at h
      refine lv_iload_n S.1 S.2.1 (dd_at ddX11_parentOf 2 rfl) rfl (lv_at hl 2 rfl) ?_
      refine lv_aload_n S.1 S.2.1 (dd_at ddX11_parentOf 3 rfl) rfl (lv_at hl 0 rfl) ?_
      refine r_callI hw (r_runV (As := []) (rest := [.int v2]) S hw (m_X11_persons l D cs E d H.size a0 _) (cwV 0 S.2.2.2.2 (gV wg558 wg559 wg560 wg5 wg561) rfl rfl rfl (by decide +kernel) ⟨Nat.le_of_ble_eq_true rfl, Nat.le_of_ble_eq_true rfl⟩) (ci := 11) rfl ha0 h rfl hl.1 rfl (Nat.le_of_ble_eq_true rfl) (dd_at ddX11_parentOf 4 rfl) ⟨Nat.le_of_ble_eq_true rfl, Nat.le_of_ble_eq_true rfl⟩) (fun r_2 d_1 H locs h hw => ?_)
      refine lv_icmp_ge (tgt := 41) S.1 S.2.1 (dd_at ddX11_parentOf 5 rfl) (by decide) (fun hc_3 => ?_) (fun hc_3 => ?_)
      · have h := h.1 hc_3
        refine lv_iconst (v := -1) S.1 S.2.1 (dd_at ddX11_parentOf 24 rfl) (by decide) ?_
        exact e_I S hr hlocks hw h (dd_at ddX11_parentOf 25 rfl)
      · have h := h.2 hc_3
        refine lv_aload_n S.1 S.2.1 (dd_at ddX11_parentOf 6 rfl) rfl (lv_at hl 0 rfl) ?_
        obtain ⟨b_4, hb_5, ho_6, h⟩ := h
        refine r_getR S hw 11 20 rfl inG11 (by decide) (List.mem_cons_of_mem _ wg162) (by decide) ha0 hb_5 (dd_at ddX11_parentOf 7 rfl) ?_
        refine lv_bipush (v := 12) S.1 S.2.1 (dd_at ddX11_parentOf 8 rfl) (by decide) ?_
        refine lv_iload_n S.1 S.2.1 (dd_at ddX11_parentOf 9 rfl) rfl (lv_at hl 2 rfl) ?_
        refine lv_imul S.1 S.2.1 (dd_at ddX11_parentOf 10 rfl) ?_
        refine lv_iload_n S.1 S.2.1 (dd_at ddX11_parentOf 11 rfl) rfl (lv_at hl 1 rfl) ?_
        refine lv_iadd S.1 S.2.1 (dd_at ddX11_parentOf 12 rfl) ?_
        obtain ⟨hx_7, h⟩ := h
        refine r_zald S hw ho_6 hx_7 (dd_at ddX11_parentOf 13 rfl) ?_
        refine lv_if_eq (tgt := 35) S.1 S.2.1 (dd_at ddX11_parentOf 14 rfl) (by decide) (fun hc_8 => ?_) (fun hc_8 => ?_)
        · have h := h.1 hc_8
          refine lv_iinc (v := v2 + 1) (lv' := [(2, .int (v2 + 1)), (0, .ref a0), (1, .int p1)]) S.1 S.2.1 (dd_at ddX11_parentOf 22 rfl) hl (k := 2) rfl rfl (by decide) rfl (fun ls hl => ?_)
          refine lv_goto (tgt := 2) S.1 S.2.1 (dd_at ddX11_parentOf 23 rfl) (by decide) ?_
          exact ih2 (v2 + 1) d_1 H locs ls h hw (lv_sub hl [1, 2, 0] rfl)
        · have h := h.2 hc_8
          refine lv_aload_n S.1 S.2.1 (dd_at ddX11_parentOf 15 rfl) rfl (lv_at hl 0 rfl) ?_
          obtain ⟨b_9, hb_10, ho_11, h⟩ := h
          refine r_getR S hw 11 18 rfl inG11 (by decide) (List.mem_cons_of_mem _ wg160) (by decide) ha0 hb_10 (dd_at ddX11_parentOf 16 rfl) ?_
          refine lv_iload_n S.1 S.2.1 (dd_at ddX11_parentOf 17 rfl) rfl (lv_at hl 2 rfl) ?_
          obtain ⟨hx_12, h⟩ := h
          refine r_zald S hw ho_11 hx_12 (dd_at ddX11_parentOf 18 rfl) ?_
          refine lv_if_eq (tgt := 35) S.1 S.2.1 (dd_at ddX11_parentOf 19 rfl) (by decide) (fun hc_13 => ?_) (fun hc_13 => ?_)
          · have h := h.1 hc_13
            refine lv_iinc (v := v2 + 1) (lv' := [(2, .int (v2 + 1)), (0, .ref a0), (1, .int p1)]) S.1 S.2.1 (dd_at ddX11_parentOf 22 rfl) hl (k := 2) rfl rfl (by decide) rfl (fun ls hl => ?_)
            refine lv_goto (tgt := 2) S.1 S.2.1 (dd_at ddX11_parentOf 23 rfl) (by decide) ?_
            exact ih2 (v2 + 1) d_1 H locs ls h hw (lv_sub hl [1, 2, 0] rfl)
          · have h := h.2 hc_13
            refine lv_iload_n S.1 S.2.1 (dd_at ddX11_parentOf 20 rfl) rfl (lv_at hl 2 rfl) ?_
            exact e_I S hr hlocks hw h (dd_at ddX11_parentOf 21 rfl)
  refine lv_iconst (v := 0) S.1 S.2.1 (dd_at ddX11_parentOf 0 rfl) (by decide) ?_
  refine lv_istore_n (lv' := [(2, .int 0), (0, .ref a0), (1, .int p1)]) S.1 S.2.1 (dd_at ddX11_parentOf 1 rfl) rfl hl (by decide) rfl (fun ls hl => ?_)
  obtain ⟨n_14, h⟩ := h
  exact tl2 n_14 0 d H locs ls h hw (lv_sub hl [1, 2, 0] rfl)

def b_X11_areOfOne_5 (E : En) (a0 : Nat) (p1 : Int32) (p2 : Int32) (K : Int32 → Dy → Prop) (k5 : Int32 → Int32 → Dy → Prop) (v3 : Int32) (v4 : Int32) (d : Dy) : Prop := w_X11_persons E a0 d (fun r_2 d_1 => ((r_2 ≤ v4 → ((v3 = 0 → K 0 d_1) ∧ (¬ v3 = 0 → ((p1 = p2 → K 0 d_1) ∧ (¬ p1 = p2 → K 1 d_1))))) ∧ (¬ r_2 ≤ v4 → ((¬ v3 = 0 → k5 1 (v4 + 1) d_1) ∧ (v3 = 0 → ∃ b_7 : Nat, eR E a0 20 = some b_7 ∧ okA E b_7 15 ∧ vp_in ((12 * v4) + p1) (eN E b_7) ∧ (((gA d_1 b_7 ((12 * v4) + p1).toNatClampNeg) = 0 → k5 0 (v4 + 1) d_1) ∧ (¬ (gA d_1 b_7 ((12 * v4) + p1).toNatClampNeg) = 0 → ∃ b_12 : Nat, eR E a0 20 = some b_12 ∧ okA E b_12 15 ∧ vp_in ((12 * v4) + p2) (eN E b_12) ∧ (((gA d_1 b_12 ((12 * v4) + p2).toNatClampNeg) = 0 → k5 0 (v4 + 1) d_1) ∧ (¬ (gA d_1 b_12 ((12 * v4) + p2).toNatClampNeg) = 0 → k5 1 (v4 + 1) d_1)))))))))
def l_X11_areOfOne_5 (E : En) (a0 : Nat) (p1 : Int32) (p2 : Int32) (K : Int32 → Dy → Prop) : Nat → Int32 → Int32 → Dy → Prop
  | 0 => fun _ _ _ => False
  | n + 1 => b_X11_areOfOne_5 E a0 p1 p2 K (l_X11_areOfOne_5 E a0 p1 p2 K n)
def w_X11_areOfOne (E : En) (a0 : Nat) (p1 : Int32) (p2 : Int32) (d : Dy) (K : Int32 → Dy → Prop) : Prop := okO E a0 11 ∧ (∃ n_17 : Nat, l_X11_areOfOne_5 E a0 p1 p2 K n_17 0 0 d)
abbrev rm_X11_areOfOne : Room := { frames := 1, cells := 0, slots := 0, locals := 20 }
set_option maxRecDepth 100000 in
set_option maxHeartbeats 4000000 in
theorem m_X11_areOfOne (l : Launch) (D : va_G) (cs : Nat → ClassId) (E : En) (d : Dy) (sz : Nat) (a0 : Nat) (p1 : Int32) (p2 : Int32) (K : Int32 → Dy → Prop) : CI l yX11_areOfOne (.code yX11_areOfOne cX11_areOfOne 5 (some .boolean) :: wsL_law) rm_X11_areOfOne D cs E d sz [.ref a0, .int p1, .int p2] (w_X11_areOfOne E a0 p1 p2 d K) K := by
  refine e_of (cc := cX11_areOfOne) (maxL := 5) (ret := (some .boolean)) (own := RX11) (by decide) rfl rfl (Nat.le_of_ble_eq_true rfl) ?_
  intro p e s m below meth c S hr hlocks hsz H locs hw h ls hl
  have hl : lv_has ls 5 [(0, .ref a0), (1, .int p1), (2, .int p2)] := hl
  unfold w_X11_areOfOne at h
  obtain ⟨ha0, h⟩ := h
  have tl5 : ∀ (n : Nat) (v3 : Int32) (v4 : Int32) (d : Dy) (H : Heap) (locs : List Loc) (ls : Array Slot), l_X11_areOfOne_5 E a0 p1 p2 K n v3 v4 d → Wd D cs (AW E sz) s.heap s E d H locs → lv_has ls 5 [(0, .ref a0), (1, .int p1), (2, .int p2), (3, .int v3), (4, .int v4)] → W p l e rm_X11_areOfOne s m ([.ref a0, .int p1, .int p2] : List Value).toArray below meth c H locs 0 0 (MQ below (va_Qi K (OutW D cs E (AW E sz)) (AW E sz)) ([.ref a0, .int p1, .int p2] : List Value).toArray s rm_X11_areOfOne.cells rm_X11_areOfOne.slots (AW E sz)) (F0 m 5 ls []) := by
    intro n5
    induction n5 with
    | zero => intro v3 v4 d H locs ls h; exact absurd h id
    | succ n5 ih5 =>
      intro v3 v4 d H locs ls h hw hl
      have h : b_X11_areOfOne_5 E a0 p1 p2 K (l_X11_areOfOne_5 E a0 p1 p2 K n5) v3 v4 d := h
      unfold b_X11_areOfOne_5 at h
      refine lv_iload S.1 S.2.1 (dd_at ddX11_areOfOne 4 rfl) (lv_at hl 4 rfl) ?_
      refine lv_aload_n S.1 S.2.1 (dd_at ddX11_areOfOne 5 rfl) rfl (lv_at hl 0 rfl) ?_
      refine r_callI hw (r_runV (As := []) (rest := [.int v4]) S hw (m_X11_persons l D cs E d H.size a0 _) (cwV 0 S.2.2.2.2 (gV wg558 wg559 wg560 wg5 wg561) rfl rfl rfl (by decide +kernel) ⟨Nat.le_of_ble_eq_true rfl, Nat.le_of_ble_eq_true rfl⟩) (ci := 11) rfl ha0 h rfl hl.1 rfl (Nat.le_of_ble_eq_true rfl) (dd_at ddX11_areOfOne 6 rfl) ⟨Nat.le_of_ble_eq_true rfl, Nat.le_of_ble_eq_true rfl⟩) (fun r_2 d_1 H locs h hw => ?_)
      refine lv_icmp_ge (tgt := 60) S.1 S.2.1 (dd_at ddX11_areOfOne 7 rfl) (by decide) (fun hc_3 => ?_) (fun hc_3 => ?_)
      · have h := h.1 hc_3
        refine lv_iload_n S.1 S.2.1 (dd_at ddX11_areOfOne 34 rfl) rfl (lv_at hl 3 rfl) ?_
        refine lv_if_eq (tgt := 73) S.1 S.2.1 (dd_at ddX11_areOfOne 35 rfl) (by decide) (fun hc_4 => ?_) (fun hc_4 => ?_)
        · have h := h.1 hc_4
          refine lv_iconst (v := 0) S.1 S.2.1 (dd_at ddX11_areOfOne 41 rfl) (by decide) ?_
          exact e_Z S hr hlocks hw (Or.inl rfl) h (dd_at ddX11_areOfOne 42 rfl)
        · have h := h.2 hc_4
          refine lv_iload_n S.1 S.2.1 (dd_at ddX11_areOfOne 36 rfl) rfl (lv_at hl 1 rfl) ?_
          refine lv_iload_n S.1 S.2.1 (dd_at ddX11_areOfOne 37 rfl) rfl (lv_at hl 2 rfl) ?_
          refine lv_icmp_eq (tgt := 73) S.1 S.2.1 (dd_at ddX11_areOfOne 38 rfl) (by decide) (fun hc_5 => ?_) (fun hc_5 => ?_)
          · have h := h.1 hc_5
            refine lv_iconst (v := 0) S.1 S.2.1 (dd_at ddX11_areOfOne 41 rfl) (by decide) ?_
            exact e_Z S hr hlocks hw (Or.inl rfl) h (dd_at ddX11_areOfOne 42 rfl)
          · have h := h.2 hc_5
            refine lv_iconst (v := 1) S.1 S.2.1 (dd_at ddX11_areOfOne 39 rfl) (by decide) ?_
            refine lv_goto (tgt := 74) S.1 S.2.1 (dd_at ddX11_areOfOne 40 rfl) (by decide) ?_
            exact e_Z S hr hlocks hw (Or.inr rfl) h (dd_at ddX11_areOfOne 42 rfl)
      · have h := h.2 hc_3
        refine lv_iload_n S.1 S.2.1 (dd_at ddX11_areOfOne 8 rfl) rfl (lv_at hl 3 rfl) ?_
        refine lv_if_ne (tgt := 48) S.1 S.2.1 (dd_at ddX11_areOfOne 9 rfl) (by decide) (fun hc_6 => ?_) (fun hc_6 => ?_)
        · have h := h.1 hc_6
          refine lv_iconst (v := 1) S.1 S.2.1 (dd_at ddX11_areOfOne 28 rfl) (by decide) ?_
          refine lv_goto (tgt := 53) S.1 S.2.1 (dd_at ddX11_areOfOne 29 rfl) (by decide) ?_
          refine lv_istore_n (lv' := [(3, .int 1), (0, .ref a0), (1, .int p1), (2, .int p2), (4, .int v4)]) S.1 S.2.1 (dd_at ddX11_areOfOne 31 rfl) rfl hl (by decide) rfl (fun ls hl => ?_)
          refine lv_iinc (v := v4 + 1) (lv' := [(4, .int (v4 + 1)), (3, .int 1), (0, .ref a0), (1, .int p1), (2, .int p2)]) S.1 S.2.1 (dd_at ddX11_areOfOne 32 rfl) hl (k := 4) rfl rfl (by decide) rfl (fun ls hl => ?_)
          refine lv_goto (tgt := 5) S.1 S.2.1 (dd_at ddX11_areOfOne 33 rfl) (by decide) ?_
          exact ih5 1 (v4 + 1) d_1 H locs ls h hw (lv_sub hl [2, 3, 4, 1, 0] rfl)
        · have h := h.2 hc_6
          refine lv_aload_n S.1 S.2.1 (dd_at ddX11_areOfOne 10 rfl) rfl (lv_at hl 0 rfl) ?_
          obtain ⟨b_7, hb_8, ho_9, h⟩ := h
          refine r_getR S hw 11 20 rfl inG11 (by decide) (List.mem_cons_of_mem _ wg162) (by decide) ha0 hb_8 (dd_at ddX11_areOfOne 11 rfl) ?_
          refine lv_bipush (v := 12) S.1 S.2.1 (dd_at ddX11_areOfOne 12 rfl) (by decide) ?_
          refine lv_iload S.1 S.2.1 (dd_at ddX11_areOfOne 13 rfl) (lv_at hl 4 rfl) ?_
          refine lv_imul S.1 S.2.1 (dd_at ddX11_areOfOne 14 rfl) ?_
          refine lv_iload_n S.1 S.2.1 (dd_at ddX11_areOfOne 15 rfl) rfl (lv_at hl 1 rfl) ?_
          refine lv_iadd S.1 S.2.1 (dd_at ddX11_areOfOne 16 rfl) ?_
          obtain ⟨hx_10, h⟩ := h
          refine r_zald S hw ho_9 hx_10 (dd_at ddX11_areOfOne 17 rfl) ?_
          refine lv_if_eq (tgt := 52) S.1 S.2.1 (dd_at ddX11_areOfOne 18 rfl) (by decide) (fun hc_11 => ?_) (fun hc_11 => ?_)
          · have h := h.1 hc_11
            refine lv_iconst (v := 0) S.1 S.2.1 (dd_at ddX11_areOfOne 30 rfl) (by decide) ?_
            refine lv_istore_n (lv' := [(3, .int 0), (0, .ref a0), (1, .int p1), (2, .int p2), (4, .int v4)]) S.1 S.2.1 (dd_at ddX11_areOfOne 31 rfl) rfl hl (by decide) rfl (fun ls hl => ?_)
            refine lv_iinc (v := v4 + 1) (lv' := [(4, .int (v4 + 1)), (3, .int 0), (0, .ref a0), (1, .int p1), (2, .int p2)]) S.1 S.2.1 (dd_at ddX11_areOfOne 32 rfl) hl (k := 4) rfl rfl (by decide) rfl (fun ls hl => ?_)
            refine lv_goto (tgt := 5) S.1 S.2.1 (dd_at ddX11_areOfOne 33 rfl) (by decide) ?_
            exact ih5 0 (v4 + 1) d_1 H locs ls h hw (lv_sub hl [2, 3, 4, 1, 0] rfl)
          · have h := h.2 hc_11
            refine lv_aload_n S.1 S.2.1 (dd_at ddX11_areOfOne 19 rfl) rfl (lv_at hl 0 rfl) ?_
            obtain ⟨b_12, hb_13, ho_14, h⟩ := h
            refine r_getR S hw 11 20 rfl inG11 (by decide) (List.mem_cons_of_mem _ wg162) (by decide) ha0 hb_13 (dd_at ddX11_areOfOne 20 rfl) ?_
            refine lv_bipush (v := 12) S.1 S.2.1 (dd_at ddX11_areOfOne 21 rfl) (by decide) ?_
            refine lv_iload S.1 S.2.1 (dd_at ddX11_areOfOne 22 rfl) (lv_at hl 4 rfl) ?_
            refine lv_imul S.1 S.2.1 (dd_at ddX11_areOfOne 23 rfl) ?_
            refine lv_iload_n S.1 S.2.1 (dd_at ddX11_areOfOne 24 rfl) rfl (lv_at hl 2 rfl) ?_
            refine lv_iadd S.1 S.2.1 (dd_at ddX11_areOfOne 25 rfl) ?_
            obtain ⟨hx_15, h⟩ := h
            refine r_zald S hw ho_14 hx_15 (dd_at ddX11_areOfOne 26 rfl) ?_
            refine lv_if_eq (tgt := 52) S.1 S.2.1 (dd_at ddX11_areOfOne 27 rfl) (by decide) (fun hc_16 => ?_) (fun hc_16 => ?_)
            · have h := h.1 hc_16
              refine lv_iconst (v := 0) S.1 S.2.1 (dd_at ddX11_areOfOne 30 rfl) (by decide) ?_
              refine lv_istore_n (lv' := [(3, .int 0), (0, .ref a0), (1, .int p1), (2, .int p2), (4, .int v4)]) S.1 S.2.1 (dd_at ddX11_areOfOne 31 rfl) rfl hl (by decide) rfl (fun ls hl => ?_)
              refine lv_iinc (v := v4 + 1) (lv' := [(4, .int (v4 + 1)), (3, .int 0), (0, .ref a0), (1, .int p1), (2, .int p2)]) S.1 S.2.1 (dd_at ddX11_areOfOne 32 rfl) hl (k := 4) rfl rfl (by decide) rfl (fun ls hl => ?_)
              refine lv_goto (tgt := 5) S.1 S.2.1 (dd_at ddX11_areOfOne 33 rfl) (by decide) ?_
              exact ih5 0 (v4 + 1) d_1 H locs ls h hw (lv_sub hl [2, 3, 4, 1, 0] rfl)
            · have h := h.2 hc_16
              refine lv_iconst (v := 1) S.1 S.2.1 (dd_at ddX11_areOfOne 28 rfl) (by decide) ?_
              refine lv_goto (tgt := 53) S.1 S.2.1 (dd_at ddX11_areOfOne 29 rfl) (by decide) ?_
              refine lv_istore_n (lv' := [(3, .int 1), (0, .ref a0), (1, .int p1), (2, .int p2), (4, .int v4)]) S.1 S.2.1 (dd_at ddX11_areOfOne 31 rfl) rfl hl (by decide) rfl (fun ls hl => ?_)
              refine lv_iinc (v := v4 + 1) (lv' := [(4, .int (v4 + 1)), (3, .int 1), (0, .ref a0), (1, .int p1), (2, .int p2)]) S.1 S.2.1 (dd_at ddX11_areOfOne 32 rfl) hl (k := 4) rfl rfl (by decide) rfl (fun ls hl => ?_)
              refine lv_goto (tgt := 5) S.1 S.2.1 (dd_at ddX11_areOfOne 33 rfl) (by decide) ?_
              exact ih5 1 (v4 + 1) d_1 H locs ls h hw (lv_sub hl [2, 3, 4, 1, 0] rfl)
  refine lv_iconst (v := 0) S.1 S.2.1 (dd_at ddX11_areOfOne 0 rfl) (by decide) ?_
  refine lv_istore_n (lv' := [(3, .int 0), (0, .ref a0), (1, .int p1), (2, .int p2)]) S.1 S.2.1 (dd_at ddX11_areOfOne 1 rfl) rfl hl (by decide) rfl (fun ls hl => ?_)
  refine lv_iconst (v := 0) S.1 S.2.1 (dd_at ddX11_areOfOne 2 rfl) (by decide) ?_
  refine lv_istore (lv' := [(4, .int 0), (3, .int 0), (0, .ref a0), (1, .int p1), (2, .int p2)]) S.1 S.2.1 (dd_at ddX11_areOfOne 3 rfl) hl (by decide) rfl (fun ls hl => ?_)
  obtain ⟨n_17, h⟩ := h
  exact tl5 n_17 0 0 d H locs ls h hw (lv_sub hl [2, 3, 4, 1, 0] rfl)

def b_X11_brotherOf_4 (E : En) (a0 : Nat) (p1 : Int32) (K : Int32 → Dy → Prop) (k4 : Int32 → Int32 → Dy → Prop) (v2 : Int32) (v3 : Int32) (d : Dy) : Prop := w_X11_persons E a0 d (fun r_2 d_1 => ((r_2 ≤ v3 → K v2 d_1) ∧ (¬ r_2 ≤ v3 → ∃ b_4 : Nat, eR E a0 18 = some b_4 ∧ okA E b_4 15 ∧ vp_in v3 (eN E b_4) ∧ (((gA d_1 b_4 (v3).toNatClampNeg) = 0 → k4 v2 (v3 + 1) d_1) ∧ (¬ (gA d_1 b_4 (v3).toNatClampNeg) = 0 → w_X11_areOfOne E a0 p1 v3 d_1 (fun r_10 d_9 => ((r_10 = 0 → k4 v2 (v3 + 1) d_9) ∧ (¬ r_10 = 0 → w_X11_elder E a0 v2 v3 d_9 (fun r_13 d_12 => k4 r_13 (v3 + 1) d_12)))))))))
def l_X11_brotherOf_4 (E : En) (a0 : Nat) (p1 : Int32) (K : Int32 → Dy → Prop) : Nat → Int32 → Int32 → Dy → Prop
  | 0 => fun _ _ _ => False
  | n + 1 => b_X11_brotherOf_4 E a0 p1 K (l_X11_brotherOf_4 E a0 p1 K n)
def w_X11_brotherOf (E : En) (a0 : Nat) (p1 : Int32) (d : Dy) (K : Int32 → Dy → Prop) : Prop := okO E a0 11 ∧ (∃ n_14 : Nat, l_X11_brotherOf_4 E a0 p1 K n_14 (-1) 0 d)
abbrev rm_X11_brotherOf : Room := { frames := 2, cells := 0, slots := 0, locals := 44 }
set_option maxRecDepth 100000 in
set_option maxHeartbeats 4000000 in
theorem m_X11_brotherOf (l : Launch) (D : va_G) (cs : Nat → ClassId) (E : En) (d : Dy) (sz : Nat) (a0 : Nat) (p1 : Int32) (K : Int32 → Dy → Prop) : CI l yX11_brotherOf (.code yX11_brotherOf cX11_brotherOf 4 (some .int) :: wsL_law) rm_X11_brotherOf D cs E d sz [.ref a0, .int p1] (w_X11_brotherOf E a0 p1 d K) K := by
  refine e_of (cc := cX11_brotherOf) (maxL := 4) (ret := (some .int)) (own := RX11) (by decide) rfl rfl (Nat.le_of_ble_eq_true rfl) ?_
  intro p e s m below meth c S hr hlocks hsz H locs hw h ls hl
  have hl : lv_has ls 4 [(0, .ref a0), (1, .int p1)] := hl
  unfold w_X11_brotherOf at h
  obtain ⟨ha0, h⟩ := h
  have tl4 : ∀ (n : Nat) (v2 : Int32) (v3 : Int32) (d : Dy) (H : Heap) (locs : List Loc) (ls : Array Slot), l_X11_brotherOf_4 E a0 p1 K n v2 v3 d → Wd D cs (AW E sz) s.heap s E d H locs → lv_has ls 4 [(0, .ref a0), (1, .int p1), (2, .int v2), (3, .int v3)] → W p l e rm_X11_brotherOf s m ([.ref a0, .int p1] : List Value).toArray below meth c H locs 0 0 (MQ below (va_Qi K (OutW D cs E (AW E sz)) (AW E sz)) ([.ref a0, .int p1] : List Value).toArray s rm_X11_brotherOf.cells rm_X11_brotherOf.slots (AW E sz)) (F0 m 4 ls []) := by
    intro n4
    induction n4 with
    | zero => intro v2 v3 d H locs ls h; exact absurd h id
    | succ n4 ih4 =>
      intro v2 v3 d H locs ls h hw hl
      have h : b_X11_brotherOf_4 E a0 p1 K (l_X11_brotherOf_4 E a0 p1 K n4) v2 v3 d := h
      unfold b_X11_brotherOf_4 at h
      refine lv_iload_n S.1 S.2.1 (dd_at ddX11_brotherOf 4 rfl) rfl (lv_at hl 3 rfl) ?_
      refine lv_aload_n S.1 S.2.1 (dd_at ddX11_brotherOf 5 rfl) rfl (lv_at hl 0 rfl) ?_
      refine r_callI hw (r_runV (As := []) (rest := [.int v3]) S hw (m_X11_persons l D cs E d H.size a0 _) (cwV 0 S.2.2.2.2 (gV wg558 wg559 wg560 wg5 wg561) rfl rfl rfl (by decide +kernel) ⟨Nat.le_of_ble_eq_true rfl, Nat.le_of_ble_eq_true rfl⟩) (ci := 11) rfl ha0 h rfl hl.1 rfl (Nat.le_of_ble_eq_true rfl) (dd_at ddX11_brotherOf 6 rfl) ⟨Nat.le_of_ble_eq_true rfl, Nat.le_of_ble_eq_true rfl⟩) (fun r_2 d_1 H locs h hw => ?_)
      refine lv_icmp_ge (tgt := 43) S.1 S.2.1 (dd_at ddX11_brotherOf 7 rfl) (by decide) (fun hc_3 => ?_) (fun hc_3 => ?_)
      · have h := h.1 hc_3
        refine lv_iload_n S.1 S.2.1 (dd_at ddX11_brotherOf 25 rfl) rfl (lv_at hl 2 rfl) ?_
        exact e_I S hr hlocks hw h (dd_at ddX11_brotherOf 26 rfl)
      · have h := h.2 hc_3
        refine lv_aload_n S.1 S.2.1 (dd_at ddX11_brotherOf 8 rfl) rfl (lv_at hl 0 rfl) ?_
        obtain ⟨b_4, hb_5, ho_6, h⟩ := h
        refine r_getR S hw 11 18 rfl inG11 (by decide) (List.mem_cons_of_mem _ wg160) (by decide) ha0 hb_5 (dd_at ddX11_brotherOf 9 rfl) ?_
        refine lv_iload_n S.1 S.2.1 (dd_at ddX11_brotherOf 10 rfl) rfl (lv_at hl 3 rfl) ?_
        obtain ⟨hx_7, h⟩ := h
        refine r_zald S hw ho_6 hx_7 (dd_at ddX11_brotherOf 11 rfl) ?_
        refine lv_if_eq (tgt := 37) S.1 S.2.1 (dd_at ddX11_brotherOf 12 rfl) (by decide) (fun hc_8 => ?_) (fun hc_8 => ?_)
        · have h := h.1 hc_8
          refine lv_iinc (v := v3 + 1) (lv' := [(3, .int (v3 + 1)), (0, .ref a0), (1, .int p1), (2, .int v2)]) S.1 S.2.1 (dd_at ddX11_brotherOf 23 rfl) hl (k := 3) rfl rfl (by decide) rfl (fun ls hl => ?_)
          refine lv_goto (tgt := 4) S.1 S.2.1 (dd_at ddX11_brotherOf 24 rfl) (by decide) ?_
          exact ih4 v2 (v3 + 1) d_1 H locs ls h hw (lv_sub hl [1, 2, 3, 0] rfl)
        · have h := h.2 hc_8
          refine lv_aload_n S.1 S.2.1 (dd_at ddX11_brotherOf 13 rfl) rfl (lv_at hl 0 rfl) ?_
          refine lv_iload_n S.1 S.2.1 (dd_at ddX11_brotherOf 14 rfl) rfl (lv_at hl 1 rfl) ?_
          refine lv_iload_n S.1 S.2.1 (dd_at ddX11_brotherOf 15 rfl) rfl (lv_at hl 3 rfl) ?_
          refine r_callI hw (r_runV (As := [.int p1, .int v3]) (rest := []) S hw (m_X11_areOfOne l D cs E d_1 H.size a0 p1 v3 _) (cwV 2 S.2.2.2.2 (gV wg884 wg885 wg886 wg5 wg887) rfl rfl rfl (by decide +kernel) ⟨Nat.le_of_ble_eq_true rfl, Nat.le_of_ble_eq_true rfl⟩) (ci := 11) rfl ha0 h rfl hl.1 rfl (Nat.le_of_ble_eq_true rfl) (dd_at ddX11_brotherOf 16 rfl) ⟨Nat.le_of_ble_eq_true rfl, Nat.le_of_ble_eq_true rfl⟩) (fun r_10 d_9 H locs h hw => ?_)
          refine lv_if_eq (tgt := 37) S.1 S.2.1 (dd_at ddX11_brotherOf 17 rfl) (by decide) (fun hc_11 => ?_) (fun hc_11 => ?_)
          · have h := h.1 hc_11
            refine lv_iinc (v := v3 + 1) (lv' := [(3, .int (v3 + 1)), (0, .ref a0), (1, .int p1), (2, .int v2)]) S.1 S.2.1 (dd_at ddX11_brotherOf 23 rfl) hl (k := 3) rfl rfl (by decide) rfl (fun ls hl => ?_)
            refine lv_goto (tgt := 4) S.1 S.2.1 (dd_at ddX11_brotherOf 24 rfl) (by decide) ?_
            exact ih4 v2 (v3 + 1) d_9 H locs ls h hw (lv_sub hl [1, 2, 3, 0] rfl)
          · have h := h.2 hc_11
            refine lv_aload_n S.1 S.2.1 (dd_at ddX11_brotherOf 18 rfl) rfl (lv_at hl 0 rfl) ?_
            refine lv_iload_n S.1 S.2.1 (dd_at ddX11_brotherOf 19 rfl) rfl (lv_at hl 2 rfl) ?_
            refine lv_iload_n S.1 S.2.1 (dd_at ddX11_brotherOf 20 rfl) rfl (lv_at hl 3 rfl) ?_
            refine r_callI hw (r_runV (As := [.int v2, .int v3]) (rest := []) S hw (m_X11_elder l D cs E d_9 H.size a0 v2 v3 _) (cwV 2 S.2.2.2.2 (gV wg872 wg873 wg874 wg5 wg875) rfl rfl rfl (by decide +kernel) ⟨Nat.le_of_ble_eq_true rfl, Nat.le_of_ble_eq_true rfl⟩) (ci := 11) rfl ha0 h rfl hl.1 rfl (Nat.le_of_ble_eq_true rfl) (dd_at ddX11_brotherOf 21 rfl) ⟨Nat.le_of_ble_eq_true rfl, Nat.le_of_ble_eq_true rfl⟩) (fun r_13 d_12 H locs h hw => ?_)
            refine lv_istore_n (lv' := [(2, .int r_13), (0, .ref a0), (1, .int p1), (3, .int v3)]) S.1 S.2.1 (dd_at ddX11_brotherOf 22 rfl) rfl hl (by decide) rfl (fun ls hl => ?_)
            refine lv_iinc (v := v3 + 1) (lv' := [(3, .int (v3 + 1)), (2, .int r_13), (0, .ref a0), (1, .int p1)]) S.1 S.2.1 (dd_at ddX11_brotherOf 23 rfl) hl (k := 3) rfl rfl (by decide) rfl (fun ls hl => ?_)
            refine lv_goto (tgt := 4) S.1 S.2.1 (dd_at ddX11_brotherOf 24 rfl) (by decide) ?_
            exact ih4 r_13 (v3 + 1) d_12 H locs ls h hw (lv_sub hl [2, 3, 1, 0] rfl)
  refine lv_iconst (v := -1) S.1 S.2.1 (dd_at ddX11_brotherOf 0 rfl) (by decide) ?_
  refine lv_istore_n (lv' := [(2, .int (-1)), (0, .ref a0), (1, .int p1)]) S.1 S.2.1 (dd_at ddX11_brotherOf 1 rfl) rfl hl (by decide) rfl (fun ls hl => ?_)
  refine lv_iconst (v := 0) S.1 S.2.1 (dd_at ddX11_brotherOf 2 rfl) (by decide) ?_
  refine lv_istore_n (lv' := [(3, .int 0), (2, .int (-1)), (0, .ref a0), (1, .int p1)]) S.1 S.2.1 (dd_at ddX11_brotherOf 3 rfl) rfl hl (by decide) rfl (fun ls hl => ?_)
  obtain ⟨n_14, h⟩ := h
  exact tl4 n_14 (-1) 0 d H locs ls h hw (lv_sub hl [2, 3, 1, 0] rfl)

def b_X11_heirOf_170 (E : En) (a0 : Nat) (p1 : Int32) (p2 : Int32) (p3 : Int32) (K : Int32 → Dy → Prop) (k84 : Int32 → Dy → Prop) (v4 : Int32) (s0 : Int32) (d : Dy) : Prop := ((s0 < 0 → k84 (v4 + 1) d) ∧ (¬ s0 < 0 → K s0 d))
def b_X11_heirOf_84 (E : En) (a0 : Nat) (p1 : Int32) (p2 : Int32) (p3 : Int32) (K : Int32 → Dy → Prop) (k84 : Int32 → Dy → Prop) (v4 : Int32) (d : Dy) : Prop := ∃ b_2 : Nat, eR E a0 1 = some b_2 ∧ okA E b_2 13 ∧ w_X11_textAt E 0 d (fun r_6 d_5 => vp_in r_6 (eN E b_2) ∧ (((gA d_5 b_2 (r_6).toNatClampNeg) ≤ v4 → K (-1) d_5) ∧ (¬ (gA d_5 b_2 (r_6).toNatClampNeg) ≤ v4 → w_X11_holdsLine E a0 0 v4 d_5 (fun r_10 d_9 => ((¬ r_10 = 0 → ∃ b_12 : Nat, eR E a0 1 = some b_12 ∧ okA E b_12 13 ∧ w_X11_lineAt E 0 v4 d_9 (fun r_16 d_15 => vp_in r_16 (eN E b_12) ∧ ((¬ (gA d_15 b_12 (r_16).toNatClampNeg) = 0 → ((¬ (gA d_15 b_12 (r_16).toNatClampNeg) = 1 → ((¬ (gA d_15 b_12 (r_16).toNatClampNeg) = 2 → w_X11_brotherOf E a0 p1 d_15 (fun r_22 d_21 => b_X11_heirOf_170 E a0 p1 p2 p3 K k84 v4 r_22 d_21)) ∧ ((gA d_15 b_12 (r_16).toNatClampNeg) = 2 → w_X11_parentOf E a0 p1 d_15 (fun r_24 d_23 => b_X11_heirOf_170 E a0 p1 p2 p3 K k84 v4 r_24 d_23)))) ∧ ((gA d_15 b_12 (r_16).toNatClampNeg) = 1 → w_X11_eldestOf E a0 p1 d_15 (fun r_26 d_25 => b_X11_heirOf_170 E a0 p1 p2 p3 K k84 v4 r_26 d_25)))) ∧ ((gA d_15 b_12 (r_16).toNatClampNeg) = 0 → w_X11_spouseOf E a0 p1 d_15 (fun r_28 d_27 => b_X11_heirOf_170 E a0 p1 p2 p3 K k84 v4 r_28 d_27))))) ∧ (r_10 = 0 → k84 (v4 + 1) d_9))))))
def l_X11_heirOf_84 (E : En) (a0 : Nat) (p1 : Int32) (p2 : Int32) (p3 : Int32) (K : Int32 → Dy → Prop) : Nat → Int32 → Dy → Prop
  | 0 => fun _ _ => False
  | n + 1 => b_X11_heirOf_84 E a0 p1 p2 p3 K (l_X11_heirOf_84 E a0 p1 p2 p3 K n)
def w_X11_heirOf (E : En) (a0 : Nat) (p1 : Int32) (p2 : Int32) (p3 : Int32) (d : Dy) (K : Int32 → Dy → Prop) : Prop := okO E a0 11 ∧ ∃ b_29 : Nat, eR E a0 1 = some b_29 ∧ okA E b_29 13 ∧ vp_in 10 (eN E b_29) ∧ ((¬ (gA d b_29 ((10 : Int32)).toNatClampNeg) = 0 → ∃ b_34 : Nat, eR E a0 14 = some b_34 ∧ okA E b_34 13 ∧ ∃ b_37 : Nat, eR E a0 22 = some b_37 ∧ okA E b_37 13 ∧ vp_in p2 (eN E b_37) ∧ vp_in 0 (eN E b_34) ∧ ∃ b_42 : Nat, eR E a0 14 = some b_42 ∧ okA E b_42 13 ∧ w_X11_ageOf E a0 p1 p3 (pA d b_34 ((0 : Int32)).toNatClampNeg (p3 - (gA d b_37 (p2).toNatClampNeg))) (fun r_46 d_45 => vp_in 1 (eN E b_42) ∧ ∃ b_48 : Nat, eR E a0 14 = some b_48 ∧ okA E b_48 13 ∧ w_X11_childrenOf E a0 p1 (pA d_45 b_42 ((1 : Int32)).toNatClampNeg r_46) (fun r_52 d_51 => vp_in 2 (eN E b_48) ∧ ∃ b_54 : Nat, eR E a0 14 = some b_54 ∧ okA E b_54 13 ∧ vp_in 3 (eN E b_54) ∧ ∃ b_58 : Nat, eR E a0 14 = some b_58 ∧ okA E b_58 13 ∧ w_X11_ofHut E a0 p2 0 (pA (pA d_51 b_48 ((2 : Int32)).toNatClampNeg r_52) b_54 ((3 : Int32)).toNatClampNeg p3) (fun r_62 d_61 => vp_in 4 (eN E b_58) ∧ ∃ b_64 : Nat, eR E a0 14 = some b_64 ∧ okA E b_64 13 ∧ w_X11_ofPerson E a0 p1 2 (pA d_61 b_58 ((4 : Int32)).toNatClampNeg r_62) (fun r_68 d_67 => vp_in 8 (eN E b_64) ∧ (∃ n_70 : Nat, l_X11_heirOf_84 E a0 p1 p2 p3 K n_70 0 (pA d_67 b_64 ((8 : Int32)).toNatClampNeg r_68))))))) ∧ ((gA d b_29 ((10 : Int32)).toNatClampNeg) = 0 → K (-1) d))
abbrev rm_X11_heirOf : Room := { frames := 3, cells := 0, slots := 0, locals := 70 }
set_option maxRecDepth 100000 in
set_option maxHeartbeats 4000000 in
theorem m_X11_heirOf (l : Launch) (D : va_G) (cs : Nat → ClassId) (E : En) (d : Dy) (sz : Nat) (a0 : Nat) (p1 : Int32) (p2 : Int32) (p3 : Int32) (K : Int32 → Dy → Prop) : CI l yX11_heirOf (.code yX11_heirOf cX11_heirOf 7 (some .int) :: wsL_law) rm_X11_heirOf D cs E d sz [.ref a0, .int p1, .int p2, .int p3] (w_X11_heirOf E a0 p1 p2 p3 d K) K := by
  refine e_of (cc := cX11_heirOf) (maxL := 7) (ret := (some .int)) (own := RX11) (by decide) rfl rfl (Nat.le_of_ble_eq_true rfl) ?_
  intro p e s m below meth c S hr hlocks hsz H locs hw h ls hl
  have hl : lv_has ls 7 [(0, .ref a0), (1, .int p1), (2, .int p2), (3, .int p3)] := hl
  unfold w_X11_heirOf at h
  obtain ⟨ha0, h⟩ := h
  have tl84 : ∀ (n : Nat) (v4 : Int32) (d : Dy) (H : Heap) (locs : List Loc) (ls : Array Slot), l_X11_heirOf_84 E a0 p1 p2 p3 K n v4 d → Wd D cs (AW E sz) s.heap s E d H locs → lv_has ls 7 [(0, .ref a0), (1, .int p1), (4, .int v4)] → W p l e rm_X11_heirOf s m ([.ref a0, .int p1, .int p2, .int p3] : List Value).toArray below meth c H locs 0 0 (MQ below (va_Qi K (OutW D cs E (AW E sz)) (AW E sz)) ([.ref a0, .int p1, .int p2, .int p3] : List Value).toArray s rm_X11_heirOf.cells rm_X11_heirOf.slots (AW E sz)) (F0 m 84 ls []) := by
    intro n84
    induction n84 with
    | zero => intro v4 d H locs ls h; exact absurd h id
    | succ n84 ih84 =>
      have tb170 : ∀ (v4 : Int32) (s0 : Int32) (d : Dy) (H : Heap) (locs : List Loc) (ls : Array Slot), b_X11_heirOf_170 E a0 p1 p2 p3 K (l_X11_heirOf_84 E a0 p1 p2 p3 K n84) v4 s0 d → Wd D cs (AW E sz) s.heap s E d H locs → lv_has ls 7 [(0, .ref a0), (1, .int p1), (4, .int v4)] → W p l e rm_X11_heirOf s m ([.ref a0, .int p1, .int p2, .int p3] : List Value).toArray below meth c H locs 0 0 (MQ below (va_Qi K (OutW D cs E (AW E sz)) (AW E sz)) ([.ref a0, .int p1, .int p2, .int p3] : List Value).toArray s rm_X11_heirOf.cells rm_X11_heirOf.slots (AW E sz)) (F0 m 170 ls [.int s0]) := by
        intro v4 s0 d H locs ls h hw hl
        unfold b_X11_heirOf_170 at h
        refine lv_istore (lv' := [(6, .int s0), (0, .ref a0), (1, .int p1), (4, .int v4)]) S.1 S.2.1 (dd_at ddX11_heirOf 98 rfl) hl (by decide) rfl (fun ls hl => ?_)
        refine lv_iload S.1 S.2.1 (dd_at ddX11_heirOf 99 rfl) (lv_at hl 0 rfl) ?_
        refine lv_if_lt (tgt := 180) S.1 S.2.1 (dd_at ddX11_heirOf 100 rfl) (by decide) (fun hc_1 => ?_) (fun hc_1 => ?_)
        · have h := h.1 hc_1
          refine lv_iinc (v := v4 + 1) (lv' := [(4, .int (v4 + 1)), (6, .int s0), (0, .ref a0), (1, .int p1)]) S.1 S.2.1 (dd_at ddX11_heirOf 103 rfl) hl (k := 3) rfl rfl (by decide) rfl (fun ls hl => ?_)
          refine lv_goto (tgt := 84) S.1 S.2.1 (dd_at ddX11_heirOf 104 rfl) (by decide) ?_
          exact ih84 (v4 + 1) d H locs ls h hw (lv_sub hl [2, 3, 0] rfl)
        · have h := h.2 hc_1
          refine lv_iload S.1 S.2.1 (dd_at ddX11_heirOf 101 rfl) (lv_at hl 0 rfl) ?_
          exact e_I S hr hlocks hw h (dd_at ddX11_heirOf 102 rfl)
      intro v4 d H locs ls h hw hl
      have h : b_X11_heirOf_84 E a0 p1 p2 p3 K (l_X11_heirOf_84 E a0 p1 p2 p3 K n84) v4 d := h
      unfold b_X11_heirOf_84 at h
      refine lv_iload S.1 S.2.1 (dd_at ddX11_heirOf 55 rfl) (lv_at hl 2 rfl) ?_
      refine lv_aload_n S.1 S.2.1 (dd_at ddX11_heirOf 56 rfl) rfl (lv_at hl 0 rfl) ?_
      obtain ⟨b_2, hb_3, ho_4, h⟩ := h
      refine r_getR S hw 11 1 rfl inG11 (by decide) (List.mem_cons_of_mem _ wg150) (by decide) ha0 hb_3 (dd_at ddX11_heirOf 57 rfl) ?_
      refine lv_iconst (v := 0) S.1 S.2.1 (dd_at ddX11_heirOf 58 rfl) (by decide) ?_
      refine r_callI hw (r_runS (As := [.int 0]) (rest := [.ref b_2, .int v4]) S hw (m_X11_textAt l D cs E d H.size 0 _) (va_cwS 1 S.2.2.2.2 (gS wg449 wg450 wg5 wg451) rfl rfl rfl (by decide +kernel) ⟨Nat.le_of_ble_eq_true rfl, Nat.le_of_ble_eq_true rfl⟩) h rfl hl.1 rfl (Nat.le_of_ble_eq_true rfl) (dd_at ddX11_heirOf 59 rfl) ⟨Nat.le_of_ble_eq_true rfl, Nat.le_of_ble_eq_true rfl⟩) (fun r_6 d_5 H locs h hw => ?_)
      obtain ⟨hx_7, h⟩ := h
      refine r_iald S hw ho_4 hx_7 (dd_at ddX11_heirOf 60 rfl) ?_
      refine lv_icmp_ge (tgt := 186) S.1 S.2.1 (dd_at ddX11_heirOf 61 rfl) (by decide) (fun hc_8 => ?_) (fun hc_8 => ?_)
      · have h := h.1 hc_8
        refine lv_iconst (v := -1) S.1 S.2.1 (dd_at ddX11_heirOf 105 rfl) (by decide) ?_
        exact e_I S hr hlocks hw h (dd_at ddX11_heirOf 106 rfl)
      · have h := h.2 hc_8
        refine lv_aload_n S.1 S.2.1 (dd_at ddX11_heirOf 62 rfl) rfl (lv_at hl 0 rfl) ?_
        refine lv_iconst (v := 0) S.1 S.2.1 (dd_at ddX11_heirOf 63 rfl) (by decide) ?_
        refine lv_iload S.1 S.2.1 (dd_at ddX11_heirOf 64 rfl) (lv_at hl 2 rfl) ?_
        refine r_callI hw (r_runV (As := [.int 0, .int v4]) (rest := []) S hw (m_X11_holdsLine l D cs E d_5 H.size a0 0 v4 _) (cwV 2 S.2.2.2.2 (gV wg860 wg861 wg862 wg5 wg863) rfl rfl rfl (by decide +kernel) ⟨Nat.le_of_ble_eq_true rfl, Nat.le_of_ble_eq_true rfl⟩) (ci := 11) rfl ha0 h rfl hl.1 rfl (Nat.le_of_ble_eq_true rfl) (dd_at ddX11_heirOf 65 rfl) ⟨Nat.le_of_ble_eq_true rfl, Nat.le_of_ble_eq_true rfl⟩) (fun r_10 d_9 H locs h hw => ?_)
        refine lv_if_ne (tgt := 111) S.1 S.2.1 (dd_at ddX11_heirOf 66 rfl) (by decide) (fun hc_11 => ?_) (fun hc_11 => ?_)
        · have h := h.1 hc_11
          refine lv_aload_n S.1 S.2.1 (dd_at ddX11_heirOf 68 rfl) rfl (lv_at hl 0 rfl) ?_
          obtain ⟨b_12, hb_13, ho_14, h⟩ := h
          refine r_getR S hw 11 1 rfl inG11 (by decide) (List.mem_cons_of_mem _ wg150) (by decide) ha0 hb_13 (dd_at ddX11_heirOf 69 rfl) ?_
          refine lv_iconst (v := 0) S.1 S.2.1 (dd_at ddX11_heirOf 70 rfl) (by decide) ?_
          refine lv_iload S.1 S.2.1 (dd_at ddX11_heirOf 71 rfl) (lv_at hl 2 rfl) ?_
          refine r_callI hw (r_runS (As := [.int 0, .int v4]) (rest := [.ref b_12]) S hw (m_X11_lineAt l D cs E d_9 H.size 0 v4 _) (va_cwS 2 S.2.2.2.2 (gS wg446 wg447 wg5 wg448) rfl rfl rfl (by decide +kernel) ⟨Nat.le_of_ble_eq_true rfl, Nat.le_of_ble_eq_true rfl⟩) h rfl hl.1 rfl (Nat.le_of_ble_eq_true rfl) (dd_at ddX11_heirOf 72 rfl) ⟨Nat.le_of_ble_eq_true rfl, Nat.le_of_ble_eq_true rfl⟩) (fun r_16 d_15 H locs h hw => ?_)
          obtain ⟨hx_17, h⟩ := h
          refine r_iald S hw ho_14 hx_17 (dd_at ddX11_heirOf 73 rfl) ?_
          refine lv_istore (lv' := [(5, .int (gA d_15 b_12 (r_16).toNatClampNeg)), (0, .ref a0), (1, .int p1), (4, .int v4)]) S.1 S.2.1 (dd_at ddX11_heirOf 74 rfl) hl (by decide) rfl (fun ls hl => ?_)
          refine lv_iload S.1 S.2.1 (dd_at ddX11_heirOf 75 rfl) (lv_at hl 0 rfl) ?_
          refine lv_if_ne (tgt := 137) S.1 S.2.1 (dd_at ddX11_heirOf 76 rfl) (by decide) (fun hc_18 => ?_) (fun hc_18 => ?_)
          · have h := h.1 hc_18
            refine lv_iload S.1 S.2.1 (dd_at ddX11_heirOf 81 rfl) (lv_at hl 0 rfl) ?_
            refine lv_iconst (v := 1) S.1 S.2.1 (dd_at ddX11_heirOf 82 rfl) (by decide) ?_
            refine lv_icmp_ne (tgt := 151) S.1 S.2.1 (dd_at ddX11_heirOf 83 rfl) (by decide) (fun hc_19 => ?_) (fun hc_19 => ?_)
            · have h := h.1 hc_19
              refine lv_iload S.1 S.2.1 (dd_at ddX11_heirOf 88 rfl) (lv_at hl 0 rfl) ?_
              refine lv_iconst (v := 2) S.1 S.2.1 (dd_at ddX11_heirOf 89 rfl) (by decide) ?_
              refine lv_icmp_ne (tgt := 165) S.1 S.2.1 (dd_at ddX11_heirOf 90 rfl) (by decide) (fun hc_20 => ?_) (fun hc_20 => ?_)
              · have h := h.1 hc_20
                refine lv_aload_n S.1 S.2.1 (dd_at ddX11_heirOf 95 rfl) rfl (lv_at hl 1 rfl) ?_
                refine lv_iload_n S.1 S.2.1 (dd_at ddX11_heirOf 96 rfl) rfl (lv_at hl 2 rfl) ?_
                refine r_callI hw (r_runV (As := [.int p1]) (rest := []) S hw (m_X11_brotherOf l D cs E d_15 H.size a0 p1 _) (cwV 1 S.2.2.2.2 (gV wg880 wg881 wg882 wg5 wg883) rfl rfl rfl (by decide +kernel) ⟨Nat.le_of_ble_eq_true rfl, Nat.le_of_ble_eq_true rfl⟩) (ci := 11) rfl ha0 h rfl hl.1 rfl (Nat.le_of_ble_eq_true rfl) (dd_at ddX11_heirOf 97 rfl) ⟨Nat.le_of_ble_eq_true rfl, Nat.le_of_ble_eq_true rfl⟩) (fun r_22 d_21 H locs h hw => ?_)
                exact tb170 v4 r_22 d_21 H locs ls h hw (lv_sub hl [1, 2, 3] rfl)
              · have h := h.2 hc_20
                refine lv_aload_n S.1 S.2.1 (dd_at ddX11_heirOf 91 rfl) rfl (lv_at hl 1 rfl) ?_
                refine lv_iload_n S.1 S.2.1 (dd_at ddX11_heirOf 92 rfl) rfl (lv_at hl 2 rfl) ?_
                refine r_callI hw (r_runV (As := [.int p1]) (rest := []) S hw (m_X11_parentOf l D cs E d_15 H.size a0 p1 _) (cwV 1 S.2.2.2.2 (gV wg876 wg877 wg878 wg5 wg879) rfl rfl rfl (by decide +kernel) ⟨Nat.le_of_ble_eq_true rfl, Nat.le_of_ble_eq_true rfl⟩) (ci := 11) rfl ha0 h rfl hl.1 rfl (Nat.le_of_ble_eq_true rfl) (dd_at ddX11_heirOf 93 rfl) ⟨Nat.le_of_ble_eq_true rfl, Nat.le_of_ble_eq_true rfl⟩) (fun r_24 d_23 H locs h hw => ?_)
                refine lv_goto (tgt := 170) S.1 S.2.1 (dd_at ddX11_heirOf 94 rfl) (by decide) ?_
                exact tb170 v4 r_24 d_23 H locs ls h hw (lv_sub hl [1, 2, 3] rfl)
            · have h := h.2 hc_19
              refine lv_aload_n S.1 S.2.1 (dd_at ddX11_heirOf 84 rfl) rfl (lv_at hl 1 rfl) ?_
              refine lv_iload_n S.1 S.2.1 (dd_at ddX11_heirOf 85 rfl) rfl (lv_at hl 2 rfl) ?_
              refine r_callI hw (r_runV (As := [.int p1]) (rest := []) S hw (m_X11_eldestOf l D cs E d_15 H.size a0 p1 _) (cwV 1 S.2.2.2.2 (gV wg868 wg869 wg870 wg5 wg871) rfl rfl rfl (by decide +kernel) ⟨Nat.le_of_ble_eq_true rfl, Nat.le_of_ble_eq_true rfl⟩) (ci := 11) rfl ha0 h rfl hl.1 rfl (Nat.le_of_ble_eq_true rfl) (dd_at ddX11_heirOf 86 rfl) ⟨Nat.le_of_ble_eq_true rfl, Nat.le_of_ble_eq_true rfl⟩) (fun r_26 d_25 H locs h hw => ?_)
              refine lv_goto (tgt := 170) S.1 S.2.1 (dd_at ddX11_heirOf 87 rfl) (by decide) ?_
              exact tb170 v4 r_26 d_25 H locs ls h hw (lv_sub hl [1, 2, 3] rfl)
          · have h := h.2 hc_18
            refine lv_aload_n S.1 S.2.1 (dd_at ddX11_heirOf 77 rfl) rfl (lv_at hl 1 rfl) ?_
            refine lv_iload_n S.1 S.2.1 (dd_at ddX11_heirOf 78 rfl) rfl (lv_at hl 2 rfl) ?_
            refine r_callI hw (r_runV (As := [.int p1]) (rest := []) S hw (m_X11_spouseOf l D cs E d_15 H.size a0 p1 _) (cwV 1 S.2.2.2.2 (gV wg864 wg865 wg866 wg5 wg867) rfl rfl rfl (by decide +kernel) ⟨Nat.le_of_ble_eq_true rfl, Nat.le_of_ble_eq_true rfl⟩) (ci := 11) rfl ha0 h rfl hl.1 rfl (Nat.le_of_ble_eq_true rfl) (dd_at ddX11_heirOf 79 rfl) ⟨Nat.le_of_ble_eq_true rfl, Nat.le_of_ble_eq_true rfl⟩) (fun r_28 d_27 H locs h hw => ?_)
            refine lv_goto (tgt := 170) S.1 S.2.1 (dd_at ddX11_heirOf 80 rfl) (by decide) ?_
            exact tb170 v4 r_28 d_27 H locs ls h hw (lv_sub hl [1, 2, 3] rfl)
        · have h := h.2 hc_11
          refine lv_goto (tgt := 180) S.1 S.2.1 (dd_at ddX11_heirOf 67 rfl) (by decide) ?_
          refine lv_iinc (v := v4 + 1) (lv' := [(4, .int (v4 + 1)), (0, .ref a0), (1, .int p1)]) S.1 S.2.1 (dd_at ddX11_heirOf 103 rfl) hl (k := 2) rfl rfl (by decide) rfl (fun ls hl => ?_)
          refine lv_goto (tgt := 84) S.1 S.2.1 (dd_at ddX11_heirOf 104 rfl) (by decide) ?_
          exact ih84 (v4 + 1) d_9 H locs ls h hw (lv_sub hl [1, 2, 0] rfl)
  refine lv_aload_n S.1 S.2.1 (dd_at ddX11_heirOf 0 rfl) rfl (lv_at hl 0 rfl) ?_
  obtain ⟨b_29, hb_30, ho_31, h⟩ := h
  refine r_getR S hw 11 1 rfl inG11 (by decide) (List.mem_cons_of_mem _ wg150) (by decide) ha0 hb_30 (dd_at ddX11_heirOf 1 rfl) ?_
  refine lv_bipush (v := 10) S.1 S.2.1 (dd_at ddX11_heirOf 2 rfl) (by decide) ?_
  obtain ⟨hx_32, h⟩ := h
  refine r_iald S hw ho_31 hx_32 (dd_at ddX11_heirOf 3 rfl) ?_
  refine lv_if_ne (tgt := 12) S.1 S.2.1 (dd_at ddX11_heirOf 4 rfl) (by decide) (fun hc_33 => ?_) (fun hc_33 => ?_)
  · have h := h.1 hc_33
    refine lv_aload_n S.1 S.2.1 (dd_at ddX11_heirOf 7 rfl) rfl (lv_at hl 0 rfl) ?_
    obtain ⟨b_34, hb_35, ho_36, h⟩ := h
    refine r_getR S hw 11 14 rfl inG11 (by decide) (List.mem_cons_of_mem _ wg156) (by decide) ha0 hb_35 (dd_at ddX11_heirOf 8 rfl) ?_
    refine lv_iconst (v := 0) S.1 S.2.1 (dd_at ddX11_heirOf 9 rfl) (by decide) ?_
    refine lv_iload_n S.1 S.2.1 (dd_at ddX11_heirOf 10 rfl) rfl (lv_at hl 3 rfl) ?_
    refine lv_aload_n S.1 S.2.1 (dd_at ddX11_heirOf 11 rfl) rfl (lv_at hl 0 rfl) ?_
    obtain ⟨b_37, hb_38, ho_39, h⟩ := h
    refine r_getR S hw 11 22 rfl inG11 (by decide) (List.mem_cons_of_mem _ wg164) (by decide) ha0 hb_38 (dd_at ddX11_heirOf 12 rfl) ?_
    refine lv_iload_n S.1 S.2.1 (dd_at ddX11_heirOf 13 rfl) rfl (lv_at hl 2 rfl) ?_
    obtain ⟨hx_40, h⟩ := h
    refine r_iald S hw ho_39 hx_40 (dd_at ddX11_heirOf 14 rfl) ?_
    refine lv_isub S.1 S.2.1 (dd_at ddX11_heirOf 15 rfl) ?_
    obtain ⟨hx_41, h⟩ := h
    refine r_iast S hw ho_36 hx_41 (dd_at ddX11_heirOf 16 rfl) (fun H locs hw => ?_)
    refine lv_aload_n S.1 S.2.1 (dd_at ddX11_heirOf 17 rfl) rfl (lv_at hl 0 rfl) ?_
    obtain ⟨b_42, hb_43, ho_44, h⟩ := h
    refine r_getR S hw 11 14 rfl inG11 (by decide) (List.mem_cons_of_mem _ wg156) (by decide) ha0 hb_43 (dd_at ddX11_heirOf 18 rfl) ?_
    refine lv_iconst (v := 1) S.1 S.2.1 (dd_at ddX11_heirOf 19 rfl) (by decide) ?_
    refine lv_aload_n S.1 S.2.1 (dd_at ddX11_heirOf 20 rfl) rfl (lv_at hl 0 rfl) ?_
    refine lv_iload_n S.1 S.2.1 (dd_at ddX11_heirOf 21 rfl) rfl (lv_at hl 1 rfl) ?_
    refine lv_iload_n S.1 S.2.1 (dd_at ddX11_heirOf 22 rfl) rfl (lv_at hl 3 rfl) ?_
    refine r_callI hw (r_runV (As := [.int p1, .int p3]) (rest := [.int 1, .ref b_42]) S hw (m_X11_ageOf l D cs E (pA d b_34 ((0 : Int32)).toNatClampNeg (p3 - (gA d b_37 (p2).toNatClampNeg))) H.size a0 p1 p3 _) (cwV 2 S.2.2.2.2 (gV wg843 wg844 wg845 wg5 wg846) rfl rfl rfl (by decide +kernel) ⟨Nat.le_of_ble_eq_true rfl, Nat.le_of_ble_eq_true rfl⟩) (ci := 11) rfl ha0 h rfl hl.1 rfl (Nat.le_of_ble_eq_true rfl) (dd_at ddX11_heirOf 23 rfl) ⟨Nat.le_of_ble_eq_true rfl, Nat.le_of_ble_eq_true rfl⟩) (fun r_46 d_45 H locs h hw => ?_)
    obtain ⟨hx_47, h⟩ := h
    refine r_iast S hw ho_44 hx_47 (dd_at ddX11_heirOf 24 rfl) (fun H locs hw => ?_)
    refine lv_aload_n S.1 S.2.1 (dd_at ddX11_heirOf 25 rfl) rfl (lv_at hl 0 rfl) ?_
    obtain ⟨b_48, hb_49, ho_50, h⟩ := h
    refine r_getR S hw 11 14 rfl inG11 (by decide) (List.mem_cons_of_mem _ wg156) (by decide) ha0 hb_49 (dd_at ddX11_heirOf 26 rfl) ?_
    refine lv_iconst (v := 2) S.1 S.2.1 (dd_at ddX11_heirOf 27 rfl) (by decide) ?_
    refine lv_aload_n S.1 S.2.1 (dd_at ddX11_heirOf 28 rfl) rfl (lv_at hl 0 rfl) ?_
    refine lv_iload_n S.1 S.2.1 (dd_at ddX11_heirOf 29 rfl) rfl (lv_at hl 1 rfl) ?_
    refine r_callI hw (r_runV (As := [.int p1]) (rest := [.int 2, .ref b_48]) S hw (m_X11_childrenOf l D cs E (pA d_45 b_42 ((1 : Int32)).toNatClampNeg r_46) H.size a0 p1 _) (cwV 1 S.2.2.2.2 (gV wg852 wg853 wg854 wg5 wg855) rfl rfl rfl (by decide +kernel) ⟨Nat.le_of_ble_eq_true rfl, Nat.le_of_ble_eq_true rfl⟩) (ci := 11) rfl ha0 h rfl hl.1 rfl (Nat.le_of_ble_eq_true rfl) (dd_at ddX11_heirOf 30 rfl) ⟨Nat.le_of_ble_eq_true rfl, Nat.le_of_ble_eq_true rfl⟩) (fun r_52 d_51 H locs h hw => ?_)
    obtain ⟨hx_53, h⟩ := h
    refine r_iast S hw ho_50 hx_53 (dd_at ddX11_heirOf 31 rfl) (fun H locs hw => ?_)
    refine lv_aload_n S.1 S.2.1 (dd_at ddX11_heirOf 32 rfl) rfl (lv_at hl 0 rfl) ?_
    obtain ⟨b_54, hb_55, ho_56, h⟩ := h
    refine r_getR S hw 11 14 rfl inG11 (by decide) (List.mem_cons_of_mem _ wg156) (by decide) ha0 hb_55 (dd_at ddX11_heirOf 33 rfl) ?_
    refine lv_iconst (v := 3) S.1 S.2.1 (dd_at ddX11_heirOf 34 rfl) (by decide) ?_
    refine lv_iload_n S.1 S.2.1 (dd_at ddX11_heirOf 35 rfl) rfl (lv_at hl 3 rfl) ?_
    obtain ⟨hx_57, h⟩ := h
    refine r_iast S hw ho_56 hx_57 (dd_at ddX11_heirOf 36 rfl) (fun H locs hw => ?_)
    refine lv_aload_n S.1 S.2.1 (dd_at ddX11_heirOf 37 rfl) rfl (lv_at hl 0 rfl) ?_
    obtain ⟨b_58, hb_59, ho_60, h⟩ := h
    refine r_getR S hw 11 14 rfl inG11 (by decide) (List.mem_cons_of_mem _ wg156) (by decide) ha0 hb_59 (dd_at ddX11_heirOf 38 rfl) ?_
    refine lv_iconst (v := 4) S.1 S.2.1 (dd_at ddX11_heirOf 39 rfl) (by decide) ?_
    refine lv_aload_n S.1 S.2.1 (dd_at ddX11_heirOf 40 rfl) rfl (lv_at hl 0 rfl) ?_
    refine lv_iload_n S.1 S.2.1 (dd_at ddX11_heirOf 41 rfl) rfl (lv_at hl 2 rfl) ?_
    refine lv_iconst (v := 0) S.1 S.2.1 (dd_at ddX11_heirOf 42 rfl) (by decide) ?_
    refine r_callI hw (r_runV (As := [.int p2, .int 0]) (rest := [.int 4, .ref b_58]) S hw (m_X11_ofHut l D cs E (pA (pA d_51 b_48 ((2 : Int32)).toNatClampNeg r_52) b_54 ((3 : Int32)).toNatClampNeg p3) H.size a0 p2 0 _) (cwV 2 S.2.2.2.2 (gV wg827 wg828 wg829 wg5 wg830) rfl rfl rfl (by decide +kernel) ⟨Nat.le_of_ble_eq_true rfl, Nat.le_of_ble_eq_true rfl⟩) (ci := 11) rfl ha0 h rfl hl.1 rfl (Nat.le_of_ble_eq_true rfl) (dd_at ddX11_heirOf 43 rfl) ⟨Nat.le_of_ble_eq_true rfl, Nat.le_of_ble_eq_true rfl⟩) (fun r_62 d_61 H locs h hw => ?_)
    obtain ⟨hx_63, h⟩ := h
    refine r_iast S hw ho_60 hx_63 (dd_at ddX11_heirOf 44 rfl) (fun H locs hw => ?_)
    refine lv_aload_n S.1 S.2.1 (dd_at ddX11_heirOf 45 rfl) rfl (lv_at hl 0 rfl) ?_
    obtain ⟨b_64, hb_65, ho_66, h⟩ := h
    refine r_getR S hw 11 14 rfl inG11 (by decide) (List.mem_cons_of_mem _ wg156) (by decide) ha0 hb_65 (dd_at ddX11_heirOf 46 rfl) ?_
    refine lv_bipush (v := 8) S.1 S.2.1 (dd_at ddX11_heirOf 47 rfl) (by decide) ?_
    refine lv_aload_n S.1 S.2.1 (dd_at ddX11_heirOf 48 rfl) rfl (lv_at hl 0 rfl) ?_
    refine lv_iload_n S.1 S.2.1 (dd_at ddX11_heirOf 49 rfl) rfl (lv_at hl 1 rfl) ?_
    refine lv_iconst (v := 2) S.1 S.2.1 (dd_at ddX11_heirOf 50 rfl) (by decide) ?_
    refine r_callI hw (r_runV (As := [.int p1, .int 2]) (rest := [.int 8, .ref b_64]) S hw (m_X11_ofPerson l D cs E (pA d_61 b_58 ((4 : Int32)).toNatClampNeg r_62) H.size a0 p1 2 _) (cwV 2 S.2.2.2.2 (gV wg848 wg849 wg850 wg5 wg851) rfl rfl rfl (by decide +kernel) ⟨Nat.le_of_ble_eq_true rfl, Nat.le_of_ble_eq_true rfl⟩) (ci := 11) rfl ha0 h rfl hl.1 rfl (Nat.le_of_ble_eq_true rfl) (dd_at ddX11_heirOf 51 rfl) ⟨Nat.le_of_ble_eq_true rfl, Nat.le_of_ble_eq_true rfl⟩) (fun r_68 d_67 H locs h hw => ?_)
    obtain ⟨hx_69, h⟩ := h
    refine r_iast S hw ho_66 hx_69 (dd_at ddX11_heirOf 52 rfl) (fun H locs hw => ?_)
    refine lv_iconst (v := 0) S.1 S.2.1 (dd_at ddX11_heirOf 53 rfl) (by decide) ?_
    refine lv_istore (lv' := [(4, .int 0), (0, .ref a0), (1, .int p1), (2, .int p2), (3, .int p3)]) S.1 S.2.1 (dd_at ddX11_heirOf 54 rfl) hl (by decide) rfl (fun ls hl => ?_)
    obtain ⟨n_70, h⟩ := h
    exact tl84 n_70 0 (pA d_67 b_64 ((8 : Int32)).toNatClampNeg r_68) H locs ls h hw (lv_sub hl [1, 2, 0] rfl)
  · have h := h.2 hc_33
    refine lv_iconst (v := -1) S.1 S.2.1 (dd_at ddX11_heirOf 5 rfl) (by decide) ?_
    exact e_I S hr hlocks hw h (dd_at ddX11_heirOf 6 rfl)

def w_X11_comesTo (E : En) (a0 : Nat) (p1 : Int32) (p2 : Int32) (p3 : Int32) (d : Dy) (K : Dy → Prop) : Prop := okO E a0 11 ∧ ∃ b_1 : Nat, eR E a0 21 = some b_1 ∧ okA E b_1 13 ∧ vp_in p1 (eN E b_1) ∧ ∃ b_5 : Nat, eR E a0 22 = some b_5 ∧ okA E b_5 13 ∧ vp_in p1 (eN E b_5) ∧ K (pA (pA d b_1 (p1).toNatClampNeg p2) b_5 (p1).toNatClampNeg p3)
abbrev rm_X11_comesTo : Room := { frames := 0, cells := 0, slots := 0, locals := 0 }
set_option maxRecDepth 100000 in
set_option maxHeartbeats 4000000 in
theorem m_X11_comesTo (l : Launch) (D : va_G) (cs : Nat → ClassId) (E : En) (d : Dy) (sz : Nat) (a0 : Nat) (p1 : Int32) (p2 : Int32) (p3 : Int32) (K : Dy → Prop) : CV l yX11_comesTo (.code yX11_comesTo cX11_comesTo 4 none :: wsL_law) rm_X11_comesTo D cs E d sz [.ref a0, .int p1, .int p2, .int p3] (w_X11_comesTo E a0 p1 p2 p3 d K) K := by
  refine e_of (cc := cX11_comesTo) (maxL := 4) (ret := none) (own := RX11) (by decide) rfl rfl (Nat.le_of_ble_eq_true rfl) ?_
  intro p e s m below meth c S hr hlocks hsz H locs hw h ls hl
  have hl : lv_has ls 4 [(0, .ref a0), (1, .int p1), (2, .int p2), (3, .int p3)] := hl
  unfold w_X11_comesTo at h
  obtain ⟨ha0, h⟩ := h
  refine lv_aload_n S.1 S.2.1 (dd_at ddX11_comesTo 0 rfl) rfl (lv_at hl 0 rfl) ?_
  obtain ⟨b_1, hb_2, ho_3, h⟩ := h
  refine r_getR S hw 11 21 rfl inG11 (by decide) (List.mem_cons_of_mem _ wg163) (by decide) ha0 hb_2 (dd_at ddX11_comesTo 1 rfl) ?_
  refine lv_iload_n S.1 S.2.1 (dd_at ddX11_comesTo 2 rfl) rfl (lv_at hl 1 rfl) ?_
  refine lv_iload_n S.1 S.2.1 (dd_at ddX11_comesTo 3 rfl) rfl (lv_at hl 2 rfl) ?_
  obtain ⟨hx_4, h⟩ := h
  refine r_iast S hw ho_3 hx_4 (dd_at ddX11_comesTo 4 rfl) (fun H locs hw => ?_)
  refine lv_aload_n S.1 S.2.1 (dd_at ddX11_comesTo 5 rfl) rfl (lv_at hl 0 rfl) ?_
  obtain ⟨b_5, hb_6, ho_7, h⟩ := h
  refine r_getR S hw 11 22 rfl inG11 (by decide) (List.mem_cons_of_mem _ wg164) (by decide) ha0 hb_6 (dd_at ddX11_comesTo 6 rfl) ?_
  refine lv_iload_n S.1 S.2.1 (dd_at ddX11_comesTo 7 rfl) rfl (lv_at hl 1 rfl) ?_
  refine lv_iload_n S.1 S.2.1 (dd_at ddX11_comesTo 8 rfl) rfl (lv_at hl 3 rfl) ?_
  obtain ⟨hx_8, h⟩ := h
  refine r_iast S hw ho_7 hx_8 (dd_at ddX11_comesTo 9 rfl) (fun H locs hw => ?_)
  exact e_V S hr hlocks hw h (dd_at ddX11_comesTo 10 rfl)

def b_X11_dies_9 (E : En) (a0 : Nat) (p1 : Int32) (p2 : Int32) (K : Dy → Prop) (k9 : Int32 → Dy → Prop) (v3 : Int32) (d : Dy) : Prop := w_X11_huts E a0 d (fun r_2 d_1 => ((r_2 ≤ v3 → K d_1) ∧ (¬ r_2 ≤ v3 → ∃ b_4 : Nat, eR E a0 21 = some b_4 ∧ okA E b_4 13 ∧ vp_in v3 (eN E b_4) ∧ (((gA d_1 b_4 (v3).toNatClampNeg) = p1 → w_X11_heirOf E a0 p1 v3 p2 d_1 (fun r_10 d_9 => ∃ b_11 : Nat, eR E a0 21 = some b_11 ∧ okA E b_11 13 ∧ vp_in v3 (eN E b_11) ∧ ((r_10 < 0 → k9 (v3 + 1) (pA d_9 b_11 (v3).toNatClampNeg (-1))) ∧ (¬ r_10 < 0 → w_X11_comesTo E a0 v3 r_10 p2 (pA d_9 b_11 (v3).toNatClampNeg (-1)) (fun d_16 => k9 (v3 + 1) d_16))))) ∧ (¬ (gA d_1 b_4 (v3).toNatClampNeg) = p1 → k9 (v3 + 1) d_1)))))
def l_X11_dies_9 (E : En) (a0 : Nat) (p1 : Int32) (p2 : Int32) (K : Dy → Prop) : Nat → Int32 → Dy → Prop
  | 0 => fun _ _ => False
  | n + 1 => b_X11_dies_9 E a0 p1 p2 K (l_X11_dies_9 E a0 p1 p2 K n)
def w_X11_dies (E : En) (a0 : Nat) (p1 : Int32) (p2 : Int32) (d : Dy) (K : Dy → Prop) : Prop := okO E a0 11 ∧ ∃ b_18 : Nat, eR E a0 18 = some b_18 ∧ okA E b_18 15 ∧ vp_in p1 (eN E b_18) ∧ (∃ n_22 : Nat, l_X11_dies_9 E a0 p1 p2 K n_22 0 (pA d b_18 (p1).toNatClampNeg (vp_nar .boolean 0)))
abbrev rm_X11_dies : Room := { frames := 4, cells := 0, slots := 0, locals := 96 }
set_option maxRecDepth 100000 in
set_option maxHeartbeats 4000000 in
theorem m_X11_dies (l : Launch) (D : va_G) (cs : Nat → ClassId) (E : En) (d : Dy) (sz : Nat) (a0 : Nat) (p1 : Int32) (p2 : Int32) (K : Dy → Prop) : CV l yX11_dies (.code yX11_dies cX11_dies 5 none :: wsL_law) rm_X11_dies D cs E d sz [.ref a0, .int p1, .int p2] (w_X11_dies E a0 p1 p2 d K) K := by
  refine e_of (cc := cX11_dies) (maxL := 5) (ret := none) (own := RX11) (by decide) rfl rfl (Nat.le_of_ble_eq_true rfl) ?_
  intro p e s m below meth c S hr hlocks hsz H locs hw h ls hl
  have hl : lv_has ls 5 [(0, .ref a0), (1, .int p1), (2, .int p2)] := hl
  unfold w_X11_dies at h
  obtain ⟨ha0, h⟩ := h
  have tl9 : ∀ (n : Nat) (v3 : Int32) (d : Dy) (H : Heap) (locs : List Loc) (ls : Array Slot), l_X11_dies_9 E a0 p1 p2 K n v3 d → Wd D cs (AW E sz) s.heap s E d H locs → lv_has ls 5 [(0, .ref a0), (1, .int p1), (2, .int p2), (3, .int v3)] → W p l e rm_X11_dies s m ([.ref a0, .int p1, .int p2] : List Value).toArray below meth c H locs 0 0 (MQ below (va_Qv K (OutW D cs E (AW E sz)) (AW E sz)) ([.ref a0, .int p1, .int p2] : List Value).toArray s rm_X11_dies.cells rm_X11_dies.slots (AW E sz)) (F0 m 9 ls []) := by
    intro n9
    induction n9 with
    | zero => intro v3 d H locs ls h; exact absurd h id
    | succ n9 ih9 =>
      intro v3 d H locs ls h hw hl
      have h : b_X11_dies_9 E a0 p1 p2 K (l_X11_dies_9 E a0 p1 p2 K n9) v3 d := h
      unfold b_X11_dies_9 at h
      refine lv_iload_n S.1 S.2.1 (dd_at ddX11_dies 7 rfl) rfl (lv_at hl 3 rfl) ?_
      refine lv_aload_n S.1 S.2.1 (dd_at ddX11_dies 8 rfl) rfl (lv_at hl 0 rfl) ?_
      refine r_callI hw (r_runV (As := []) (rest := [.int v3]) S hw (m_X11_huts l D cs E d H.size a0 _) (cwV 0 S.2.2.2.2 (gV wg596 wg597 wg598 wg5 wg599) rfl rfl rfl (by decide +kernel) ⟨Nat.le_of_ble_eq_true rfl, Nat.le_of_ble_eq_true rfl⟩) (ci := 11) rfl ha0 h rfl hl.1 rfl (Nat.le_of_ble_eq_true rfl) (dd_at ddX11_dies 9 rfl) ⟨Nat.le_of_ble_eq_true rfl, Nat.le_of_ble_eq_true rfl⟩) (fun r_2 d_1 H locs h hw => ?_)
      refine lv_icmp_ge (tgt := 65) S.1 S.2.1 (dd_at ddX11_dies 10 rfl) (by decide) (fun hc_3 => ?_) (fun hc_3 => ?_)
      · have h := h.1 hc_3
        exact e_V S hr hlocks hw h (dd_at ddX11_dies 38 rfl)
      · have h := h.2 hc_3
        refine lv_aload_n S.1 S.2.1 (dd_at ddX11_dies 11 rfl) rfl (lv_at hl 0 rfl) ?_
        obtain ⟨b_4, hb_5, ho_6, h⟩ := h
        refine r_getR S hw 11 21 rfl inG11 (by decide) (List.mem_cons_of_mem _ wg163) (by decide) ha0 hb_5 (dd_at ddX11_dies 12 rfl) ?_
        refine lv_iload_n S.1 S.2.1 (dd_at ddX11_dies 13 rfl) rfl (lv_at hl 3 rfl) ?_
        obtain ⟨hx_7, h⟩ := h
        refine r_iald S hw ho_6 hx_7 (dd_at ddX11_dies 14 rfl) ?_
        refine lv_iload_n S.1 S.2.1 (dd_at ddX11_dies 15 rfl) rfl (lv_at hl 1 rfl) ?_
        refine lv_icmp_eq (tgt := 30) S.1 S.2.1 (dd_at ddX11_dies 16 rfl) (by decide) (fun hc_8 => ?_) (fun hc_8 => ?_)
        · have h := h.1 hc_8
          refine lv_aload_n S.1 S.2.1 (dd_at ddX11_dies 18 rfl) rfl (lv_at hl 0 rfl) ?_
          refine lv_iload_n S.1 S.2.1 (dd_at ddX11_dies 19 rfl) rfl (lv_at hl 1 rfl) ?_
          refine lv_iload_n S.1 S.2.1 (dd_at ddX11_dies 20 rfl) rfl (lv_at hl 3 rfl) ?_
          refine lv_iload_n S.1 S.2.1 (dd_at ddX11_dies 21 rfl) rfl (lv_at hl 2 rfl) ?_
          refine r_callI hw (r_runV (As := [.int p1, .int v3, .int p2]) (rest := []) S hw (m_X11_heirOf l D cs E d_1 H.size a0 p1 v3 p2 _) (cwV 3 S.2.2.2.2 (gV wg839 wg840 wg841 wg5 wg842) rfl rfl rfl (by decide +kernel) ⟨Nat.le_of_ble_eq_true rfl, Nat.le_of_ble_eq_true rfl⟩) (ci := 11) rfl ha0 h rfl hl.1 rfl (Nat.le_of_ble_eq_true rfl) (dd_at ddX11_dies 22 rfl) ⟨Nat.le_of_ble_eq_true rfl, Nat.le_of_ble_eq_true rfl⟩) (fun r_10 d_9 H locs h hw => ?_)
          refine lv_istore (lv' := [(4, .int r_10), (0, .ref a0), (1, .int p1), (2, .int p2), (3, .int v3)]) S.1 S.2.1 (dd_at ddX11_dies 23 rfl) hl (by decide) rfl (fun ls hl => ?_)
          refine lv_aload_n S.1 S.2.1 (dd_at ddX11_dies 24 rfl) rfl (lv_at hl 1 rfl) ?_
          obtain ⟨b_11, hb_12, ho_13, h⟩ := h
          refine r_getR S hw 11 21 rfl inG11 (by decide) (List.mem_cons_of_mem _ wg163) (by decide) ha0 hb_12 (dd_at ddX11_dies 25 rfl) ?_
          refine lv_iload_n S.1 S.2.1 (dd_at ddX11_dies 26 rfl) rfl (lv_at hl 4 rfl) ?_
          refine lv_iconst (v := -1) S.1 S.2.1 (dd_at ddX11_dies 27 rfl) (by decide) ?_
          obtain ⟨hx_14, h⟩ := h
          refine r_iast S hw ho_13 hx_14 (dd_at ddX11_dies 28 rfl) (fun H locs hw => ?_)
          refine lv_iload S.1 S.2.1 (dd_at ddX11_dies 29 rfl) (lv_at hl 0 rfl) ?_
          refine lv_if_lt (tgt := 59) S.1 S.2.1 (dd_at ddX11_dies 30 rfl) (by decide) (fun hc_15 => ?_) (fun hc_15 => ?_)
          · have h := h.1 hc_15
            refine lv_iinc (v := v3 + 1) (lv' := [(3, .int (v3 + 1)), (4, .int r_10), (0, .ref a0), (1, .int p1), (2, .int p2)]) S.1 S.2.1 (dd_at ddX11_dies 36 rfl) hl (k := 4) rfl rfl (by decide) rfl (fun ls hl => ?_)
            refine lv_goto (tgt := 9) S.1 S.2.1 (dd_at ddX11_dies 37 rfl) (by decide) ?_
            exact ih9 (v3 + 1) (pA d_9 b_11 (v3).toNatClampNeg (-1)) H locs ls h hw (lv_sub hl [2, 3, 4, 0] rfl)
          · have h := h.2 hc_15
            refine lv_aload_n S.1 S.2.1 (dd_at ddX11_dies 31 rfl) rfl (lv_at hl 1 rfl) ?_
            refine lv_iload_n S.1 S.2.1 (dd_at ddX11_dies 32 rfl) rfl (lv_at hl 4 rfl) ?_
            refine lv_iload S.1 S.2.1 (dd_at ddX11_dies 33 rfl) (lv_at hl 0 rfl) ?_
            refine lv_iload_n S.1 S.2.1 (dd_at ddX11_dies 34 rfl) rfl (lv_at hl 3 rfl) ?_
            refine r_callV hw (r_runV (As := [.int v3, .int r_10, .int p2]) (rest := []) S hw (m_X11_comesTo l D cs E (pA d_9 b_11 (v3).toNatClampNeg (-1)) H.size a0 v3 r_10 p2 _) (cwV 3 S.2.2.2.2 (gV wg888 wg889 wg890 wg5 wg891) rfl rfl rfl (by decide +kernel) ⟨Nat.le_of_ble_eq_true rfl, Nat.le_of_ble_eq_true rfl⟩) (ci := 11) rfl ha0 h rfl hl.1 rfl (Nat.le_of_ble_eq_true rfl) (dd_at ddX11_dies 35 rfl) ⟨Nat.le_of_ble_eq_true rfl, Nat.le_of_ble_eq_true rfl⟩) (fun d_16 H locs h hw => ?_)
            refine lv_iinc (v := v3 + 1) (lv' := [(3, .int (v3 + 1)), (4, .int r_10), (0, .ref a0), (1, .int p1), (2, .int p2)]) S.1 S.2.1 (dd_at ddX11_dies 36 rfl) hl (k := 4) rfl rfl (by decide) rfl (fun ls hl => ?_)
            refine lv_goto (tgt := 9) S.1 S.2.1 (dd_at ddX11_dies 37 rfl) (by decide) ?_
            exact ih9 (v3 + 1) d_16 H locs ls h hw (lv_sub hl [2, 3, 4, 0] rfl)
        · have h := h.2 hc_8
          refine lv_goto (tgt := 59) S.1 S.2.1 (dd_at ddX11_dies 17 rfl) (by decide) ?_
          refine lv_iinc (v := v3 + 1) (lv' := [(3, .int (v3 + 1)), (0, .ref a0), (1, .int p1), (2, .int p2)]) S.1 S.2.1 (dd_at ddX11_dies 36 rfl) hl (k := 3) rfl rfl (by decide) rfl (fun ls hl => ?_)
          refine lv_goto (tgt := 9) S.1 S.2.1 (dd_at ddX11_dies 37 rfl) (by decide) ?_
          exact ih9 (v3 + 1) d_1 H locs ls h hw (lv_sub hl [1, 2, 3, 0] rfl)
  refine lv_aload_n S.1 S.2.1 (dd_at ddX11_dies 0 rfl) rfl (lv_at hl 0 rfl) ?_
  obtain ⟨b_18, hb_19, ho_20, h⟩ := h
  refine r_getR S hw 11 18 rfl inG11 (by decide) (List.mem_cons_of_mem _ wg160) (by decide) ha0 hb_19 (dd_at ddX11_dies 1 rfl) ?_
  refine lv_iload_n S.1 S.2.1 (dd_at ddX11_dies 2 rfl) rfl (lv_at hl 1 rfl) ?_
  refine lv_iconst (v := 0) S.1 S.2.1 (dd_at ddX11_dies 3 rfl) (by decide) ?_
  obtain ⟨hx_21, h⟩ := h
  refine r_zast S hw ho_20 hx_21 (dd_at ddX11_dies 4 rfl) (fun H locs hw => ?_)
  refine lv_iconst (v := 0) S.1 S.2.1 (dd_at ddX11_dies 5 rfl) (by decide) ?_
  refine lv_istore_n (lv' := [(3, .int 0), (0, .ref a0), (1, .int p1), (2, .int p2)]) S.1 S.2.1 (dd_at ddX11_dies 6 rfl) rfl hl (by decide) rfl (fun ls hl => ?_)
  obtain ⟨n_22, h⟩ := h
  exact tl9 n_22 0 (pA d b_18 (p1).toNatClampNeg (vp_nar .boolean 0)) H locs ls h hw (lv_sub hl [1, 2, 3, 0] rfl)

def w_X11_isKin (E : En) (a0 : Nat) (p1 : Int32) (p2 : Int32) (d : Dy) (K : Int32 → Dy → Prop) : Prop := okO E a0 11 ∧ w_X11_spouseOf E a0 p1 d (fun r_2 d_1 => ((r_2 = p2 → K 1 d_1) ∧ (¬ r_2 = p2 → w_X11_isChild E a0 p1 p2 d_1 (fun r_5 d_4 => ((¬ r_5 = 0 → K 1 d_4) ∧ (r_5 = 0 → ∃ b_7 : Nat, eR E a0 20 = some b_7 ∧ okA E b_7 15 ∧ vp_in ((12 * p2) + p1) (eN E b_7) ∧ ((¬ (gA d_4 b_7 ((12 * p2) + p1).toNatClampNeg) = 0 → K 1 d_4) ∧ ((gA d_4 b_7 ((12 * p2) + p1).toNatClampNeg) = 0 → w_X11_areOfOne E a0 p1 p2 d_4 (fun r_13 d_12 => ((r_13 = 0 → K 0 d_12) ∧ (¬ r_13 = 0 → K 1 d_12)))))))))))
abbrev rm_X11_isKin : Room := { frames := 2, cells := 0, slots := 0, locals := 44 }
set_option maxRecDepth 100000 in
set_option maxHeartbeats 4000000 in
theorem m_X11_isKin (l : Launch) (D : va_G) (cs : Nat → ClassId) (E : En) (d : Dy) (sz : Nat) (a0 : Nat) (p1 : Int32) (p2 : Int32) (K : Int32 → Dy → Prop) : CI l yX11_isKin (.code yX11_isKin cX11_isKin 3 (some .boolean) :: wsL_law) rm_X11_isKin D cs E d sz [.ref a0, .int p1, .int p2] (w_X11_isKin E a0 p1 p2 d K) K := by
  refine e_of (cc := cX11_isKin) (maxL := 3) (ret := (some .boolean)) (own := RX11) (by decide) rfl rfl (Nat.le_of_ble_eq_true rfl) ?_
  intro p e s m below meth c S hr hlocks hsz H locs hw h ls hl
  have hl : lv_has ls 3 [(0, .ref a0), (1, .int p1), (2, .int p2)] := hl
  unfold w_X11_isKin at h
  obtain ⟨ha0, h⟩ := h
  refine lv_aload_n S.1 S.2.1 (dd_at ddX11_isKin 0 rfl) rfl (lv_at hl 0 rfl) ?_
  refine lv_iload_n S.1 S.2.1 (dd_at ddX11_isKin 1 rfl) rfl (lv_at hl 1 rfl) ?_
  refine r_callI hw (r_runV (As := [.int p1]) (rest := []) S hw (m_X11_spouseOf l D cs E d H.size a0 p1 _) (cwV 1 S.2.2.2.2 (gV wg864 wg865 wg866 wg5 wg867) rfl rfl rfl (by decide +kernel) ⟨Nat.le_of_ble_eq_true rfl, Nat.le_of_ble_eq_true rfl⟩) (ci := 11) rfl ha0 h rfl hl.1 rfl (Nat.le_of_ble_eq_true rfl) (dd_at ddX11_isKin 2 rfl) ⟨Nat.le_of_ble_eq_true rfl, Nat.le_of_ble_eq_true rfl⟩) (fun r_2 d_1 H locs h hw => ?_)
  refine lv_iload_n S.1 S.2.1 (dd_at ddX11_isKin 3 rfl) rfl (lv_at hl 2 rfl) ?_
  refine lv_icmp_eq (tgt := 41) S.1 S.2.1 (dd_at ddX11_isKin 4 rfl) (by decide) (fun hc_3 => ?_) (fun hc_3 => ?_)
  · have h := h.1 hc_3
    refine lv_iconst (v := 1) S.1 S.2.1 (dd_at ddX11_isKin 24 rfl) (by decide) ?_
    refine lv_goto (tgt := 46) S.1 S.2.1 (dd_at ddX11_isKin 25 rfl) (by decide) ?_
    exact e_Z S hr hlocks hw (Or.inr rfl) h (dd_at ddX11_isKin 27 rfl)
  · have h := h.2 hc_3
    refine lv_aload_n S.1 S.2.1 (dd_at ddX11_isKin 5 rfl) rfl (lv_at hl 0 rfl) ?_
    refine lv_iload_n S.1 S.2.1 (dd_at ddX11_isKin 6 rfl) rfl (lv_at hl 1 rfl) ?_
    refine lv_iload_n S.1 S.2.1 (dd_at ddX11_isKin 7 rfl) rfl (lv_at hl 2 rfl) ?_
    refine r_callI hw (r_runV (As := [.int p1, .int p2]) (rest := []) S hw (m_X11_isChild l D cs E d_1 H.size a0 p1 p2 _) (cwV 2 S.2.2.2.2 (gV wg856 wg857 wg858 wg5 wg859) rfl rfl rfl (by decide +kernel) ⟨Nat.le_of_ble_eq_true rfl, Nat.le_of_ble_eq_true rfl⟩) (ci := 11) rfl ha0 h rfl hl.1 rfl (Nat.le_of_ble_eq_true rfl) (dd_at ddX11_isKin 8 rfl) ⟨Nat.le_of_ble_eq_true rfl, Nat.le_of_ble_eq_true rfl⟩) (fun r_5 d_4 H locs h hw => ?_)
    refine lv_if_ne (tgt := 41) S.1 S.2.1 (dd_at ddX11_isKin 9 rfl) (by decide) (fun hc_6 => ?_) (fun hc_6 => ?_)
    · have h := h.1 hc_6
      refine lv_iconst (v := 1) S.1 S.2.1 (dd_at ddX11_isKin 24 rfl) (by decide) ?_
      refine lv_goto (tgt := 46) S.1 S.2.1 (dd_at ddX11_isKin 25 rfl) (by decide) ?_
      exact e_Z S hr hlocks hw (Or.inr rfl) h (dd_at ddX11_isKin 27 rfl)
    · have h := h.2 hc_6
      refine lv_aload_n S.1 S.2.1 (dd_at ddX11_isKin 10 rfl) rfl (lv_at hl 0 rfl) ?_
      obtain ⟨b_7, hb_8, ho_9, h⟩ := h
      refine r_getR S hw 11 20 rfl inG11 (by decide) (List.mem_cons_of_mem _ wg162) (by decide) ha0 hb_8 (dd_at ddX11_isKin 11 rfl) ?_
      refine lv_bipush (v := 12) S.1 S.2.1 (dd_at ddX11_isKin 12 rfl) (by decide) ?_
      refine lv_iload_n S.1 S.2.1 (dd_at ddX11_isKin 13 rfl) rfl (lv_at hl 2 rfl) ?_
      refine lv_imul S.1 S.2.1 (dd_at ddX11_isKin 14 rfl) ?_
      refine lv_iload_n S.1 S.2.1 (dd_at ddX11_isKin 15 rfl) rfl (lv_at hl 1 rfl) ?_
      refine lv_iadd S.1 S.2.1 (dd_at ddX11_isKin 16 rfl) ?_
      obtain ⟨hx_10, h⟩ := h
      refine r_zald S hw ho_9 hx_10 (dd_at ddX11_isKin 17 rfl) ?_
      refine lv_if_ne (tgt := 41) S.1 S.2.1 (dd_at ddX11_isKin 18 rfl) (by decide) (fun hc_11 => ?_) (fun hc_11 => ?_)
      · have h := h.1 hc_11
        refine lv_iconst (v := 1) S.1 S.2.1 (dd_at ddX11_isKin 24 rfl) (by decide) ?_
        refine lv_goto (tgt := 46) S.1 S.2.1 (dd_at ddX11_isKin 25 rfl) (by decide) ?_
        exact e_Z S hr hlocks hw (Or.inr rfl) h (dd_at ddX11_isKin 27 rfl)
      · have h := h.2 hc_11
        refine lv_aload_n S.1 S.2.1 (dd_at ddX11_isKin 19 rfl) rfl (lv_at hl 0 rfl) ?_
        refine lv_iload_n S.1 S.2.1 (dd_at ddX11_isKin 20 rfl) rfl (lv_at hl 1 rfl) ?_
        refine lv_iload_n S.1 S.2.1 (dd_at ddX11_isKin 21 rfl) rfl (lv_at hl 2 rfl) ?_
        refine r_callI hw (r_runV (As := [.int p1, .int p2]) (rest := []) S hw (m_X11_areOfOne l D cs E d_4 H.size a0 p1 p2 _) (cwV 2 S.2.2.2.2 (gV wg884 wg885 wg886 wg5 wg887) rfl rfl rfl (by decide +kernel) ⟨Nat.le_of_ble_eq_true rfl, Nat.le_of_ble_eq_true rfl⟩) (ci := 11) rfl ha0 h rfl hl.1 rfl (Nat.le_of_ble_eq_true rfl) (dd_at ddX11_isKin 22 rfl) ⟨Nat.le_of_ble_eq_true rfl, Nat.le_of_ble_eq_true rfl⟩) (fun r_13 d_12 H locs h hw => ?_)
        refine lv_if_eq (tgt := 45) S.1 S.2.1 (dd_at ddX11_isKin 23 rfl) (by decide) (fun hc_14 => ?_) (fun hc_14 => ?_)
        · have h := h.1 hc_14
          refine lv_iconst (v := 0) S.1 S.2.1 (dd_at ddX11_isKin 26 rfl) (by decide) ?_
          exact e_Z S hr hlocks hw (Or.inl rfl) h (dd_at ddX11_isKin 27 rfl)
        · have h := h.2 hc_14
          refine lv_iconst (v := 1) S.1 S.2.1 (dd_at ddX11_isKin 24 rfl) (by decide) ?_
          refine lv_goto (tgt := 46) S.1 S.2.1 (dd_at ddX11_isKin 25 rfl) (by decide) ?_
          exact e_Z S hr hlocks hw (Or.inr rfl) h (dd_at ddX11_isKin 27 rfl)

def b_X11_rowPlace_2 (E : En) (a0 : Nat) (p1 : Int32) (K : Int32 → Dy → Prop) (k2 : Int32 → Dy → Prop) (v2 : Int32) (d : Dy) : Prop := ∃ b_1 : Nat, eR E a0 23 = some b_1 ∧ okA E b_1 13 ∧ vp_in v2 (eN E b_1) ∧ (((gA d b_1 (v2).toNatClampNeg) = p1 → K v2 d) ∧ (¬ (gA d b_1 (v2).toNatClampNeg) = p1 → k2 (v2 + 1) d))
def l_X11_rowPlace_2 (E : En) (a0 : Nat) (p1 : Int32) (K : Int32 → Dy → Prop) : Nat → Int32 → Dy → Prop
  | 0 => fun _ _ => False
  | n + 1 => b_X11_rowPlace_2 E a0 p1 K (l_X11_rowPlace_2 E a0 p1 K n)
def w_X11_rowPlace (E : En) (a0 : Nat) (p1 : Int32) (d : Dy) (K : Int32 → Dy → Prop) : Prop := okO E a0 11 ∧ (∃ n_6 : Nat, l_X11_rowPlace_2 E a0 p1 K n_6 0 d)
abbrev rm_X11_rowPlace : Room := { frames := 0, cells := 0, slots := 0, locals := 0 }
set_option maxRecDepth 100000 in
set_option maxHeartbeats 4000000 in
theorem m_X11_rowPlace (l : Launch) (D : va_G) (cs : Nat → ClassId) (E : En) (d : Dy) (sz : Nat) (a0 : Nat) (p1 : Int32) (K : Int32 → Dy → Prop) : CI l yX11_rowPlace (.code yX11_rowPlace cX11_rowPlace 3 (some .int) :: wsL_law) rm_X11_rowPlace D cs E d sz [.ref a0, .int p1] (w_X11_rowPlace E a0 p1 d K) K := by
  refine e_of (cc := cX11_rowPlace) (maxL := 3) (ret := (some .int)) (own := RX11) (by decide) rfl rfl (Nat.le_of_ble_eq_true rfl) ?_
  intro p e s m below meth c S hr hlocks hsz H locs hw h ls hl
  have hl : lv_has ls 3 [(0, .ref a0), (1, .int p1)] := hl
  unfold w_X11_rowPlace at h
  obtain ⟨ha0, h⟩ := h
  have tl2 : ∀ (n : Nat) (v2 : Int32) (d : Dy) (H : Heap) (locs : List Loc) (ls : Array Slot), l_X11_rowPlace_2 E a0 p1 K n v2 d → Wd D cs (AW E sz) s.heap s E d H locs → lv_has ls 3 [(0, .ref a0), (1, .int p1), (2, .int v2)] → W p l e rm_X11_rowPlace s m ([.ref a0, .int p1] : List Value).toArray below meth c H locs 0 0 (MQ below (va_Qi K (OutW D cs E (AW E sz)) (AW E sz)) ([.ref a0, .int p1] : List Value).toArray s rm_X11_rowPlace.cells rm_X11_rowPlace.slots (AW E sz)) (F0 m 2 ls []) := by
    intro n2
    induction n2 with
    | zero => intro v2 d H locs ls h; exact absurd h id
    | succ n2 ih2 =>
      intro v2 d H locs ls h hw hl
      have h : b_X11_rowPlace_2 E a0 p1 K (l_X11_rowPlace_2 E a0 p1 K n2) v2 d := h
      unfold b_X11_rowPlace_2 at h
      refine lv_aload_n S.1 S.2.1 (dd_at ddX11_rowPlace 2 rfl) rfl (lv_at hl 0 rfl) ?_
      obtain ⟨b_1, hb_2, ho_3, h⟩ := h
      refine r_getR S hw 11 23 rfl inG11 (by decide) (List.mem_cons_of_mem _ wg165) (by decide) ha0 hb_2 (dd_at ddX11_rowPlace 3 rfl) ?_
      refine lv_iload_n S.1 S.2.1 (dd_at ddX11_rowPlace 4 rfl) rfl (lv_at hl 2 rfl) ?_
      obtain ⟨hx_4, h⟩ := h
      refine r_iald S hw ho_3 hx_4 (dd_at ddX11_rowPlace 5 rfl) ?_
      refine lv_iload_n S.1 S.2.1 (dd_at ddX11_rowPlace 6 rfl) rfl (lv_at hl 1 rfl) ?_
      refine lv_icmp_eq (tgt := 18) S.1 S.2.1 (dd_at ddX11_rowPlace 7 rfl) (by decide) (fun hc_5 => ?_) (fun hc_5 => ?_)
      · have h := h.1 hc_5
        refine lv_iload_n S.1 S.2.1 (dd_at ddX11_rowPlace 10 rfl) rfl (lv_at hl 2 rfl) ?_
        exact e_I S hr hlocks hw h (dd_at ddX11_rowPlace 11 rfl)
      · have h := h.2 hc_5
        refine lv_iinc (v := v2 + 1) (lv' := [(2, .int (v2 + 1)), (0, .ref a0), (1, .int p1)]) S.1 S.2.1 (dd_at ddX11_rowPlace 8 rfl) hl (k := 2) rfl rfl (by decide) rfl (fun ls hl => ?_)
        refine lv_goto (tgt := 2) S.1 S.2.1 (dd_at ddX11_rowPlace 9 rfl) (by decide) ?_
        exact ih2 (v2 + 1) d H locs ls h hw (lv_sub hl [1, 2, 0] rfl)
  refine lv_iconst (v := 0) S.1 S.2.1 (dd_at ddX11_rowPlace 0 rfl) (by decide) ?_
  refine lv_istore_n (lv' := [(2, .int 0), (0, .ref a0), (1, .int p1)]) S.1 S.2.1 (dd_at ddX11_rowPlace 1 rfl) rfl hl (by decide) rfl (fun ls hl => ?_)
  obtain ⟨n_6, h⟩ := h
  exact tl2 n_6 0 d H locs ls h hw (lv_sub hl [1, 2, 0] rfl)

def b_X11_moves_31 (E : En) (a0 : Nat) (p1 : Int32) (p2 : Int32) (K : Dy → Prop) (k31 : Int32 → Dy → Prop) (v3 : Int32) (d : Dy) : Prop := ((p2 ≤ v3 → ∃ b_2 : Nat, eR E a0 23 = some b_2 ∧ okA E b_2 13 ∧ vp_in v3 (eN E b_2) ∧ K (pA d b_2 (v3).toNatClampNeg p1)) ∧ (¬ p2 ≤ v3 → ∃ b_6 : Nat, eR E a0 23 = some b_6 ∧ okA E b_6 13 ∧ ∃ b_9 : Nat, eR E a0 23 = some b_9 ∧ okA E b_9 13 ∧ vp_in (v3 + 1) (eN E b_9) ∧ vp_in v3 (eN E b_6) ∧ k31 (v3 + 1) (pA d b_6 (v3).toNatClampNeg (gA d b_9 (v3 + 1).toNatClampNeg))))
def l_X11_moves_31 (E : En) (a0 : Nat) (p1 : Int32) (p2 : Int32) (K : Dy → Prop) : Nat → Int32 → Dy → Prop
  | 0 => fun _ _ => False
  | n + 1 => b_X11_moves_31 E a0 p1 p2 K (l_X11_moves_31 E a0 p1 p2 K n)
def b_X11_moves_6 (E : En) (a0 : Nat) (p1 : Int32) (p2 : Int32) (K : Dy → Prop) (k6 : Int32 → Dy → Prop) (v3 : Int32) (d : Dy) : Prop := ((v3 ≤ p2 → (∃ n_15 : Nat, l_X11_moves_31 E a0 p1 p2 K n_15 v3 d)) ∧ (¬ v3 ≤ p2 → ∃ b_16 : Nat, eR E a0 23 = some b_16 ∧ okA E b_16 13 ∧ ∃ b_19 : Nat, eR E a0 23 = some b_19 ∧ okA E b_19 13 ∧ vp_in (v3 - 1) (eN E b_19) ∧ vp_in v3 (eN E b_16) ∧ k6 (v3 + (-1)) (pA d b_16 (v3).toNatClampNeg (gA d b_19 (v3 - 1).toNatClampNeg))))
def l_X11_moves_6 (E : En) (a0 : Nat) (p1 : Int32) (p2 : Int32) (K : Dy → Prop) : Nat → Int32 → Dy → Prop
  | 0 => fun _ _ => False
  | n + 1 => b_X11_moves_6 E a0 p1 p2 K (l_X11_moves_6 E a0 p1 p2 K n)
def w_X11_moves (E : En) (a0 : Nat) (p1 : Int32) (p2 : Int32) (d : Dy) (K : Dy → Prop) : Prop := okO E a0 11 ∧ w_X11_rowPlace E a0 p1 d (fun r_25 d_24 => (∃ n_26 : Nat, l_X11_moves_6 E a0 p1 p2 K n_26 r_25 d_24))
abbrev rm_X11_moves : Room := { frames := 1, cells := 0, slots := 0, locals := 22 }
set_option maxRecDepth 100000 in
set_option maxHeartbeats 4000000 in
theorem m_X11_moves (l : Launch) (D : va_G) (cs : Nat → ClassId) (E : En) (d : Dy) (sz : Nat) (a0 : Nat) (p1 : Int32) (p2 : Int32) (K : Dy → Prop) : CV l yX11_moves (.code yX11_moves cX11_moves 4 none :: wsL_law) rm_X11_moves D cs E d sz [.ref a0, .int p1, .int p2] (w_X11_moves E a0 p1 p2 d K) K := by
  refine e_of (cc := cX11_moves) (maxL := 4) (ret := none) (own := RX11) (by decide) rfl rfl (Nat.le_of_ble_eq_true rfl) ?_
  intro p e s m below meth c S hr hlocks hsz H locs hw h ls hl
  have hl : lv_has ls 4 [(0, .ref a0), (1, .int p1), (2, .int p2)] := hl
  unfold w_X11_moves at h
  obtain ⟨ha0, h⟩ := h
  have tl31 : ∀ (n : Nat) (v3 : Int32) (d : Dy) (H : Heap) (locs : List Loc) (ls : Array Slot), l_X11_moves_31 E a0 p1 p2 K n v3 d → Wd D cs (AW E sz) s.heap s E d H locs → lv_has ls 4 [(0, .ref a0), (1, .int p1), (2, .int p2), (3, .int v3)] → W p l e rm_X11_moves s m ([.ref a0, .int p1, .int p2] : List Value).toArray below meth c H locs 0 0 (MQ below (va_Qv K (OutW D cs E (AW E sz)) (AW E sz)) ([.ref a0, .int p1, .int p2] : List Value).toArray s rm_X11_moves.cells rm_X11_moves.slots (AW E sz)) (F0 m 31 ls []) := by
    intro n31
    induction n31 with
    | zero => intro v3 d H locs ls h; exact absurd h id
    | succ n31 ih31 =>
      intro v3 d H locs ls h hw hl
      have h : b_X11_moves_31 E a0 p1 p2 K (l_X11_moves_31 E a0 p1 p2 K n31) v3 d := h
      unfold b_X11_moves_31 at h
      refine lv_iload_n S.1 S.2.1 (dd_at ddX11_moves 19 rfl) rfl (lv_at hl 3 rfl) ?_
      refine lv_iload_n S.1 S.2.1 (dd_at ddX11_moves 20 rfl) rfl (lv_at hl 2 rfl) ?_
      refine lv_icmp_ge (tgt := 56) S.1 S.2.1 (dd_at ddX11_moves 21 rfl) (by decide) (fun hc_1 => ?_) (fun hc_1 => ?_)
      · have h := h.1 hc_1
        refine lv_aload_n S.1 S.2.1 (dd_at ddX11_moves 34 rfl) rfl (lv_at hl 0 rfl) ?_
        obtain ⟨b_2, hb_3, ho_4, h⟩ := h
        refine r_getR S hw 11 23 rfl inG11 (by decide) (List.mem_cons_of_mem _ wg165) (by decide) ha0 hb_3 (dd_at ddX11_moves 35 rfl) ?_
        refine lv_iload_n S.1 S.2.1 (dd_at ddX11_moves 36 rfl) rfl (lv_at hl 3 rfl) ?_
        refine lv_iload_n S.1 S.2.1 (dd_at ddX11_moves 37 rfl) rfl (lv_at hl 1 rfl) ?_
        obtain ⟨hx_5, h⟩ := h
        refine r_iast S hw ho_4 hx_5 (dd_at ddX11_moves 38 rfl) (fun H locs hw => ?_)
        exact e_V S hr hlocks hw h (dd_at ddX11_moves 39 rfl)
      · have h := h.2 hc_1
        refine lv_aload_n S.1 S.2.1 (dd_at ddX11_moves 22 rfl) rfl (lv_at hl 0 rfl) ?_
        obtain ⟨b_6, hb_7, ho_8, h⟩ := h
        refine r_getR S hw 11 23 rfl inG11 (by decide) (List.mem_cons_of_mem _ wg165) (by decide) ha0 hb_7 (dd_at ddX11_moves 23 rfl) ?_
        refine lv_iload_n S.1 S.2.1 (dd_at ddX11_moves 24 rfl) rfl (lv_at hl 3 rfl) ?_
        refine lv_aload_n S.1 S.2.1 (dd_at ddX11_moves 25 rfl) rfl (lv_at hl 0 rfl) ?_
        obtain ⟨b_9, hb_10, ho_11, h⟩ := h
        refine r_getR S hw 11 23 rfl inG11 (by decide) (List.mem_cons_of_mem _ wg165) (by decide) ha0 hb_10 (dd_at ddX11_moves 26 rfl) ?_
        refine lv_iload_n S.1 S.2.1 (dd_at ddX11_moves 27 rfl) rfl (lv_at hl 3 rfl) ?_
        refine lv_iconst (v := 1) S.1 S.2.1 (dd_at ddX11_moves 28 rfl) (by decide) ?_
        refine lv_iadd S.1 S.2.1 (dd_at ddX11_moves 29 rfl) ?_
        obtain ⟨hx_12, h⟩ := h
        refine r_iald S hw ho_11 hx_12 (dd_at ddX11_moves 30 rfl) ?_
        obtain ⟨hx_13, h⟩ := h
        refine r_iast S hw ho_8 hx_13 (dd_at ddX11_moves 31 rfl) (fun H locs hw => ?_)
        refine lv_iinc (v := v3 + 1) (lv' := [(3, .int (v3 + 1)), (0, .ref a0), (1, .int p1), (2, .int p2)]) S.1 S.2.1 (dd_at ddX11_moves 32 rfl) hl (k := 3) rfl rfl (by decide) rfl (fun ls hl => ?_)
        refine lv_goto (tgt := 31) S.1 S.2.1 (dd_at ddX11_moves 33 rfl) (by decide) ?_
        exact ih31 (v3 + 1) (pA d b_6 (v3).toNatClampNeg (gA d b_9 (v3 + 1).toNatClampNeg)) H locs ls h hw (lv_sub hl [1, 2, 3, 0] rfl)
  have tl6 : ∀ (n : Nat) (v3 : Int32) (d : Dy) (H : Heap) (locs : List Loc) (ls : Array Slot), l_X11_moves_6 E a0 p1 p2 K n v3 d → Wd D cs (AW E sz) s.heap s E d H locs → lv_has ls 4 [(0, .ref a0), (1, .int p1), (2, .int p2), (3, .int v3)] → W p l e rm_X11_moves s m ([.ref a0, .int p1, .int p2] : List Value).toArray below meth c H locs 0 0 (MQ below (va_Qv K (OutW D cs E (AW E sz)) (AW E sz)) ([.ref a0, .int p1, .int p2] : List Value).toArray s rm_X11_moves.cells rm_X11_moves.slots (AW E sz)) (F0 m 6 ls []) := by
    intro n6
    induction n6 with
    | zero => intro v3 d H locs ls h; exact absurd h id
    | succ n6 ih6 =>
      intro v3 d H locs ls h hw hl
      have h : b_X11_moves_6 E a0 p1 p2 K (l_X11_moves_6 E a0 p1 p2 K n6) v3 d := h
      unfold b_X11_moves_6 at h
      refine lv_iload_n S.1 S.2.1 (dd_at ddX11_moves 4 rfl) rfl (lv_at hl 3 rfl) ?_
      refine lv_iload_n S.1 S.2.1 (dd_at ddX11_moves 5 rfl) rfl (lv_at hl 2 rfl) ?_
      refine lv_icmp_le (tgt := 31) S.1 S.2.1 (dd_at ddX11_moves 6 rfl) (by decide) (fun hc_14 => ?_) (fun hc_14 => ?_)
      · have h := h.1 hc_14
        obtain ⟨n_15, h⟩ := h
        exact tl31 n_15 v3 d H locs ls h hw (lv_sub hl [0, 1, 2, 3] rfl)
      · have h := h.2 hc_14
        refine lv_aload_n S.1 S.2.1 (dd_at ddX11_moves 7 rfl) rfl (lv_at hl 0 rfl) ?_
        obtain ⟨b_16, hb_17, ho_18, h⟩ := h
        refine r_getR S hw 11 23 rfl inG11 (by decide) (List.mem_cons_of_mem _ wg165) (by decide) ha0 hb_17 (dd_at ddX11_moves 8 rfl) ?_
        refine lv_iload_n S.1 S.2.1 (dd_at ddX11_moves 9 rfl) rfl (lv_at hl 3 rfl) ?_
        refine lv_aload_n S.1 S.2.1 (dd_at ddX11_moves 10 rfl) rfl (lv_at hl 0 rfl) ?_
        obtain ⟨b_19, hb_20, ho_21, h⟩ := h
        refine r_getR S hw 11 23 rfl inG11 (by decide) (List.mem_cons_of_mem _ wg165) (by decide) ha0 hb_20 (dd_at ddX11_moves 11 rfl) ?_
        refine lv_iload_n S.1 S.2.1 (dd_at ddX11_moves 12 rfl) rfl (lv_at hl 3 rfl) ?_
        refine lv_iconst (v := 1) S.1 S.2.1 (dd_at ddX11_moves 13 rfl) (by decide) ?_
        refine lv_isub S.1 S.2.1 (dd_at ddX11_moves 14 rfl) ?_
        obtain ⟨hx_22, h⟩ := h
        refine r_iald S hw ho_21 hx_22 (dd_at ddX11_moves 15 rfl) ?_
        obtain ⟨hx_23, h⟩ := h
        refine r_iast S hw ho_18 hx_23 (dd_at ddX11_moves 16 rfl) (fun H locs hw => ?_)
        refine lv_iinc (v := v3 + (-1)) (lv' := [(3, .int (v3 + (-1))), (0, .ref a0), (1, .int p1), (2, .int p2)]) S.1 S.2.1 (dd_at ddX11_moves 17 rfl) hl (k := 3) rfl rfl (by decide) rfl (fun ls hl => ?_)
        refine lv_goto (tgt := 6) S.1 S.2.1 (dd_at ddX11_moves 18 rfl) (by decide) ?_
        exact ih6 (v3 + (-1)) (pA d b_16 (v3).toNatClampNeg (gA d b_19 (v3 - 1).toNatClampNeg)) H locs ls h hw (lv_sub hl [1, 2, 3, 0] rfl)
  refine lv_aload_n S.1 S.2.1 (dd_at ddX11_moves 0 rfl) rfl (lv_at hl 0 rfl) ?_
  refine lv_iload_n S.1 S.2.1 (dd_at ddX11_moves 1 rfl) rfl (lv_at hl 1 rfl) ?_
  refine r_callI hw (r_runV (As := [.int p1]) (rest := []) S hw (m_X11_rowPlace l D cs E d H.size a0 p1 _) (cwV 1 S.2.2.2.2 (gV wg900 wg901 wg902 wg5 wg903) rfl rfl rfl (by decide +kernel) ⟨Nat.le_of_ble_eq_true rfl, Nat.le_of_ble_eq_true rfl⟩) (ci := 11) rfl ha0 h rfl hl.1 rfl (Nat.le_of_ble_eq_true rfl) (dd_at ddX11_moves 2 rfl) ⟨Nat.le_of_ble_eq_true rfl, Nat.le_of_ble_eq_true rfl⟩) (fun r_25 d_24 H locs h hw => ?_)
  refine lv_istore_n (lv' := [(3, .int r_25), (0, .ref a0), (1, .int p1), (2, .int p2)]) S.1 S.2.1 (dd_at ddX11_moves 3 rfl) rfl hl (by decide) rfl (fun ls hl => ?_)
  obtain ⟨n_26, h⟩ := h
  exact tl6 n_26 r_25 d_24 H locs ls h hw (lv_sub hl [1, 2, 3, 0] rfl)

def b_X11_happens_125 (E : En) (a0 : Nat) (p1 : Int32) (K : Dy → Prop) (v2 : Int32) (v3 : Int32) (s0 : Nat) (s1 : Int32) (s2 : Int32) (d : Dy) : Prop := okA E s0 13 ∧ vp_in s1 (eN E s0) ∧ ∃ b_2 : Nat, eR E a0 19 = some b_2 ∧ okA E b_2 13 ∧ ∃ b_5 : Nat, eR E a0 19 = some b_5 ∧ okA E b_5 13 ∧ vp_in v3 (eN E b_5) ∧ ((¬ (gA (pA d s0 (s1).toNatClampNeg s2) b_5 (v3).toNatClampNeg) = v2 → ∃ b_10 : Nat, eR E a0 19 = some b_10 ∧ okA E b_10 13 ∧ vp_in v3 (eN E b_10) ∧ vp_in v3 (eN E b_2) ∧ K (pA (pA d s0 (s1).toNatClampNeg s2) b_2 (v3).toNatClampNeg (gA (pA d s0 (s1).toNatClampNeg s2) b_10 (v3).toNatClampNeg))) ∧ ((gA (pA d s0 (s1).toNatClampNeg s2) b_5 (v3).toNatClampNeg) = v2 → vp_in v3 (eN E b_2) ∧ K (pA (pA d s0 (s1).toNatClampNeg s2) b_2 (v3).toNatClampNeg (-1))))
def b_X11_happens_230 (E : En) (a0 : Nat) (p1 : Int32) (K : Dy → Prop) (v2 : Int32) (v3 : Int32) (s0 : Nat) (s1 : Int32) (s2 : Int32) (d : Dy) : Prop := okA E s0 15 ∧ vp_in s1 (eN E s0) ∧ w_X11_ofEvent E a0 p1 0 (pA d s0 (s1).toNatClampNeg (vp_nar .boolean s2)) (fun r_18 d_17 => w_X11_comesTo E a0 v2 v3 r_18 d_17 (fun d_19 => K d_19))
def w_X11_happens (E : En) (a0 : Nat) (p1 : Int32) (d : Dy) (K : Dy → Prop) : Prop := okO E a0 11 ∧ w_X11_ofEvent E a0 p1 2 d (fun r_22 d_21 => w_X11_ofEvent E a0 p1 3 d_21 (fun r_24 d_23 => w_X11_ofEvent E a0 p1 1 d_23 (fun r_26 d_25 => ((r_26 = 0 → ∃ b_28 : Nat, eR E a0 18 = some b_28 ∧ okA E b_28 15 ∧ vp_in r_22 (eN E b_28) ∧ (((gA d_25 b_28 (r_22).toNatClampNeg) = 0 → K d_25) ∧ (¬ (gA d_25 b_28 (r_22).toNatClampNeg) = 0 → w_X11_ofEvent E a0 p1 0 d_25 (fun r_34 d_33 => w_X11_dies E a0 r_22 r_34 d_33 (fun d_35 => K d_35))))) ∧ (r_26 = 1 → ∃ b_38 : Nat, eR E a0 19 = some b_38 ∧ okA E b_38 13 ∧ vp_in r_22 (eN E b_38) ∧ ∃ b_42 : Nat, eR E a0 19 = some b_42 ∧ okA E b_42 13 ∧ vp_in r_24 (eN E b_42) ∧ K (pA (pA d_25 b_38 (r_22).toNatClampNeg r_24) b_42 (r_24).toNatClampNeg r_22)) ∧ (r_26 = 2 → ∃ b_47 : Nat, eR E a0 19 = some b_47 ∧ okA E b_47 13 ∧ ∃ b_50 : Nat, eR E a0 19 = some b_50 ∧ okA E b_50 13 ∧ vp_in r_22 (eN E b_50) ∧ ((¬ (gA d_25 b_50 (r_22).toNatClampNeg) = r_24 → ∃ b_55 : Nat, eR E a0 19 = some b_55 ∧ okA E b_55 13 ∧ vp_in r_22 (eN E b_55) ∧ b_X11_happens_125 E a0 p1 K r_22 r_24 b_47 r_22 (gA d_25 b_55 (r_22).toNatClampNeg) d_25) ∧ ((gA d_25 b_50 (r_22).toNatClampNeg) = r_24 → b_X11_happens_125 E a0 p1 K r_22 r_24 b_47 r_22 (-1) d_25))) ∧ (r_26 = 3 → ∃ b_60 : Nat, eR E a0 20 = some b_60 ∧ okA E b_60 15 ∧ vp_in ((12 * r_22) + r_24) (eN E b_60) ∧ K (pA d_25 b_60 ((12 * r_22) + r_24).toNatClampNeg (vp_nar .boolean 1))) ∧ (r_26 = 4 → ∃ b_65 : Nat, eR E a0 21 = some b_65 ∧ okA E b_65 13 ∧ vp_in r_22 (eN E b_65) ∧ (((gA d_25 b_65 (r_22).toNatClampNeg) < 0 → K d_25) ∧ (¬ (gA d_25 b_65 (r_22).toNatClampNeg) < 0 → ∃ b_70 : Nat, eR E a0 21 = some b_70 ∧ okA E b_70 13 ∧ vp_in r_22 (eN E b_70) ∧ (((gA d_25 b_70 (r_22).toNatClampNeg) = r_24 → K d_25) ∧ (¬ (gA d_25 b_70 (r_22).toNatClampNeg) = r_24 → ∃ b_75 : Nat, eR E a0 18 = some b_75 ∧ okA E b_75 15 ∧ vp_in r_24 (eN E b_75) ∧ ((¬ (gA d_25 b_75 (r_24).toNatClampNeg) = 0 → ∃ b_80 : Nat, eR E a0 24 = some b_80 ∧ okA E b_80 15 ∧ vp_in p1 (eN E b_80) ∧ ∃ b_84 : Nat, eR E a0 25 = some b_84 ∧ okA E b_84 15 ∧ ∃ b_87 : Nat, eR E a0 21 = some b_87 ∧ okA E b_87 13 ∧ vp_in r_22 (eN E b_87) ∧ w_X11_isKin E a0 (gA (pA d_25 b_80 (p1).toNatClampNeg (vp_nar .boolean 1)) b_87 (r_22).toNatClampNeg) r_24 (pA d_25 b_80 (p1).toNatClampNeg (vp_nar .boolean 1)) (fun r_92 d_91 => ((¬ r_92 = 0 → b_X11_happens_230 E a0 p1 K r_22 r_24 b_84 p1 0 d_91) ∧ (r_92 = 0 → b_X11_happens_230 E a0 p1 K r_22 r_24 b_84 p1 1 d_91)))) ∧ ((gA d_25 b_75 (r_24).toNatClampNeg) = 0 → K d_25))))))) ∧ (r_26 = 5 → ∃ b_95 : Nat, eR E a0 21 = some b_95 ∧ okA E b_95 13 ∧ vp_in r_22 (eN E b_95) ∧ ((0 ≤ (gA d_25 b_95 (r_22).toNatClampNeg) → K d_25) ∧ (¬ 0 ≤ (gA d_25 b_95 (r_22).toNatClampNeg) → ∃ b_100 : Nat, eR E a0 18 = some b_100 ∧ okA E b_100 15 ∧ vp_in r_24 (eN E b_100) ∧ (((gA d_25 b_100 (r_24).toNatClampNeg) = 0 → K d_25) ∧ (¬ (gA d_25 b_100 (r_24).toNatClampNeg) = 0 → w_X11_ofEvent E a0 p1 0 d_25 (fun r_106 d_105 => w_X11_comesTo E a0 r_22 r_24 r_106 d_105 (fun d_107 => K d_107))))))) ∧ (¬ r_26 = 0 → ¬ r_26 = 1 → ¬ r_26 = 2 → ¬ r_26 = 3 → ¬ r_26 = 4 → ¬ r_26 = 5 → w_X11_moves E a0 r_22 r_24 d_25 (fun d_110 => K d_110))))))
abbrev rm_X11_happens : Room := { frames := 5, cells := 0, slots := 0, locals := 120 }
set_option maxRecDepth 100000 in
set_option maxHeartbeats 4000000 in
theorem m_X11_happens (l : Launch) (D : va_G) (cs : Nat → ClassId) (E : En) (d : Dy) (sz : Nat) (a0 : Nat) (p1 : Int32) (K : Dy → Prop) : CV l yX11_happens (.code yX11_happens cX11_happens 4 none :: wsL_law) rm_X11_happens D cs E d sz [.ref a0, .int p1] (w_X11_happens E a0 p1 d K) K := by
  refine e_of (cc := cX11_happens) (maxL := 4) (ret := none) (own := RX11) (by decide) rfl rfl (Nat.le_of_ble_eq_true rfl) ?_
  intro p e s m below meth c S hr hlocks hsz H locs hw h ls hl
  have hl : lv_has ls 4 [(0, .ref a0), (1, .int p1)] := hl
  unfold w_X11_happens at h
  obtain ⟨ha0, h⟩ := h
  have tb125 : ∀ (v2 : Int32) (v3 : Int32) (s0 : Nat) (s1 : Int32) (s2 : Int32) (d : Dy) (H : Heap) (locs : List Loc) (ls : Array Slot), b_X11_happens_125 E a0 p1 K v2 v3 s0 s1 s2 d → Wd D cs (AW E sz) s.heap s E d H locs → lv_has ls 4 [(0, .ref a0), (2, .int v2), (3, .int v3)] → W p l e rm_X11_happens s m ([.ref a0, .int p1] : List Value).toArray below meth c H locs 0 0 (MQ below (va_Qv K (OutW D cs E (AW E sz)) (AW E sz)) ([.ref a0, .int p1] : List Value).toArray s rm_X11_happens.cells rm_X11_happens.slots (AW E sz)) (F0 m 125 ls [.int s2, .int s1, .ref s0]) := by
    intro v2 v3 s0 s1 s2 d H locs ls h hw hl
    unfold b_X11_happens_125 at h
    obtain ⟨hos0, h⟩ := h
    obtain ⟨hx_1, h⟩ := h
    refine r_iast S hw hos0 hx_1 (dd_at ddX11_happens 54 rfl) (fun H locs hw => ?_)
    refine lv_aload_n S.1 S.2.1 (dd_at ddX11_happens 55 rfl) rfl (lv_at hl 0 rfl) ?_
    obtain ⟨b_2, hb_3, ho_4, h⟩ := h
    refine r_getR S hw 11 19 rfl inG11 (by decide) (List.mem_cons_of_mem _ wg161) (by decide) ha0 hb_3 (dd_at ddX11_happens 56 rfl) ?_
    refine lv_iload_n S.1 S.2.1 (dd_at ddX11_happens 57 rfl) rfl (lv_at hl 2 rfl) ?_
    refine lv_aload_n S.1 S.2.1 (dd_at ddX11_happens 58 rfl) rfl (lv_at hl 0 rfl) ?_
    obtain ⟨b_5, hb_6, ho_7, h⟩ := h
    refine r_getR S hw 11 19 rfl inG11 (by decide) (List.mem_cons_of_mem _ wg161) (by decide) ha0 hb_6 (dd_at ddX11_happens 59 rfl) ?_
    refine lv_iload_n S.1 S.2.1 (dd_at ddX11_happens 60 rfl) rfl (lv_at hl 2 rfl) ?_
    obtain ⟨hx_8, h⟩ := h
    refine r_iald S hw ho_7 hx_8 (dd_at ddX11_happens 61 rfl) ?_
    refine lv_iload_n S.1 S.2.1 (dd_at ddX11_happens 62 rfl) rfl (lv_at hl 1 rfl) ?_
    refine lv_icmp_ne (tgt := 145) S.1 S.2.1 (dd_at ddX11_happens 63 rfl) (by decide) (fun hc_9 => ?_) (fun hc_9 => ?_)
    · have h := h.1 hc_9
      refine lv_aload_n S.1 S.2.1 (dd_at ddX11_happens 66 rfl) rfl (lv_at hl 0 rfl) ?_
      obtain ⟨b_10, hb_11, ho_12, h⟩ := h
      refine r_getR S hw 11 19 rfl inG11 (by decide) (List.mem_cons_of_mem _ wg161) (by decide) ha0 hb_11 (dd_at ddX11_happens 67 rfl) ?_
      refine lv_iload_n S.1 S.2.1 (dd_at ddX11_happens 68 rfl) rfl (lv_at hl 2 rfl) ?_
      obtain ⟨hx_13, h⟩ := h
      refine r_iald S hw ho_12 hx_13 (dd_at ddX11_happens 69 rfl) ?_
      obtain ⟨hx_14, h⟩ := h
      refine r_iast S hw ho_4 hx_14 (dd_at ddX11_happens 70 rfl) (fun H locs hw => ?_)
      refine lv_goto (tgt := 285) S.1 S.2.1 (dd_at ddX11_happens 71 rfl) (by decide) ?_
      exact e_V S hr hlocks hw h (dd_at ddX11_happens 151 rfl)
    · have h := h.2 hc_9
      refine lv_iconst (v := -1) S.1 S.2.1 (dd_at ddX11_happens 64 rfl) (by decide) ?_
      refine lv_goto (tgt := 151) S.1 S.2.1 (dd_at ddX11_happens 65 rfl) (by decide) ?_
      obtain ⟨hx_15, h⟩ := h
      refine r_iast S hw ho_4 hx_15 (dd_at ddX11_happens 70 rfl) (fun H locs hw => ?_)
      refine lv_goto (tgt := 285) S.1 S.2.1 (dd_at ddX11_happens 71 rfl) (by decide) ?_
      exact e_V S hr hlocks hw h (dd_at ddX11_happens 151 rfl)
  have tb230 : ∀ (v2 : Int32) (v3 : Int32) (s0 : Nat) (s1 : Int32) (s2 : Int32) (d : Dy) (H : Heap) (locs : List Loc) (ls : Array Slot), b_X11_happens_230 E a0 p1 K v2 v3 s0 s1 s2 d → Wd D cs (AW E sz) s.heap s E d H locs → lv_has ls 4 [(0, .ref a0), (1, .int p1), (2, .int v2), (3, .int v3)] → W p l e rm_X11_happens s m ([.ref a0, .int p1] : List Value).toArray below meth c H locs 0 0 (MQ below (va_Qv K (OutW D cs E (AW E sz)) (AW E sz)) ([.ref a0, .int p1] : List Value).toArray s rm_X11_happens.cells rm_X11_happens.slots (AW E sz)) (F0 m 230 ls [.int s2, .int s1, .ref s0]) := by
    intro v2 v3 s0 s1 s2 d H locs ls h hw hl
    unfold b_X11_happens_230 at h
    obtain ⟨hos0, h⟩ := h
    obtain ⟨hx_16, h⟩ := h
    refine r_zast S hw hos0 hx_16 (dd_at ddX11_happens 118 rfl) (fun H locs hw => ?_)
    refine lv_aload_n S.1 S.2.1 (dd_at ddX11_happens 119 rfl) rfl (lv_at hl 0 rfl) ?_
    refine lv_iload_n S.1 S.2.1 (dd_at ddX11_happens 120 rfl) rfl (lv_at hl 2 rfl) ?_
    refine lv_iload_n S.1 S.2.1 (dd_at ddX11_happens 121 rfl) rfl (lv_at hl 3 rfl) ?_
    refine lv_aload_n S.1 S.2.1 (dd_at ddX11_happens 122 rfl) rfl (lv_at hl 0 rfl) ?_
    refine lv_iload_n S.1 S.2.1 (dd_at ddX11_happens 123 rfl) rfl (lv_at hl 1 rfl) ?_
    refine lv_iconst (v := 0) S.1 S.2.1 (dd_at ddX11_happens 124 rfl) (by decide) ?_
    refine r_callI hw (r_runV (As := [.int p1, .int 0]) (rest := [.int v3, .int v2, .ref a0]) S hw (m_X11_ofEvent l D cs E (pA d s0 (s1).toNatClampNeg (vp_nar .boolean s2)) H.size a0 p1 0 _) (cwV 2 S.2.2.2.2 (gV wg823 wg824 wg825 wg5 wg826) rfl rfl rfl (by decide +kernel) ⟨Nat.le_of_ble_eq_true rfl, Nat.le_of_ble_eq_true rfl⟩) (ci := 11) rfl ha0 h rfl hl.1 rfl (Nat.le_of_ble_eq_true rfl) (dd_at ddX11_happens 125 rfl) ⟨Nat.le_of_ble_eq_true rfl, Nat.le_of_ble_eq_true rfl⟩) (fun r_18 d_17 H locs h hw => ?_)
    refine r_callV hw (r_runV (As := [.int v2, .int v3, .int r_18]) (rest := []) S hw (m_X11_comesTo l D cs E d_17 H.size a0 v2 v3 r_18 _) (cwV 3 S.2.2.2.2 (gV wg888 wg889 wg890 wg5 wg891) rfl rfl rfl (by decide +kernel) ⟨Nat.le_of_ble_eq_true rfl, Nat.le_of_ble_eq_true rfl⟩) (ci := 11) rfl ha0 h rfl hl.1 rfl (Nat.le_of_ble_eq_true rfl) (dd_at ddX11_happens 126 rfl) ⟨Nat.le_of_ble_eq_true rfl, Nat.le_of_ble_eq_true rfl⟩) (fun d_19 H locs h hw => ?_)
    refine lv_goto (tgt := 285) S.1 S.2.1 (dd_at ddX11_happens 127 rfl) (by decide) ?_
    exact e_V S hr hlocks hw h (dd_at ddX11_happens 151 rfl)
  refine lv_aload_n S.1 S.2.1 (dd_at ddX11_happens 0 rfl) rfl (lv_at hl 0 rfl) ?_
  refine lv_iload_n S.1 S.2.1 (dd_at ddX11_happens 1 rfl) rfl (lv_at hl 1 rfl) ?_
  refine lv_iconst (v := 2) S.1 S.2.1 (dd_at ddX11_happens 2 rfl) (by decide) ?_
  refine r_callI hw (r_runV (As := [.int p1, .int 2]) (rest := []) S hw (m_X11_ofEvent l D cs E d H.size a0 p1 2 _) (cwV 2 S.2.2.2.2 (gV wg823 wg824 wg825 wg5 wg826) rfl rfl rfl (by decide +kernel) ⟨Nat.le_of_ble_eq_true rfl, Nat.le_of_ble_eq_true rfl⟩) (ci := 11) rfl ha0 h rfl hl.1 rfl (Nat.le_of_ble_eq_true rfl) (dd_at ddX11_happens 3 rfl) ⟨Nat.le_of_ble_eq_true rfl, Nat.le_of_ble_eq_true rfl⟩) (fun r_22 d_21 H locs h hw => ?_)
  refine lv_istore_n (lv' := [(2, .int r_22), (0, .ref a0), (1, .int p1)]) S.1 S.2.1 (dd_at ddX11_happens 4 rfl) rfl hl (by decide) rfl (fun ls hl => ?_)
  refine lv_aload_n S.1 S.2.1 (dd_at ddX11_happens 5 rfl) rfl (lv_at hl 1 rfl) ?_
  refine lv_iload_n S.1 S.2.1 (dd_at ddX11_happens 6 rfl) rfl (lv_at hl 2 rfl) ?_
  refine lv_iconst (v := 3) S.1 S.2.1 (dd_at ddX11_happens 7 rfl) (by decide) ?_
  refine r_callI hw (r_runV (As := [.int p1, .int 3]) (rest := []) S hw (m_X11_ofEvent l D cs E d_21 H.size a0 p1 3 _) (cwV 2 S.2.2.2.2 (gV wg823 wg824 wg825 wg5 wg826) rfl rfl rfl (by decide +kernel) ⟨Nat.le_of_ble_eq_true rfl, Nat.le_of_ble_eq_true rfl⟩) (ci := 11) rfl ha0 h rfl hl.1 rfl (Nat.le_of_ble_eq_true rfl) (dd_at ddX11_happens 8 rfl) ⟨Nat.le_of_ble_eq_true rfl, Nat.le_of_ble_eq_true rfl⟩) (fun r_24 d_23 H locs h hw => ?_)
  refine lv_istore_n (lv' := [(3, .int r_24), (2, .int r_22), (0, .ref a0), (1, .int p1)]) S.1 S.2.1 (dd_at ddX11_happens 9 rfl) rfl hl (by decide) rfl (fun ls hl => ?_)
  refine lv_aload_n S.1 S.2.1 (dd_at ddX11_happens 10 rfl) rfl (lv_at hl 2 rfl) ?_
  refine lv_iload_n S.1 S.2.1 (dd_at ddX11_happens 11 rfl) rfl (lv_at hl 3 rfl) ?_
  refine lv_iconst (v := 1) S.1 S.2.1 (dd_at ddX11_happens 12 rfl) (by decide) ?_
  refine r_callI hw (r_runV (As := [.int p1, .int 1]) (rest := []) S hw (m_X11_ofEvent l D cs E d_23 H.size a0 p1 1 _) (cwV 2 S.2.2.2.2 (gV wg823 wg824 wg825 wg5 wg826) rfl rfl rfl (by decide +kernel) ⟨Nat.le_of_ble_eq_true rfl, Nat.le_of_ble_eq_true rfl⟩) (ci := 11) rfl ha0 h rfl hl.1 rfl (Nat.le_of_ble_eq_true rfl) (dd_at ddX11_happens 13 rfl) ⟨Nat.le_of_ble_eq_true rfl, Nat.le_of_ble_eq_true rfl⟩) (fun r_26 d_25 H locs h hw => ?_)
  by_cases hc_37 : r_26 = 0
  · have h := h.1 hc_37
    refine lv_tableIn (off := 40) (tgt := 60) S.1 S.2.1 (dd_at ddX11_happens 14 rfl) (by rw [hc_37]; decide) (by rw [hc_37]; decide) (by rw [hc_37]; rfl) (by decide) ?_
    refine lv_aload_n S.1 S.2.1 (dd_at ddX11_happens 15 rfl) rfl (lv_at hl 2 rfl) ?_
    obtain ⟨b_28, hb_29, ho_30, h⟩ := h
    refine r_getR S hw 11 18 rfl inG11 (by decide) (List.mem_cons_of_mem _ wg160) (by decide) ha0 hb_29 (dd_at ddX11_happens 16 rfl) ?_
    refine lv_iload_n S.1 S.2.1 (dd_at ddX11_happens 17 rfl) rfl (lv_at hl 1 rfl) ?_
    obtain ⟨hx_31, h⟩ := h
    refine r_zald S hw ho_30 hx_31 (dd_at ddX11_happens 18 rfl) ?_
    refine lv_if_eq (tgt := 285) S.1 S.2.1 (dd_at ddX11_happens 19 rfl) (by decide) (fun hc_32 => ?_) (fun hc_32 => ?_)
    · have h := h.1 hc_32
      exact e_V S hr hlocks hw h (dd_at ddX11_happens 151 rfl)
    · have h := h.2 hc_32
      refine lv_aload_n S.1 S.2.1 (dd_at ddX11_happens 20 rfl) rfl (lv_at hl 2 rfl) ?_
      refine lv_iload_n S.1 S.2.1 (dd_at ddX11_happens 21 rfl) rfl (lv_at hl 1 rfl) ?_
      refine lv_aload_n S.1 S.2.1 (dd_at ddX11_happens 22 rfl) rfl (lv_at hl 2 rfl) ?_
      refine lv_iload_n S.1 S.2.1 (dd_at ddX11_happens 23 rfl) rfl (lv_at hl 3 rfl) ?_
      refine lv_iconst (v := 0) S.1 S.2.1 (dd_at ddX11_happens 24 rfl) (by decide) ?_
      refine r_callI hw (r_runV (As := [.int p1, .int 0]) (rest := [.int r_22, .ref a0]) S hw (m_X11_ofEvent l D cs E d_25 H.size a0 p1 0 _) (cwV 2 S.2.2.2.2 (gV wg823 wg824 wg825 wg5 wg826) rfl rfl rfl (by decide +kernel) ⟨Nat.le_of_ble_eq_true rfl, Nat.le_of_ble_eq_true rfl⟩) (ci := 11) rfl ha0 h rfl hl.1 rfl (Nat.le_of_ble_eq_true rfl) (dd_at ddX11_happens 25 rfl) ⟨Nat.le_of_ble_eq_true rfl, Nat.le_of_ble_eq_true rfl⟩) (fun r_34 d_33 H locs h hw => ?_)
      refine r_callV hw (r_runV (As := [.int r_22, .int r_34]) (rest := []) S hw (m_X11_dies l D cs E d_33 H.size a0 r_22 r_34 _) (cwV 2 S.2.2.2.2 (gV wg835 wg836 wg837 wg5 wg838) rfl rfl rfl (by decide +kernel) ⟨Nat.le_of_ble_eq_true rfl, Nat.le_of_ble_eq_true rfl⟩) (ci := 11) rfl ha0 h rfl hl.1 rfl (Nat.le_of_ble_eq_true rfl) (dd_at ddX11_happens 26 rfl) ⟨Nat.le_of_ble_eq_true rfl, Nat.le_of_ble_eq_true rfl⟩) (fun d_35 H locs h hw => ?_)
      refine lv_goto (tgt := 285) S.1 S.2.1 (dd_at ddX11_happens 27 rfl) (by decide) ?_
      exact e_V S hr hlocks hw h (dd_at ddX11_happens 151 rfl)
  · skip
    by_cases hc_46 : r_26 = 1
    · have h := h.2.1 hc_46
      refine lv_tableIn (off := 63) (tgt := 83) S.1 S.2.1 (dd_at ddX11_happens 14 rfl) (by rw [hc_46]; decide) (by rw [hc_46]; decide) (by rw [hc_46]; rfl) (by decide) ?_
      refine lv_aload_n S.1 S.2.1 (dd_at ddX11_happens 28 rfl) rfl (lv_at hl 2 rfl) ?_
      obtain ⟨b_38, hb_39, ho_40, h⟩ := h
      refine r_getR S hw 11 19 rfl inG11 (by decide) (List.mem_cons_of_mem _ wg161) (by decide) ha0 hb_39 (dd_at ddX11_happens 29 rfl) ?_
      refine lv_iload_n S.1 S.2.1 (dd_at ddX11_happens 30 rfl) rfl (lv_at hl 1 rfl) ?_
      refine lv_iload_n S.1 S.2.1 (dd_at ddX11_happens 31 rfl) rfl (lv_at hl 0 rfl) ?_
      obtain ⟨hx_41, h⟩ := h
      refine r_iast S hw ho_40 hx_41 (dd_at ddX11_happens 32 rfl) (fun H locs hw => ?_)
      refine lv_aload_n S.1 S.2.1 (dd_at ddX11_happens 33 rfl) rfl (lv_at hl 2 rfl) ?_
      obtain ⟨b_42, hb_43, ho_44, h⟩ := h
      refine r_getR S hw 11 19 rfl inG11 (by decide) (List.mem_cons_of_mem _ wg161) (by decide) ha0 hb_43 (dd_at ddX11_happens 34 rfl) ?_
      refine lv_iload_n S.1 S.2.1 (dd_at ddX11_happens 35 rfl) rfl (lv_at hl 0 rfl) ?_
      refine lv_iload_n S.1 S.2.1 (dd_at ddX11_happens 36 rfl) rfl (lv_at hl 1 rfl) ?_
      obtain ⟨hx_45, h⟩ := h
      refine r_iast S hw ho_44 hx_45 (dd_at ddX11_happens 37 rfl) (fun H locs hw => ?_)
      refine lv_goto (tgt := 285) S.1 S.2.1 (dd_at ddX11_happens 38 rfl) (by decide) ?_
      exact e_V S hr hlocks hw h (dd_at ddX11_happens 151 rfl)
    · skip
      by_cases hc_59 : r_26 = 2
      · have h := h.2.2.1 hc_59
        refine lv_tableIn (off := 80) (tgt := 100) S.1 S.2.1 (dd_at ddX11_happens 14 rfl) (by rw [hc_59]; decide) (by rw [hc_59]; decide) (by rw [hc_59]; rfl) (by decide) ?_
        refine lv_aload_n S.1 S.2.1 (dd_at ddX11_happens 39 rfl) rfl (lv_at hl 2 rfl) ?_
        obtain ⟨b_47, hb_48, ho_49, h⟩ := h
        refine r_getR S hw 11 19 rfl inG11 (by decide) (List.mem_cons_of_mem _ wg161) (by decide) ha0 hb_48 (dd_at ddX11_happens 40 rfl) ?_
        refine lv_iload_n S.1 S.2.1 (dd_at ddX11_happens 41 rfl) rfl (lv_at hl 1 rfl) ?_
        refine lv_aload_n S.1 S.2.1 (dd_at ddX11_happens 42 rfl) rfl (lv_at hl 2 rfl) ?_
        obtain ⟨b_50, hb_51, ho_52, h⟩ := h
        refine r_getR S hw 11 19 rfl inG11 (by decide) (List.mem_cons_of_mem _ wg161) (by decide) ha0 hb_51 (dd_at ddX11_happens 43 rfl) ?_
        refine lv_iload_n S.1 S.2.1 (dd_at ddX11_happens 44 rfl) rfl (lv_at hl 1 rfl) ?_
        obtain ⟨hx_53, h⟩ := h
        refine r_iald S hw ho_52 hx_53 (dd_at ddX11_happens 45 rfl) ?_
        refine lv_iload_n S.1 S.2.1 (dd_at ddX11_happens 46 rfl) rfl (lv_at hl 0 rfl) ?_
        refine lv_icmp_ne (tgt := 119) S.1 S.2.1 (dd_at ddX11_happens 47 rfl) (by decide) (fun hc_54 => ?_) (fun hc_54 => ?_)
        · have h := h.1 hc_54
          refine lv_aload_n S.1 S.2.1 (dd_at ddX11_happens 50 rfl) rfl (lv_at hl 2 rfl) ?_
          obtain ⟨b_55, hb_56, ho_57, h⟩ := h
          refine r_getR S hw 11 19 rfl inG11 (by decide) (List.mem_cons_of_mem _ wg161) (by decide) ha0 hb_56 (dd_at ddX11_happens 51 rfl) ?_
          refine lv_iload_n S.1 S.2.1 (dd_at ddX11_happens 52 rfl) rfl (lv_at hl 1 rfl) ?_
          obtain ⟨hx_58, h⟩ := h
          refine r_iald S hw ho_57 hx_58 (dd_at ddX11_happens 53 rfl) ?_
          exact tb125 r_22 r_24 b_47 r_22 (gA d_25 b_55 (r_22).toNatClampNeg) d_25 H locs ls h hw (lv_sub hl [2, 1, 0] rfl)
        · have h := h.2 hc_54
          refine lv_iconst (v := -1) S.1 S.2.1 (dd_at ddX11_happens 48 rfl) (by decide) ?_
          refine lv_goto (tgt := 125) S.1 S.2.1 (dd_at ddX11_happens 49 rfl) (by decide) ?_
          exact tb125 r_22 r_24 b_47 r_22 (-1) d_25 H locs ls h hw (lv_sub hl [2, 1, 0] rfl)
      · skip
        by_cases hc_64 : r_26 = 3
        · have h := h.2.2.2.1 hc_64
          refine lv_tableIn (off := 135) (tgt := 155) S.1 S.2.1 (dd_at ddX11_happens 14 rfl) (by rw [hc_64]; decide) (by rw [hc_64]; decide) (by rw [hc_64]; rfl) (by decide) ?_
          refine lv_aload_n S.1 S.2.1 (dd_at ddX11_happens 72 rfl) rfl (lv_at hl 2 rfl) ?_
          obtain ⟨b_60, hb_61, ho_62, h⟩ := h
          refine r_getR S hw 11 20 rfl inG11 (by decide) (List.mem_cons_of_mem _ wg162) (by decide) ha0 hb_61 (dd_at ddX11_happens 73 rfl) ?_
          refine lv_bipush (v := 12) S.1 S.2.1 (dd_at ddX11_happens 74 rfl) (by decide) ?_
          refine lv_iload_n S.1 S.2.1 (dd_at ddX11_happens 75 rfl) rfl (lv_at hl 1 rfl) ?_
          refine lv_imul S.1 S.2.1 (dd_at ddX11_happens 76 rfl) ?_
          refine lv_iload_n S.1 S.2.1 (dd_at ddX11_happens 77 rfl) rfl (lv_at hl 0 rfl) ?_
          refine lv_iadd S.1 S.2.1 (dd_at ddX11_happens 78 rfl) ?_
          refine lv_iconst (v := 1) S.1 S.2.1 (dd_at ddX11_happens 79 rfl) (by decide) ?_
          obtain ⟨hx_63, h⟩ := h
          refine r_zast S hw ho_62 hx_63 (dd_at ddX11_happens 80 rfl) (fun H locs hw => ?_)
          refine lv_goto (tgt := 285) S.1 S.2.1 (dd_at ddX11_happens 81 rfl) (by decide) ?_
          exact e_V S hr hlocks hw h (dd_at ddX11_happens 151 rfl)
        · skip
          by_cases hc_94 : r_26 = 4
          · have h := h.2.2.2.2.1 hc_94
            refine lv_tableIn (off := 150) (tgt := 170) S.1 S.2.1 (dd_at ddX11_happens 14 rfl) (by rw [hc_94]; decide) (by rw [hc_94]; decide) (by rw [hc_94]; rfl) (by decide) ?_
            refine lv_aload_n S.1 S.2.1 (dd_at ddX11_happens 82 rfl) rfl (lv_at hl 2 rfl) ?_
            obtain ⟨b_65, hb_66, ho_67, h⟩ := h
            refine r_getR S hw 11 21 rfl inG11 (by decide) (List.mem_cons_of_mem _ wg163) (by decide) ha0 hb_66 (dd_at ddX11_happens 83 rfl) ?_
            refine lv_iload_n S.1 S.2.1 (dd_at ddX11_happens 84 rfl) rfl (lv_at hl 1 rfl) ?_
            obtain ⟨hx_68, h⟩ := h
            refine r_iald S hw ho_67 hx_68 (dd_at ddX11_happens 85 rfl) ?_
            refine lv_if_lt (tgt := 198) S.1 S.2.1 (dd_at ddX11_happens 86 rfl) (by decide) (fun hc_69 => ?_) (fun hc_69 => ?_)
            · have h := h.1 hc_69
              exact e_V S hr hlocks hw h (dd_at ddX11_happens 98 rfl)
            · have h := h.2 hc_69
              refine lv_aload_n S.1 S.2.1 (dd_at ddX11_happens 87 rfl) rfl (lv_at hl 2 rfl) ?_
              obtain ⟨b_70, hb_71, ho_72, h⟩ := h
              refine r_getR S hw 11 21 rfl inG11 (by decide) (List.mem_cons_of_mem _ wg163) (by decide) ha0 hb_71 (dd_at ddX11_happens 88 rfl) ?_
              refine lv_iload_n S.1 S.2.1 (dd_at ddX11_happens 89 rfl) rfl (lv_at hl 1 rfl) ?_
              obtain ⟨hx_73, h⟩ := h
              refine r_iald S hw ho_72 hx_73 (dd_at ddX11_happens 90 rfl) ?_
              refine lv_iload_n S.1 S.2.1 (dd_at ddX11_happens 91 rfl) rfl (lv_at hl 0 rfl) ?_
              refine lv_icmp_eq (tgt := 198) S.1 S.2.1 (dd_at ddX11_happens 92 rfl) (by decide) (fun hc_74 => ?_) (fun hc_74 => ?_)
              · have h := h.1 hc_74
                exact e_V S hr hlocks hw h (dd_at ddX11_happens 98 rfl)
              · have h := h.2 hc_74
                refine lv_aload_n S.1 S.2.1 (dd_at ddX11_happens 93 rfl) rfl (lv_at hl 2 rfl) ?_
                obtain ⟨b_75, hb_76, ho_77, h⟩ := h
                refine r_getR S hw 11 18 rfl inG11 (by decide) (List.mem_cons_of_mem _ wg160) (by decide) ha0 hb_76 (dd_at ddX11_happens 94 rfl) ?_
                refine lv_iload_n S.1 S.2.1 (dd_at ddX11_happens 95 rfl) rfl (lv_at hl 0 rfl) ?_
                obtain ⟨hx_78, h⟩ := h
                refine r_zald S hw ho_77 hx_78 (dd_at ddX11_happens 96 rfl) ?_
                refine lv_if_ne (tgt := 199) S.1 S.2.1 (dd_at ddX11_happens 97 rfl) (by decide) (fun hc_79 => ?_) (fun hc_79 => ?_)
                · have h := h.1 hc_79
                  refine lv_aload_n S.1 S.2.1 (dd_at ddX11_happens 99 rfl) rfl (lv_at hl 2 rfl) ?_
                  obtain ⟨b_80, hb_81, ho_82, h⟩ := h
                  refine r_getR S hw 11 24 rfl inG11 (by decide) (List.mem_cons_of_mem _ wg166) (by decide) ha0 hb_81 (dd_at ddX11_happens 100 rfl) ?_
                  refine lv_iload_n S.1 S.2.1 (dd_at ddX11_happens 101 rfl) rfl (lv_at hl 3 rfl) ?_
                  refine lv_iconst (v := 1) S.1 S.2.1 (dd_at ddX11_happens 102 rfl) (by decide) ?_
                  obtain ⟨hx_83, h⟩ := h
                  refine r_zast S hw ho_82 hx_83 (dd_at ddX11_happens 103 rfl) (fun H locs hw => ?_)
                  refine lv_aload_n S.1 S.2.1 (dd_at ddX11_happens 104 rfl) rfl (lv_at hl 2 rfl) ?_
                  obtain ⟨b_84, hb_85, ho_86, h⟩ := h
                  refine r_getR S hw 11 25 rfl inG11 (by decide) (List.mem_cons_of_mem _ wg167) (by decide) ha0 hb_85 (dd_at ddX11_happens 105 rfl) ?_
                  refine lv_iload_n S.1 S.2.1 (dd_at ddX11_happens 106 rfl) rfl (lv_at hl 3 rfl) ?_
                  refine lv_aload_n S.1 S.2.1 (dd_at ddX11_happens 107 rfl) rfl (lv_at hl 2 rfl) ?_
                  refine lv_aload_n S.1 S.2.1 (dd_at ddX11_happens 108 rfl) rfl (lv_at hl 2 rfl) ?_
                  obtain ⟨b_87, hb_88, ho_89, h⟩ := h
                  refine r_getR S hw 11 21 rfl inG11 (by decide) (List.mem_cons_of_mem _ wg163) (by decide) ha0 hb_88 (dd_at ddX11_happens 109 rfl) ?_
                  refine lv_iload_n S.1 S.2.1 (dd_at ddX11_happens 110 rfl) rfl (lv_at hl 1 rfl) ?_
                  obtain ⟨hx_90, h⟩ := h
                  refine r_iald S hw ho_89 hx_90 (dd_at ddX11_happens 111 rfl) ?_
                  refine lv_iload_n S.1 S.2.1 (dd_at ddX11_happens 112 rfl) rfl (lv_at hl 0 rfl) ?_
                  refine r_callI hw (r_runV (As := [.int (gA (pA d_25 b_80 (p1).toNatClampNeg (vp_nar .boolean 1)) b_87 (r_22).toNatClampNeg), .int r_24]) (rest := [.int p1, .ref b_84]) S hw (m_X11_isKin l D cs E (pA d_25 b_80 (p1).toNatClampNeg (vp_nar .boolean 1)) H.size a0 (gA (pA d_25 b_80 (p1).toNatClampNeg (vp_nar .boolean 1)) b_87 (r_22).toNatClampNeg) r_24 _) (cwV 2 S.2.2.2.2 (gV wg892 wg893 wg894 wg5 wg895) rfl rfl rfl (by decide +kernel) ⟨Nat.le_of_ble_eq_true rfl, Nat.le_of_ble_eq_true rfl⟩) (ci := 11) rfl ha0 h rfl hl.1 rfl (Nat.le_of_ble_eq_true rfl) (dd_at ddX11_happens 113 rfl) ⟨Nat.le_of_ble_eq_true rfl, Nat.le_of_ble_eq_true rfl⟩) (fun r_92 d_91 H locs h hw => ?_)
                  refine lv_if_ne (tgt := 229) S.1 S.2.1 (dd_at ddX11_happens 114 rfl) (by decide) (fun hc_93 => ?_) (fun hc_93 => ?_)
                  · have h := h.1 hc_93
                    refine lv_iconst (v := 0) S.1 S.2.1 (dd_at ddX11_happens 117 rfl) (by decide) ?_
                    exact tb230 r_22 r_24 b_84 p1 0 d_91 H locs ls h hw (lv_sub hl [2, 3, 1, 0] rfl)
                  · have h := h.2 hc_93
                    refine lv_iconst (v := 1) S.1 S.2.1 (dd_at ddX11_happens 115 rfl) (by decide) ?_
                    refine lv_goto (tgt := 230) S.1 S.2.1 (dd_at ddX11_happens 116 rfl) (by decide) ?_
                    exact tb230 r_22 r_24 b_84 p1 1 d_91 H locs ls h hw (lv_sub hl [2, 3, 1, 0] rfl)
                · have h := h.2 hc_79
                  exact e_V S hr hlocks hw h (dd_at ddX11_happens 98 rfl)
          · skip
            by_cases hc_109 : r_26 = 5
            · have h := h.2.2.2.2.2.1 hc_109
              refine lv_tableIn (off := 226) (tgt := 246) S.1 S.2.1 (dd_at ddX11_happens 14 rfl) (by rw [hc_109]; decide) (by rw [hc_109]; decide) (by rw [hc_109]; rfl) (by decide) ?_
              refine lv_aload_n S.1 S.2.1 (dd_at ddX11_happens 128 rfl) rfl (lv_at hl 2 rfl) ?_
              obtain ⟨b_95, hb_96, ho_97, h⟩ := h
              refine r_getR S hw 11 21 rfl inG11 (by decide) (List.mem_cons_of_mem _ wg163) (by decide) ha0 hb_96 (dd_at ddX11_happens 129 rfl) ?_
              refine lv_iload_n S.1 S.2.1 (dd_at ddX11_happens 130 rfl) rfl (lv_at hl 1 rfl) ?_
              obtain ⟨hx_98, h⟩ := h
              refine r_iald S hw ho_97 hx_98 (dd_at ddX11_happens 131 rfl) ?_
              refine lv_if_ge (tgt := 285) S.1 S.2.1 (dd_at ddX11_happens 132 rfl) (by decide) (fun hc_99 => ?_) (fun hc_99 => ?_)
              · have h := h.1 hc_99
                exact e_V S hr hlocks hw h (dd_at ddX11_happens 151 rfl)
              · have h := h.2 hc_99
                refine lv_aload_n S.1 S.2.1 (dd_at ddX11_happens 133 rfl) rfl (lv_at hl 2 rfl) ?_
                obtain ⟨b_100, hb_101, ho_102, h⟩ := h
                refine r_getR S hw 11 18 rfl inG11 (by decide) (List.mem_cons_of_mem _ wg160) (by decide) ha0 hb_101 (dd_at ddX11_happens 134 rfl) ?_
                refine lv_iload_n S.1 S.2.1 (dd_at ddX11_happens 135 rfl) rfl (lv_at hl 0 rfl) ?_
                obtain ⟨hx_103, h⟩ := h
                refine r_zald S hw ho_102 hx_103 (dd_at ddX11_happens 136 rfl) ?_
                refine lv_if_eq (tgt := 285) S.1 S.2.1 (dd_at ddX11_happens 137 rfl) (by decide) (fun hc_104 => ?_) (fun hc_104 => ?_)
                · have h := h.1 hc_104
                  exact e_V S hr hlocks hw h (dd_at ddX11_happens 151 rfl)
                · have h := h.2 hc_104
                  refine lv_aload_n S.1 S.2.1 (dd_at ddX11_happens 138 rfl) rfl (lv_at hl 2 rfl) ?_
                  refine lv_iload_n S.1 S.2.1 (dd_at ddX11_happens 139 rfl) rfl (lv_at hl 1 rfl) ?_
                  refine lv_iload_n S.1 S.2.1 (dd_at ddX11_happens 140 rfl) rfl (lv_at hl 0 rfl) ?_
                  refine lv_aload_n S.1 S.2.1 (dd_at ddX11_happens 141 rfl) rfl (lv_at hl 2 rfl) ?_
                  refine lv_iload_n S.1 S.2.1 (dd_at ddX11_happens 142 rfl) rfl (lv_at hl 3 rfl) ?_
                  refine lv_iconst (v := 0) S.1 S.2.1 (dd_at ddX11_happens 143 rfl) (by decide) ?_
                  refine r_callI hw (r_runV (As := [.int p1, .int 0]) (rest := [.int r_24, .int r_22, .ref a0]) S hw (m_X11_ofEvent l D cs E d_25 H.size a0 p1 0 _) (cwV 2 S.2.2.2.2 (gV wg823 wg824 wg825 wg5 wg826) rfl rfl rfl (by decide +kernel) ⟨Nat.le_of_ble_eq_true rfl, Nat.le_of_ble_eq_true rfl⟩) (ci := 11) rfl ha0 h rfl hl.1 rfl (Nat.le_of_ble_eq_true rfl) (dd_at ddX11_happens 144 rfl) ⟨Nat.le_of_ble_eq_true rfl, Nat.le_of_ble_eq_true rfl⟩) (fun r_106 d_105 H locs h hw => ?_)
                  refine r_callV hw (r_runV (As := [.int r_22, .int r_24, .int r_106]) (rest := []) S hw (m_X11_comesTo l D cs E d_105 H.size a0 r_22 r_24 r_106 _) (cwV 3 S.2.2.2.2 (gV wg888 wg889 wg890 wg5 wg891) rfl rfl rfl (by decide +kernel) ⟨Nat.le_of_ble_eq_true rfl, Nat.le_of_ble_eq_true rfl⟩) (ci := 11) rfl ha0 h rfl hl.1 rfl (Nat.le_of_ble_eq_true rfl) (dd_at ddX11_happens 145 rfl) ⟨Nat.le_of_ble_eq_true rfl, Nat.le_of_ble_eq_true rfl⟩) (fun d_107 H locs h hw => ?_)
                  refine lv_goto (tgt := 285) S.1 S.2.1 (dd_at ddX11_happens 146 rfl) (by decide) ?_
                  exact e_V S hr hlocks hw h (dd_at ddX11_happens 151 rfl)
            · skip
              have h := h.2.2.2.2.2.2 hc_37 hc_46 hc_59 hc_64 hc_94 hc_109
              have thc_37 := lv_neT (k := 0) (a := 0) hc_37 (by decide)
              have thc_46 := lv_neT (k := 1) (a := 1) hc_46 (by decide)
              have thc_59 := lv_neT (k := 2) (a := 2) hc_59 (by decide)
              have thc_64 := lv_neT (k := 3) (a := 3) hc_64 (by decide)
              have thc_94 := lv_neT (k := 4) (a := 4) hc_94 (by decide)
              have thc_109 := lv_neT (k := 5) (a := 5) hc_109 (by decide)
              refine lv_tableOut (tgt := 279) S.1 S.2.1 (dd_at ddX11_happens 14 rfl) (by omega) (by decide) ?_
              refine lv_aload_n S.1 S.2.1 (dd_at ddX11_happens 147 rfl) rfl (lv_at hl 2 rfl) ?_
              refine lv_iload_n S.1 S.2.1 (dd_at ddX11_happens 148 rfl) rfl (lv_at hl 1 rfl) ?_
              refine lv_iload_n S.1 S.2.1 (dd_at ddX11_happens 149 rfl) rfl (lv_at hl 0 rfl) ?_
              refine r_callV hw (r_runV (As := [.int r_22, .int r_24]) (rest := []) S hw (m_X11_moves l D cs E d_25 H.size a0 r_22 r_24 _) (cwV 2 S.2.2.2.2 (gV wg896 wg897 wg898 wg5 wg899) rfl rfl rfl (by decide +kernel) ⟨Nat.le_of_ble_eq_true rfl, Nat.le_of_ble_eq_true rfl⟩) (ci := 11) rfl ha0 h rfl hl.1 rfl (Nat.le_of_ble_eq_true rfl) (dd_at ddX11_happens 150 rfl) ⟨Nat.le_of_ble_eq_true rfl, Nat.le_of_ble_eq_true rfl⟩) (fun d_110 H locs h hw => ?_)
              exact e_V S hr hlocks hw h (dd_at ddX11_happens 151 rfl)

def b_X11_goes_33 (E : En) (a0 : Nat) (p1 : Int32) (p2 : Int32) (K : Dy → Prop) (k8 : Int32 → Dy → Prop) (k33 : Int32 → Int32 → Dy → Prop) (v3 : Int32) (v4 : Int32) (d : Dy) : Prop := w_X11_persons E a0 d (fun r_2 d_1 => ((r_2 ≤ v4 → k8 (v3 + 1) d_1) ∧ (¬ r_2 ≤ v4 → ∃ b_4 : Nat, eR E a0 20 = some b_4 ∧ okA E b_4 15 ∧ vp_in ((12 * v3) + v4) (eN E b_4) ∧ k33 v3 (v4 + 1) (pA d_1 b_4 ((12 * v3) + v4).toNatClampNeg (vp_nar .boolean 0)))))
def l_X11_goes_33 (E : En) (a0 : Nat) (p1 : Int32) (p2 : Int32) (K : Dy → Prop) (k8 : Int32 → Dy → Prop) : Nat → Int32 → Int32 → Dy → Prop
  | 0 => fun _ _ _ => False
  | n + 1 => b_X11_goes_33 E a0 p1 p2 K k8 (l_X11_goes_33 E a0 p1 p2 K k8 n)
def b_X11_goes_141 (E : En) (a0 : Nat) (p1 : Int32) (p2 : Int32) (K : Dy → Prop) (k141 : Int32 → Dy → Prop) (v3 : Int32) (d : Dy) : Prop := (((gI d a0 17) ≤ v3 → K d) ∧ (¬ (gI d a0 17) ≤ v3 → ∃ b_9 : Nat, eR E a0 16 = some b_9 ∧ okA E b_9 13 ∧ vp_in v3 (eN E b_9) ∧ w_X11_happens E a0 (gA d b_9 (v3).toNatClampNeg) d (fun d_13 => k141 (v3 + 1) d_13)))
def l_X11_goes_141 (E : En) (a0 : Nat) (p1 : Int32) (p2 : Int32) (K : Dy → Prop) : Nat → Int32 → Dy → Prop
  | 0 => fun _ _ => False
  | n + 1 => b_X11_goes_141 E a0 p1 p2 K (l_X11_goes_141 E a0 p1 p2 K n)
def b_X11_goes_113 (E : En) (a0 : Nat) (p1 : Int32) (p2 : Int32) (K : Dy → Prop) (k113 : Int32 → Dy → Prop) (v3 : Int32) (d : Dy) : Prop := ((40 ≤ v3 → (∃ n_16 : Nat, l_X11_goes_141 E a0 p1 p2 K n_16 0 d)) ∧ (¬ 40 ≤ v3 → ∃ b_17 : Nat, eR E a0 24 = some b_17 ∧ okA E b_17 15 ∧ vp_in v3 (eN E b_17) ∧ ∃ b_21 : Nat, eR E a0 25 = some b_21 ∧ okA E b_21 15 ∧ vp_in v3 (eN E b_21) ∧ k113 (v3 + 1) (pA (pA d b_17 (v3).toNatClampNeg (vp_nar .boolean 0)) b_21 (v3).toNatClampNeg (vp_nar .boolean 0))))
def l_X11_goes_113 (E : En) (a0 : Nat) (p1 : Int32) (p2 : Int32) (K : Dy → Prop) : Nat → Int32 → Dy → Prop
  | 0 => fun _ _ => False
  | n + 1 => b_X11_goes_113 E a0 p1 p2 K (l_X11_goes_113 E a0 p1 p2 K n)
def b_X11_goes_69 (E : En) (a0 : Nat) (p1 : Int32) (p2 : Int32) (K : Dy → Prop) (k69 : Int32 → Dy → Prop) (v3 : Int32) (d : Dy) : Prop := w_X11_huts E a0 d (fun r_26 d_25 => ((r_26 ≤ v3 → (∃ n_28 : Nat, l_X11_goes_113 E a0 p1 p2 K n_28 0 d_25)) ∧ (¬ r_26 ≤ v3 → ∃ b_29 : Nat, eR E a0 21 = some b_29 ∧ okA E b_29 13 ∧ w_X11_ofHut E a0 v3 1 d_25 (fun r_33 d_32 => vp_in v3 (eN E b_29) ∧ ∃ b_35 : Nat, eR E a0 22 = some b_35 ∧ okA E b_35 13 ∧ vp_in v3 (eN E b_35) ∧ ∃ b_39 : Nat, eR E a0 23 = some b_39 ∧ okA E b_39 13 ∧ vp_in v3 (eN E b_39) ∧ k69 (v3 + 1) (pA (pA (pA d_32 b_29 (v3).toNatClampNeg r_33) b_35 (v3).toNatClampNeg 1900) b_39 (v3).toNatClampNeg v3)))))
def l_X11_goes_69 (E : En) (a0 : Nat) (p1 : Int32) (p2 : Int32) (K : Dy → Prop) : Nat → Int32 → Dy → Prop
  | 0 => fun _ _ => False
  | n + 1 => b_X11_goes_69 E a0 p1 p2 K (l_X11_goes_69 E a0 p1 p2 K n)
def b_X11_goes_8 (E : En) (a0 : Nat) (p1 : Int32) (p2 : Int32) (K : Dy → Prop) (k8 : Int32 → Dy → Prop) (v3 : Int32) (d : Dy) : Prop := w_X11_persons E a0 d (fun r_44 d_43 => ((r_44 ≤ v3 → (∃ n_46 : Nat, l_X11_goes_69 E a0 p1 p2 K n_46 0 d_43)) ∧ (¬ r_44 ≤ v3 → ∃ b_47 : Nat, eR E a0 18 = some b_47 ∧ okA E b_47 15 ∧ vp_in v3 (eN E b_47) ∧ ∃ b_51 : Nat, eR E a0 19 = some b_51 ∧ okA E b_51 13 ∧ vp_in v3 (eN E b_51) ∧ (∃ n_55 : Nat, l_X11_goes_33 E a0 p1 p2 K k8 n_55 v3 0 (pA (pA d_43 b_47 (v3).toNatClampNeg (vp_nar .boolean 1)) b_51 (v3).toNatClampNeg (-1))))))
def l_X11_goes_8 (E : En) (a0 : Nat) (p1 : Int32) (p2 : Int32) (K : Dy → Prop) : Nat → Int32 → Dy → Prop
  | 0 => fun _ _ => False
  | n + 1 => b_X11_goes_8 E a0 p1 p2 K (l_X11_goes_8 E a0 p1 p2 K n)
def w_X11_goes (E : En) (a0 : Nat) (p1 : Int32) (p2 : Int32) (d : Dy) (K : Dy → Prop) : Prop := okO E a0 11 ∧ w_X11_sorts E a0 p1 p2 d (fun d_56 => (∃ n_58 : Nat, l_X11_goes_8 E a0 p1 p2 K n_58 0 d_56))
abbrev rm_X11_goes : Room := { frames := 6, cells := 0, slots := 0, locals := 143 }
set_option maxRecDepth 100000 in
set_option maxHeartbeats 4000000 in
theorem m_X11_goes (l : Launch) (D : va_G) (cs : Nat → ClassId) (E : En) (d : Dy) (sz : Nat) (a0 : Nat) (p1 : Int32) (p2 : Int32) (K : Dy → Prop) : CV l yX11_goes (.code yX11_goes cX11_goes 5 none :: wsL_law) rm_X11_goes D cs E d sz [.ref a0, .int p1, .int p2] (w_X11_goes E a0 p1 p2 d K) K := by
  refine e_of (cc := cX11_goes) (maxL := 5) (ret := none) (own := RX11) (by decide) rfl rfl (Nat.le_of_ble_eq_true rfl) ?_
  intro p e s m below meth c S hr hlocks hsz H locs hw h ls hl
  have hl : lv_has ls 5 [(0, .ref a0), (1, .int p1), (2, .int p2)] := hl
  unfold w_X11_goes at h
  obtain ⟨ha0, h⟩ := h
  have tl141 : ∀ (n : Nat) (v3 : Int32) (d : Dy) (H : Heap) (locs : List Loc) (ls : Array Slot), l_X11_goes_141 E a0 p1 p2 K n v3 d → Wd D cs (AW E sz) s.heap s E d H locs → lv_has ls 5 [(0, .ref a0), (3, .int v3)] → W p l e rm_X11_goes s m ([.ref a0, .int p1, .int p2] : List Value).toArray below meth c H locs 0 0 (MQ below (va_Qv K (OutW D cs E (AW E sz)) (AW E sz)) ([.ref a0, .int p1, .int p2] : List Value).toArray s rm_X11_goes.cells rm_X11_goes.slots (AW E sz)) (F0 m 141 ls []) := by
    intro n141
    induction n141 with
    | zero => intro v3 d H locs ls h; exact absurd h id
    | succ n141 ih141 =>
      intro v3 d H locs ls h hw hl
      have h : b_X11_goes_141 E a0 p1 p2 K (l_X11_goes_141 E a0 p1 p2 K n141) v3 d := h
      unfold b_X11_goes_141 at h
      refine lv_iload_n S.1 S.2.1 (dd_at ddX11_goes 84 rfl) rfl (lv_at hl 1 rfl) ?_
      refine lv_aload_n S.1 S.2.1 (dd_at ddX11_goes 85 rfl) rfl (lv_at hl 0 rfl) ?_
      refine r_getI S hw 11 17 rfl inG11 (by decide) (List.mem_cons_of_mem _ wg818) (by decide) ha0 (dd_at ddX11_goes 86 rfl) ?_
      refine lv_icmp_ge (tgt := 165) S.1 S.2.1 (dd_at ddX11_goes 87 rfl) (by decide) (fun hc_8 => ?_) (fun hc_8 => ?_)
      · have h := h.1 hc_8
        exact e_V S hr hlocks hw h (dd_at ddX11_goes 96 rfl)
      · have h := h.2 hc_8
        refine lv_aload_n S.1 S.2.1 (dd_at ddX11_goes 88 rfl) rfl (lv_at hl 0 rfl) ?_
        refine lv_aload_n S.1 S.2.1 (dd_at ddX11_goes 89 rfl) rfl (lv_at hl 0 rfl) ?_
        obtain ⟨b_9, hb_10, ho_11, h⟩ := h
        refine r_getR S hw 11 16 rfl inG11 (by decide) (List.mem_cons_of_mem _ wg158) (by decide) ha0 hb_10 (dd_at ddX11_goes 90 rfl) ?_
        refine lv_iload_n S.1 S.2.1 (dd_at ddX11_goes 91 rfl) rfl (lv_at hl 1 rfl) ?_
        obtain ⟨hx_12, h⟩ := h
        refine r_iald S hw ho_11 hx_12 (dd_at ddX11_goes 92 rfl) ?_
        refine r_callV hw (r_runV (As := [.int (gA d b_9 (v3).toNatClampNeg)]) (rest := []) S hw (m_X11_happens l D cs E d H.size a0 (gA d b_9 (v3).toNatClampNeg) _) (cwV 1 S.2.2.2.2 (gV wg831 wg832 wg833 wg5 wg834) rfl rfl rfl (by decide +kernel) ⟨Nat.le_of_ble_eq_true rfl, Nat.le_of_ble_eq_true rfl⟩) (ci := 11) rfl ha0 h rfl hl.1 rfl (Nat.le_of_ble_eq_true rfl) (dd_at ddX11_goes 93 rfl) ⟨Nat.le_of_ble_eq_true rfl, Nat.le_of_ble_eq_true rfl⟩) (fun d_13 H locs h hw => ?_)
        refine lv_iinc (v := v3 + 1) (lv' := [(3, .int (v3 + 1)), (0, .ref a0)]) S.1 S.2.1 (dd_at ddX11_goes 94 rfl) hl (k := 1) rfl rfl (by decide) rfl (fun ls hl => ?_)
        refine lv_goto (tgt := 141) S.1 S.2.1 (dd_at ddX11_goes 95 rfl) (by decide) ?_
        exact ih141 (v3 + 1) d_13 H locs ls h hw (lv_sub hl [1, 0] rfl)
  have tl113 : ∀ (n : Nat) (v3 : Int32) (d : Dy) (H : Heap) (locs : List Loc) (ls : Array Slot), l_X11_goes_113 E a0 p1 p2 K n v3 d → Wd D cs (AW E sz) s.heap s E d H locs → lv_has ls 5 [(0, .ref a0), (3, .int v3)] → W p l e rm_X11_goes s m ([.ref a0, .int p1, .int p2] : List Value).toArray below meth c H locs 0 0 (MQ below (va_Qv K (OutW D cs E (AW E sz)) (AW E sz)) ([.ref a0, .int p1, .int p2] : List Value).toArray s rm_X11_goes.cells rm_X11_goes.slots (AW E sz)) (F0 m 113 ls []) := by
    intro n113
    induction n113 with
    | zero => intro v3 d H locs ls h; exact absurd h id
    | succ n113 ih113 =>
      intro v3 d H locs ls h hw hl
      have h : b_X11_goes_113 E a0 p1 p2 K (l_X11_goes_113 E a0 p1 p2 K n113) v3 d := h
      unfold b_X11_goes_113 at h
      refine lv_iload_n S.1 S.2.1 (dd_at ddX11_goes 67 rfl) rfl (lv_at hl 1 rfl) ?_
      refine lv_bipush (v := 40) S.1 S.2.1 (dd_at ddX11_goes 68 rfl) (by decide) ?_
      refine lv_icmp_ge (tgt := 139) S.1 S.2.1 (dd_at ddX11_goes 69 rfl) (by decide) (fun hc_15 => ?_) (fun hc_15 => ?_)
      · have h := h.1 hc_15
        refine lv_iconst (v := 0) S.1 S.2.1 (dd_at ddX11_goes 82 rfl) (by decide) ?_
        refine lv_istore_n (lv' := [(3, .int 0), (0, .ref a0)]) S.1 S.2.1 (dd_at ddX11_goes 83 rfl) rfl hl (by decide) rfl (fun ls hl => ?_)
        obtain ⟨n_16, h⟩ := h
        exact tl141 n_16 0 d H locs ls h hw (lv_sub hl [1, 0] rfl)
      · have h := h.2 hc_15
        refine lv_aload_n S.1 S.2.1 (dd_at ddX11_goes 70 rfl) rfl (lv_at hl 0 rfl) ?_
        obtain ⟨b_17, hb_18, ho_19, h⟩ := h
        refine r_getR S hw 11 24 rfl inG11 (by decide) (List.mem_cons_of_mem _ wg166) (by decide) ha0 hb_18 (dd_at ddX11_goes 71 rfl) ?_
        refine lv_iload_n S.1 S.2.1 (dd_at ddX11_goes 72 rfl) rfl (lv_at hl 1 rfl) ?_
        refine lv_iconst (v := 0) S.1 S.2.1 (dd_at ddX11_goes 73 rfl) (by decide) ?_
        obtain ⟨hx_20, h⟩ := h
        refine r_zast S hw ho_19 hx_20 (dd_at ddX11_goes 74 rfl) (fun H locs hw => ?_)
        refine lv_aload_n S.1 S.2.1 (dd_at ddX11_goes 75 rfl) rfl (lv_at hl 0 rfl) ?_
        obtain ⟨b_21, hb_22, ho_23, h⟩ := h
        refine r_getR S hw 11 25 rfl inG11 (by decide) (List.mem_cons_of_mem _ wg167) (by decide) ha0 hb_22 (dd_at ddX11_goes 76 rfl) ?_
        refine lv_iload_n S.1 S.2.1 (dd_at ddX11_goes 77 rfl) rfl (lv_at hl 1 rfl) ?_
        refine lv_iconst (v := 0) S.1 S.2.1 (dd_at ddX11_goes 78 rfl) (by decide) ?_
        obtain ⟨hx_24, h⟩ := h
        refine r_zast S hw ho_23 hx_24 (dd_at ddX11_goes 79 rfl) (fun H locs hw => ?_)
        refine lv_iinc (v := v3 + 1) (lv' := [(3, .int (v3 + 1)), (0, .ref a0)]) S.1 S.2.1 (dd_at ddX11_goes 80 rfl) hl (k := 1) rfl rfl (by decide) rfl (fun ls hl => ?_)
        refine lv_goto (tgt := 113) S.1 S.2.1 (dd_at ddX11_goes 81 rfl) (by decide) ?_
        exact ih113 (v3 + 1) (pA (pA d b_17 (v3).toNatClampNeg (vp_nar .boolean 0)) b_21 (v3).toNatClampNeg (vp_nar .boolean 0)) H locs ls h hw (lv_sub hl [1, 0] rfl)
  have tl69 : ∀ (n : Nat) (v3 : Int32) (d : Dy) (H : Heap) (locs : List Loc) (ls : Array Slot), l_X11_goes_69 E a0 p1 p2 K n v3 d → Wd D cs (AW E sz) s.heap s E d H locs → lv_has ls 5 [(0, .ref a0), (3, .int v3)] → W p l e rm_X11_goes s m ([.ref a0, .int p1, .int p2] : List Value).toArray below meth c H locs 0 0 (MQ below (va_Qv K (OutW D cs E (AW E sz)) (AW E sz)) ([.ref a0, .int p1, .int p2] : List Value).toArray s rm_X11_goes.cells rm_X11_goes.slots (AW E sz)) (F0 m 69 ls []) := by
    intro n69
    induction n69 with
    | zero => intro v3 d H locs ls h; exact absurd h id
    | succ n69 ih69 =>
      intro v3 d H locs ls h hw hl
      have h : b_X11_goes_69 E a0 p1 p2 K (l_X11_goes_69 E a0 p1 p2 K n69) v3 d := h
      unfold b_X11_goes_69 at h
      refine lv_iload_n S.1 S.2.1 (dd_at ddX11_goes 41 rfl) rfl (lv_at hl 1 rfl) ?_
      refine lv_aload_n S.1 S.2.1 (dd_at ddX11_goes 42 rfl) rfl (lv_at hl 0 rfl) ?_
      refine r_callI hw (r_runV (As := []) (rest := [.int v3]) S hw (m_X11_huts l D cs E d H.size a0 _) (cwV 0 S.2.2.2.2 (gV wg596 wg597 wg598 wg5 wg599) rfl rfl rfl (by decide +kernel) ⟨Nat.le_of_ble_eq_true rfl, Nat.le_of_ble_eq_true rfl⟩) (ci := 11) rfl ha0 h rfl hl.1 rfl (Nat.le_of_ble_eq_true rfl) (dd_at ddX11_goes 43 rfl) ⟨Nat.le_of_ble_eq_true rfl, Nat.le_of_ble_eq_true rfl⟩) (fun r_26 d_25 H locs h hw => ?_)
      refine lv_icmp_ge (tgt := 111) S.1 S.2.1 (dd_at ddX11_goes 44 rfl) (by decide) (fun hc_27 => ?_) (fun hc_27 => ?_)
      · have h := h.1 hc_27
        refine lv_iconst (v := 0) S.1 S.2.1 (dd_at ddX11_goes 65 rfl) (by decide) ?_
        refine lv_istore_n (lv' := [(3, .int 0), (0, .ref a0)]) S.1 S.2.1 (dd_at ddX11_goes 66 rfl) rfl hl (by decide) rfl (fun ls hl => ?_)
        obtain ⟨n_28, h⟩ := h
        exact tl113 n_28 0 d_25 H locs ls h hw (lv_sub hl [1, 0] rfl)
      · have h := h.2 hc_27
        refine lv_aload_n S.1 S.2.1 (dd_at ddX11_goes 45 rfl) rfl (lv_at hl 0 rfl) ?_
        obtain ⟨b_29, hb_30, ho_31, h⟩ := h
        refine r_getR S hw 11 21 rfl inG11 (by decide) (List.mem_cons_of_mem _ wg163) (by decide) ha0 hb_30 (dd_at ddX11_goes 46 rfl) ?_
        refine lv_iload_n S.1 S.2.1 (dd_at ddX11_goes 47 rfl) rfl (lv_at hl 1 rfl) ?_
        refine lv_aload_n S.1 S.2.1 (dd_at ddX11_goes 48 rfl) rfl (lv_at hl 0 rfl) ?_
        refine lv_iload_n S.1 S.2.1 (dd_at ddX11_goes 49 rfl) rfl (lv_at hl 1 rfl) ?_
        refine lv_iconst (v := 1) S.1 S.2.1 (dd_at ddX11_goes 50 rfl) (by decide) ?_
        refine r_callI hw (r_runV (As := [.int v3, .int 1]) (rest := [.int v3, .ref b_29]) S hw (m_X11_ofHut l D cs E d_25 H.size a0 v3 1 _) (cwV 2 S.2.2.2.2 (gV wg827 wg828 wg829 wg5 wg830) rfl rfl rfl (by decide +kernel) ⟨Nat.le_of_ble_eq_true rfl, Nat.le_of_ble_eq_true rfl⟩) (ci := 11) rfl ha0 h rfl hl.1 rfl (Nat.le_of_ble_eq_true rfl) (dd_at ddX11_goes 51 rfl) ⟨Nat.le_of_ble_eq_true rfl, Nat.le_of_ble_eq_true rfl⟩) (fun r_33 d_32 H locs h hw => ?_)
        obtain ⟨hx_34, h⟩ := h
        refine r_iast S hw ho_31 hx_34 (dd_at ddX11_goes 52 rfl) (fun H locs hw => ?_)
        refine lv_aload_n S.1 S.2.1 (dd_at ddX11_goes 53 rfl) rfl (lv_at hl 0 rfl) ?_
        obtain ⟨b_35, hb_36, ho_37, h⟩ := h
        refine r_getR S hw 11 22 rfl inG11 (by decide) (List.mem_cons_of_mem _ wg164) (by decide) ha0 hb_36 (dd_at ddX11_goes 54 rfl) ?_
        refine lv_iload_n S.1 S.2.1 (dd_at ddX11_goes 55 rfl) rfl (lv_at hl 1 rfl) ?_
        refine lv_sipush (v := 1900) S.1 S.2.1 (dd_at ddX11_goes 56 rfl) (by decide) ?_
        obtain ⟨hx_38, h⟩ := h
        refine r_iast S hw ho_37 hx_38 (dd_at ddX11_goes 57 rfl) (fun H locs hw => ?_)
        refine lv_aload_n S.1 S.2.1 (dd_at ddX11_goes 58 rfl) rfl (lv_at hl 0 rfl) ?_
        obtain ⟨b_39, hb_40, ho_41, h⟩ := h
        refine r_getR S hw 11 23 rfl inG11 (by decide) (List.mem_cons_of_mem _ wg165) (by decide) ha0 hb_40 (dd_at ddX11_goes 59 rfl) ?_
        refine lv_iload_n S.1 S.2.1 (dd_at ddX11_goes 60 rfl) rfl (lv_at hl 1 rfl) ?_
        refine lv_iload_n S.1 S.2.1 (dd_at ddX11_goes 61 rfl) rfl (lv_at hl 1 rfl) ?_
        obtain ⟨hx_42, h⟩ := h
        refine r_iast S hw ho_41 hx_42 (dd_at ddX11_goes 62 rfl) (fun H locs hw => ?_)
        refine lv_iinc (v := v3 + 1) (lv' := [(3, .int (v3 + 1)), (0, .ref a0)]) S.1 S.2.1 (dd_at ddX11_goes 63 rfl) hl (k := 1) rfl rfl (by decide) rfl (fun ls hl => ?_)
        refine lv_goto (tgt := 69) S.1 S.2.1 (dd_at ddX11_goes 64 rfl) (by decide) ?_
        exact ih69 (v3 + 1) (pA (pA (pA d_32 b_29 (v3).toNatClampNeg r_33) b_35 (v3).toNatClampNeg 1900) b_39 (v3).toNatClampNeg v3) H locs ls h hw (lv_sub hl [1, 0] rfl)
  have tl8 : ∀ (n : Nat) (v3 : Int32) (d : Dy) (H : Heap) (locs : List Loc) (ls : Array Slot), l_X11_goes_8 E a0 p1 p2 K n v3 d → Wd D cs (AW E sz) s.heap s E d H locs → lv_has ls 5 [(0, .ref a0), (3, .int v3)] → W p l e rm_X11_goes s m ([.ref a0, .int p1, .int p2] : List Value).toArray below meth c H locs 0 0 (MQ below (va_Qv K (OutW D cs E (AW E sz)) (AW E sz)) ([.ref a0, .int p1, .int p2] : List Value).toArray s rm_X11_goes.cells rm_X11_goes.slots (AW E sz)) (F0 m 8 ls []) := by
    intro n8
    induction n8 with
    | zero => intro v3 d H locs ls h; exact absurd h id
    | succ n8 ih8 =>
      have tl33 : ∀ (n : Nat) (v3 : Int32) (v4 : Int32) (d : Dy) (H : Heap) (locs : List Loc) (ls : Array Slot), l_X11_goes_33 E a0 p1 p2 K (l_X11_goes_8 E a0 p1 p2 K n8) n v3 v4 d → Wd D cs (AW E sz) s.heap s E d H locs → lv_has ls 5 [(0, .ref a0), (3, .int v3), (4, .int v4)] → W p l e rm_X11_goes s m ([.ref a0, .int p1, .int p2] : List Value).toArray below meth c H locs 0 0 (MQ below (va_Qv K (OutW D cs E (AW E sz)) (AW E sz)) ([.ref a0, .int p1, .int p2] : List Value).toArray s rm_X11_goes.cells rm_X11_goes.slots (AW E sz)) (F0 m 33 ls []) := by
        intro n33
        induction n33 with
        | zero => intro v3 v4 d H locs ls h; exact absurd h id
        | succ n33 ih33 =>
          intro v3 v4 d H locs ls h hw hl
          have h : b_X11_goes_33 E a0 p1 p2 K (l_X11_goes_8 E a0 p1 p2 K n8) (l_X11_goes_33 E a0 p1 p2 K (l_X11_goes_8 E a0 p1 p2 K n8) n33) v3 v4 d := h
          unfold b_X11_goes_33 at h
          refine lv_iload S.1 S.2.1 (dd_at ddX11_goes 22 rfl) (lv_at hl 2 rfl) ?_
          refine lv_aload_n S.1 S.2.1 (dd_at ddX11_goes 23 rfl) rfl (lv_at hl 0 rfl) ?_
          refine r_callI hw (r_runV (As := []) (rest := [.int v4]) S hw (m_X11_persons l D cs E d H.size a0 _) (cwV 0 S.2.2.2.2 (gV wg558 wg559 wg560 wg5 wg561) rfl rfl rfl (by decide +kernel) ⟨Nat.le_of_ble_eq_true rfl, Nat.le_of_ble_eq_true rfl⟩) (ci := 11) rfl ha0 h rfl hl.1 rfl (Nat.le_of_ble_eq_true rfl) (dd_at ddX11_goes 24 rfl) ⟨Nat.le_of_ble_eq_true rfl, Nat.le_of_ble_eq_true rfl⟩) (fun r_2 d_1 H locs h hw => ?_)
          refine lv_icmp_ge (tgt := 61) S.1 S.2.1 (dd_at ddX11_goes 25 rfl) (by decide) (fun hc_3 => ?_) (fun hc_3 => ?_)
          · have h := h.1 hc_3
            refine lv_iinc (v := v3 + 1) (lv' := [(3, .int (v3 + 1)), (0, .ref a0), (4, .int v4)]) S.1 S.2.1 (dd_at ddX11_goes 37 rfl) hl (k := 1) rfl rfl (by decide) rfl (fun ls hl => ?_)
            refine lv_goto (tgt := 8) S.1 S.2.1 (dd_at ddX11_goes 38 rfl) (by decide) ?_
            exact ih8 (v3 + 1) d_1 H locs ls h hw (lv_sub hl [1, 0] rfl)
          · have h := h.2 hc_3
            refine lv_aload_n S.1 S.2.1 (dd_at ddX11_goes 26 rfl) rfl (lv_at hl 0 rfl) ?_
            obtain ⟨b_4, hb_5, ho_6, h⟩ := h
            refine r_getR S hw 11 20 rfl inG11 (by decide) (List.mem_cons_of_mem _ wg162) (by decide) ha0 hb_5 (dd_at ddX11_goes 27 rfl) ?_
            refine lv_bipush (v := 12) S.1 S.2.1 (dd_at ddX11_goes 28 rfl) (by decide) ?_
            refine lv_iload_n S.1 S.2.1 (dd_at ddX11_goes 29 rfl) rfl (lv_at hl 1 rfl) ?_
            refine lv_imul S.1 S.2.1 (dd_at ddX11_goes 30 rfl) ?_
            refine lv_iload S.1 S.2.1 (dd_at ddX11_goes 31 rfl) (lv_at hl 2 rfl) ?_
            refine lv_iadd S.1 S.2.1 (dd_at ddX11_goes 32 rfl) ?_
            refine lv_iconst (v := 0) S.1 S.2.1 (dd_at ddX11_goes 33 rfl) (by decide) ?_
            obtain ⟨hx_7, h⟩ := h
            refine r_zast S hw ho_6 hx_7 (dd_at ddX11_goes 34 rfl) (fun H locs hw => ?_)
            refine lv_iinc (v := v4 + 1) (lv' := [(4, .int (v4 + 1)), (0, .ref a0), (3, .int v3)]) S.1 S.2.1 (dd_at ddX11_goes 35 rfl) hl (k := 2) rfl rfl (by decide) rfl (fun ls hl => ?_)
            refine lv_goto (tgt := 33) S.1 S.2.1 (dd_at ddX11_goes 36 rfl) (by decide) ?_
            exact ih33 v3 (v4 + 1) (pA d_1 b_4 ((12 * v3) + v4).toNatClampNeg (vp_nar .boolean 0)) H locs ls h hw (lv_sub hl [1, 2, 0] rfl)
      intro v3 d H locs ls h hw hl
      have h : b_X11_goes_8 E a0 p1 p2 K (l_X11_goes_8 E a0 p1 p2 K n8) v3 d := h
      unfold b_X11_goes_8 at h
      refine lv_iload_n S.1 S.2.1 (dd_at ddX11_goes 6 rfl) rfl (lv_at hl 1 rfl) ?_
      refine lv_aload_n S.1 S.2.1 (dd_at ddX11_goes 7 rfl) rfl (lv_at hl 0 rfl) ?_
      refine r_callI hw (r_runV (As := []) (rest := [.int v3]) S hw (m_X11_persons l D cs E d H.size a0 _) (cwV 0 S.2.2.2.2 (gV wg558 wg559 wg560 wg5 wg561) rfl rfl rfl (by decide +kernel) ⟨Nat.le_of_ble_eq_true rfl, Nat.le_of_ble_eq_true rfl⟩) (ci := 11) rfl ha0 h rfl hl.1 rfl (Nat.le_of_ble_eq_true rfl) (dd_at ddX11_goes 8 rfl) ⟨Nat.le_of_ble_eq_true rfl, Nat.le_of_ble_eq_true rfl⟩) (fun r_44 d_43 H locs h hw => ?_)
      refine lv_icmp_ge (tgt := 67) S.1 S.2.1 (dd_at ddX11_goes 9 rfl) (by decide) (fun hc_45 => ?_) (fun hc_45 => ?_)
      · have h := h.1 hc_45
        refine lv_iconst (v := 0) S.1 S.2.1 (dd_at ddX11_goes 39 rfl) (by decide) ?_
        refine lv_istore_n (lv' := [(3, .int 0), (0, .ref a0)]) S.1 S.2.1 (dd_at ddX11_goes 40 rfl) rfl hl (by decide) rfl (fun ls hl => ?_)
        obtain ⟨n_46, h⟩ := h
        exact tl69 n_46 0 d_43 H locs ls h hw (lv_sub hl [1, 0] rfl)
      · have h := h.2 hc_45
        refine lv_aload_n S.1 S.2.1 (dd_at ddX11_goes 10 rfl) rfl (lv_at hl 0 rfl) ?_
        obtain ⟨b_47, hb_48, ho_49, h⟩ := h
        refine r_getR S hw 11 18 rfl inG11 (by decide) (List.mem_cons_of_mem _ wg160) (by decide) ha0 hb_48 (dd_at ddX11_goes 11 rfl) ?_
        refine lv_iload_n S.1 S.2.1 (dd_at ddX11_goes 12 rfl) rfl (lv_at hl 1 rfl) ?_
        refine lv_iconst (v := 1) S.1 S.2.1 (dd_at ddX11_goes 13 rfl) (by decide) ?_
        obtain ⟨hx_50, h⟩ := h
        refine r_zast S hw ho_49 hx_50 (dd_at ddX11_goes 14 rfl) (fun H locs hw => ?_)
        refine lv_aload_n S.1 S.2.1 (dd_at ddX11_goes 15 rfl) rfl (lv_at hl 0 rfl) ?_
        obtain ⟨b_51, hb_52, ho_53, h⟩ := h
        refine r_getR S hw 11 19 rfl inG11 (by decide) (List.mem_cons_of_mem _ wg161) (by decide) ha0 hb_52 (dd_at ddX11_goes 16 rfl) ?_
        refine lv_iload_n S.1 S.2.1 (dd_at ddX11_goes 17 rfl) rfl (lv_at hl 1 rfl) ?_
        refine lv_iconst (v := -1) S.1 S.2.1 (dd_at ddX11_goes 18 rfl) (by decide) ?_
        obtain ⟨hx_54, h⟩ := h
        refine r_iast S hw ho_53 hx_54 (dd_at ddX11_goes 19 rfl) (fun H locs hw => ?_)
        refine lv_iconst (v := 0) S.1 S.2.1 (dd_at ddX11_goes 20 rfl) (by decide) ?_
        refine lv_istore (lv' := [(4, .int 0), (0, .ref a0), (3, .int v3)]) S.1 S.2.1 (dd_at ddX11_goes 21 rfl) hl (by decide) rfl (fun ls hl => ?_)
        obtain ⟨n_55, h⟩ := h
        exact tl33 n_55 v3 0 (pA (pA d_43 b_47 (v3).toNatClampNeg (vp_nar .boolean 1)) b_51 (v3).toNatClampNeg (-1)) H locs ls h hw (lv_sub hl [1, 2, 0] rfl)
  refine lv_aload_n S.1 S.2.1 (dd_at ddX11_goes 0 rfl) rfl (lv_at hl 0 rfl) ?_
  refine lv_iload_n S.1 S.2.1 (dd_at ddX11_goes 1 rfl) rfl (lv_at hl 1 rfl) ?_
  refine lv_iload_n S.1 S.2.1 (dd_at ddX11_goes 2 rfl) rfl (lv_at hl 2 rfl) ?_
  refine r_callV hw (r_runV (As := [.int p1, .int p2]) (rest := []) S hw (m_X11_sorts l D cs E d H.size a0 p1 p2 _) (cwV 2 S.2.2.2.2 (gV wg819 wg820 wg821 wg5 wg822) rfl rfl rfl (by decide +kernel) ⟨Nat.le_of_ble_eq_true rfl, Nat.le_of_ble_eq_true rfl⟩) (ci := 11) rfl ha0 h rfl hl.1 rfl (Nat.le_of_ble_eq_true rfl) (dd_at ddX11_goes 3 rfl) ⟨Nat.le_of_ble_eq_true rfl, Nat.le_of_ble_eq_true rfl⟩) (fun d_56 H locs h hw => ?_)
  refine lv_iconst (v := 0) S.1 S.2.1 (dd_at ddX11_goes 4 rfl) (by decide) ?_
  refine lv_istore_n (lv' := [(3, .int 0), (0, .ref a0), (1, .int p1), (2, .int p2)]) S.1 S.2.1 (dd_at ddX11_goes 5 rfl) rfl hl (by decide) rfl (fun ls hl => ?_)
  obtain ⟨n_58, h⟩ := h
  exact tl8 n_58 0 d_56 H locs ls h hw (lv_sub hl [1, 0] rfl)
