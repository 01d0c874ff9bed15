def b_X5_solves_82 (E : En) (a0 : Nat) (p1 : Int32) (K : Int32 → Dy → Prop) (k82 : Int32 → Dy → Prop) (v2 : Int32) (d : Dy) : Prop := ((5000 ≤ v2 → K 1 d) ∧ (¬ 5000 ≤ v2 → (((gI d a0 5) = 0 → K 1 d) ∧ (¬ (gI d a0 5) = 0 → w_X5_narrows E a0 p1 (pI d a0 5 0) (fun r_4 d_3 => ((¬ r_4 = 0 → k82 (v2 + 1) d_3) ∧ (r_4 = 0 → K 0 d_3)))))))
def l_X5_solves_82 (E : En) (a0 : Nat) (p1 : Int32) (K : Int32 → Dy → Prop) : Nat → Int32 → Dy → Prop
  | 0 => fun _ _ => False
  | n + 1 => b_X5_solves_82 E a0 p1 K (l_X5_solves_82 E a0 p1 K n)
def b_X5_solves_2 (E : En) (a0 : Nat) (p1 : Int32) (K : Int32 → Dy → Prop) (k2 : Int32 → Dy → Prop) (v2 : Int32) (d : Dy) : Prop := ∃ b_6 : Nat, eR E a0 0 = some b_6 ∧ okO E b_6 8 ∧ ∃ b_9 : Nat, eR E b_6 2 = some b_9 ∧ okO E b_9 6 ∧ w_X6_size E b_9 d (fun r_13 d_12 => ((r_13 ≤ v2 → ∃ b_15 : Nat, eR E a0 3 = some b_15 ∧ okA E b_15 13 ∧ w_J7_fill_53178 E b_15 0 d_12 (fun d_18 => ∃ b_20 : Nat, eR E a0 4 = some b_20 ∧ okA E b_20 13 ∧ w_J7_fill_53178 E b_20 100 d_18 (fun d_23 => (∃ n_25 : Nat, l_X5_solves_82 E a0 p1 K n_25 0 (pI d_23 a0 5 1))))) ∧ (¬ r_13 ≤ v2 → ∃ b_26 : Nat, eR E a0 1 = some b_26 ∧ okA E b_26 13 ∧ ∃ b_29 : Nat, eR E a0 0 = some b_29 ∧ okO E b_29 8 ∧ ∃ b_32 : Nat, eR E b_29 2 = some b_32 ∧ okO E b_32 6 ∧ w_X6_get E b_32 v2 3 d_12 (fun r_36 d_35 => vp_in v2 (eN E b_26) ∧ ∃ b_38 : Nat, eR E a0 2 = some b_38 ∧ okA E b_38 13 ∧ ∃ b_41 : Nat, eR E a0 0 = some b_41 ∧ okO E b_41 8 ∧ ∃ b_44 : Nat, eR E b_41 2 = some b_44 ∧ okO E b_44 6 ∧ w_X6_get E b_44 v2 4 (pA d_35 b_26 (v2).toNatClampNeg r_36) (fun r_48 d_47 => vp_in v2 (eN E b_38) ∧ k2 (v2 + 1) (pA d_47 b_38 (v2).toNatClampNeg r_48))))))
def l_X5_solves_2 (E : En) (a0 : Nat) (p1 : Int32) (K : Int32 → Dy → Prop) : Nat → Int32 → Dy → Prop
  | 0 => fun _ _ => False
  | n + 1 => b_X5_solves_2 E a0 p1 K (l_X5_solves_2 E a0 p1 K n)
def w_X5_solves (E : En) (a0 : Nat) (p1 : Int32) (d : Dy) (K : Int32 → Dy → Prop) : Prop := okO E a0 5 ∧ (∃ n_50 : Nat, l_X5_solves_2 E a0 p1 K n_50 0 d)
abbrev rm_X5_solves : Room := { frames := 2, cells := 0, slots := 0, locals := 47 }
set_option maxRecDepth 100000 in
set_option maxHeartbeats 4000000 in
theorem m_X5_solves (l : Launch) (D : va_G) (cs : Nat → ClassId) (E : En) (d : Dy) (sz : Nat) (a0 : Nat) (p1 : Int32) (K : Int32 → Dy → Prop) : CI l yX5_solves (.code yX5_solves cX5_solves 3 (some .boolean) :: wsL_law) rm_X5_solves D cs E d sz [.ref a0, .int p1] (w_X5_solves E a0 p1 d K) K := by
  refine e_of (cc := cX5_solves) (maxL := 3) (ret := (some .boolean)) (own := RX5) (by decide) rfl rfl (Nat.le_of_ble_eq_true rfl) ?_
  intro p e s m below meth c S hr hlocks hsz H locs hw h ls hl
  have hl : lv_has ls 3 [(0, .ref a0), (1, .int p1)] := hl
  unfold w_X5_solves at h
  obtain ⟨ha0, h⟩ := h
  have tl82 : ∀ (n : Nat) (v2 : Int32) (d : Dy) (H : Heap) (locs : List Loc) (ls : Array Slot), l_X5_solves_82 E a0 p1 K n v2 d → Wd D cs (AW E sz) s.heap s E d H locs → lv_has ls 3 [(0, .ref a0), (1, .int p1), (2, .int v2)] → W p l e rm_X5_solves s m ([.ref a0, .int p1] : List Value).toArray below meth c H locs 0 0 (MQ below (va_Qi K (OutW D cs E (AW E sz)) (AW E sz)) ([.ref a0, .int p1] : List Value).toArray s rm_X5_solves.cells rm_X5_solves.slots (AW E sz)) (F0 m 82 ls []) := by
    intro n82
    induction n82 with
    | zero => intro v2 d H locs ls h; exact absurd h id
    | succ n82 ih82 =>
      intro v2 d H locs ls h hw hl
      have h : b_X5_solves_82 E a0 p1 K (l_X5_solves_82 E a0 p1 K n82) v2 d := h
      unfold b_X5_solves_82 at h
      refine lv_iload_n S.1 S.2.1 (dd_at ddX5_solves 43 rfl) rfl (lv_at hl 2 rfl) ?_
      refine lv_sipush (v := 5000) S.1 S.2.1 (dd_at ddX5_solves 44 rfl) (by decide) ?_
      refine lv_icmp_ge (tgt := 117) S.1 S.2.1 (dd_at ddX5_solves 45 rfl) (by decide) (fun hc_1 => ?_) (fun hc_1 => ?_)
      · have h := h.1 hc_1
        refine lv_iconst (v := 1) S.1 S.2.1 (dd_at ddX5_solves 60 rfl) (by decide) ?_
        exact e_Z S hr hlocks hw (Or.inr rfl) h (dd_at ddX5_solves 61 rfl)
      · have h := h.2 hc_1
        refine lv_aload_n S.1 S.2.1 (dd_at ddX5_solves 46 rfl) rfl (lv_at hl 0 rfl) ?_
        refine r_getI S hw 5 5 rfl inG5 (by decide) (List.mem_cons_of_mem _ wg1275) (by decide) ha0 (dd_at ddX5_solves 47 rfl) ?_
        refine lv_if_eq (tgt := 117) S.1 S.2.1 (dd_at ddX5_solves 48 rfl) (by decide) (fun hc_2 => ?_) (fun hc_2 => ?_)
        · have h := h.1 hc_2
          refine lv_iconst (v := 1) S.1 S.2.1 (dd_at ddX5_solves 60 rfl) (by decide) ?_
          exact e_Z S hr hlocks hw (Or.inr rfl) h (dd_at ddX5_solves 61 rfl)
        · have h := h.2 hc_2
          refine lv_aload_n S.1 S.2.1 (dd_at ddX5_solves 49 rfl) rfl (lv_at hl 0 rfl) ?_
          refine lv_iconst (v := 0) S.1 S.2.1 (dd_at ddX5_solves 50 rfl) (by decide) ?_
          refine r_putI S hw 5 5 (ty := .boolean) (v := 0) rfl inG5 tyX5 tyX5_ok nmX5 (by decide) (List.mem_cons_of_mem _ wg1275) (by decide) rfl (by decide +kernel) (by decide) (by decide) ha0 (dd_at ddX5_solves 51 rfl) (fun H locs hw => ?_)
          refine lv_aload_n S.1 S.2.1 (dd_at ddX5_solves 52 rfl) rfl (lv_at hl 0 rfl) ?_
          refine lv_iload_n S.1 S.2.1 (dd_at ddX5_solves 53 rfl) rfl (lv_at hl 1 rfl) ?_
          refine r_callI hw (r_runV (As := [.int p1]) (rest := []) S hw (m_X5_narrows l D cs E (pI d a0 5 0) H.size a0 p1 _) (cwV 1 S.2.2.2.2 (gV wg1279 wg1280 wg1281 wg38 wg1282) rfl rfl rfl (by decide +kernel) ⟨Nat.le_of_ble_eq_true rfl, Nat.le_of_ble_eq_true rfl⟩) (ci := 5) rfl ha0 h rfl hl.1 rfl (Nat.le_of_ble_eq_true rfl) (dd_at ddX5_solves 54 rfl) ⟨Nat.le_of_ble_eq_true rfl, Nat.le_of_ble_eq_true rfl⟩) (fun r_4 d_3 H locs h hw => ?_)
          refine lv_if_ne (tgt := 111) S.1 S.2.1 (dd_at ddX5_solves 55 rfl) (by decide) (fun hc_5 => ?_) (fun hc_5 => ?_)
          · have h := h.1 hc_5
            refine lv_iinc (v := v2 + 1) (lv' := [(2, .int (v2 + 1)), (0, .ref a0), (1, .int p1)]) S.1 S.2.1 (dd_at ddX5_solves 58 rfl) hl (k := 2) rfl rfl (by decide) rfl (fun ls hl => ?_)
            refine lv_goto (tgt := 82) S.1 S.2.1 (dd_at ddX5_solves 59 rfl) (by decide) ?_
            exact ih82 (v2 + 1) d_3 H locs ls h hw (lv_sub hl [1, 2, 0] rfl)
          · have h := h.2 hc_5
            refine lv_iconst (v := 0) S.1 S.2.1 (dd_at ddX5_solves 56 rfl) (by decide) ?_
            exact e_Z S hr hlocks hw (Or.inl rfl) h (dd_at ddX5_solves 57 rfl)
  have tl2 : ∀ (n : Nat) (v2 : Int32) (d : Dy) (H : Heap) (locs : List Loc) (ls : Array Slot), l_X5_solves_2 E a0 p1 K n v2 d → Wd D cs (AW E sz) s.heap s E d H locs → lv_has ls 3 [(0, .ref a0), (1, .int p1), (2, .int v2)] → W p l e rm_X5_solves s m ([.ref a0, .int p1] : List Value).toArray below meth c H locs 0 0 (MQ below (va_Qi K (OutW D cs E (AW E sz)) (AW E sz)) ([.ref a0, .int p1] : List Value).toArray s rm_X5_solves.cells rm_X5_solves.slots (AW E sz)) (F0 m 2 ls []) := by
    intro n2
    induction n2 with
    | zero => intro v2 d H locs ls h; exact absurd h id
    | succ n2 ih2 =>
      intro v2 d H locs ls h hw hl
      have h : b_X5_solves_2 E a0 p1 K (l_X5_solves_2 E a0 p1 K n2) v2 d := h
      unfold b_X5_solves_2 at h
      refine lv_iload_n S.1 S.2.1 (dd_at ddX5_solves 2 rfl) rfl (lv_at hl 2 rfl) ?_
      refine lv_aload_n S.1 S.2.1 (dd_at ddX5_solves 3 rfl) rfl (lv_at hl 0 rfl) ?_
      obtain ⟨b_6, hb_7, ho_8, h⟩ := h
      refine r_getR S hw 5 0 rfl inG5 (by decide) (List.mem_cons_of_mem _ wg138) (by decide) ha0 hb_7 (dd_at ddX5_solves 4 rfl) ?_
      obtain ⟨b_9, hb_10, ho_11, h⟩ := h
      refine r_getRN S hw 8 2 rfl inG8 (by decide) nx4 (by decide) ho_8 hb_10 (dd_at ddX5_solves 5 rfl) ?_
      refine r_callI hw (r_runV (As := []) (rest := [.int v2]) S hw (m_X6_size l D cs E d H.size b_9 _) (cwV 0 S.2.2.2.2 (gV wg1276 wg372 wg373 wg51 wg374) rfl rfl rfl (by decide +kernel) ⟨Nat.le_of_ble_eq_true rfl, Nat.le_of_ble_eq_true rfl⟩) (ci := 6) rfl ho_11 h rfl hl.1 rfl (Nat.le_of_ble_eq_true rfl) (dd_at ddX5_solves 6 rfl) ⟨Nat.le_of_ble_eq_true rfl, Nat.le_of_ble_eq_true rfl⟩) (fun r_13 d_12 H locs h hw => ?_)
      refine lv_icmp_ge (tgt := 58) S.1 S.2.1 (dd_at ddX5_solves 7 rfl) (by decide) (fun hc_14 => ?_) (fun hc_14 => ?_)
      · have h := h.1 hc_14
        refine lv_aload_n S.1 S.2.1 (dd_at ddX5_solves 30 rfl) rfl (lv_at hl 0 rfl) ?_
        obtain ⟨b_15, hb_16, ho_17, h⟩ := h
        refine r_getR S hw 5 3 rfl inG5 (by decide) (List.mem_cons_of_mem _ wg136) (by decide) ha0 hb_16 (dd_at ddX5_solves 31 rfl) ?_
        refine lv_iconst (v := 0) S.1 S.2.1 (dd_at ddX5_solves 32 rfl) (by decide) ?_
        refine r_callV hw (r_runS (As := [.ref b_15, .int 0]) (rest := []) S hw (m_J7_fill_53178 l D cs E d_12 H.size b_15 0 _) (va_cwS 2 S.2.2.2.2 (gS wg1278 wg82 wg83 wg84) rfl rfl rfl (by decide +kernel) ⟨Nat.le_of_ble_eq_true rfl, Nat.le_of_ble_eq_true rfl⟩) h rfl hl.1 rfl (Nat.le_of_ble_eq_true rfl) (dd_at ddX5_solves 33 rfl) ⟨Nat.le_of_ble_eq_true rfl, Nat.le_of_ble_eq_true rfl⟩) (fun d_18 H locs h hw => ?_)
        refine lv_aload_n S.1 S.2.1 (dd_at ddX5_solves 34 rfl) rfl (lv_at hl 0 rfl) ?_
        obtain ⟨b_20, hb_21, ho_22, h⟩ := h
        refine r_getR S hw 5 4 rfl inG5 (by decide) (List.mem_cons_of_mem _ wg137) (by decide) ha0 hb_21 (dd_at ddX5_solves 35 rfl) ?_
        refine lv_bipush (v := 100) S.1 S.2.1 (dd_at ddX5_solves 36 rfl) (by decide) ?_
        refine r_callV hw (r_runS (As := [.ref b_20, .int 100]) (rest := []) S hw (m_J7_fill_53178 l D cs E d_18 H.size b_20 100 _) (va_cwS 2 S.2.2.2.2 (gS wg1278 wg82 wg83 wg84) rfl rfl rfl (by decide +kernel) ⟨Nat.le_of_ble_eq_true rfl, Nat.le_of_ble_eq_true rfl⟩) h rfl hl.1 rfl (Nat.le_of_ble_eq_true rfl) (dd_at ddX5_solves 37 rfl) ⟨Nat.le_of_ble_eq_true rfl, Nat.le_of_ble_eq_true rfl⟩) (fun d_23 H locs h hw => ?_)
        refine lv_aload_n S.1 S.2.1 (dd_at ddX5_solves 38 rfl) rfl (lv_at hl 0 rfl) ?_
        refine lv_iconst (v := 1) S.1 S.2.1 (dd_at ddX5_solves 39 rfl) (by decide) ?_
        refine r_putI S hw 5 5 (ty := .boolean) (v := 1) rfl inG5 tyX5 tyX5_ok nmX5 (by decide) (List.mem_cons_of_mem _ wg1275) (by decide) rfl (by decide +kernel) (by decide) (by decide) ha0 (dd_at ddX5_solves 40 rfl) (fun H locs hw => ?_)
        refine lv_iconst (v := 0) S.1 S.2.1 (dd_at ddX5_solves 41 rfl) (by decide) ?_
        refine lv_istore_n (lv' := [(2, .int 0), (0, .ref a0), (1, .int p1)]) S.1 S.2.1 (dd_at ddX5_solves 42 rfl) rfl hl (by decide) rfl (fun ls hl => ?_)
        obtain ⟨n_25, h⟩ := h
        exact tl82 n_25 0 (pI d_23 a0 5 1) H locs ls h hw (lv_sub hl [1, 2, 0] rfl)
      · have h := h.2 hc_14
        refine lv_aload_n S.1 S.2.1 (dd_at ddX5_solves 8 rfl) rfl (lv_at hl 0 rfl) ?_
        obtain ⟨b_26, hb_27, ho_28, h⟩ := h
        refine r_getR S hw 5 1 rfl inG5 (by decide) (List.mem_cons_of_mem _ wg134) (by decide) ha0 hb_27 (dd_at ddX5_solves 9 rfl) ?_
        refine lv_iload_n S.1 S.2.1 (dd_at ddX5_solves 10 rfl) rfl (lv_at hl 2 rfl) ?_
        refine lv_aload_n S.1 S.2.1 (dd_at ddX5_solves 11 rfl) rfl (lv_at hl 0 rfl) ?_
        obtain ⟨b_29, hb_30, ho_31, h⟩ := h
        refine r_getR S hw 5 0 rfl inG5 (by decide) (List.mem_cons_of_mem _ wg138) (by decide) ha0 hb_30 (dd_at ddX5_solves 12 rfl) ?_
        obtain ⟨b_32, hb_33, ho_34, h⟩ := h
        refine r_getRN S hw 8 2 rfl inG8 (by decide) nx4 (by decide) ho_31 hb_33 (dd_at ddX5_solves 13 rfl) ?_
        refine lv_iload_n S.1 S.2.1 (dd_at ddX5_solves 14 rfl) rfl (lv_at hl 2 rfl) ?_
        refine lv_iconst (v := 3) S.1 S.2.1 (dd_at ddX5_solves 15 rfl) (by decide) ?_
        refine r_callI hw (r_runV (As := [.int v2, .int 3]) (rest := [.int v2, .ref b_26]) S hw (m_X6_get l D cs E d_12 H.size b_32 v2 3 _) (cwV 2 S.2.2.2.2 (gV wg1277 wg623 wg624 wg51 wg625) rfl rfl rfl (by decide +kernel) ⟨Nat.le_of_ble_eq_true rfl, Nat.le_of_ble_eq_true rfl⟩) (ci := 6) rfl ho_34 h rfl hl.1 rfl (Nat.le_of_ble_eq_true rfl) (dd_at ddX5_solves 16 rfl) ⟨Nat.le_of_ble_eq_true rfl, Nat.le_of_ble_eq_true rfl⟩) (fun r_36 d_35 H locs h hw => ?_)
        obtain ⟨hx_37, h⟩ := h
        refine r_iast S hw ho_28 hx_37 (dd_at ddX5_solves 17 rfl) (fun H locs hw => ?_)
        refine lv_aload_n S.1 S.2.1 (dd_at ddX5_solves 18 rfl) rfl (lv_at hl 0 rfl) ?_
        obtain ⟨b_38, hb_39, ho_40, h⟩ := h
        refine r_getR S hw 5 2 rfl inG5 (by decide) (List.mem_cons_of_mem _ wg135) (by decide) ha0 hb_39 (dd_at ddX5_solves 19 rfl) ?_
        refine lv_iload_n S.1 S.2.1 (dd_at ddX5_solves 20 rfl) rfl (lv_at hl 2 rfl) ?_
        refine lv_aload_n S.1 S.2.1 (dd_at ddX5_solves 21 rfl) rfl (lv_at hl 0 rfl) ?_
        obtain ⟨b_41, hb_42, ho_43, h⟩ := h
        refine r_getR S hw 5 0 rfl inG5 (by decide) (List.mem_cons_of_mem _ wg138) (by decide) ha0 hb_42 (dd_at ddX5_solves 22 rfl) ?_
        obtain ⟨b_44, hb_45, ho_46, h⟩ := h
        refine r_getRN S hw 8 2 rfl inG8 (by decide) nx4 (by decide) ho_43 hb_45 (dd_at ddX5_solves 23 rfl) ?_
        refine lv_iload_n S.1 S.2.1 (dd_at ddX5_solves 24 rfl) rfl (lv_at hl 2 rfl) ?_
        refine lv_iconst (v := 4) S.1 S.2.1 (dd_at ddX5_solves 25 rfl) (by decide) ?_
        refine r_callI hw (r_runV (As := [.int v2, .int 4]) (rest := [.int v2, .ref b_38]) S hw (m_X6_get l D cs E (pA d_35 b_26 (v2).toNatClampNeg r_36) H.size b_44 v2 4 _) (cwV 2 S.2.2.2.2 (gV wg1277 wg623 wg624 wg51 wg625) rfl rfl rfl (by decide +kernel) ⟨Nat.le_of_ble_eq_true rfl, Nat.le_of_ble_eq_true rfl⟩) (ci := 6) rfl ho_46 h rfl hl.1 rfl (Nat.le_of_ble_eq_true rfl) (dd_at ddX5_solves 26 rfl) ⟨Nat.le_of_ble_eq_true rfl, Nat.le_of_ble_eq_true rfl⟩) (fun r_48 d_47 H locs h hw => ?_)
        obtain ⟨hx_49, h⟩ := h
        refine r_iast S hw ho_40 hx_49 (dd_at ddX5_solves 27 rfl) (fun H locs hw => ?_)
        refine lv_iinc (v := v2 + 1) (lv' := [(2, .int (v2 + 1)), (0, .ref a0), (1, .int p1)]) S.1 S.2.1 (dd_at ddX5_solves 28 rfl) hl (k := 2) rfl rfl (by decide) rfl (fun ls hl => ?_)
        refine lv_goto (tgt := 2) S.1 S.2.1 (dd_at ddX5_solves 29 rfl) (by decide) ?_
        exact ih2 (v2 + 1) (pA d_47 b_38 (v2).toNatClampNeg r_48) H locs ls h hw (lv_sub hl [1, 2, 0] rfl)
  refine lv_iconst (v := 0) S.1 S.2.1 (dd_at ddX5_solves 0 rfl) (by decide) ?_
  refine lv_istore_n (lv' := [(2, .int 0), (0, .ref a0), (1, .int p1)]) S.1 S.2.1 (dd_at ddX5_solves 1 rfl) rfl hl (by decide) rfl (fun ls hl => ?_)
  obtain ⟨n_50, h⟩ := h
  exact tl2 n_50 0 d H locs ls h hw (lv_sub hl [1, 2, 0] rfl)

def w_X5_seaOf (E : En) (a0 : Nat) (p1 : Int32) (p2 : Int32) (d : Dy) (K : Int32 → Dy → Prop) : Prop := okO E a0 5 ∧ ((p1 < 0 → K (-1) d) ∧ (¬ p1 < 0 → ((p1 < 10 → ((p2 = 0 → ∃ b_4 : Nat, eR E a0 3 = some b_4 ∧ okA E b_4 13 ∧ vp_in p1 (eN E b_4) ∧ K (gA d b_4 (p1).toNatClampNeg) d) ∧ (¬ p2 = 0 → ∃ b_8 : Nat, eR E a0 4 = some b_8 ∧ okA E b_8 13 ∧ vp_in p1 (eN E b_8) ∧ K (gA d b_8 (p1).toNatClampNeg) d))) ∧ (¬ p1 < 10 → K (-1) d))))
abbrev rm_X5_seaOf : Room := { frames := 0, cells := 0, slots := 0, locals := 0 }
set_option maxRecDepth 100000 in
set_option maxHeartbeats 4000000 in
theorem m_X5_seaOf (l : Launch) (D : va_G) (cs : Nat → ClassId) (E : En) (d : Dy) (sz : Nat) (a0 : Nat) (p1 : Int32) (p2 : Int32) (K : Int32 → Dy → Prop) : CI l yX5_seaOf (.code yX5_seaOf cX5_seaOf 3 (some .int) :: wsL_law) rm_X5_seaOf D cs E d sz [.ref a0, .int p1, .int p2] (w_X5_seaOf E a0 p1 p2 d K) K := by
  refine e_of (cc := cX5_seaOf) (maxL := 3) (ret := (some .int)) (own := RX5) (by decide) rfl rfl (Nat.le_of_ble_eq_true rfl) ?_
  intro p e s m below meth c S hr hlocks hsz H locs hw h ls hl
  have hl : lv_has ls 3 [(0, .ref a0), (1, .int p1), (2, .int p2)] := hl
  unfold w_X5_seaOf at h
  obtain ⟨ha0, h⟩ := h
  refine lv_iload_n S.1 S.2.1 (dd_at ddX5_seaOf 0 rfl) rfl (lv_at hl 1 rfl) ?_
  refine lv_if_lt (tgt := 10) S.1 S.2.1 (dd_at ddX5_seaOf 1 rfl) (by decide) (fun hc_1 => ?_) (fun hc_1 => ?_)
  · have h := h.1 hc_1
    refine lv_iconst (v := -1) S.1 S.2.1 (dd_at ddX5_seaOf 5 rfl) (by decide) ?_
    exact e_I S hr hlocks hw h (dd_at ddX5_seaOf 6 rfl)
  · have h := h.2 hc_1
    refine lv_iload_n S.1 S.2.1 (dd_at ddX5_seaOf 2 rfl) rfl (lv_at hl 1 rfl) ?_
    refine lv_bipush (v := 10) S.1 S.2.1 (dd_at ddX5_seaOf 3 rfl) (by decide) ?_
    refine lv_icmp_lt (tgt := 12) S.1 S.2.1 (dd_at ddX5_seaOf 4 rfl) (by decide) (fun hc_2 => ?_) (fun hc_2 => ?_)
    · have h := h.1 hc_2
      refine lv_iload_n S.1 S.2.1 (dd_at ddX5_seaOf 7 rfl) rfl (lv_at hl 2 rfl) ?_
      refine lv_if_eq (tgt := 25) S.1 S.2.1 (dd_at ddX5_seaOf 8 rfl) (by decide) (fun hc_3 => ?_) (fun hc_3 => ?_)
      · have h := h.1 hc_3
        refine lv_aload_n S.1 S.2.1 (dd_at ddX5_seaOf 14 rfl) rfl (lv_at hl 0 rfl) ?_
        obtain ⟨b_4, hb_5, ho_6, h⟩ := h
        refine r_getR S hw 5 3 rfl inG5 (by decide) (List.mem_cons_of_mem _ wg136) (by decide) ha0 hb_5 (dd_at ddX5_seaOf 15 rfl) ?_
        refine lv_iload_n S.1 S.2.1 (dd_at ddX5_seaOf 16 rfl) rfl (lv_at hl 1 rfl) ?_
        obtain ⟨hx_7, h⟩ := h
        refine r_iald S hw ho_6 hx_7 (dd_at ddX5_seaOf 17 rfl) ?_
        exact e_I S hr hlocks hw h (dd_at ddX5_seaOf 18 rfl)
      · have h := h.2 hc_3
        refine lv_aload_n S.1 S.2.1 (dd_at ddX5_seaOf 9 rfl) rfl (lv_at hl 0 rfl) ?_
        obtain ⟨b_8, hb_9, ho_10, h⟩ := h
        refine r_getR S hw 5 4 rfl inG5 (by decide) (List.mem_cons_of_mem _ wg137) (by decide) ha0 hb_9 (dd_at ddX5_seaOf 10 rfl) ?_
        refine lv_iload_n S.1 S.2.1 (dd_at ddX5_seaOf 11 rfl) rfl (lv_at hl 1 rfl) ?_
        obtain ⟨hx_11, h⟩ := h
        refine r_iald S hw ho_10 hx_11 (dd_at ddX5_seaOf 12 rfl) ?_
        refine lv_goto (tgt := 31) S.1 S.2.1 (dd_at ddX5_seaOf 13 rfl) (by decide) ?_
        exact e_I S hr hlocks hw h (dd_at ddX5_seaOf 18 rfl)
    · have h := h.2 hc_2
      refine lv_iconst (v := -1) S.1 S.2.1 (dd_at ddX5_seaOf 5 rfl) (by decide) ?_
      exact e_I S hr hlocks hw h (dd_at ddX5_seaOf 6 rfl)

def w_X5_lineOf (E : En) (a0 : Nat) (p1 : Int32) (p2 : Int32) (d : Dy) (K : Int32 → Dy → Prop) : Prop := okO E a0 5 ∧ ((p1 < 0 → K (-1) d) ∧ (¬ p1 < 0 → ((p1 < 10 → ((p2 = 0 → ∃ b_4 : Nat, eR E a0 1 = some b_4 ∧ okA E b_4 13 ∧ vp_in p1 (eN E b_4) ∧ K (gA d b_4 (p1).toNatClampNeg) d) ∧ (¬ p2 = 0 → ∃ b_8 : Nat, eR E a0 2 = some b_8 ∧ okA E b_8 13 ∧ vp_in p1 (eN E b_8) ∧ K (gA d b_8 (p1).toNatClampNeg) d))) ∧ (¬ p1 < 10 → K (-1) d))))
abbrev rm_X5_lineOf : Room := { frames := 0, cells := 0, slots := 0, locals := 0 }
set_option maxRecDepth 100000 in
set_option maxHeartbeats 4000000 in
theorem m_X5_lineOf (l : Launch) (D : va_G) (cs : Nat → ClassId) (E : En) (d : Dy) (sz : Nat) (a0 : Nat) (p1 : Int32) (p2 : Int32) (K : Int32 → Dy → Prop) : CI l yX5_lineOf (.code yX5_lineOf cX5_lineOf 3 (some .int) :: wsL_law) rm_X5_lineOf D cs E d sz [.ref a0, .int p1, .int p2] (w_X5_lineOf E a0 p1 p2 d K) K := by
  refine e_of (cc := cX5_lineOf) (maxL := 3) (ret := (some .int)) (own := RX5) (by decide) rfl rfl (Nat.le_of_ble_eq_true rfl) ?_
  intro p e s m below meth c S hr hlocks hsz H locs hw h ls hl
  have hl : lv_has ls 3 [(0, .ref a0), (1, .int p1), (2, .int p2)] := hl
  unfold w_X5_lineOf at h
  obtain ⟨ha0, h⟩ := h
  refine lv_iload_n S.1 S.2.1 (dd_at ddX5_lineOf 0 rfl) rfl (lv_at hl 1 rfl) ?_
  refine lv_if_lt (tgt := 10) S.1 S.2.1 (dd_at ddX5_lineOf 1 rfl) (by decide) (fun hc_1 => ?_) (fun hc_1 => ?_)
  · have h := h.1 hc_1
    refine lv_iconst (v := -1) S.1 S.2.1 (dd_at ddX5_lineOf 5 rfl) (by decide) ?_
    exact e_I S hr hlocks hw h (dd_at ddX5_lineOf 6 rfl)
  · have h := h.2 hc_1
    refine lv_iload_n S.1 S.2.1 (dd_at ddX5_lineOf 2 rfl) rfl (lv_at hl 1 rfl) ?_
    refine lv_bipush (v := 10) S.1 S.2.1 (dd_at ddX5_lineOf 3 rfl) (by decide) ?_
    refine lv_icmp_lt (tgt := 12) S.1 S.2.1 (dd_at ddX5_lineOf 4 rfl) (by decide) (fun hc_2 => ?_) (fun hc_2 => ?_)
    · have h := h.1 hc_2
      refine lv_iload_n S.1 S.2.1 (dd_at ddX5_lineOf 7 rfl) rfl (lv_at hl 2 rfl) ?_
      refine lv_if_eq (tgt := 25) S.1 S.2.1 (dd_at ddX5_lineOf 8 rfl) (by decide) (fun hc_3 => ?_) (fun hc_3 => ?_)
      · have h := h.1 hc_3
        refine lv_aload_n S.1 S.2.1 (dd_at ddX5_lineOf 14 rfl) rfl (lv_at hl 0 rfl) ?_
        obtain ⟨b_4, hb_5, ho_6, h⟩ := h
        refine r_getR S hw 5 1 rfl inG5 (by decide) (List.mem_cons_of_mem _ wg134) (by decide) ha0 hb_5 (dd_at ddX5_lineOf 15 rfl) ?_
        refine lv_iload_n S.1 S.2.1 (dd_at ddX5_lineOf 16 rfl) rfl (lv_at hl 1 rfl) ?_
        obtain ⟨hx_7, h⟩ := h
        refine r_iald S hw ho_6 hx_7 (dd_at ddX5_lineOf 17 rfl) ?_
        exact e_I S hr hlocks hw h (dd_at ddX5_lineOf 18 rfl)
      · have h := h.2 hc_3
        refine lv_aload_n S.1 S.2.1 (dd_at ddX5_lineOf 9 rfl) rfl (lv_at hl 0 rfl) ?_
        obtain ⟨b_8, hb_9, ho_10, h⟩ := h
        refine r_getR S hw 5 2 rfl inG5 (by decide) (List.mem_cons_of_mem _ wg135) (by decide) ha0 hb_9 (dd_at ddX5_lineOf 10 rfl) ?_
        refine lv_iload_n S.1 S.2.1 (dd_at ddX5_lineOf 11 rfl) rfl (lv_at hl 1 rfl) ?_
        obtain ⟨hx_11, h⟩ := h
        refine r_iald S hw ho_10 hx_11 (dd_at ddX5_lineOf 12 rfl) ?_
        refine lv_goto (tgt := 31) S.1 S.2.1 (dd_at ddX5_lineOf 13 rfl) (by decide) ?_
        exact e_I S hr hlocks hw h (dd_at ddX5_lineOf 18 rfl)
    · have h := h.2 hc_2
      refine lv_iconst (v := -1) S.1 S.2.1 (dd_at ddX5_lineOf 5 rfl) (by decide) ?_
      exact e_I S hr hlocks hw h (dd_at ddX5_lineOf 6 rfl)

def w_X9_init (E : En) (a0 : Nat) (d : Dy) (K : En → Dy → Prop) : Prop := okO E a0 9 ∧ ∀ q_1 : Nat, q_1 ∉ eL E → ∀ q_4 : Nat, q_4 ∉ eL (sR (nE E q_1 13 ((7 : Int32)).toNatClampNeg) a0 0 (some q_1)) → ∀ q_7 : Nat, q_7 ∉ eL (sR (nE (sR (nE E q_1 13 ((7 : Int32)).toNatClampNeg) a0 0 (some q_1)) q_4 13 ((7 : Int32)).toNatClampNeg) a0 1 (some q_4)) → ∀ q_10 : Nat, q_10 ∉ eL (sR (nE (sR (nE (sR (nE E q_1 13 ((7 : Int32)).toNatClampNeg) a0 0 (some q_1)) q_4 13 ((7 : Int32)).toNatClampNeg) a0 1 (some q_4)) q_7 13 ((7 : Int32)).toNatClampNeg) a0 2 (some q_7)) → ∀ q_13 : Nat, q_13 ∉ eL (sR (nE (sR (nE (sR (nE (sR (nE E q_1 13 ((7 : Int32)).toNatClampNeg) a0 0 (some q_1)) q_4 13 ((7 : Int32)).toNatClampNeg) a0 1 (some q_4)) q_7 13 ((7 : Int32)).toNatClampNeg) a0 2 (some q_7)) q_10 13 ((7 : Int32)).toNatClampNeg) a0 3 (some q_10)) → ∀ q_16 : Nat, q_16 ∉ eL (sR (nE (sR (nE (sR (nE (sR (nE (sR (nE E q_1 13 ((7 : Int32)).toNatClampNeg) a0 0 (some q_1)) q_4 13 ((7 : Int32)).toNatClampNeg) a0 1 (some q_4)) q_7 13 ((7 : Int32)).toNatClampNeg) a0 2 (some q_7)) q_10 13 ((7 : Int32)).toNatClampNeg) a0 3 (some q_10)) q_13 13 ((7 : Int32)).toNatClampNeg) a0 4 (some q_13)) → K (sR (nE (sR (nE (sR (nE (sR (nE (sR (nE (sR (nE E q_1 13 ((7 : Int32)).toNatClampNeg) a0 0 (some q_1)) q_4 13 ((7 : Int32)).toNatClampNeg) a0 1 (some q_4)) q_7 13 ((7 : Int32)).toNatClampNeg) a0 2 (some q_7)) q_10 13 ((7 : Int32)).toNatClampNeg) a0 3 (some q_10)) q_13 13 ((7 : Int32)).toNatClampNeg) a0 4 (some q_13)) q_16 13 ((4 : Int32)).toNatClampNeg) a0 5 (some q_16)) (nD (nD (nD (nD (nD (nD d q_1) q_4) q_7) q_10) q_13) q_16)
abbrev rm_X9_init : Room := { frames := 1, cells := 6, slots := 39, locals := 24 }
set_option maxRecDepth 100000 in
set_option maxHeartbeats 4000000 in
theorem m_X9_init (l : Launch) (D : va_G) (cs : Nat → ClassId) (E : En) (d : Dy) (sz : Nat) (a0 : Nat) (K : En → Dy → Prop) : LV l yX9_init (.code yX9_init cX9_init 1 none :: wsL_law) rm_X9_init D cs E d sz [.ref a0] (w_X9_init E a0 d K) K := by
  refine e_ofN (cc := cX9_init) (maxL := 1) (ret := none) (own := RX9) (by decide) rfl rfl (Nat.le_of_ble_eq_true rfl) ?_
  intro p e s m below meth c S hr hlocks hinit hsz H locs hw h ls hl
  have hx : Ext E E := Ext_rf E
  have hinit : meth.name = "<init>" := hinit
  have hl : lv_has ls 1 [(0, .ref a0)] := hl
  unfold w_X9_init at h
  obtain ⟨ha0, h⟩ := h
  refine lv_aload_n S.1 S.2.1 (dd_at ddX9_init 0 rfl) rfl (lv_at hl 0 rfl) ?_
  refine W.objInit S.1 S.2.1 S.2.2.2.1 (S.2.2.2.2 _ (List.mem_cons_of_mem _ wg123)) (S.2.2.2.2 _ (List.mem_cons_of_mem _ wg11)) (S.2.2.2.2 _ (List.mem_cons_of_mem _ wg12)) rfl (by rw [S.2.2.1]; exact hl.1) rfl (dd_at ddX9_init 1 rfl) (Nat.le_of_ble_eq_true rfl) (Nat.le_of_ble_eq_true rfl) ?_
  refine W.eq (g2 := F0 m 4 ls []) rfl ?_
  refine lv_aload_n S.1 S.2.1 (dd_at ddX9_init 2 rfl) rfl (lv_at hl 0 rfl) ?_
  refine lv_bipush (v := 7) S.1 S.2.1 (dd_at ddX9_init 3 rfl) (by decide) ?_
  refine r_newI S hw (List.mem_cons_of_mem _ wg74) (n := 7) (by decide) (by decide) (Nat.le_of_ble_eq_true rfl) (by show _ ≤ _; exact Nat.le_of_ble_eq_true rfl) (dd_at ddX9_init 4 rfl) (fun q_1 H hq_2 hw => ?_)
  refine W.widen (k := 1) (n := 7) (Nat.le_of_ble_eq_true rfl) (Nat.le_of_ble_eq_true rfl) ?_
  have h := h q_1 hq_2
  have ha0 := Ext_O (Ext_nE 13 ((7 : Int32)).toNatClampNeg hq_2) ha0
  have hx := Ext_tr hx (Ext_nE 13 ((7 : Int32)).toNatClampNeg hq_2)
  have ho_3 := okA_new E q_1 ((7 : Int32)).toNatClampNeg (t := 13) (by decide)
  refine r_putRF S hw hinit 9 0 (ty := (.array .int)) rfl inG9 tyX9 tyX9_ok nmX9 (by decide) (List.mem_cons_of_mem _ wg124) (by decide) rfl rfl (by decide +kernel) rfl rfl ha0 (dd_at ddX9_init 5 rfl) (fun H locs hw => ?_)
  have ha0 := Ext_O (Ext_sR _ a0 0 (some q_1)) ha0
  have ho_3 := Ext_A (Ext_sR _ a0 0 (some q_1)) ho_3
  have hx := Ext_tr hx (Ext_sR _ a0 0 (some q_1))
  refine lv_aload_n S.1 S.2.1 (dd_at ddX9_init 6 rfl) rfl (lv_at hl 0 rfl) ?_
  refine lv_bipush (v := 7) S.1 S.2.1 (dd_at ddX9_init 7 rfl) (by decide) ?_
  refine r_newI S hw (List.mem_cons_of_mem _ wg74) (n := 7) (by decide) (by decide) (Nat.le_of_ble_eq_true rfl) (by show _ ≤ _; exact Nat.le_of_ble_eq_true rfl) (dd_at ddX9_init 8 rfl) (fun q_4 H hq_5 hw => ?_)
  refine W.widen (k := 2) (n := 14) (Nat.le_of_ble_eq_true rfl) (Nat.le_of_ble_eq_true rfl) ?_
  have h := h q_4 hq_5
  have ha0 := Ext_O (Ext_nE 13 ((7 : Int32)).toNatClampNeg hq_5) ha0
  have ho_3 := Ext_A (Ext_nE 13 ((7 : Int32)).toNatClampNeg hq_5) ho_3
  have hx := Ext_tr hx (Ext_nE 13 ((7 : Int32)).toNatClampNeg hq_5)
  have ho_6 := okA_new (sR (nE E q_1 13 ((7 : Int32)).toNatClampNeg) a0 0 (some q_1)) q_4 ((7 : Int32)).toNatClampNeg (t := 13) (by decide)
  refine r_putRF S hw hinit 9 1 (ty := (.array .int)) rfl inG9 tyX9 tyX9_ok nmX9 (by decide) (List.mem_cons_of_mem _ wg125) (by decide) rfl rfl (by decide +kernel) rfl rfl ha0 (dd_at ddX9_init 9 rfl) (fun H locs hw => ?_)
  have ha0 := Ext_O (Ext_sR _ a0 1 (some q_4)) ha0
  have ho_3 := Ext_A (Ext_sR _ a0 1 (some q_4)) ho_3
  have ho_6 := Ext_A (Ext_sR _ a0 1 (some q_4)) ho_6
  have hx := Ext_tr hx (Ext_sR _ a0 1 (some q_4))
  refine lv_aload_n S.1 S.2.1 (dd_at ddX9_init 10 rfl) rfl (lv_at hl 0 rfl) ?_
  refine lv_bipush (v := 7) S.1 S.2.1 (dd_at ddX9_init 11 rfl) (by decide) ?_
  refine r_newI S hw (List.mem_cons_of_mem _ wg74) (n := 7) (by decide) (by decide) (Nat.le_of_ble_eq_true rfl) (by show _ ≤ _; exact Nat.le_of_ble_eq_true rfl) (dd_at ddX9_init 12 rfl) (fun q_7 H hq_8 hw => ?_)
  refine W.widen (k := 3) (n := 21) (Nat.le_of_ble_eq_true rfl) (Nat.le_of_ble_eq_true rfl) ?_
  have h := h q_7 hq_8
  have ha0 := Ext_O (Ext_nE 13 ((7 : Int32)).toNatClampNeg hq_8) ha0
  have ho_3 := Ext_A (Ext_nE 13 ((7 : Int32)).toNatClampNeg hq_8) ho_3
  have ho_6 := Ext_A (Ext_nE 13 ((7 : Int32)).toNatClampNeg hq_8) ho_6
  have hx := Ext_tr hx (Ext_nE 13 ((7 : Int32)).toNatClampNeg hq_8)
  have ho_9 := okA_new (sR (nE (sR (nE E q_1 13 ((7 : Int32)).toNatClampNeg) a0 0 (some q_1)) q_4 13 ((7 : Int32)).toNatClampNeg) a0 1 (some q_4)) q_7 ((7 : Int32)).toNatClampNeg (t := 13) (by decide)
  refine r_putRF S hw hinit 9 2 (ty := (.array .int)) rfl inG9 tyX9 tyX9_ok nmX9 (by decide) (List.mem_cons_of_mem _ wg126) (by decide) rfl rfl (by decide +kernel) rfl rfl ha0 (dd_at ddX9_init 13 rfl) (fun H locs hw => ?_)
  have ha0 := Ext_O (Ext_sR _ a0 2 (some q_7)) ha0
  have ho_3 := Ext_A (Ext_sR _ a0 2 (some q_7)) ho_3
  have ho_6 := Ext_A (Ext_sR _ a0 2 (some q_7)) ho_6
  have ho_9 := Ext_A (Ext_sR _ a0 2 (some q_7)) ho_9
  have hx := Ext_tr hx (Ext_sR _ a0 2 (some q_7))
  refine lv_aload_n S.1 S.2.1 (dd_at ddX9_init 14 rfl) rfl (lv_at hl 0 rfl) ?_
  refine lv_bipush (v := 7) S.1 S.2.1 (dd_at ddX9_init 15 rfl) (by decide) ?_
  refine r_newI S hw (List.mem_cons_of_mem _ wg74) (n := 7) (by decide) (by decide) (Nat.le_of_ble_eq_true rfl) (by show _ ≤ _; exact Nat.le_of_ble_eq_true rfl) (dd_at ddX9_init 16 rfl) (fun q_10 H hq_11 hw => ?_)
  refine W.widen (k := 4) (n := 28) (Nat.le_of_ble_eq_true rfl) (Nat.le_of_ble_eq_true rfl) ?_
  have h := h q_10 hq_11
  have ha0 := Ext_O (Ext_nE 13 ((7 : Int32)).toNatClampNeg hq_11) ha0
  have ho_3 := Ext_A (Ext_nE 13 ((7 : Int32)).toNatClampNeg hq_11) ho_3
  have ho_6 := Ext_A (Ext_nE 13 ((7 : Int32)).toNatClampNeg hq_11) ho_6
  have ho_9 := Ext_A (Ext_nE 13 ((7 : Int32)).toNatClampNeg hq_11) ho_9
  have hx := Ext_tr hx (Ext_nE 13 ((7 : Int32)).toNatClampNeg hq_11)
  have ho_12 := okA_new (sR (nE (sR (nE (sR (nE E q_1 13 ((7 : Int32)).toNatClampNeg) a0 0 (some q_1)) q_4 13 ((7 : Int32)).toNatClampNeg) a0 1 (some q_4)) q_7 13 ((7 : Int32)).toNatClampNeg) a0 2 (some q_7)) q_10 ((7 : Int32)).toNatClampNeg (t := 13) (by decide)
  refine r_putRF S hw hinit 9 3 (ty := (.array .int)) rfl inG9 tyX9 tyX9_ok nmX9 (by decide) (List.mem_cons_of_mem _ wg127) (by decide) rfl rfl (by decide +kernel) rfl rfl ha0 (dd_at ddX9_init 17 rfl) (fun H locs hw => ?_)
  have ha0 := Ext_O (Ext_sR _ a0 3 (some q_10)) ha0
  have ho_3 := Ext_A (Ext_sR _ a0 3 (some q_10)) ho_3
  have ho_6 := Ext_A (Ext_sR _ a0 3 (some q_10)) ho_6
  have ho_9 := Ext_A (Ext_sR _ a0 3 (some q_10)) ho_9
  have ho_12 := Ext_A (Ext_sR _ a0 3 (some q_10)) ho_12
  have hx := Ext_tr hx (Ext_sR _ a0 3 (some q_10))
  refine lv_aload_n S.1 S.2.1 (dd_at ddX9_init 18 rfl) rfl (lv_at hl 0 rfl) ?_
  refine lv_bipush (v := 7) S.1 S.2.1 (dd_at ddX9_init 19 rfl) (by decide) ?_
  refine r_newI S hw (List.mem_cons_of_mem _ wg74) (n := 7) (by decide) (by decide) (Nat.le_of_ble_eq_true rfl) (by show _ ≤ _; exact Nat.le_of_ble_eq_true rfl) (dd_at ddX9_init 20 rfl) (fun q_13 H hq_14 hw => ?_)
  refine W.widen (k := 5) (n := 35) (Nat.le_of_ble_eq_true rfl) (Nat.le_of_ble_eq_true rfl) ?_
  have h := h q_13 hq_14
  have ha0 := Ext_O (Ext_nE 13 ((7 : Int32)).toNatClampNeg hq_14) ha0
  have ho_3 := Ext_A (Ext_nE 13 ((7 : Int32)).toNatClampNeg hq_14) ho_3
  have ho_6 := Ext_A (Ext_nE 13 ((7 : Int32)).toNatClampNeg hq_14) ho_6
  have ho_9 := Ext_A (Ext_nE 13 ((7 : Int32)).toNatClampNeg hq_14) ho_9
  have ho_12 := Ext_A (Ext_nE 13 ((7 : Int32)).toNatClampNeg hq_14) ho_12
  have hx := Ext_tr hx (Ext_nE 13 ((7 : Int32)).toNatClampNeg hq_14)
  have ho_15 := okA_new (sR (nE (sR (nE (sR (nE (sR (nE E q_1 13 ((7 : Int32)).toNatClampNeg) a0 0 (some q_1)) q_4 13 ((7 : Int32)).toNatClampNeg) a0 1 (some q_4)) q_7 13 ((7 : Int32)).toNatClampNeg) a0 2 (some q_7)) q_10 13 ((7 : Int32)).toNatClampNeg) a0 3 (some q_10)) q_13 ((7 : Int32)).toNatClampNeg (t := 13) (by decide)
  refine r_putRF S hw hinit 9 4 (ty := (.array .int)) rfl inG9 tyX9 tyX9_ok nmX9 (by decide) (List.mem_cons_of_mem _ wg128) (by decide) rfl rfl (by decide +kernel) rfl rfl ha0 (dd_at ddX9_init 21 rfl) (fun H locs hw => ?_)
  have ha0 := Ext_O (Ext_sR _ a0 4 (some q_13)) ha0
  have ho_3 := Ext_A (Ext_sR _ a0 4 (some q_13)) ho_3
  have ho_6 := Ext_A (Ext_sR _ a0 4 (some q_13)) ho_6
  have ho_9 := Ext_A (Ext_sR _ a0 4 (some q_13)) ho_9
  have ho_12 := Ext_A (Ext_sR _ a0 4 (some q_13)) ho_12
  have ho_15 := Ext_A (Ext_sR _ a0 4 (some q_13)) ho_15
  have hx := Ext_tr hx (Ext_sR _ a0 4 (some q_13))
  refine lv_aload_n S.1 S.2.1 (dd_at ddX9_init 22 rfl) rfl (lv_at hl 0 rfl) ?_
  refine lv_iconst (v := 4) S.1 S.2.1 (dd_at ddX9_init 23 rfl) (by decide) ?_
  refine r_newI S hw (List.mem_cons_of_mem _ wg74) (n := 4) (by decide) (by decide) (Nat.le_of_ble_eq_true rfl) (by show _ ≤ _; exact Nat.le_of_ble_eq_true rfl) (dd_at ddX9_init 24 rfl) (fun q_16 H hq_17 hw => ?_)
  refine W.widen (k := 6) (n := 39) (Nat.le_of_ble_eq_true rfl) (Nat.le_of_ble_eq_true rfl) ?_
  have h := h q_16 hq_17
  have ha0 := Ext_O (Ext_nE 13 ((4 : Int32)).toNatClampNeg hq_17) ha0
  have ho_3 := Ext_A (Ext_nE 13 ((4 : Int32)).toNatClampNeg hq_17) ho_3
  have ho_6 := Ext_A (Ext_nE 13 ((4 : Int32)).toNatClampNeg hq_17) ho_6
  have ho_9 := Ext_A (Ext_nE 13 ((4 : Int32)).toNatClampNeg hq_17) ho_9
  have ho_12 := Ext_A (Ext_nE 13 ((4 : Int32)).toNatClampNeg hq_17) ho_12
  have ho_15 := Ext_A (Ext_nE 13 ((4 : Int32)).toNatClampNeg hq_17) ho_15
  have hx := Ext_tr hx (Ext_nE 13 ((4 : Int32)).toNatClampNeg hq_17)
  have ho_18 := okA_new (sR (nE (sR (nE (sR (nE (sR (nE (sR (nE E q_1 13 ((7 : Int32)).toNatClampNeg) a0 0 (some q_1)) q_4 13 ((7 : Int32)).toNatClampNeg) a0 1 (some q_4)) q_7 13 ((7 : Int32)).toNatClampNeg) a0 2 (some q_7)) q_10 13 ((7 : Int32)).toNatClampNeg) a0 3 (some q_10)) q_13 13 ((7 : Int32)).toNatClampNeg) a0 4 (some q_13)) q_16 ((4 : Int32)).toNatClampNeg (t := 13) (by decide)
  refine r_putRF S hw hinit 9 5 (ty := (.array .int)) rfl inG9 tyX9 tyX9_ok nmX9 (by decide) (List.mem_cons_of_mem _ wg129) (by decide) rfl rfl (by decide +kernel) rfl rfl ha0 (dd_at ddX9_init 25 rfl) (fun H locs hw => ?_)
  have ha0 := Ext_O (Ext_sR _ a0 5 (some q_16)) ha0
  have ho_3 := Ext_A (Ext_sR _ a0 5 (some q_16)) ho_3
  have ho_6 := Ext_A (Ext_sR _ a0 5 (some q_16)) ho_6
  have ho_9 := Ext_A (Ext_sR _ a0 5 (some q_16)) ho_9
  have ho_12 := Ext_A (Ext_sR _ a0 5 (some q_16)) ho_12
  have ho_15 := Ext_A (Ext_sR _ a0 5 (some q_16)) ho_15
  have ho_18 := Ext_A (Ext_sR _ a0 5 (some q_16)) ho_18
  have hx := Ext_tr hx (Ext_sR _ a0 5 (some q_16))
  exact e_VL S hr hlocks hw hx h (dd_at ddX9_init 26 rfl)

def w_X9_clear (E : En) (a0 : Nat) (p1 : Int32) (d : Dy) (K : Dy → Prop) : Prop := okO E a0 9 ∧ ∃ b_1 : Nat, eR E a0 5 = some b_1 ∧ okA E b_1 13 ∧ w_J7_fill_53178 E b_1 2147483647 (pI (pI d a0 7 (if 4 < p1 then 4 else p1)) a0 6 0) (fun d_4 => K d_4)
abbrev rm_X9_clear : Room := { frames := 1, cells := 0, slots := 0, locals := 40 }
set_option maxRecDepth 100000 in
set_option maxHeartbeats 4000000 in
theorem m_X9_clear (l : Launch) (D : va_G) (cs : Nat → ClassId) (E : En) (d : Dy) (sz : Nat) (a0 : Nat) (p1 : Int32) (K : Dy → Prop) : CV l yX9_clear (.code yX9_clear cX9_clear 2 none :: wsL_law) rm_X9_clear D cs E d sz [.ref a0, .int p1] (w_X9_clear E a0 p1 d K) K := by
  refine e_of (cc := cX9_clear) (maxL := 2) (ret := none) (own := RX9) (by decide) rfl rfl (Nat.le_of_ble_eq_true rfl) ?_
  intro p e s m below meth c S hr hlocks hsz H locs hw h ls hl
  have hl : lv_has ls 2 [(0, .ref a0), (1, .int p1)] := hl
  unfold w_X9_clear at h
  obtain ⟨ha0, h⟩ := h
  refine lv_aload_n S.1 S.2.1 (dd_at ddX9_clear 0 rfl) rfl (lv_at hl 0 rfl) ?_
  refine lv_iload_n S.1 S.2.1 (dd_at ddX9_clear 1 rfl) rfl (lv_at hl 1 rfl) ?_
  refine lv_iconst (v := 4) S.1 S.2.1 (dd_at ddX9_clear 2 rfl) (by decide) ?_
  refine va_mmin S.1 S.2.1 (by rw [hl.1]; exact S.2.2.1) S.2.2.2.1 (S.2.2.2.2 _ (List.mem_cons_of_mem _ wg1154)) (S.2.2.2.2 _ (List.mem_cons_of_mem _ wg212)) (S.2.2.2.2 _ (List.mem_cons_of_mem _ wg70)) (S.2.2.2.2 _ (List.mem_cons_of_mem _ wg213)) (Nat.le_of_ble_eq_true rfl) (Nat.le_of_ble_eq_true rfl) (Nat.le_of_ble_eq_true rfl) (Nat.le_of_ble_eq_true rfl) (dd_at ddX9_clear 3 rfl) ?_
  refine r_putI S hw 9 7 (ty := .int) (v := if 4 < p1 then 4 else p1) rfl inG9 tyX9 tyX9_ok nmX9 (by decide) (List.mem_cons_of_mem _ wg1155) (by decide) rfl (by decide +kernel) rfl rfl ha0 (dd_at ddX9_clear 4 rfl) (fun H locs hw => ?_)
  refine lv_aload_n S.1 S.2.1 (dd_at ddX9_clear 5 rfl) rfl (lv_at hl 0 rfl) ?_
  refine lv_iconst (v := 0) S.1 S.2.1 (dd_at ddX9_clear 6 rfl) (by decide) ?_
  refine r_putI S hw 9 6 (ty := .int) (v := 0) rfl inG9 tyX9 tyX9_ok nmX9 (by decide) (List.mem_cons_of_mem _ wg1156) (by decide) rfl (by decide +kernel) rfl rfl ha0 (dd_at ddX9_clear 7 rfl) (fun H locs hw => ?_)
  refine lv_aload_n S.1 S.2.1 (dd_at ddX9_clear 8 rfl) rfl (lv_at hl 0 rfl) ?_
  obtain ⟨b_1, hb_2, ho_3, h⟩ := h
  refine r_getR S hw 9 5 rfl inG9 (by decide) (List.mem_cons_of_mem _ wg129) (by decide) ha0 hb_2 (dd_at ddX9_clear 9 rfl) ?_
  refine lv_ldc (v := 2147483647) S.1 S.2.1 S.2.2.2.1 (S.2.2.2.2 _ (List.mem_cons_of_mem _ wg1157)) (dd_at ddX9_clear 10 rfl) ?_
  refine r_callV hw (r_runS (As := [.ref b_1, .int 2147483647]) (rest := []) S hw (m_J7_fill_53178 l D cs E (pI (pI d a0 7 (if 4 < p1 then 4 else p1)) a0 6 0) H.size b_1 2147483647 _) (va_cwS 2 S.2.2.2.2 (gS wg1158 wg82 wg83 wg84) rfl rfl rfl (by decide +kernel) ⟨Nat.le_of_ble_eq_true rfl, Nat.le_of_ble_eq_true rfl⟩) h rfl hl.1 rfl (Nat.le_of_ble_eq_true rfl) (dd_at ddX9_clear 11 rfl) ⟨Nat.le_of_ble_eq_true rfl, Nat.le_of_ble_eq_true rfl⟩) (fun d_4 H locs h hw => ?_)
  exact e_V S hr hlocks hw h (dd_at ddX9_clear 12 rfl)

def w_X9_bring (E : En) (a0 : Nat) (p1 : Int32) (p2 : Int32) (p3 : Int32) (d : Dy) (K : Dy → Prop) : Prop := okO E a0 9 ∧ ((7 ≤ (gI d a0 6) → K d) ∧ (¬ 7 ≤ (gI d a0 6) → ∃ b_2 : Nat, eR E a0 0 = some b_2 ∧ okA E b_2 13 ∧ vp_in (gI d a0 6) (eN E b_2) ∧ ∃ b_6 : Nat, eR E a0 1 = some b_6 ∧ okA E b_6 13 ∧ vp_in (gI (pA d b_2 (gI d a0 6).toNatClampNeg p1) a0 6) (eN E b_6) ∧ ∃ b_10 : Nat, eR E a0 2 = some b_10 ∧ okA E b_10 13 ∧ vp_in (gI (pA (pA d b_2 (gI d a0 6).toNatClampNeg p1) b_6 (gI (pA d b_2 (gI d a0 6).toNatClampNeg p1) a0 6).toNatClampNeg p2) a0 6) (eN E b_10) ∧ K (pI (pA (pA (pA d b_2 (gI d a0 6).toNatClampNeg p1) b_6 (gI (pA d b_2 (gI d a0 6).toNatClampNeg p1) a0 6).toNatClampNeg p2) b_10 (gI (pA (pA d b_2 (gI d a0 6).toNatClampNeg p1) b_6 (gI (pA d b_2 (gI d a0 6).toNatClampNeg p1) a0 6).toNatClampNeg p2) a0 6).toNatClampNeg p3) a0 6 ((gI (pA (pA (pA d b_2 (gI d a0 6).toNatClampNeg p1) b_6 (gI (pA d b_2 (gI d a0 6).toNatClampNeg p1) a0 6).toNatClampNeg p2) b_10 (gI (pA (pA d b_2 (gI d a0 6).toNatClampNeg p1) b_6 (gI (pA d b_2 (gI d a0 6).toNatClampNeg p1) a0 6).toNatClampNeg p2) a0 6).toNatClampNeg p3) a0 6) + 1))))
abbrev rm_X9_bring : Room := { frames := 0, cells := 0, slots := 0, locals := 0 }
set_option maxRecDepth 100000 in
set_option maxHeartbeats 4000000 in
theorem m_X9_bring (l : Launch) (D : va_G) (cs : Nat → ClassId) (E : En) (d : Dy) (sz : Nat) (a0 : Nat) (p1 : Int32) (p2 : Int32) (p3 : Int32) (K : Dy → Prop) : CV l yX9_bring (.code yX9_bring cX9_bring 4 none :: wsL_law) rm_X9_bring D cs E d sz [.ref a0, .int p1, .int p2, .int p3] (w_X9_bring E a0 p1 p2 p3 d K) K := by
  refine e_of (cc := cX9_bring) (maxL := 4) (ret := none) (own := RX9) (by decide) rfl rfl (Nat.le_of_ble_eq_true rfl) ?_
  intro p e s m below meth c S hr hlocks hsz H locs hw h ls hl
  have hl : lv_has ls 4 [(0, .ref a0), (1, .int p1), (2, .int p2), (3, .int p3)] := hl
  unfold w_X9_bring at h
  obtain ⟨ha0, h⟩ := h
  refine lv_aload_n S.1 S.2.1 (dd_at ddX9_bring 0 rfl) rfl (lv_at hl 0 rfl) ?_
  refine r_getI S hw 9 6 rfl inG9 (by decide) (List.mem_cons_of_mem _ wg1156) (by decide) ha0 (dd_at ddX9_bring 1 rfl) ?_
  refine lv_bipush (v := 7) S.1 S.2.1 (dd_at ddX9_bring 2 rfl) (by decide) ?_
  refine lv_icmp_ge (tgt := 49) S.1 S.2.1 (dd_at ddX9_bring 3 rfl) (by decide) (fun hc_1 => ?_) (fun hc_1 => ?_)
  · have h := h.1 hc_1
    exact e_V S hr hlocks hw h (dd_at ddX9_bring 28 rfl)
  · have h := h.2 hc_1
    refine lv_aload_n S.1 S.2.1 (dd_at ddX9_bring 4 rfl) rfl (lv_at hl 0 rfl) ?_
    obtain ⟨b_2, hb_3, ho_4, h⟩ := h
    refine r_getR S hw 9 0 rfl inG9 (by decide) (List.mem_cons_of_mem _ wg124) (by decide) ha0 hb_3 (dd_at ddX9_bring 5 rfl) ?_
    refine lv_aload_n S.1 S.2.1 (dd_at ddX9_bring 6 rfl) rfl (lv_at hl 0 rfl) ?_
    refine r_getI S hw 9 6 rfl inG9 (by decide) (List.mem_cons_of_mem _ wg1156) (by decide) ha0 (dd_at ddX9_bring 7 rfl) ?_
    refine lv_iload_n S.1 S.2.1 (dd_at ddX9_bring 8 rfl) rfl (lv_at hl 1 rfl) ?_
    obtain ⟨hx_5, h⟩ := h
    refine r_iast S hw ho_4 hx_5 (dd_at ddX9_bring 9 rfl) (fun H locs hw => ?_)
    refine lv_aload_n S.1 S.2.1 (dd_at ddX9_bring 10 rfl) rfl (lv_at hl 0 rfl) ?_
    obtain ⟨b_6, hb_7, ho_8, h⟩ := h
    refine r_getR S hw 9 1 rfl inG9 (by decide) (List.mem_cons_of_mem _ wg125) (by decide) ha0 hb_7 (dd_at ddX9_bring 11 rfl) ?_
    refine lv_aload_n S.1 S.2.1 (dd_at ddX9_bring 12 rfl) rfl (lv_at hl 0 rfl) ?_
    refine r_getI S hw 9 6 rfl inG9 (by decide) (List.mem_cons_of_mem _ wg1156) (by decide) ha0 (dd_at ddX9_bring 13 rfl) ?_
    refine lv_iload_n S.1 S.2.1 (dd_at ddX9_bring 14 rfl) rfl (lv_at hl 2 rfl) ?_
    obtain ⟨hx_9, h⟩ := h
    refine r_iast S hw ho_8 hx_9 (dd_at ddX9_bring 15 rfl) (fun H locs hw => ?_)
    refine lv_aload_n S.1 S.2.1 (dd_at ddX9_bring 16 rfl) rfl (lv_at hl 0 rfl) ?_
    obtain ⟨b_10, hb_11, ho_12, h⟩ := h
    refine r_getR S hw 9 2 rfl inG9 (by decide) (List.mem_cons_of_mem _ wg126) (by decide) ha0 hb_11 (dd_at ddX9_bring 17 rfl) ?_
    refine lv_aload_n S.1 S.2.1 (dd_at ddX9_bring 18 rfl) rfl (lv_at hl 0 rfl) ?_
    refine r_getI S hw 9 6 rfl inG9 (by decide) (List.mem_cons_of_mem _ wg1156) (by decide) ha0 (dd_at ddX9_bring 19 rfl) ?_
    refine lv_iload_n S.1 S.2.1 (dd_at ddX9_bring 20 rfl) rfl (lv_at hl 3 rfl) ?_
    obtain ⟨hx_13, h⟩ := h
    refine r_iast S hw ho_12 hx_13 (dd_at ddX9_bring 21 rfl) (fun H locs hw => ?_)
    refine lv_aload_n S.1 S.2.1 (dd_at ddX9_bring 22 rfl) rfl (lv_at hl 0 rfl) ?_
    refine lv_dup S.1 S.2.1 (dd_at ddX9_bring 23 rfl) rfl ?_
    refine r_getI S hw 9 6 rfl inG9 (by decide) (List.mem_cons_of_mem _ wg1156) (by decide) ha0 (dd_at ddX9_bring 24 rfl) ?_
    refine lv_iconst (v := 1) S.1 S.2.1 (dd_at ddX9_bring 25 rfl) (by decide) ?_
    refine lv_iadd S.1 S.2.1 (dd_at ddX9_bring 26 rfl) ?_
    refine r_putI S hw 9 6 (ty := .int) (v := (gI (pA (pA (pA d b_2 (gI d a0 6).toNatClampNeg p1) b_6 (gI (pA d b_2 (gI d a0 6).toNatClampNeg p1) a0 6).toNatClampNeg p2) b_10 (gI (pA (pA d b_2 (gI d a0 6).toNatClampNeg p1) b_6 (gI (pA d b_2 (gI d a0 6).toNatClampNeg p1) a0 6).toNatClampNeg p2) a0 6).toNatClampNeg p3) a0 6) + 1) rfl inG9 tyX9 tyX9_ok nmX9 (by decide) (List.mem_cons_of_mem _ wg1156) (by decide) rfl (by decide +kernel) rfl rfl ha0 (dd_at ddX9_bring 27 rfl) (fun H locs hw => ?_)
    exact e_V S hr hlocks hw h (dd_at ddX9_bring 28 rfl)

def b_X9_pile_98 (E : En) (a0 : Nat) (p1 : Int32) (p2 : Int32) (p3 : Int32) (K : Dy → Prop) (kr_X9_pile : Nat → Int32 → Int32 → Int32 → Dy → (Dy → Prop) → Prop) (k61 : Int32 → Int32 → Dy → Prop) (v4 : Int32) (v5 : Int32) (v6 : Int32) (s0 : Int32) (d : Dy) : Prop := ∃ b_1 : Nat, eR E a0 3 = some b_1 ∧ okA E b_1 13 ∧ vp_in p1 (eN E b_1) ∧ ∃ b_5 : Nat, eR E a0 5 = some b_5 ∧ okA E b_5 13 ∧ ∃ b_8 : Nat, eR E a0 2 = some b_8 ∧ okA E b_8 13 ∧ vp_in p1 (eN E b_8) ∧ vp_in v5 (eN E b_5) ∧ kr_X9_pile a0 (p1 + 1) (if p2 < (v5 + 1) then (v5 + 1) else p2) (p3 + s0) (pA (pA d b_1 (p1).toNatClampNeg v5) b_5 (v5).toNatClampNeg (if (gA (pA d b_1 (p1).toNatClampNeg v5) b_8 (p1).toNatClampNeg) < v6 then (gA (pA d b_1 (p1).toNatClampNeg v5) b_8 (p1).toNatClampNeg) else v6)) (fun d_13 => ∃ b_15 : Nat, eR E a0 5 = some b_15 ∧ okA E b_15 13 ∧ vp_in v5 (eN E b_15) ∧ k61 v4 (v5 + 1) (pA d_13 b_15 (v5).toNatClampNeg v6))
def b_X9_pile_61 (E : En) (a0 : Nat) (p1 : Int32) (p2 : Int32) (p3 : Int32) (K : Dy → Prop) (kr_X9_pile : Nat → Int32 → Int32 → Int32 → Dy → (Dy → Prop) → Prop) (k61 : Int32 → Int32 → Dy → Prop) (v4 : Int32) (v5 : Int32) (d : Dy) : Prop := ((v4 ≤ v5 → K d) ∧ (¬ v4 ≤ v5 → ∃ b_20 : Nat, eR E a0 5 = some b_20 ∧ okA E b_20 13 ∧ vp_in v5 (eN E b_20) ∧ ∃ b_24 : Nat, eR E a0 2 = some b_24 ∧ okA E b_24 13 ∧ vp_in p1 (eN E b_24) ∧ (((gA d b_24 (p1).toNatClampNeg) ≤ (gA d b_20 (v5).toNatClampNeg) → b_X9_pile_98 E a0 p1 p2 p3 K kr_X9_pile k61 v4 v5 (gA d b_20 (v5).toNatClampNeg) 0 d) ∧ (¬ (gA d b_24 (p1).toNatClampNeg) ≤ (gA d b_20 (v5).toNatClampNeg) → ∃ b_29 : Nat, eR E a0 1 = some b_29 ∧ okA E b_29 13 ∧ vp_in p1 (eN E b_29) ∧ b_X9_pile_98 E a0 p1 p2 p3 K kr_X9_pile k61 v4 v5 (gA d b_20 (v5).toNatClampNeg) (gA d b_29 (p1).toNatClampNeg) d))))
def l_X9_pile_61 (E : En) (a0 : Nat) (p1 : Int32) (p2 : Int32) (p3 : Int32) (K : Dy → Prop) (kr_X9_pile : Nat → Int32 → Int32 → Int32 → Dy → (Dy → Prop) → Prop) : Nat → Int32 → Int32 → Dy → Prop
  | 0 => fun _ _ _ => False
  | n + 1 => b_X9_pile_61 E a0 p1 p2 p3 K kr_X9_pile (l_X9_pile_61 E a0 p1 p2 p3 K kr_X9_pile n)
def wb_X9_pile (E : En) (a0 : Nat) (p1 : Int32) (p2 : Int32) (p3 : Int32) (d : Dy) (K : Dy → Prop) (kr_X9_pile : Nat → Int32 → Int32 → Int32 → Dy → (Dy → Prop) → Prop) : Prop := okO E a0 9 ∧ (((gI d a0 8) ≤ p3 → K d) ∧ (¬ (gI d a0 8) ≤ p3 → ((p1 ≤ 7 → ((p1 < (gI d a0 6) → (∃ n_36 : Nat, l_X9_pile_61 E a0 p1 p2 p3 K kr_X9_pile n_36 (if (gI d a0 7) < (p2 + 1) then (gI d a0 7) else (p2 + 1)) 0 d)) ∧ (¬ p1 < (gI d a0 6) → ∃ b_37 : Nat, eR E a0 3 = some b_37 ∧ okA E b_37 13 ∧ ∃ b_40 : Nat, eR E a0 4 = some b_40 ∧ okA E b_40 13 ∧ ¬ (0 : Int32) < 0 ∧ ¬ (0 : Int32) < 0 ∧ ¬ (gI (pI d a0 8 p3) a0 6) < 0 ∧ ((0 : Int32)).toNatClampNeg + (gI (pI d a0 8 p3) a0 6).toNatClampNeg ≤ eN E b_37 ∧ ((0 : Int32)).toNatClampNeg + (gI (pI d a0 8 p3) a0 6).toNatClampNeg ≤ eN E b_40 ∧ K (sA (pI d a0 8 p3) b_40 (va_cpy (gA (pI d a0 8 p3) b_37) (gA (pI d a0 8 p3) b_40) ((0 : Int32)).toNatClampNeg ((0 : Int32)).toNatClampNeg (gI (pI d a0 8 p3) a0 6).toNatClampNeg))))) ∧ (¬ p1 ≤ 7 → K d))))
def wr_X9_pile (E : En) : Nat → (Nat → Int32 → Int32 → Int32 → Dy → (Dy → Prop) → Prop)
  | 0 => ((fun _ _ _ _ _ _ => False))
  | n + 1 => ((fun a0 p1 p2 p3 d K => wb_X9_pile E a0 p1 p2 p3 d K (wr_X9_pile E n)))
abbrev rg_X9_pile (n : Nat) : Room := { frames := n + 2, cells := 0, slots := 0, locals := n * 27 + 130 }
def w_X9_pile (E : En) (a0 : Nat) (p1 : Int32) (p2 : Int32) (p3 : Int32) (d : Dy) (K : Dy → Prop) : Prop := (wr_X9_pile E 60) a0 p1 p2 p3 d K
abbrev rm_X9_pile : Room := rg_X9_pile 60
set_option maxRecDepth 100000 in
set_option maxHeartbeats 4000000 in
theorem mg_X9_pile (l : Launch) : ∀ nn : Nat, (∀ (D : va_G) (cs : Nat → ClassId) (E : En) (d : Dy) (sz : Nat) (a0 : Nat) (p1 : Int32) (p2 : Int32) (p3 : Int32) (K : Dy → Prop), CV l yX9_pile (.code yX9_pile cX9_pile 8 none :: wsL_law) (rg_X9_pile (nn)) D cs E d sz [.ref a0, .int p1, .int p2, .int p3] ((wr_X9_pile E (nn)) a0 p1 p2 p3 d K) K) := by
  intro nn
  induction nn with
  | zero => exact (fun D cs E d sz a0 p1 p2 p3 K => e_false (by decide) rfl)
  | succ nn ih =>
    intro D cs E d sz a0 p1 p2 p3 K
    refine e_of (cc := cX9_pile) (maxL := 8) (ret := none) (own := RX9) (by decide) rfl rfl (Nat.le_of_ble_eq_true rfl) ?_
    intro p e s m below meth c S hr hlocks hsz H locs hw h ls hl
    have hl : lv_has ls 8 [(0, .ref a0), (1, .int p1), (2, .int p2), (3, .int p3)] := hl
    have h : wb_X9_pile E a0 p1 p2 p3 d K (wr_X9_pile E nn) := h
    unfold wb_X9_pile at h
    obtain ⟨ha0, h⟩ := h
    have tl61 : ∀ (n : Nat) (v4 : Int32) (v5 : Int32) (d : Dy) (H : Heap) (locs : List Loc) (ls : Array Slot), l_X9_pile_61 E a0 p1 p2 p3 K (wr_X9_pile E nn) n v4 v5 d → Wd D cs (AW E sz) s.heap s E d H locs → lv_has ls 8 [(0, .ref a0), (1, .int p1), (2, .int p2), (3, .int p3), (4, .int v4), (5, .int v5)] → W p l e (rg_X9_pile (nn + 1)) s m ([.ref a0, .int p1, .int p2, .int p3] : List Value).toArray below meth c H locs 0 0 (MQ below (va_Qv K (OutW D cs E (AW E sz)) (AW E sz)) ([.ref a0, .int p1, .int p2, .int p3] : List Value).toArray s (rg_X9_pile (nn + 1)).cells (rg_X9_pile (nn + 1)).slots (AW E sz)) (F0 m 61 ls []) := by
      intro n61
      induction n61 with
      | zero => intro v4 v5 d H locs ls h; exact absurd h id
      | succ n61 ih61 =>
        have tb98 : ∀ (v4 : Int32) (v5 : Int32) (v6 : Int32) (s0 : Int32) (d : Dy) (H : Heap) (locs : List Loc) (ls : Array Slot), b_X9_pile_98 E a0 p1 p2 p3 K (wr_X9_pile E nn) (l_X9_pile_61 E a0 p1 p2 p3 K (wr_X9_pile E nn) n61) v4 v5 v6 s0 d → Wd D cs (AW E sz) s.heap s E d H locs → lv_has ls 8 [(0, .ref a0), (1, .int p1), (2, .int p2), (3, .int p3), (4, .int v4), (5, .int v5), (6, .int v6)] → W p l e (rg_X9_pile (nn + 1)) s m ([.ref a0, .int p1, .int p2, .int p3] : List Value).toArray below meth c H locs 0 0 (MQ below (va_Qv K (OutW D cs E (AW E sz)) (AW E sz)) ([.ref a0, .int p1, .int p2, .int p3] : List Value).toArray s (rg_X9_pile (nn + 1)).cells (rg_X9_pile (nn + 1)).slots (AW E sz)) (F0 m 98 ls [.int s0]) := by
          intro v4 v5 v6 s0 d H locs ls h hw hl
          unfold b_X9_pile_98 at h
          refine lv_istore (lv' := [(7, .int s0), (0, .ref a0), (1, .int p1), (2, .int p2), (3, .int p3), (4, .int v4), (5, .int v5), (6, .int v6)]) S.1 S.2.1 (dd_at ddX9_pile 54 rfl) hl (by decide) rfl (fun ls hl => ?_)
          refine lv_aload_n S.1 S.2.1 (dd_at ddX9_pile 55 rfl) rfl (lv_at hl 1 rfl) ?_
          obtain ⟨b_1, hb_2, ho_3, h⟩ := h
          refine r_getR S hw 9 3 rfl inG9 (by decide) (List.mem_cons_of_mem _ wg127) (by decide) ha0 hb_2 (dd_at ddX9_pile 56 rfl) ?_
          refine lv_iload_n S.1 S.2.1 (dd_at ddX9_pile 57 rfl) rfl (lv_at hl 2 rfl) ?_
          refine lv_iload S.1 S.2.1 (dd_at ddX9_pile 58 rfl) (lv_at hl 6 rfl) ?_
          obtain ⟨hx_4, h⟩ := h
          refine r_iast S hw ho_3 hx_4 (dd_at ddX9_pile 59 rfl) (fun H locs hw => ?_)
          refine lv_aload_n S.1 S.2.1 (dd_at ddX9_pile 60 rfl) rfl (lv_at hl 1 rfl) ?_
          obtain ⟨b_5, hb_6, ho_7, h⟩ := h
          refine r_getR S hw 9 5 rfl inG9 (by decide) (List.mem_cons_of_mem _ wg129) (by decide) ha0 hb_6 (dd_at ddX9_pile 61 rfl) ?_
          refine lv_iload S.1 S.2.1 (dd_at ddX9_pile 62 rfl) (lv_at hl 6 rfl) ?_
          refine lv_iload S.1 S.2.1 (dd_at ddX9_pile 63 rfl) (lv_at hl 7 rfl) ?_
          refine lv_aload_n S.1 S.2.1 (dd_at ddX9_pile 64 rfl) rfl (lv_at hl 1 rfl) ?_
          obtain ⟨b_8, hb_9, ho_10, h⟩ := h
          refine r_getR S hw 9 2 rfl inG9 (by decide) (List.mem_cons_of_mem _ wg126) (by decide) ha0 hb_9 (dd_at ddX9_pile 65 rfl) ?_
          refine lv_iload_n S.1 S.2.1 (dd_at ddX9_pile 66 rfl) rfl (lv_at hl 2 rfl) ?_
          obtain ⟨hx_11, h⟩ := h
          refine r_iald S hw ho_10 hx_11 (dd_at ddX9_pile 67 rfl) ?_
          refine va_mmin S.1 S.2.1 (by rw [hl.1]; exact S.2.2.1) S.2.2.2.1 (S.2.2.2.2 _ (List.mem_cons_of_mem _ wg1154)) (S.2.2.2.2 _ (List.mem_cons_of_mem _ wg212)) (S.2.2.2.2 _ (List.mem_cons_of_mem _ wg70)) (S.2.2.2.2 _ (List.mem_cons_of_mem _ wg213)) (rl (m := nn + 1) (F := 2) rfl) (rl (m := (nn + 1) * 27) (F := 130) rfl) (Nat.le_of_ble_eq_true rfl) (Nat.le_of_ble_eq_true rfl) (dd_at ddX9_pile 68 rfl) ?_
          obtain ⟨hx_12, h⟩ := h
          refine r_iast S hw ho_7 hx_12 (dd_at ddX9_pile 69 rfl) (fun H locs hw => ?_)
          refine lv_aload_n S.1 S.2.1 (dd_at ddX9_pile 70 rfl) rfl (lv_at hl 1 rfl) ?_
          refine lv_iload_n S.1 S.2.1 (dd_at ddX9_pile 71 rfl) rfl (lv_at hl 2 rfl) ?_
          refine lv_iconst (v := 1) S.1 S.2.1 (dd_at ddX9_pile 72 rfl) (by decide) ?_
          refine lv_iadd S.1 S.2.1 (dd_at ddX9_pile 73 rfl) ?_
          refine lv_iload_n S.1 S.2.1 (dd_at ddX9_pile 74 rfl) rfl (lv_at hl 3 rfl) ?_
          refine lv_iload S.1 S.2.1 (dd_at ddX9_pile 75 rfl) (lv_at hl 6 rfl) ?_
          refine lv_iconst (v := 1) S.1 S.2.1 (dd_at ddX9_pile 76 rfl) (by decide) ?_
          refine lv_iadd S.1 S.2.1 (dd_at ddX9_pile 77 rfl) ?_
          refine va_mmax S.1 S.2.1 (by rw [hl.1]; exact S.2.2.1) S.2.2.2.1 (S.2.2.2.2 _ (List.mem_cons_of_mem _ wg1177)) (S.2.2.2.2 _ (List.mem_cons_of_mem _ wg69)) (S.2.2.2.2 _ (List.mem_cons_of_mem _ wg70)) (S.2.2.2.2 _ (List.mem_cons_of_mem _ wg71)) (rl (m := nn + 1) (F := 2) rfl) (rl (m := (nn + 1) * 27) (F := 130) rfl) (Nat.le_of_ble_eq_true rfl) (Nat.le_of_ble_eq_true rfl) (dd_at ddX9_pile 78 rfl) ?_
          refine lv_iload_n S.1 S.2.1 (dd_at ddX9_pile 79 rfl) rfl (lv_at hl 4 rfl) ?_
          refine lv_iload S.1 S.2.1 (dd_at ddX9_pile 80 rfl) (lv_at hl 0 rfl) ?_
          refine lv_iadd S.1 S.2.1 (dd_at ddX9_pile 81 rfl) ?_
          refine r_callV hw (r_runV (As := [.int (p1 + 1), .int (if p2 < (v5 + 1) then (v5 + 1) else p2), .int (p3 + s0)]) (rest := []) S hw (ih D cs E (pA (pA d b_1 (p1).toNatClampNeg v5) b_5 (v5).toNatClampNeg (if (gA (pA d b_1 (p1).toNatClampNeg v5) b_8 (p1).toNatClampNeg) < v6 then (gA (pA d b_1 (p1).toNatClampNeg v5) b_8 (p1).toNatClampNeg) else v6)) H.size a0 (p1 + 1) (if p2 < (v5 + 1) then (v5 + 1) else p2) (p3 + s0) _) (cwV 3 S.2.2.2.2 (gV wg1172 wg1173 wg1174 wg34 wg1175) rfl rfl rfl (by decide +kernel) ⟨by show nn + 2 + 1 ≤ nn + 1 + 2; omega, by show 8 + (8 + 11) + (nn * 27 + 130) ≤ (nn + 1) * 27 + 130; omega⟩) (ci := 9) rfl ha0 h rfl hl.1 rfl (Nat.le_of_ble_eq_true rfl) (dd_at ddX9_pile 82 rfl) ⟨Nat.le_of_ble_eq_true rfl, Nat.le_of_ble_eq_true rfl⟩) (fun d_13 H locs h hw => ?_)
          refine lv_aload_n S.1 S.2.1 (dd_at ddX9_pile 83 rfl) rfl (lv_at hl 1 rfl) ?_
          obtain ⟨b_15, hb_16, ho_17, h⟩ := h
          refine r_getR S hw 9 5 rfl inG9 (by decide) (List.mem_cons_of_mem _ wg129) (by decide) ha0 hb_16 (dd_at ddX9_pile 84 rfl) ?_
          refine lv_iload S.1 S.2.1 (dd_at ddX9_pile 85 rfl) (lv_at hl 6 rfl) ?_
          refine lv_iload S.1 S.2.1 (dd_at ddX9_pile 86 rfl) (lv_at hl 7 rfl) ?_
          obtain ⟨hx_18, h⟩ := h
          refine r_iast S hw ho_17 hx_18 (dd_at ddX9_pile 87 rfl) (fun H locs hw => ?_)
          refine lv_iinc (v := v5 + 1) (lv' := [(5, .int (v5 + 1)), (7, .int s0), (0, .ref a0), (1, .int p1), (2, .int p2), (3, .int p3), (4, .int v4), (6, .int v6)]) S.1 S.2.1 (dd_at ddX9_pile 88 rfl) hl (k := 6) rfl rfl (by decide) rfl (fun ls hl => ?_)
          refine lv_goto (tgt := 61) S.1 S.2.1 (dd_at ddX9_pile 89 rfl) (by decide) ?_
          exact ih61 v4 (v5 + 1) (pA d_13 b_15 (v5).toNatClampNeg v6) H locs ls h hw (lv_sub hl [2, 3, 4, 5, 6, 0] rfl)
        intro v4 v5 d H locs ls h hw hl
        have h : b_X9_pile_61 E a0 p1 p2 p3 K (wr_X9_pile E nn) (l_X9_pile_61 E a0 p1 p2 p3 K (wr_X9_pile E nn) n61) v4 v5 d := h
        unfold b_X9_pile_61 at h
        refine lv_iload S.1 S.2.1 (dd_at ddX9_pile 34 rfl) (lv_at hl 5 rfl) ?_
        refine lv_iload S.1 S.2.1 (dd_at ddX9_pile 35 rfl) (lv_at hl 4 rfl) ?_
        refine lv_icmp_ge (tgt := 160) S.1 S.2.1 (dd_at ddX9_pile 36 rfl) (by decide) (fun hc_19 => ?_) (fun hc_19 => ?_)
        · have h := h.1 hc_19
          exact e_V S hr hlocks hw h (dd_at ddX9_pile 90 rfl)
        · have h := h.2 hc_19
          refine lv_aload_n S.1 S.2.1 (dd_at ddX9_pile 37 rfl) rfl (lv_at hl 0 rfl) ?_
          obtain ⟨b_20, hb_21, ho_22, h⟩ := h
          refine r_getR S hw 9 5 rfl inG9 (by decide) (List.mem_cons_of_mem _ wg129) (by decide) ha0 hb_21 (dd_at ddX9_pile 38 rfl) ?_
          refine lv_iload S.1 S.2.1 (dd_at ddX9_pile 39 rfl) (lv_at hl 5 rfl) ?_
          obtain ⟨hx_23, h⟩ := h
          refine r_iald S hw ho_22 hx_23 (dd_at ddX9_pile 40 rfl) ?_
          refine lv_istore (lv' := [(6, .int (gA d b_20 (v5).toNatClampNeg)), (0, .ref a0), (1, .int p1), (2, .int p2), (3, .int p3), (4, .int v4), (5, .int v5)]) S.1 S.2.1 (dd_at ddX9_pile 41 rfl) hl (by decide) rfl (fun ls hl => ?_)
          refine lv_iload S.1 S.2.1 (dd_at ddX9_pile 42 rfl) (lv_at hl 0 rfl) ?_
          refine lv_aload_n S.1 S.2.1 (dd_at ddX9_pile 43 rfl) rfl (lv_at hl 1 rfl) ?_
          obtain ⟨b_24, hb_25, ho_26, h⟩ := h
          refine r_getR S hw 9 2 rfl inG9 (by decide) (List.mem_cons_of_mem _ wg126) (by decide) ha0 hb_25 (dd_at ddX9_pile 44 rfl) ?_
          refine lv_iload_n S.1 S.2.1 (dd_at ddX9_pile 45 rfl) rfl (lv_at hl 2 rfl) ?_
          obtain ⟨hx_27, h⟩ := h
          refine r_iald S hw ho_26 hx_27 (dd_at ddX9_pile 46 rfl) ?_
          refine lv_icmp_ge (tgt := 97) S.1 S.2.1 (dd_at ddX9_pile 47 rfl) (by decide) (fun hc_28 => ?_) (fun hc_28 => ?_)
          · have h := h.1 hc_28
            refine lv_iconst (v := 0) S.1 S.2.1 (dd_at ddX9_pile 53 rfl) (by decide) ?_
            exact tb98 v4 v5 (gA d b_20 (v5).toNatClampNeg) 0 d H locs ls h hw (lv_sub hl [1, 2, 3, 4, 5, 6, 0] rfl)
          · have h := h.2 hc_28
            refine lv_aload_n S.1 S.2.1 (dd_at ddX9_pile 48 rfl) rfl (lv_at hl 1 rfl) ?_
            obtain ⟨b_29, hb_30, ho_31, h⟩ := h
            refine r_getR S hw 9 1 rfl inG9 (by decide) (List.mem_cons_of_mem _ wg125) (by decide) ha0 hb_30 (dd_at ddX9_pile 49 rfl) ?_
            refine lv_iload_n S.1 S.2.1 (dd_at ddX9_pile 50 rfl) rfl (lv_at hl 2 rfl) ?_
            obtain ⟨hx_32, h⟩ := h
            refine r_iald S hw ho_31 hx_32 (dd_at ddX9_pile 51 rfl) ?_
            refine lv_goto (tgt := 98) S.1 S.2.1 (dd_at ddX9_pile 52 rfl) (by decide) ?_
            exact tb98 v4 v5 (gA d b_20 (v5).toNatClampNeg) (gA d b_29 (p1).toNatClampNeg) d H locs ls h hw (lv_sub hl [1, 2, 3, 4, 5, 6, 0] rfl)
    refine lv_iload_n S.1 S.2.1 (dd_at ddX9_pile 0 rfl) rfl (lv_at hl 3 rfl) ?_
    refine lv_aload_n S.1 S.2.1 (dd_at ddX9_pile 1 rfl) rfl (lv_at hl 0 rfl) ?_
    refine r_getI S hw 9 8 rfl inG9 (by decide) (List.mem_cons_of_mem _ wg1171) (by decide) ha0 (dd_at ddX9_pile 2 rfl) ?_
    refine lv_icmp_ge (tgt := 14) S.1 S.2.1 (dd_at ddX9_pile 3 rfl) (by decide) (fun hc_33 => ?_) (fun hc_33 => ?_)
    · have h := h.1 hc_33
      exact e_V S hr hlocks hw h (dd_at ddX9_pile 7 rfl)
    · have h := h.2 hc_33
      refine lv_iload_n S.1 S.2.1 (dd_at ddX9_pile 4 rfl) rfl (lv_at hl 1 rfl) ?_
      refine lv_bipush (v := 7) S.1 S.2.1 (dd_at ddX9_pile 5 rfl) (by decide) ?_
      refine lv_icmp_le (tgt := 15) S.1 S.2.1 (dd_at ddX9_pile 6 rfl) (by decide) (fun hc_34 => ?_) (fun hc_34 => ?_)
      · have h := h.1 hc_34
        refine lv_iload_n S.1 S.2.1 (dd_at ddX9_pile 8 rfl) rfl (lv_at hl 1 rfl) ?_
        refine lv_aload_n S.1 S.2.1 (dd_at ddX9_pile 9 rfl) rfl (lv_at hl 0 rfl) ?_
        refine r_getI S hw 9 6 rfl inG9 (by decide) (List.mem_cons_of_mem _ wg1156) (by decide) ha0 (dd_at ddX9_pile 10 rfl) ?_
        refine lv_icmp_lt (tgt := 46) S.1 S.2.1 (dd_at ddX9_pile 11 rfl) (by decide) (fun hc_35 => ?_) (fun hc_35 => ?_)
        · have h := h.1 hc_35
          refine lv_iload_n S.1 S.2.1 (dd_at ddX9_pile 25 rfl) rfl (lv_at hl 2 rfl) ?_
          refine lv_iconst (v := 1) S.1 S.2.1 (dd_at ddX9_pile 26 rfl) (by decide) ?_
          refine lv_iadd S.1 S.2.1 (dd_at ddX9_pile 27 rfl) ?_
          refine lv_aload_n S.1 S.2.1 (dd_at ddX9_pile 28 rfl) rfl (lv_at hl 0 rfl) ?_
          refine r_getI S hw 9 7 rfl inG9 (by decide) (List.mem_cons_of_mem _ wg1155) (by decide) ha0 (dd_at ddX9_pile 29 rfl) ?_
          refine va_mmin S.1 S.2.1 (by rw [hl.1]; exact S.2.2.1) S.2.2.2.1 (S.2.2.2.2 _ (List.mem_cons_of_mem _ wg1154)) (S.2.2.2.2 _ (List.mem_cons_of_mem _ wg212)) (S.2.2.2.2 _ (List.mem_cons_of_mem _ wg70)) (S.2.2.2.2 _ (List.mem_cons_of_mem _ wg213)) (rl (m := nn + 1) (F := 2) rfl) (rl (m := (nn + 1) * 27) (F := 130) rfl) (Nat.le_of_ble_eq_true rfl) (Nat.le_of_ble_eq_true rfl) (dd_at ddX9_pile 30 rfl) ?_
          refine lv_istore (lv' := [(4, .int (if (gI d a0 7) < (p2 + 1) then (gI d a0 7) else (p2 + 1))), (0, .ref a0), (1, .int p1), (2, .int p2), (3, .int p3)]) S.1 S.2.1 (dd_at ddX9_pile 31 rfl) hl (by decide) rfl (fun ls hl => ?_)
          refine lv_iconst (v := 0) S.1 S.2.1 (dd_at ddX9_pile 32 rfl) (by decide) ?_
          refine lv_istore (lv' := [(5, .int 0), (4, .int (if (gI d a0 7) < (p2 + 1) then (gI d a0 7) else (p2 + 1))), (0, .ref a0), (1, .int p1), (2, .int p2), (3, .int p3)]) S.1 S.2.1 (dd_at ddX9_pile 33 rfl) hl (by decide) rfl (fun ls hl => ?_)
          obtain ⟨n_36, h⟩ := h
          exact tl61 n_36 (if (gI d a0 7) < (p2 + 1) then (gI d a0 7) else (p2 + 1)) 0 d H locs ls h hw (lv_sub hl [2, 3, 4, 5, 1, 0] rfl)
        · have h := h.2 hc_35
          refine lv_aload_n S.1 S.2.1 (dd_at ddX9_pile 12 rfl) rfl (lv_at hl 0 rfl) ?_
          refine lv_iload_n S.1 S.2.1 (dd_at ddX9_pile 13 rfl) rfl (lv_at hl 3 rfl) ?_
          refine r_putI S hw 9 8 (ty := .int) (v := p3) rfl inG9 tyX9 tyX9_ok nmX9 (by decide) (List.mem_cons_of_mem _ wg1171) (by decide) rfl (by decide +kernel) rfl rfl ha0 (dd_at ddX9_pile 14 rfl) (fun H locs hw => ?_)
          refine lv_aload_n S.1 S.2.1 (dd_at ddX9_pile 15 rfl) rfl (lv_at hl 0 rfl) ?_
          obtain ⟨b_37, hb_38, ho_39, h⟩ := h
          refine r_getR S hw 9 3 rfl inG9 (by decide) (List.mem_cons_of_mem _ wg127) (by decide) ha0 hb_38 (dd_at ddX9_pile 16 rfl) ?_
          refine lv_iconst (v := 0) S.1 S.2.1 (dd_at ddX9_pile 17 rfl) (by decide) ?_
          refine lv_aload_n S.1 S.2.1 (dd_at ddX9_pile 18 rfl) rfl (lv_at hl 0 rfl) ?_
          obtain ⟨b_40, hb_41, ho_42, h⟩ := h
          refine r_getR S hw 9 4 rfl inG9 (by decide) (List.mem_cons_of_mem _ wg128) (by decide) ha0 hb_41 (dd_at ddX9_pile 19 rfl) ?_
          refine lv_iconst (v := 0) S.1 S.2.1 (dd_at ddX9_pile 20 rfl) (by decide) ?_
          refine lv_aload_n S.1 S.2.1 (dd_at ddX9_pile 21 rfl) rfl (lv_at hl 0 rfl) ?_
          refine r_getI S hw 9 6 rfl inG9 (by decide) (List.mem_cons_of_mem _ wg1156) (by decide) ha0 (dd_at ddX9_pile 22 rfl) ?_
          obtain ⟨hy_43, hy_44, hy_45, hy_46, hy_47, h⟩ := h
          refine r_copyi S hw hl.1 (List.mem_cons_of_mem _ wg1176) (List.mem_cons_of_mem _ wg380) (List.mem_cons_of_mem _ wg381) (List.mem_cons_of_mem _ wg382) ho_39 ho_42 hy_43 hy_44 hy_45 hy_46 hy_47 (rl (m := nn + 1) (F := 2) rfl) (rl (m := (nn + 1) * 27) (F := 130) rfl) (dd_at ddX9_pile 23 rfl) (fun H locs hw => ?_)
          exact e_V S hr hlocks hw h (dd_at ddX9_pile 24 rfl)
      · have h := h.2 hc_34
        exact e_V S hr hlocks hw h (dd_at ddX9_pile 7 rfl)
theorem m_X9_pile (l : Launch) (D : va_G) (cs : Nat → ClassId) (E : En) (d : Dy) (sz : Nat) (a0 : Nat) (p1 : Int32) (p2 : Int32) (p3 : Int32) (K : Dy → Prop) : CV l yX9_pile (.code yX9_pile cX9_pile 8 none :: wsL_law) rm_X9_pile D cs E d sz [.ref a0, .int p1, .int p2, .int p3] (w_X9_pile E a0 p1 p2 p3 d K) K := (mg_X9_pile l 60) D cs E d sz a0 p1 p2 p3 K

def w_X9_search (E : En) (a0 : Nat) (d : Dy) (K : Dy → Prop) : Prop := okO E a0 9 ∧ w_X9_pile E a0 0 0 0 (pI d a0 8 2147483647) (fun d_1 => K d_1)
abbrev rm_X9_search : Room := { frames := 63, cells := 0, slots := 0, locals := 1777 }
set_option maxRecDepth 100000 in
set_option maxHeartbeats 4000000 in
theorem m_X9_search (l : Launch) (D : va_G) (cs : Nat → ClassId) (E : En) (d : Dy) (sz : Nat) (a0 : Nat) (K : Dy → Prop) : CV l yX9_search (.code yX9_search cX9_search 1 none :: wsL_law) rm_X9_search D cs E d sz [.ref a0] (w_X9_search E a0 d K) K := by
  refine e_of (cc := cX9_search) (maxL := 1) (ret := none) (own := RX9) (by decide) rfl rfl (Nat.le_of_ble_eq_true rfl) ?_
  intro p e s m below meth c S hr hlocks hsz H locs hw h ls hl
  have hl : lv_has ls 1 [(0, .ref a0)] := hl
  unfold w_X9_search at h
  obtain ⟨ha0, h⟩ := h
  refine lv_aload_n S.1 S.2.1 (dd_at ddX9_search 0 rfl) rfl (lv_at hl 0 rfl) ?_
  refine lv_ldc (v := 2147483647) S.1 S.2.1 S.2.2.2.1 (S.2.2.2.2 _ (List.mem_cons_of_mem _ wg1157)) (dd_at ddX9_search 1 rfl) ?_
  refine r_putI S hw 9 8 (ty := .int) (v := 2147483647) rfl inG9 tyX9 tyX9_ok nmX9 (by decide) (List.mem_cons_of_mem _ wg1171) (by decide) rfl (by decide +kernel) rfl rfl ha0 (dd_at ddX9_search 2 rfl) (fun H locs hw => ?_)
  refine lv_aload_n S.1 S.2.1 (dd_at ddX9_search 3 rfl) rfl (lv_at hl 0 rfl) ?_
  refine lv_iconst (v := 0) S.1 S.2.1 (dd_at ddX9_search 4 rfl) (by decide) ?_
  refine lv_iconst (v := 0) S.1 S.2.1 (dd_at ddX9_search 5 rfl) (by decide) ?_
  refine lv_iconst (v := 0) S.1 S.2.1 (dd_at ddX9_search 6 rfl) (by decide) ?_
  refine r_callV hw (r_runV (As := [.int 0, .int 0, .int 0]) (rest := []) S hw (m_X9_pile l D cs E (pI d a0 8 2147483647) H.size a0 0 0 0 _) (cwV 3 S.2.2.2.2 (gV wg1172 wg1173 wg1174 wg34 wg1175) rfl rfl rfl (by decide +kernel) ⟨Nat.le_of_ble_eq_true rfl, Nat.le_of_ble_eq_true rfl⟩) (ci := 9) rfl ha0 h rfl hl.1 rfl (Nat.le_of_ble_eq_true rfl) (dd_at ddX9_search 7 rfl) ⟨Nat.le_of_ble_eq_true rfl, Nat.le_of_ble_eq_true rfl⟩) (fun d_1 H locs h hw => ?_)
  exact e_V S hr hlocks hw h (dd_at ddX9_search 8 rfl)

def w_X9_least (E : En) (a0 : Nat) (d : Dy) (K : Int32 → Dy → Prop) : Prop := okO E a0 9 ∧ K (gI d a0 8) d
abbrev rm_X9_least : Room := { frames := 0, cells := 0, slots := 0, locals := 0 }
set_option maxRecDepth 100000 in
set_option maxHeartbeats 4000000 in
theorem m_X9_least (l : Launch) (D : va_G) (cs : Nat → ClassId) (E : En) (d : Dy) (sz : Nat) (a0 : Nat) (K : Int32 → Dy → Prop) : CI l yX9_least (.code yX9_least cX9_least 1 (some .int) :: wsL_law) rm_X9_least D cs E d sz [.ref a0] (w_X9_least E a0 d K) K := by
  refine e_of (cc := cX9_least) (maxL := 1) (ret := (some .int)) (own := RX9) (by decide) rfl rfl (Nat.le_of_ble_eq_true rfl) ?_
  intro p e s m below meth c S hr hlocks hsz H locs hw h ls hl
  have hl : lv_has ls 1 [(0, .ref a0)] := hl
  unfold w_X9_least at h
  obtain ⟨ha0, h⟩ := h
  refine lv_aload_n S.1 S.2.1 (dd_at ddX9_least 0 rfl) rfl (lv_at hl 0 rfl) ?_
  refine r_getI S hw 9 8 rfl inG9 (by decide) (List.mem_cons_of_mem _ wg1171) (by decide) ha0 (dd_at ddX9_least 1 rfl) ?_
  exact e_I S hr hlocks hw h (dd_at ddX9_least 2 rfl)

def b_X9_pileOf_2 (E : En) (a0 : Nat) (p1 : Int32) (K : Int32 → Dy → Prop) (k2 : Int32 → Dy → Prop) (v2 : Int32) (d : Dy) : Prop := (((gI d a0 6) ≤ v2 → K (-1) d) ∧ (¬ (gI d a0 6) ≤ v2 → ∃ b_2 : Nat, eR E a0 0 = some b_2 ∧ okA E b_2 13 ∧ vp_in v2 (eN E b_2) ∧ ((¬ (gA d b_2 (v2).toNatClampNeg) = p1 → k2 (v2 + 1) d) ∧ ((gA d b_2 (v2).toNatClampNeg) = p1 → ∃ b_7 : Nat, eR E a0 4 = some b_7 ∧ okA E b_7 13 ∧ vp_in v2 (eN E b_7) ∧ K (gA d b_7 (v2).toNatClampNeg) d))))
def l_X9_pileOf_2 (E : En) (a0 : Nat) (p1 : Int32) (K : Int32 → Dy → Prop) : Nat → Int32 → Dy → Prop
  | 0 => fun _ _ => False
  | n + 1 => b_X9_pileOf_2 E a0 p1 K (l_X9_pileOf_2 E a0 p1 K n)
def w_X9_pileOf (E : En) (a0 : Nat) (p1 : Int32) (d : Dy) (K : Int32 → Dy → Prop) : Prop := okO E a0 9 ∧ (∃ n_11 : Nat, l_X9_pileOf_2 E a0 p1 K n_11 0 d)
abbrev rm_X9_pileOf : Room := { frames := 0, cells := 0, slots := 0, locals := 0 }
set_option maxRecDepth 100000 in
set_option maxHeartbeats 4000000 in
theorem m_X9_pileOf (l : Launch) (D : va_G) (cs : Nat → ClassId) (E : En) (d : Dy) (sz : Nat) (a0 : Nat) (p1 : Int32) (K : Int32 → Dy → Prop) : CI l yX9_pileOf (.code yX9_pileOf cX9_pileOf 3 (some .int) :: wsL_law) rm_X9_pileOf D cs E d sz [.ref a0, .int p1] (w_X9_pileOf E a0 p1 d K) K := by
  refine e_of (cc := cX9_pileOf) (maxL := 3) (ret := (some .int)) (own := RX9) (by decide) rfl rfl (Nat.le_of_ble_eq_true rfl) ?_
  intro p e s m below meth c S hr hlocks hsz H locs hw h ls hl
  have hl : lv_has ls 3 [(0, .ref a0), (1, .int p1)] := hl
  unfold w_X9_pileOf at h
  obtain ⟨ha0, h⟩ := h
  have tl2 : ∀ (n : Nat) (v2 : Int32) (d : Dy) (H : Heap) (locs : List Loc) (ls : Array Slot), l_X9_pileOf_2 E a0 p1 K n v2 d → Wd D cs (AW E sz) s.heap s E d H locs → lv_has ls 3 [(0, .ref a0), (1, .int p1), (2, .int v2)] → W p l e rm_X9_pileOf s m ([.ref a0, .int p1] : List Value).toArray below meth c H locs 0 0 (MQ below (va_Qi K (OutW D cs E (AW E sz)) (AW E sz)) ([.ref a0, .int p1] : List Value).toArray s rm_X9_pileOf.cells rm_X9_pileOf.slots (AW E sz)) (F0 m 2 ls []) := by
    intro n2
    induction n2 with
    | zero => intro v2 d H locs ls h; exact absurd h id
    | succ n2 ih2 =>
      intro v2 d H locs ls h hw hl
      have h : b_X9_pileOf_2 E a0 p1 K (l_X9_pileOf_2 E a0 p1 K n2) v2 d := h
      unfold b_X9_pileOf_2 at h
      refine lv_iload_n S.1 S.2.1 (dd_at ddX9_pileOf 2 rfl) rfl (lv_at hl 2 rfl) ?_
      refine lv_aload_n S.1 S.2.1 (dd_at ddX9_pileOf 3 rfl) rfl (lv_at hl 0 rfl) ?_
      refine r_getI S hw 9 6 rfl inG9 (by decide) (List.mem_cons_of_mem _ wg1156) (by decide) ha0 (dd_at ddX9_pileOf 4 rfl) ?_
      refine lv_icmp_ge (tgt := 33) S.1 S.2.1 (dd_at ddX9_pileOf 5 rfl) (by decide) (fun hc_1 => ?_) (fun hc_1 => ?_)
      · have h := h.1 hc_1
        refine lv_iconst (v := -1) S.1 S.2.1 (dd_at ddX9_pileOf 19 rfl) (by decide) ?_
        exact e_I S hr hlocks hw h (dd_at ddX9_pileOf 20 rfl)
      · have h := h.2 hc_1
        refine lv_aload_n S.1 S.2.1 (dd_at ddX9_pileOf 6 rfl) rfl (lv_at hl 0 rfl) ?_
        obtain ⟨b_2, hb_3, ho_4, h⟩ := h
        refine r_getR S hw 9 0 rfl inG9 (by decide) (List.mem_cons_of_mem _ wg124) (by decide) ha0 hb_3 (dd_at ddX9_pileOf 7 rfl) ?_
        refine lv_iload_n S.1 S.2.1 (dd_at ddX9_pileOf 8 rfl) rfl (lv_at hl 2 rfl) ?_
        obtain ⟨hx_5, h⟩ := h
        refine r_iald S hw ho_4 hx_5 (dd_at ddX9_pileOf 9 rfl) ?_
        refine lv_iload_n S.1 S.2.1 (dd_at ddX9_pileOf 10 rfl) rfl (lv_at hl 1 rfl) ?_
        refine lv_icmp_ne (tgt := 27) S.1 S.2.1 (dd_at ddX9_pileOf 11 rfl) (by decide) (fun hc_6 => ?_) (fun hc_6 => ?_)
        · have h := h.1 hc_6
          refine lv_iinc (v := v2 + 1) (lv' := [(2, .int (v2 + 1)), (0, .ref a0), (1, .int p1)]) S.1 S.2.1 (dd_at ddX9_pileOf 17 rfl) hl (k := 2) rfl rfl (by decide) rfl (fun ls hl => ?_)
          refine lv_goto (tgt := 2) S.1 S.2.1 (dd_at ddX9_pileOf 18 rfl) (by decide) ?_
          exact ih2 (v2 + 1) d H locs ls h hw (lv_sub hl [1, 2, 0] rfl)
        · have h := h.2 hc_6
          refine lv_aload_n S.1 S.2.1 (dd_at ddX9_pileOf 12 rfl) rfl (lv_at hl 0 rfl) ?_
          obtain ⟨b_7, hb_8, ho_9, h⟩ := h
          refine r_getR S hw 9 4 rfl inG9 (by decide) (List.mem_cons_of_mem _ wg128) (by decide) ha0 hb_8 (dd_at ddX9_pileOf 13 rfl) ?_
          refine lv_iload_n S.1 S.2.1 (dd_at ddX9_pileOf 14 rfl) rfl (lv_at hl 2 rfl) ?_
          obtain ⟨hx_10, h⟩ := h
          refine r_iald S hw ho_9 hx_10 (dd_at ddX9_pileOf 15 rfl) ?_
          exact e_I S hr hlocks hw h (dd_at ddX9_pileOf 16 rfl)
  refine lv_iconst (v := 0) S.1 S.2.1 (dd_at ddX9_pileOf 0 rfl) (by decide) ?_
  refine lv_istore_n (lv' := [(2, .int 0), (0, .ref a0), (1, .int p1)]) S.1 S.2.1 (dd_at ddX9_pileOf 1 rfl) rfl hl (by decide) rfl (fun ls hl => ?_)
  obtain ⟨n_11, h⟩ := h
  exact tl2 n_11 0 d H locs ls h hw (lv_sub hl [1, 2, 0] rfl)
