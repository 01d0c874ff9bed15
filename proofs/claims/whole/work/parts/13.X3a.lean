def w_X3_lives (E : En) (a0 : Nat) (p1 : Int32) (d : Dy) (K : Int32 → Dy → Prop) : Prop := okO E a0 3 ∧ ((¬ (((gI d a0 4) >>> (p1 &&& 31)) &&& 1) = 0 → K 0 d) ∧ ((((gI d a0 4) >>> (p1 &&& 31)) &&& 1) = 0 → K 1 d))
abbrev rm_X3_lives : Room := { frames := 0, cells := 0, slots := 0, locals := 0 }
set_option maxRecDepth 100000 in
set_option maxHeartbeats 4000000 in
theorem m_X3_lives (l : Launch) (D : va_G) (cs : Nat → ClassId) (E : En) (d : Dy) (sz : Nat) (a0 : Nat) (p1 : Int32) (K : Int32 → Dy → Prop) : CI l yX3_lives (.code yX3_lives cX3_lives 2 (some .boolean) :: wsL_law) rm_X3_lives D cs E d sz [.ref a0, .int p1] (w_X3_lives E a0 p1 d K) K := by
  refine e_of (cc := cX3_lives) (maxL := 2) (ret := (some .boolean)) (own := RX3) (by decide) rfl rfl (Nat.le_of_ble_eq_true rfl) ?_
  intro p e s m below meth c S hr hlocks hsz H locs hw h ls hl
  have hl : lv_has ls 2 [(0, .ref a0), (1, .int p1)] := hl
  unfold w_X3_lives at h
  obtain ⟨ha0, h⟩ := h
  refine lv_aload_n S.1 S.2.1 (dd_at ddX3_lives 0 rfl) rfl (lv_at hl 0 rfl) ?_
  refine r_getI S hw 3 4 rfl inG3 (by decide) (List.mem_cons_of_mem _ wg668) (by decide) ha0 (dd_at ddX3_lives 1 rfl) ?_
  refine lv_iload_n S.1 S.2.1 (dd_at ddX3_lives 2 rfl) rfl (lv_at hl 1 rfl) ?_
  refine lv_ishr S.1 S.2.1 (dd_at ddX3_lives 3 rfl) ?_
  refine lv_iconst (v := 1) S.1 S.2.1 (dd_at ddX3_lives 4 rfl) (by decide) ?_
  refine lv_iand S.1 S.2.1 (dd_at ddX3_lives 5 rfl) ?_
  refine lv_if_ne (tgt := 15) S.1 S.2.1 (dd_at ddX3_lives 6 rfl) (by decide) (fun hc_1 => ?_) (fun hc_1 => ?_)
  · have h := h.1 hc_1
    refine lv_iconst (v := 0) S.1 S.2.1 (dd_at ddX3_lives 9 rfl) (by decide) ?_
    exact e_Z S hr hlocks hw (Or.inl rfl) h (dd_at ddX3_lives 10 rfl)
  · have h := h.2 hc_1
    refine lv_iconst (v := 1) S.1 S.2.1 (dd_at ddX3_lives 7 rfl) (by decide) ?_
    refine lv_goto (tgt := 16) S.1 S.2.1 (dd_at ddX3_lives 8 rfl) (by decide) ?_
    exact e_Z S hr hlocks hw (Or.inr rfl) h (dd_at ddX3_lives 10 rfl)

def w_X3_knowsWaiter (E : En) (a0 : Nat) (p1 : Int32) (d : Dy) (K : Int32 → Dy → Prop) : Prop := okO E a0 3 ∧ ∃ b_1 : Nat, eR E a0 0 = some b_1 ∧ okO E b_1 8 ∧ ∃ b_4 : Nat, eR E b_1 4 = some b_4 ∧ okO E b_4 6 ∧ w_X6_get E b_4 p1 2 d (fun r_8 d_7 => (((gI d_7 a0 1) < r_8 → K 0 d_7) ∧ (¬ (gI d_7 a0 1) < r_8 → ∃ b_10 : Nat, eR E a0 0 = some b_10 ∧ okO E b_10 8 ∧ ∃ b_13 : Nat, eR E b_10 4 = some b_13 ∧ okO E b_13 6 ∧ w_X6_get E b_13 p1 1 d_7 (fun r_17 d_16 => (((gI d_16 a0 2) < r_17 → K 0 d_16) ∧ (¬ (gI d_16 a0 2) < r_17 → ∃ b_19 : Nat, eR E a0 0 = some b_19 ∧ okO E b_19 8 ∧ ∃ b_22 : Nat, eR E b_19 4 = some b_22 ∧ okO E b_22 6 ∧ w_X6_get E b_22 p1 0 d_16 (fun r_26 d_25 => w_X3_lives E a0 r_26 d_25 (fun r_28 d_27 => ((r_28 = 0 → K 0 d_27) ∧ (¬ r_28 = 0 → K 1 d_27))))))))))
abbrev rm_X3_knowsWaiter : Room := { frames := 1, cells := 0, slots := 0, locals := 23 }
set_option maxRecDepth 100000 in
set_option maxHeartbeats 4000000 in
theorem m_X3_knowsWaiter (l : Launch) (D : va_G) (cs : Nat → ClassId) (E : En) (d : Dy) (sz : Nat) (a0 : Nat) (p1 : Int32) (K : Int32 → Dy → Prop) : CI l yX3_knowsWaiter (.code yX3_knowsWaiter cX3_knowsWaiter 2 (some .boolean) :: wsL_law) rm_X3_knowsWaiter D cs E d sz [.ref a0, .int p1] (w_X3_knowsWaiter E a0 p1 d K) K := by
  refine e_of (cc := cX3_knowsWaiter) (maxL := 2) (ret := (some .boolean)) (own := RX3) (by decide) rfl rfl (Nat.le_of_ble_eq_true rfl) ?_
  intro p e s m below meth c S hr hlocks hsz H locs hw h ls hl
  have hl : lv_has ls 2 [(0, .ref a0), (1, .int p1)] := hl
  unfold w_X3_knowsWaiter at h
  obtain ⟨ha0, h⟩ := h
  refine lv_aload_n S.1 S.2.1 (dd_at ddX3_knowsWaiter 0 rfl) rfl (lv_at hl 0 rfl) ?_
  obtain ⟨b_1, hb_2, ho_3, h⟩ := h
  refine r_getR S hw 3 0 rfl inG3 (by decide) (List.mem_cons_of_mem _ wg105) (by decide) ha0 hb_2 (dd_at ddX3_knowsWaiter 1 rfl) ?_
  obtain ⟨b_4, hb_5, ho_6, h⟩ := h
  refine r_getRN S hw 8 4 rfl inG8 (by decide) nx11 (by decide) ho_3 hb_5 (dd_at ddX3_knowsWaiter 2 rfl) ?_
  refine lv_iload_n S.1 S.2.1 (dd_at ddX3_knowsWaiter 3 rfl) rfl (lv_at hl 1 rfl) ?_
  refine lv_iconst (v := 2) S.1 S.2.1 (dd_at ddX3_knowsWaiter 4 rfl) (by decide) ?_
  refine r_callI hw (r_runV (As := [.int p1, .int 2]) (rest := []) S hw (m_X6_get l D cs E d H.size b_4 p1 2 _) (cwV 2 S.2.2.2.2 (gV wg673 wg623 wg624 wg51 wg625) rfl rfl rfl (by decide +kernel) ⟨Nat.le_of_ble_eq_true rfl, Nat.le_of_ble_eq_true rfl⟩) (ci := 6) rfl ho_6 h rfl hl.1 rfl (Nat.le_of_ble_eq_true rfl) (dd_at ddX3_knowsWaiter 5 rfl) ⟨Nat.le_of_ble_eq_true rfl, Nat.le_of_ble_eq_true rfl⟩) (fun r_8 d_7 H locs h hw => ?_)
  refine lv_aload_n S.1 S.2.1 (dd_at ddX3_knowsWaiter 6 rfl) rfl (lv_at hl 0 rfl) ?_
  refine r_getI S hw 3 1 rfl inG3 (by decide) (List.mem_cons_of_mem _ wg665) (by decide) ha0 (dd_at ddX3_knowsWaiter 7 rfl) ?_
  refine lv_icmp_gt (tgt := 61) S.1 S.2.1 (dd_at ddX3_knowsWaiter 8 rfl) (by decide) (fun hc_9 => ?_) (fun hc_9 => ?_)
  · have h := h.1 hc_9
    refine lv_iconst (v := 0) S.1 S.2.1 (dd_at ddX3_knowsWaiter 29 rfl) (by decide) ?_
    exact e_Z S hr hlocks hw (Or.inl rfl) h (dd_at ddX3_knowsWaiter 30 rfl)
  · have h := h.2 hc_9
    refine lv_aload_n S.1 S.2.1 (dd_at ddX3_knowsWaiter 9 rfl) rfl (lv_at hl 0 rfl) ?_
    obtain ⟨b_10, hb_11, ho_12, h⟩ := h
    refine r_getR S hw 3 0 rfl inG3 (by decide) (List.mem_cons_of_mem _ wg105) (by decide) ha0 hb_11 (dd_at ddX3_knowsWaiter 10 rfl) ?_
    obtain ⟨b_13, hb_14, ho_15, h⟩ := h
    refine r_getRN S hw 8 4 rfl inG8 (by decide) nx11 (by decide) ho_12 hb_14 (dd_at ddX3_knowsWaiter 11 rfl) ?_
    refine lv_iload_n S.1 S.2.1 (dd_at ddX3_knowsWaiter 12 rfl) rfl (lv_at hl 1 rfl) ?_
    refine lv_iconst (v := 1) S.1 S.2.1 (dd_at ddX3_knowsWaiter 13 rfl) (by decide) ?_
    refine r_callI hw (r_runV (As := [.int p1, .int 1]) (rest := []) S hw (m_X6_get l D cs E d_7 H.size b_13 p1 1 _) (cwV 2 S.2.2.2.2 (gV wg673 wg623 wg624 wg51 wg625) rfl rfl rfl (by decide +kernel) ⟨Nat.le_of_ble_eq_true rfl, Nat.le_of_ble_eq_true rfl⟩) (ci := 6) rfl ho_15 h rfl hl.1 rfl (Nat.le_of_ble_eq_true rfl) (dd_at ddX3_knowsWaiter 14 rfl) ⟨Nat.le_of_ble_eq_true rfl, Nat.le_of_ble_eq_true rfl⟩) (fun r_17 d_16 H locs h hw => ?_)
    refine lv_aload_n S.1 S.2.1 (dd_at ddX3_knowsWaiter 15 rfl) rfl (lv_at hl 0 rfl) ?_
    refine r_getI S hw 3 2 rfl inG3 (by decide) (List.mem_cons_of_mem _ wg666) (by decide) ha0 (dd_at ddX3_knowsWaiter 16 rfl) ?_
    refine lv_icmp_gt (tgt := 61) S.1 S.2.1 (dd_at ddX3_knowsWaiter 17 rfl) (by decide) (fun hc_18 => ?_) (fun hc_18 => ?_)
    · have h := h.1 hc_18
      refine lv_iconst (v := 0) S.1 S.2.1 (dd_at ddX3_knowsWaiter 29 rfl) (by decide) ?_
      exact e_Z S hr hlocks hw (Or.inl rfl) h (dd_at ddX3_knowsWaiter 30 rfl)
    · have h := h.2 hc_18
      refine lv_aload_n S.1 S.2.1 (dd_at ddX3_knowsWaiter 18 rfl) rfl (lv_at hl 0 rfl) ?_
      refine lv_aload_n S.1 S.2.1 (dd_at ddX3_knowsWaiter 19 rfl) rfl (lv_at hl 0 rfl) ?_
      obtain ⟨b_19, hb_20, ho_21, h⟩ := h
      refine r_getR S hw 3 0 rfl inG3 (by decide) (List.mem_cons_of_mem _ wg105) (by decide) ha0 hb_20 (dd_at ddX3_knowsWaiter 20 rfl) ?_
      obtain ⟨b_22, hb_23, ho_24, h⟩ := h
      refine r_getRN S hw 8 4 rfl inG8 (by decide) nx11 (by decide) ho_21 hb_23 (dd_at ddX3_knowsWaiter 21 rfl) ?_
      refine lv_iload_n S.1 S.2.1 (dd_at ddX3_knowsWaiter 22 rfl) rfl (lv_at hl 1 rfl) ?_
      refine lv_iconst (v := 0) S.1 S.2.1 (dd_at ddX3_knowsWaiter 23 rfl) (by decide) ?_
      refine r_callI hw (r_runV (As := [.int p1, .int 0]) (rest := [.ref a0]) S hw (m_X6_get l D cs E d_16 H.size b_22 p1 0 _) (cwV 2 S.2.2.2.2 (gV wg673 wg623 wg624 wg51 wg625) rfl rfl rfl (by decide +kernel) ⟨Nat.le_of_ble_eq_true rfl, Nat.le_of_ble_eq_true rfl⟩) (ci := 6) rfl ho_24 h rfl hl.1 rfl (Nat.le_of_ble_eq_true rfl) (dd_at ddX3_knowsWaiter 24 rfl) ⟨Nat.le_of_ble_eq_true rfl, Nat.le_of_ble_eq_true rfl⟩) (fun r_26 d_25 H locs h hw => ?_)
      refine r_callI hw (r_runV (As := [.int r_26]) (rest := []) S hw (m_X3_lives l D cs E d_25 H.size a0 r_26 _) (cwV 1 S.2.2.2.2 (gV wg690 wg691 wg692 wg25 wg693) rfl rfl rfl (by decide +kernel) ⟨Nat.le_of_ble_eq_true rfl, Nat.le_of_ble_eq_true rfl⟩) (ci := 3) rfl ha0 h rfl hl.1 rfl (Nat.le_of_ble_eq_true rfl) (dd_at ddX3_knowsWaiter 25 rfl) ⟨Nat.le_of_ble_eq_true rfl, Nat.le_of_ble_eq_true rfl⟩) (fun r_28 d_27 H locs h hw => ?_)
      refine lv_if_eq (tgt := 61) S.1 S.2.1 (dd_at ddX3_knowsWaiter 26 rfl) (by decide) (fun hc_29 => ?_) (fun hc_29 => ?_)
      · have h := h.1 hc_29
        refine lv_iconst (v := 0) S.1 S.2.1 (dd_at ddX3_knowsWaiter 29 rfl) (by decide) ?_
        exact e_Z S hr hlocks hw (Or.inl rfl) h (dd_at ddX3_knowsWaiter 30 rfl)
      · have h := h.2 hc_29
        refine lv_iconst (v := 1) S.1 S.2.1 (dd_at ddX3_knowsWaiter 27 rfl) (by decide) ?_
        refine lv_goto (tgt := 62) S.1 S.2.1 (dd_at ddX3_knowsWaiter 28 rfl) (by decide) ?_
        exact e_Z S hr hlocks hw (Or.inr rfl) h (dd_at ddX3_knowsWaiter 30 rfl)

def w_X3_childrenOf (E : En) (a0 : Nat) (p1 : Int32) (d : Dy) (K : Int32 → Dy → Prop) : Prop := okO E a0 3 ∧ ∃ b_1 : Nat, eR E a0 5 = some b_1 ∧ okO E b_1 6 ∧ w_X6_get E b_1 p1 1 d (fun r_5 d_4 => K (r_5 &&& ((gI d_4 a0 4) ^^^ (-1))) d_4)
abbrev rm_X3_childrenOf : Room := { frames := 1, cells := 0, slots := 0, locals := 23 }
set_option maxRecDepth 100000 in
set_option maxHeartbeats 4000000 in
theorem m_X3_childrenOf (l : Launch) (D : va_G) (cs : Nat → ClassId) (E : En) (d : Dy) (sz : Nat) (a0 : Nat) (p1 : Int32) (K : Int32 → Dy → Prop) : CI l yX3_childrenOf (.code yX3_childrenOf cX3_childrenOf 2 (some .int) :: wsL_law) rm_X3_childrenOf D cs E d sz [.ref a0, .int p1] (w_X3_childrenOf E a0 p1 d K) K := by
  refine e_of (cc := cX3_childrenOf) (maxL := 2) (ret := (some .int)) (own := RX3) (by decide) rfl rfl (Nat.le_of_ble_eq_true rfl) ?_
  intro p e s m below meth c S hr hlocks hsz H locs hw h ls hl
  have hl : lv_has ls 2 [(0, .ref a0), (1, .int p1)] := hl
  unfold w_X3_childrenOf at h
  obtain ⟨ha0, h⟩ := h
  refine lv_aload_n S.1 S.2.1 (dd_at ddX3_childrenOf 0 rfl) rfl (lv_at hl 0 rfl) ?_
  obtain ⟨b_1, hb_2, ho_3, h⟩ := h
  refine r_getR S hw 3 5 rfl inG3 (by decide) (List.mem_cons_of_mem _ wg98) (by decide) ha0 hb_2 (dd_at ddX3_childrenOf 1 rfl) ?_
  refine lv_iload_n S.1 S.2.1 (dd_at ddX3_childrenOf 2 rfl) rfl (lv_at hl 1 rfl) ?_
  refine lv_iconst (v := 1) S.1 S.2.1 (dd_at ddX3_childrenOf 3 rfl) (by decide) ?_
  refine r_callI hw (r_runV (As := [.int p1, .int 1]) (rest := []) S hw (m_X6_get l D cs E d H.size b_1 p1 1 _) (cwV 2 S.2.2.2.2 (gV wg673 wg623 wg624 wg51 wg625) rfl rfl rfl (by decide +kernel) ⟨Nat.le_of_ble_eq_true rfl, Nat.le_of_ble_eq_true rfl⟩) (ci := 6) rfl ho_3 h rfl hl.1 rfl (Nat.le_of_ble_eq_true rfl) (dd_at ddX3_childrenOf 4 rfl) ⟨Nat.le_of_ble_eq_true rfl, Nat.le_of_ble_eq_true rfl⟩) (fun r_5 d_4 H locs h hw => ?_)
  refine lv_aload_n S.1 S.2.1 (dd_at ddX3_childrenOf 5 rfl) rfl (lv_at hl 0 rfl) ?_
  refine r_getI S hw 3 4 rfl inG3 (by decide) (List.mem_cons_of_mem _ wg668) (by decide) ha0 (dd_at ddX3_childrenOf 6 rfl) ?_
  refine lv_iconst (v := -1) S.1 S.2.1 (dd_at ddX3_childrenOf 7 rfl) (by decide) ?_
  refine lv_ixor S.1 S.2.1 (dd_at ddX3_childrenOf 8 rfl) ?_
  refine lv_iand S.1 S.2.1 (dd_at ddX3_childrenOf 9 rfl) ?_
  exact e_I S hr hlocks hw h (dd_at ddX3_childrenOf 10 rfl)

def w_X3_knowPerson (E : En) (a0 : Nat) (p1 : Int32) (p2 : Int32) (d : Dy) (K : Dy → Prop) : Prop := okO E a0 3 ∧ ∃ b_1 : Nat, eR E a0 8 = some b_1 ∧ okO E b_1 0 ∧ w_X0_know E b_1 3 p2 d (fun d_4 => ∃ b_6 : Nat, eR E a0 8 = some b_6 ∧ okO E b_6 0 ∧ ∃ b_9 : Nat, eR E a0 0 = some b_9 ∧ okO E b_9 8 ∧ ∃ b_12 : Nat, eR E b_9 1 = some b_12 ∧ okO E b_12 6 ∧ w_X6_get E b_12 p1 0 d_4 (fun r_16 d_15 => w_X0_know E b_6 1 (if 0 < (p2 - r_16) then (p2 - r_16) else 0) d_15 (fun d_17 => ∃ b_19 : Nat, eR E a0 8 = some b_19 ∧ okO E b_19 0 ∧ w_X3_childrenOf E a0 p1 d_17 (fun r_23 d_22 => w_J6_bitCount_0f7a4 E r_23 d_22 (fun r_25 d_24 => w_X0_know E b_19 2 r_25 d_24 (fun d_26 => ∃ b_28 : Nat, eR E a0 8 = some b_28 ∧ okO E b_28 0 ∧ ∃ b_31 : Nat, eR E a0 0 = some b_31 ∧ okO E b_31 8 ∧ ∃ b_34 : Nat, eR E b_31 1 = some b_34 ∧ okO E b_34 6 ∧ w_X6_get E b_34 p1 2 d_26 (fun r_38 d_37 => w_X0_know E b_28 8 r_38 d_37 (fun d_39 => K d_39))))))))
abbrev rm_X3_knowPerson : Room := { frames := 2, cells := 0, slots := 0, locals := 44 }
set_option maxRecDepth 100000 in
set_option maxHeartbeats 4000000 in
theorem m_X3_knowPerson (l : Launch) (D : va_G) (cs : Nat → ClassId) (E : En) (d : Dy) (sz : Nat) (a0 : Nat) (p1 : Int32) (p2 : Int32) (K : Dy → Prop) : CV l yX3_knowPerson (.code yX3_knowPerson cX3_knowPerson 3 none :: wsL_law) rm_X3_knowPerson D cs E d sz [.ref a0, .int p1, .int p2] (w_X3_knowPerson E a0 p1 p2 d K) K := by
  refine e_of (cc := cX3_knowPerson) (maxL := 3) (ret := none) (own := RX3) (by decide) rfl rfl (Nat.le_of_ble_eq_true rfl) ?_
  intro p e s m below meth c S hr hlocks hsz H locs hw h ls hl
  have hl : lv_has ls 3 [(0, .ref a0), (1, .int p1), (2, .int p2)] := hl
  unfold w_X3_knowPerson at h
  obtain ⟨ha0, h⟩ := h
  refine lv_aload_n S.1 S.2.1 (dd_at ddX3_knowPerson 0 rfl) rfl (lv_at hl 0 rfl) ?_
  obtain ⟨b_1, hb_2, ho_3, h⟩ := h
  refine r_getR S hw 3 8 rfl inG3 (by decide) (List.mem_cons_of_mem _ wg104) (by decide) ha0 hb_2 (dd_at ddX3_knowPerson 1 rfl) ?_
  refine lv_iconst (v := 3) S.1 S.2.1 (dd_at ddX3_knowPerson 2 rfl) (by decide) ?_
  refine lv_iload_n S.1 S.2.1 (dd_at ddX3_knowPerson 3 rfl) rfl (lv_at hl 2 rfl) ?_
  refine r_callV hw (r_runV (As := [.int 3, .int p2]) (rest := []) S hw (m_X0_know l D cs E d H.size b_1 3 p2 _) (cwV 2 S.2.2.2.2 (gV wg710 wg711 wg712 wg103 wg713) rfl rfl rfl (by decide +kernel) ⟨Nat.le_of_ble_eq_true rfl, Nat.le_of_ble_eq_true rfl⟩) (ci := 0) rfl ho_3 h rfl hl.1 rfl (Nat.le_of_ble_eq_true rfl) (dd_at ddX3_knowPerson 4 rfl) ⟨Nat.le_of_ble_eq_true rfl, Nat.le_of_ble_eq_true rfl⟩) (fun d_4 H locs h hw => ?_)
  refine lv_aload_n S.1 S.2.1 (dd_at ddX3_knowPerson 5 rfl) rfl (lv_at hl 0 rfl) ?_
  obtain ⟨b_6, hb_7, ho_8, h⟩ := h
  refine r_getR S hw 3 8 rfl inG3 (by decide) (List.mem_cons_of_mem _ wg104) (by decide) ha0 hb_7 (dd_at ddX3_knowPerson 6 rfl) ?_
  refine lv_iconst (v := 1) S.1 S.2.1 (dd_at ddX3_knowPerson 7 rfl) (by decide) ?_
  refine lv_iconst (v := 0) S.1 S.2.1 (dd_at ddX3_knowPerson 8 rfl) (by decide) ?_
  refine lv_iload_n S.1 S.2.1 (dd_at ddX3_knowPerson 9 rfl) rfl (lv_at hl 2 rfl) ?_
  refine lv_aload_n S.1 S.2.1 (dd_at ddX3_knowPerson 10 rfl) rfl (lv_at hl 0 rfl) ?_
  obtain ⟨b_9, hb_10, ho_11, h⟩ := h
  refine r_getR S hw 3 0 rfl inG3 (by decide) (List.mem_cons_of_mem _ wg105) (by decide) ha0 hb_10 (dd_at ddX3_knowPerson 11 rfl) ?_
  obtain ⟨b_12, hb_13, ho_14, h⟩ := h
  refine r_getRN S hw 8 1 rfl inG8 (by decide) nx1 (by decide) ho_11 hb_13 (dd_at ddX3_knowPerson 12 rfl) ?_
  refine lv_iload_n S.1 S.2.1 (dd_at ddX3_knowPerson 13 rfl) rfl (lv_at hl 1 rfl) ?_
  refine lv_iconst (v := 0) S.1 S.2.1 (dd_at ddX3_knowPerson 14 rfl) (by decide) ?_
  refine r_callI hw (r_runV (As := [.int p1, .int 0]) (rest := [.int p2, .int 0, .int 1, .ref b_6]) S hw (m_X6_get l D cs E d_4 H.size b_12 p1 0 _) (cwV 2 S.2.2.2.2 (gV wg673 wg623 wg624 wg51 wg625) rfl rfl rfl (by decide +kernel) ⟨Nat.le_of_ble_eq_true rfl, Nat.le_of_ble_eq_true rfl⟩) (ci := 6) rfl ho_14 h rfl hl.1 rfl (Nat.le_of_ble_eq_true rfl) (dd_at ddX3_knowPerson 15 rfl) ⟨Nat.le_of_ble_eq_true rfl, Nat.le_of_ble_eq_true rfl⟩) (fun r_16 d_15 H locs h hw => ?_)
  refine lv_isub S.1 S.2.1 (dd_at ddX3_knowPerson 16 rfl) ?_
  refine va_mmax S.1 S.2.1 (by rw [hl.1]; exact S.2.2.1) S.2.2.2.1 (S.2.2.2.2 _ (List.mem_cons_of_mem _ wg718)) (S.2.2.2.2 _ (List.mem_cons_of_mem _ wg69)) (S.2.2.2.2 _ (List.mem_cons_of_mem _ wg70)) (S.2.2.2.2 _ (List.mem_cons_of_mem _ wg71)) (Nat.le_of_ble_eq_true rfl) (Nat.le_of_ble_eq_true rfl) (Nat.le_of_ble_eq_true rfl) (Nat.le_of_ble_eq_true rfl) (dd_at ddX3_knowPerson 17 rfl) ?_
  refine r_callV hw (r_runV (As := [.int 1, .int (if 0 < (p2 - r_16) then (p2 - r_16) else 0)]) (rest := []) S hw (m_X0_know l D cs E d_15 H.size b_6 1 (if 0 < (p2 - r_16) then (p2 - r_16) else 0) _) (cwV 2 S.2.2.2.2 (gV wg710 wg711 wg712 wg103 wg713) rfl rfl rfl (by decide +kernel) ⟨Nat.le_of_ble_eq_true rfl, Nat.le_of_ble_eq_true rfl⟩) (ci := 0) rfl ho_8 h rfl hl.1 rfl (Nat.le_of_ble_eq_true rfl) (dd_at ddX3_knowPerson 18 rfl) ⟨Nat.le_of_ble_eq_true rfl, Nat.le_of_ble_eq_true rfl⟩) (fun d_17 H locs h hw => ?_)
  refine lv_aload_n S.1 S.2.1 (dd_at ddX3_knowPerson 19 rfl) rfl (lv_at hl 0 rfl) ?_
  obtain ⟨b_19, hb_20, ho_21, h⟩ := h
  refine r_getR S hw 3 8 rfl inG3 (by decide) (List.mem_cons_of_mem _ wg104) (by decide) ha0 hb_20 (dd_at ddX3_knowPerson 20 rfl) ?_
  refine lv_iconst (v := 2) S.1 S.2.1 (dd_at ddX3_knowPerson 21 rfl) (by decide) ?_
  refine lv_aload_n S.1 S.2.1 (dd_at ddX3_knowPerson 22 rfl) rfl (lv_at hl 0 rfl) ?_
  refine lv_iload_n S.1 S.2.1 (dd_at ddX3_knowPerson 23 rfl) rfl (lv_at hl 1 rfl) ?_
  refine r_callI hw (r_runV (As := [.int p1]) (rest := [.int 2, .ref b_19]) S hw (m_X3_childrenOf l D cs E d_17 H.size a0 p1 _) (cwV 1 S.2.2.2.2 (gV wg719 wg720 wg721 wg25 wg722) rfl rfl rfl (by decide +kernel) ⟨Nat.le_of_ble_eq_true rfl, Nat.le_of_ble_eq_true rfl⟩) (ci := 3) rfl ha0 h rfl hl.1 rfl (Nat.le_of_ble_eq_true rfl) (dd_at ddX3_knowPerson 24 rfl) ⟨Nat.le_of_ble_eq_true rfl, Nat.le_of_ble_eq_true rfl⟩) (fun r_23 d_22 H locs h hw => ?_)
  refine r_callI hw (r_runS (As := [.int r_23]) (rest := [.int 2, .ref b_19]) S hw (m_J6_bitCount_0f7a4 l D cs E d_22 H.size r_23 _) (va_cwS 1 S.2.2.2.2 (gS wg723 wg724 wg725 wg726) rfl rfl rfl (by decide +kernel) ⟨Nat.le_of_ble_eq_true rfl, Nat.le_of_ble_eq_true rfl⟩) h rfl hl.1 rfl (Nat.le_of_ble_eq_true rfl) (dd_at ddX3_knowPerson 25 rfl) ⟨Nat.le_of_ble_eq_true rfl, Nat.le_of_ble_eq_true rfl⟩) (fun r_25 d_24 H locs h hw => ?_)
  refine r_callV hw (r_runV (As := [.int 2, .int r_25]) (rest := []) S hw (m_X0_know l D cs E d_24 H.size b_19 2 r_25 _) (cwV 2 S.2.2.2.2 (gV wg710 wg711 wg712 wg103 wg713) rfl rfl rfl (by decide +kernel) ⟨Nat.le_of_ble_eq_true rfl, Nat.le_of_ble_eq_true rfl⟩) (ci := 0) rfl ho_21 h rfl hl.1 rfl (Nat.le_of_ble_eq_true rfl) (dd_at ddX3_knowPerson 26 rfl) ⟨Nat.le_of_ble_eq_true rfl, Nat.le_of_ble_eq_true rfl⟩) (fun d_26 H locs h hw => ?_)
  refine lv_aload_n S.1 S.2.1 (dd_at ddX3_knowPerson 27 rfl) rfl (lv_at hl 0 rfl) ?_
  obtain ⟨b_28, hb_29, ho_30, h⟩ := h
  refine r_getR S hw 3 8 rfl inG3 (by decide) (List.mem_cons_of_mem _ wg104) (by decide) ha0 hb_29 (dd_at ddX3_knowPerson 28 rfl) ?_
  refine lv_bipush (v := 8) S.1 S.2.1 (dd_at ddX3_knowPerson 29 rfl) (by decide) ?_
  refine lv_aload_n S.1 S.2.1 (dd_at ddX3_knowPerson 30 rfl) rfl (lv_at hl 0 rfl) ?_
  obtain ⟨b_31, hb_32, ho_33, h⟩ := h
  refine r_getR S hw 3 0 rfl inG3 (by decide) (List.mem_cons_of_mem _ wg105) (by decide) ha0 hb_32 (dd_at ddX3_knowPerson 31 rfl) ?_
  obtain ⟨b_34, hb_35, ho_36, h⟩ := h
  refine r_getRN S hw 8 1 rfl inG8 (by decide) nx1 (by decide) ho_33 hb_35 (dd_at ddX3_knowPerson 32 rfl) ?_
  refine lv_iload_n S.1 S.2.1 (dd_at ddX3_knowPerson 33 rfl) rfl (lv_at hl 1 rfl) ?_
  refine lv_iconst (v := 2) S.1 S.2.1 (dd_at ddX3_knowPerson 34 rfl) (by decide) ?_
  refine r_callI hw (r_runV (As := [.int p1, .int 2]) (rest := [.int 8, .ref b_28]) S hw (m_X6_get l D cs E d_26 H.size b_34 p1 2 _) (cwV 2 S.2.2.2.2 (gV wg673 wg623 wg624 wg51 wg625) rfl rfl rfl (by decide +kernel) ⟨Nat.le_of_ble_eq_true rfl, Nat.le_of_ble_eq_true rfl⟩) (ci := 6) rfl ho_36 h rfl hl.1 rfl (Nat.le_of_ble_eq_true rfl) (dd_at ddX3_knowPerson 35 rfl) ⟨Nat.le_of_ble_eq_true rfl, Nat.le_of_ble_eq_true rfl⟩) (fun r_38 d_37 H locs h hw => ?_)
  refine r_callV hw (r_runV (As := [.int 8, .int r_38]) (rest := []) S hw (m_X0_know l D cs E d_37 H.size b_28 8 r_38 _) (cwV 2 S.2.2.2.2 (gV wg710 wg711 wg712 wg103 wg713) rfl rfl rfl (by decide +kernel) ⟨Nat.le_of_ble_eq_true rfl, Nat.le_of_ble_eq_true rfl⟩) (ci := 0) rfl ho_30 h rfl hl.1 rfl (Nat.le_of_ble_eq_true rfl) (dd_at ddX3_knowPerson 36 rfl) ⟨Nat.le_of_ble_eq_true rfl, Nat.le_of_ble_eq_true rfl⟩) (fun d_39 H locs h hw => ?_)
  exact e_V S hr hlocks hw h (dd_at ddX3_knowPerson 37 rfl)

def w_X3_claimOf (E : En) (a0 : Nat) (p1 : Int32) (p2 : Int32) (d : Dy) (K : Int32 → Dy → Prop) : Prop := okO E a0 3 ∧ ∃ b_1 : Nat, eR E a0 0 = some b_1 ∧ okO E b_1 8 ∧ w_X8_inForce E b_1 2 d (fun r_5 d_4 => ((r_5 = none → K 0 d_4) ∧ (∀ b_7 : Nat, r_5 = some b_7 → okO E b_7 7 ∧ w_X3_knowPerson E a0 p1 (gI d_4 a0 2) d_4 (fun d_9 => ∃ b_11 : Nat, eR E a0 8 = some b_11 ∧ okO E b_11 0 ∧ w_X0_know E b_11 7 ((gI d_9 a0 2) - p2) d_9 (fun d_14 => ∃ b_16 : Nat, eR E a0 8 = some b_16 ∧ okO E b_16 0 ∧ w_X7_total E b_7 b_16 d_14 (fun r_20 d_19 => K r_20 d_19))))))
abbrev rm_X3_claimOf : Room := { frames := 4, cells := 0, slots := 0, locals := 93 }
set_option maxRecDepth 100000 in
set_option maxHeartbeats 4000000 in
theorem m_X3_claimOf (l : Launch) (D : va_G) (cs : Nat → ClassId) (E : En) (d : Dy) (sz : Nat) (a0 : Nat) (p1 : Int32) (p2 : Int32) (K : Int32 → Dy → Prop) : CI l yX3_claimOf (.code yX3_claimOf cX3_claimOf 4 (some .int) :: wsL_law) rm_X3_claimOf D cs E d sz [.ref a0, .int p1, .int p2] (w_X3_claimOf E a0 p1 p2 d K) K := by
  refine e_of (cc := cX3_claimOf) (maxL := 4) (ret := (some .int)) (own := RX3) (by decide) rfl rfl (Nat.le_of_ble_eq_true rfl) ?_
  intro p e s m below meth c S hr hlocks hsz H locs hw h ls hl
  have hl : lv_has ls 4 [(0, .ref a0), (1, .int p1), (2, .int p2)] := hl
  unfold w_X3_claimOf at h
  obtain ⟨ha0, h⟩ := h
  refine lv_aload_n S.1 S.2.1 (dd_at ddX3_claimOf 0 rfl) rfl (lv_at hl 0 rfl) ?_
  obtain ⟨b_1, hb_2, ho_3, h⟩ := h
  refine r_getR S hw 3 0 rfl inG3 (by decide) (List.mem_cons_of_mem _ wg105) (by decide) ha0 hb_2 (dd_at ddX3_claimOf 1 rfl) ?_
  refine lv_iconst (v := 2) S.1 S.2.1 (dd_at ddX3_claimOf 2 rfl) (by decide) ?_
  refine r_callQ hw (r_runV (As := [.int 2]) (rest := []) S hw (m_X8_inForce l D cs E d H.size b_1 2 _) (cwV 1 S.2.2.2.2 (gV wg702 wg703 wg704 wg15 wg705) rfl rfl rfl (by decide +kernel) ⟨Nat.le_of_ble_eq_true rfl, Nat.le_of_ble_eq_true rfl⟩) (ci := 8) rfl ho_3 h rfl hl.1 rfl (Nat.le_of_ble_eq_true rfl) (dd_at ddX3_claimOf 3 rfl) ⟨Nat.le_of_ble_eq_true rfl, Nat.le_of_ble_eq_true rfl⟩) (fun r_5 d_4 H locs h hw => ?_)
  refine lv_astore_nQ (lv' := [(3, va_rf r_5), (0, .ref a0), (1, .int p1), (2, .int p2)]) S.1 S.2.1 (dd_at ddX3_claimOf 4 rfl) rfl hl (by decide) rfl (fun ls hl => ?_)
  refine lv_aload_nQ S.1 S.2.1 (dd_at ddX3_claimOf 5 rfl) rfl (lv_at hl 0 rfl) ?_
  rcases Option.eq_none_or_eq_some r_5 with hq_21 | ⟨b_7, hq_21⟩
  · have h := h.1 hq_21
    rw [hq_21] at hl
    rw [hq_21]
    have hl : lv_has ls 4 [(3, va_rf none), (0, .ref a0), (1, .int p1), (2, .int p2)] := hl
    refine lv_ifnonnullN S.1 S.2.1 (dd_at ddX3_claimOf 6 rfl) ?_
    refine lv_iconst (v := 0) S.1 S.2.1 (dd_at ddX3_claimOf 7 rfl) (by decide) ?_
    exact e_I S hr hlocks hw h (dd_at ddX3_claimOf 8 rfl)
  · obtain ⟨ho_8, h⟩ := h.2 b_7 hq_21
    rw [hq_21] at hl
    rw [hq_21]
    have hl : lv_has ls 4 [(3, .ref b_7), (0, .ref a0), (1, .int p1), (2, .int p2)] := hl
    refine lv_ifnonnull (tgt := 15) S.1 S.2.1 (dd_at ddX3_claimOf 6 rfl) (by decide) ?_
    refine lv_aload_n S.1 S.2.1 (dd_at ddX3_claimOf 9 rfl) rfl (lv_at hl 1 rfl) ?_
    refine lv_iload_n S.1 S.2.1 (dd_at ddX3_claimOf 10 rfl) rfl (lv_at hl 2 rfl) ?_
    refine lv_aload_n S.1 S.2.1 (dd_at ddX3_claimOf 11 rfl) rfl (lv_at hl 1 rfl) ?_
    refine r_getI S hw 3 2 rfl inG3 (by decide) (List.mem_cons_of_mem _ wg666) (by decide) ha0 (dd_at ddX3_claimOf 12 rfl) ?_
    refine r_callV hw (r_runV (As := [.int p1, .int (gI d_4 a0 2)]) (rest := []) S hw (m_X3_knowPerson l D cs E d_4 H.size a0 p1 (gI d_4 a0 2) _) (cwV 2 S.2.2.2.2 (gV wg714 wg715 wg716 wg25 wg717) rfl rfl rfl (by decide +kernel) ⟨Nat.le_of_ble_eq_true rfl, Nat.le_of_ble_eq_true rfl⟩) (ci := 3) rfl ha0 h rfl hl.1 rfl (Nat.le_of_ble_eq_true rfl) (dd_at ddX3_claimOf 13 rfl) ⟨Nat.le_of_ble_eq_true rfl, Nat.le_of_ble_eq_true rfl⟩) (fun d_9 H locs h hw => ?_)
    refine lv_aload_n S.1 S.2.1 (dd_at ddX3_claimOf 14 rfl) rfl (lv_at hl 1 rfl) ?_
    obtain ⟨b_11, hb_12, ho_13, h⟩ := h
    refine r_getR S hw 3 8 rfl inG3 (by decide) (List.mem_cons_of_mem _ wg104) (by decide) ha0 hb_12 (dd_at ddX3_claimOf 15 rfl) ?_
    refine lv_bipush (v := 7) S.1 S.2.1 (dd_at ddX3_claimOf 16 rfl) (by decide) ?_
    refine lv_aload_n S.1 S.2.1 (dd_at ddX3_claimOf 17 rfl) rfl (lv_at hl 1 rfl) ?_
    refine r_getI S hw 3 2 rfl inG3 (by decide) (List.mem_cons_of_mem _ wg666) (by decide) ha0 (dd_at ddX3_claimOf 18 rfl) ?_
    refine lv_iload_n S.1 S.2.1 (dd_at ddX3_claimOf 19 rfl) rfl (lv_at hl 3 rfl) ?_
    refine lv_isub S.1 S.2.1 (dd_at ddX3_claimOf 20 rfl) ?_
    refine r_callV hw (r_runV (As := [.int 7, .int ((gI d_9 a0 2) - p2)]) (rest := []) S hw (m_X0_know l D cs E d_9 H.size b_11 7 ((gI d_9 a0 2) - p2) _) (cwV 2 S.2.2.2.2 (gV wg710 wg711 wg712 wg103 wg713) rfl rfl rfl (by decide +kernel) ⟨Nat.le_of_ble_eq_true rfl, Nat.le_of_ble_eq_true rfl⟩) (ci := 0) rfl ho_13 h rfl hl.1 rfl (Nat.le_of_ble_eq_true rfl) (dd_at ddX3_claimOf 21 rfl) ⟨Nat.le_of_ble_eq_true rfl, Nat.le_of_ble_eq_true rfl⟩) (fun d_14 H locs h hw => ?_)
    refine lv_aload_n S.1 S.2.1 (dd_at ddX3_claimOf 22 rfl) rfl (lv_at hl 0 rfl) ?_
    refine lv_aload_n S.1 S.2.1 (dd_at ddX3_claimOf 23 rfl) rfl (lv_at hl 1 rfl) ?_
    obtain ⟨b_16, hb_17, ho_18, h⟩ := h
    refine r_getR S hw 3 8 rfl inG3 (by decide) (List.mem_cons_of_mem _ wg104) (by decide) ha0 hb_17 (dd_at ddX3_claimOf 24 rfl) ?_
    refine r_callI hw (r_runV (As := [.ref b_16]) (rest := []) S hw (m_X7_total l D cs E d_14 H.size b_7 b_16 _) (cwV 1 S.2.2.2.2 (gV wg968 wg969 wg970 wg370 wg971) rfl rfl rfl (by decide +kernel) ⟨Nat.le_of_ble_eq_true rfl, Nat.le_of_ble_eq_true rfl⟩) (ci := 7) rfl ho_8 h rfl hl.1 rfl (Nat.le_of_ble_eq_true rfl) (dd_at ddX3_claimOf 25 rfl) ⟨Nat.le_of_ble_eq_true rfl, Nat.le_of_ble_eq_true rfl⟩) (fun r_20 d_19 H locs h hw => ?_)
    exact e_I S hr hlocks hw h (dd_at ddX3_claimOf 26 rfl)

def w_X3_init (E : En) (a0 : Nat) (a1 : Nat) (d : Dy) (K : En → Dy → Prop) : Prop := okO E a0 3 ∧ okO E a1 8 ∧ ∀ q_1 : Nat, q_1 ∉ eL E → w_X6_init (nE E q_1 6 0) q_1 12 3 (nD d q_1) (fun E_4 d_5 => ∀ q_7 : Nat, q_7 ∉ eL (sR E_4 a0 5 (some q_1)) → w_X6_init (nE (sR E_4 a0 5 (some q_1)) q_7 6 0) q_7 10 2 (nD d_5 q_7) (fun E_10 d_11 => ∀ q_13 : Nat, q_13 ∉ eL (sR E_10 a0 6 (some q_7)) → w_X6_init (nE (sR E_10 a0 6 (some q_7)) q_13 6 0) q_13 10 1 (nD d_11 q_13) (fun E_16 d_17 => ∀ q_19 : Nat, q_19 ∉ eL (sR E_16 a0 7 (some q_13)) → w_X0_init (nE (sR E_16 a0 7 (some q_13)) q_19 0 0) q_19 (nD d_17 q_19) (fun E_22 d_23 => K (sR (sR E_22 a0 8 (some q_19)) a0 0 (some a1)) d_23))))
abbrev rm_X3_init : Room := { frames := 2, cells := 9, slots := 1248, locals := 62 }
set_option maxRecDepth 100000 in
set_option maxHeartbeats 4000000 in
theorem m_X3_init (l : Launch) (D : va_G) (cs : Nat → ClassId) (E : En) (d : Dy) (sz : Nat) (a0 : Nat) (a1 : Nat) (K : En → Dy → Prop) : LV l yX3_init (.code yX3_init cX3_init 2 none :: wsL_law) rm_X3_init D cs E d sz [.ref a0, .ref a1] (w_X3_init E a0 a1 d K) K := by
  refine e_ofN (cc := cX3_init) (maxL := 2) (ret := none) (own := RX3) (by decide) rfl rfl (Nat.le_of_ble_eq_true rfl) ?_
  intro p e s m below meth c S hr hlocks hinit hsz H locs hw h ls hl
  have hx : Ext E E := Ext_rf E
  have hinit : meth.name = "<init>" := hinit
  have hl : lv_has ls 2 [(0, .ref a0), (1, .ref a1)] := hl
  unfold w_X3_init at h
  obtain ⟨ha0, h⟩ := h
  obtain ⟨ha1, h⟩ := h
  refine lv_aload_n S.1 S.2.1 (dd_at ddX3_init 0 rfl) rfl (lv_at hl 0 rfl) ?_
  refine W.objInit S.1 S.2.1 S.2.2.2.1 (S.2.2.2.2 _ (List.mem_cons_of_mem _ wg96)) (S.2.2.2.2 _ (List.mem_cons_of_mem _ wg11)) (S.2.2.2.2 _ (List.mem_cons_of_mem _ wg12)) rfl (by rw [S.2.2.1]; exact hl.1) rfl (dd_at ddX3_init 1 rfl) (Nat.le_of_ble_eq_true rfl) (Nat.le_of_ble_eq_true rfl) ?_
  refine W.eq (g2 := F0 m 4 ls []) rfl ?_
  refine lv_aload_n S.1 S.2.1 (dd_at ddX3_init 2 rfl) rfl (lv_at hl 0 rfl) ?_
  refine r_new S hw 6 rfl (by decide) inG6 tyX6 tyX6_ok (List.mem_cons_of_mem _ wg97) (List.mem_cons_of_mem _ wg50) (List.mem_cons_of_mem _ wg51) dF6 (Nat.le_of_ble_eq_true rfl) (Nat.le_of_ble_eq_true rfl) (dd_at ddX3_init 3 rfl) (fun q_1 H hq_2 hw => ?_)
  refine W.widen (k := 1) (n := 4) (Nat.le_of_ble_eq_true rfl) (Nat.le_of_ble_eq_true rfl) ?_
  have h := h q_1 hq_2
  have ha0 := Ext_O (Ext_nE 6 0 hq_2) ha0
  have ha1 := Ext_O (Ext_nE 6 0 hq_2) ha1
  have hx := Ext_tr hx (Ext_nE 6 0 hq_2)
  have ho_3 := okO_new E q_1 0 (ci := 6) (by decide)
  refine lv_dup S.1 S.2.1 (dd_at ddX3_init 4 rfl) rfl ?_
  refine lv_bipush (v := 12) S.1 S.2.1 (dd_at ddX3_init 5 rfl) (by decide) ?_
  refine lv_iconst (v := 3) S.1 S.2.1 (dd_at ddX3_init 6 rfl) (by decide) ?_
  refine r_callVL hw (r_runI (As := [.int 12, .int 3]) (rest := [.ref q_1, .ref a0]) S hw (m_X6_init l D cs (nE E q_1 6 0) (nD d q_1) H.size q_1 12 3 _) (cwI 2 S.2.2.2.2 (gC wg66) rfl rfl rfl (S.2.2.2.2 _ (List.mem_cons_of_mem _ wg51)) (S.2.2.2.2 _ (List.mem_cons_of_mem _ wg106)) (S.2.2.2.2 _ (List.mem_cons_of_mem _ wg65)) rfl (by decide +kernel) ⟨Nat.le_of_ble_eq_true rfl, Nat.le_of_ble_eq_true rfl⟩) h rfl hl.1 rfl (Nat.le_of_ble_eq_true rfl) (dd_at ddX3_init 7 rfl) ⟨Nat.le_of_ble_eq_true rfl, Nat.le_of_ble_eq_true rfl⟩) (fun E_4 d_5 H locs h hx_6 hw => ?_)
  have ha0 := Ext_O hx_6 ha0
  have ha1 := Ext_O hx_6 ha1
  have ho_3 := Ext_O hx_6 ho_3
  have hx := Ext_tr hx hx_6
  refine r_putRF S hw hinit 3 5 (ty := (.object "HutRow$Table")) rfl inG3 tyX3 tyX3_ok nmX3 (by decide) (List.mem_cons_of_mem _ wg98) (by decide) rfl rfl (by decide +kernel) rfl rfl ha0 (dd_at ddX3_init 8 rfl) (fun H locs hw => ?_)
  have ha0 := Ext_O (Ext_sR _ a0 5 (some q_1)) ha0
  have ha1 := Ext_O (Ext_sR _ a0 5 (some q_1)) ha1
  have ho_3 := Ext_O (Ext_sR _ a0 5 (some q_1)) ho_3
  have hx := Ext_tr hx (Ext_sR _ a0 5 (some q_1))
  refine lv_aload_n S.1 S.2.1 (dd_at ddX3_init 9 rfl) rfl (lv_at hl 0 rfl) ?_
  refine r_new S hw 6 rfl (by decide) inG6 tyX6 tyX6_ok (List.mem_cons_of_mem _ wg97) (List.mem_cons_of_mem _ wg50) (List.mem_cons_of_mem _ wg51) dF6 (Nat.le_of_ble_eq_true rfl) (Nat.le_of_ble_eq_true rfl) (dd_at ddX3_init 10 rfl) (fun q_7 H hq_8 hw => ?_)
  refine W.widen (k := 3) (n := 408) (Nat.le_of_ble_eq_true rfl) (Nat.le_of_ble_eq_true rfl) ?_
  have h := h q_7 hq_8
  have ha0 := Ext_O (Ext_nE 6 0 hq_8) ha0
  have ha1 := Ext_O (Ext_nE 6 0 hq_8) ha1
  have ho_3 := Ext_O (Ext_nE 6 0 hq_8) ho_3
  have hx := Ext_tr hx (Ext_nE 6 0 hq_8)
  have ho_9 := okO_new (sR E_4 a0 5 (some q_1)) q_7 0 (ci := 6) (by decide)
  refine lv_dup S.1 S.2.1 (dd_at ddX3_init 11 rfl) rfl ?_
  refine lv_bipush (v := 10) S.1 S.2.1 (dd_at ddX3_init 12 rfl) (by decide) ?_
  refine lv_iconst (v := 2) S.1 S.2.1 (dd_at ddX3_init 13 rfl) (by decide) ?_
  refine r_callVL hw (r_runI (As := [.int 10, .int 2]) (rest := [.ref q_7, .ref a0]) S hw (m_X6_init l D cs (nE (sR E_4 a0 5 (some q_1)) q_7 6 0) (nD d_5 q_7) H.size q_7 10 2 _) (cwI 2 S.2.2.2.2 (gC wg66) rfl rfl rfl (S.2.2.2.2 _ (List.mem_cons_of_mem _ wg51)) (S.2.2.2.2 _ (List.mem_cons_of_mem _ wg106)) (S.2.2.2.2 _ (List.mem_cons_of_mem _ wg65)) rfl (by decide +kernel) ⟨Nat.le_of_ble_eq_true rfl, Nat.le_of_ble_eq_true rfl⟩) h rfl hl.1 rfl (Nat.le_of_ble_eq_true rfl) (dd_at ddX3_init 14 rfl) ⟨Nat.le_of_ble_eq_true rfl, Nat.le_of_ble_eq_true rfl⟩) (fun E_10 d_11 H locs h hx_12 hw => ?_)
  have ha0 := Ext_O hx_12 ha0
  have ha1 := Ext_O hx_12 ha1
  have ho_3 := Ext_O hx_12 ho_3
  have ho_9 := Ext_O hx_12 ho_9
  have hx := Ext_tr hx hx_12
  refine r_putRF S hw hinit 3 6 (ty := (.object "HutRow$Table")) rfl inG3 tyX3 tyX3_ok nmX3 (by decide) (List.mem_cons_of_mem _ wg99) (by decide) rfl rfl (by decide +kernel) rfl rfl ha0 (dd_at ddX3_init 15 rfl) (fun H locs hw => ?_)
  have ha0 := Ext_O (Ext_sR _ a0 6 (some q_7)) ha0
  have ha1 := Ext_O (Ext_sR _ a0 6 (some q_7)) ha1
  have ho_3 := Ext_O (Ext_sR _ a0 6 (some q_7)) ho_3
  have ho_9 := Ext_O (Ext_sR _ a0 6 (some q_7)) ho_9
  have hx := Ext_tr hx (Ext_sR _ a0 6 (some q_7))
  refine lv_aload_n S.1 S.2.1 (dd_at ddX3_init 16 rfl) rfl (lv_at hl 0 rfl) ?_
  refine r_new S hw 6 rfl (by decide) inG6 tyX6 tyX6_ok (List.mem_cons_of_mem _ wg97) (List.mem_cons_of_mem _ wg50) (List.mem_cons_of_mem _ wg51) dF6 (Nat.le_of_ble_eq_true rfl) (Nat.le_of_ble_eq_true rfl) (dd_at ddX3_init 17 rfl) (fun q_13 H hq_14 hw => ?_)
  refine W.widen (k := 5) (n := 812) (Nat.le_of_ble_eq_true rfl) (Nat.le_of_ble_eq_true rfl) ?_
  have h := h q_13 hq_14
  have ha0 := Ext_O (Ext_nE 6 0 hq_14) ha0
  have ha1 := Ext_O (Ext_nE 6 0 hq_14) ha1
  have ho_3 := Ext_O (Ext_nE 6 0 hq_14) ho_3
  have ho_9 := Ext_O (Ext_nE 6 0 hq_14) ho_9
  have hx := Ext_tr hx (Ext_nE 6 0 hq_14)
  have ho_15 := okO_new (sR E_10 a0 6 (some q_7)) q_13 0 (ci := 6) (by decide)
  refine lv_dup S.1 S.2.1 (dd_at ddX3_init 18 rfl) rfl ?_
  refine lv_bipush (v := 10) S.1 S.2.1 (dd_at ddX3_init 19 rfl) (by decide) ?_
  refine lv_iconst (v := 1) S.1 S.2.1 (dd_at ddX3_init 20 rfl) (by decide) ?_
  refine r_callVL hw (r_runI (As := [.int 10, .int 1]) (rest := [.ref q_13, .ref a0]) S hw (m_X6_init l D cs (nE (sR E_10 a0 6 (some q_7)) q_13 6 0) (nD d_11 q_13) H.size q_13 10 1 _) (cwI 2 S.2.2.2.2 (gC wg66) rfl rfl rfl (S.2.2.2.2 _ (List.mem_cons_of_mem _ wg51)) (S.2.2.2.2 _ (List.mem_cons_of_mem _ wg106)) (S.2.2.2.2 _ (List.mem_cons_of_mem _ wg65)) rfl (by decide +kernel) ⟨Nat.le_of_ble_eq_true rfl, Nat.le_of_ble_eq_true rfl⟩) h rfl hl.1 rfl (Nat.le_of_ble_eq_true rfl) (dd_at ddX3_init 21 rfl) ⟨Nat.le_of_ble_eq_true rfl, Nat.le_of_ble_eq_true rfl⟩) (fun E_16 d_17 H locs h hx_18 hw => ?_)
  have ha0 := Ext_O hx_18 ha0
  have ha1 := Ext_O hx_18 ha1
  have ho_3 := Ext_O hx_18 ho_3
  have ho_9 := Ext_O hx_18 ho_9
  have ho_15 := Ext_O hx_18 ho_15
  have hx := Ext_tr hx hx_18
  refine r_putRF S hw hinit 3 7 (ty := (.object "HutRow$Table")) rfl inG3 tyX3 tyX3_ok nmX3 (by decide) (List.mem_cons_of_mem _ wg100) (by decide) rfl rfl (by decide +kernel) rfl rfl ha0 (dd_at ddX3_init 22 rfl) (fun H locs hw => ?_)
  have ha0 := Ext_O (Ext_sR _ a0 7 (some q_13)) ha0
  have ha1 := Ext_O (Ext_sR _ a0 7 (some q_13)) ha1
  have ho_3 := Ext_O (Ext_sR _ a0 7 (some q_13)) ho_3
  have ho_9 := Ext_O (Ext_sR _ a0 7 (some q_13)) ho_9
  have ho_15 := Ext_O (Ext_sR _ a0 7 (some q_13)) ho_15
  have hx := Ext_tr hx (Ext_sR _ a0 7 (some q_13))
  refine lv_aload_n S.1 S.2.1 (dd_at ddX3_init 23 rfl) rfl (lv_at hl 0 rfl) ?_
  refine r_new S hw 0 rfl (by decide) inG0 tyX0 tyX0_ok (List.mem_cons_of_mem _ wg101) (List.mem_cons_of_mem _ wg102) (List.mem_cons_of_mem _ wg103) dF0 (Nat.le_of_ble_eq_true rfl) (Nat.le_of_ble_eq_true rfl) (dd_at ddX3_init 24 rfl) (fun q_19 H hq_20 hw => ?_)
  refine W.widen (k := 7) (n := 1215) (Nat.le_of_ble_eq_true rfl) (Nat.le_of_ble_eq_true rfl) ?_
  have h := h q_19 hq_20
  have ha0 := Ext_O (Ext_nE 0 0 hq_20) ha0
  have ha1 := Ext_O (Ext_nE 0 0 hq_20) ha1
  have ho_3 := Ext_O (Ext_nE 0 0 hq_20) ho_3
  have ho_9 := Ext_O (Ext_nE 0 0 hq_20) ho_9
  have ho_15 := Ext_O (Ext_nE 0 0 hq_20) ho_15
  have hx := Ext_tr hx (Ext_nE 0 0 hq_20)
  have ho_21 := okO_new (sR E_16 a0 7 (some q_13)) q_19 0 (ci := 0) (by decide)
  refine lv_dup S.1 S.2.1 (dd_at ddX3_init 25 rfl) rfl ?_
  refine r_callVL hw (r_runIN (As := []) (rest := [.ref q_19, .ref a0]) S hw (m_X0_init l D cs (nE (sR E_16 a0 7 (some q_13)) q_19 0 0) (nD d_17 q_19) H.size q_19 _) ⟨va_cnB 0 S.2.2.2.2 (gC wg108) rfl rfl rfl (hw.2.2.2.2.2.2.1 _ nx23) (S.2.2.2.2 _ (List.mem_cons_of_mem _ wg103)) (by decide +kernel) ⟨Nat.le_of_ble_eq_true rfl, Nat.le_of_ble_eq_true rfl⟩, rfl, (S.2.2.2.2 _ (List.mem_cons_of_mem _ wg107))⟩ h rfl hl.1 rfl (Nat.le_of_ble_eq_true rfl) (dd_at ddX3_init 26 rfl) ⟨Nat.le_of_ble_eq_true rfl, Nat.le_of_ble_eq_true rfl⟩) (fun E_22 d_23 H locs h hx_24 hw => ?_)
  have ha0 := Ext_O hx_24 ha0
  have ha1 := Ext_O hx_24 ha1
  have ho_3 := Ext_O hx_24 ho_3
  have ho_9 := Ext_O hx_24 ho_9
  have ho_15 := Ext_O hx_24 ho_15
  have ho_21 := Ext_O hx_24 ho_21
  have hx := Ext_tr hx hx_24
  refine r_putRF S hw hinit 3 8 (ty := (.object "HutRow$Facts")) rfl inG3 tyX3 tyX3_ok nmX3 (by decide) (List.mem_cons_of_mem _ wg104) (by decide) rfl rfl (by decide +kernel) rfl rfl ha0 (dd_at ddX3_init 27 rfl) (fun H locs hw => ?_)
  have ha0 := Ext_O (Ext_sR _ a0 8 (some q_19)) ha0
  have ha1 := Ext_O (Ext_sR _ a0 8 (some q_19)) ha1
  have ho_3 := Ext_O (Ext_sR _ a0 8 (some q_19)) ho_3
  have ho_9 := Ext_O (Ext_sR _ a0 8 (some q_19)) ho_9
  have ho_15 := Ext_O (Ext_sR _ a0 8 (some q_19)) ho_15
  have ho_21 := Ext_O (Ext_sR _ a0 8 (some q_19)) ho_21
  have hx := Ext_tr hx (Ext_sR _ a0 8 (some q_19))
  refine lv_aload_n S.1 S.2.1 (dd_at ddX3_init 28 rfl) rfl (lv_at hl 0 rfl) ?_
  refine lv_aload_n S.1 S.2.1 (dd_at ddX3_init 29 rfl) rfl (lv_at hl 1 rfl) ?_
  refine r_putRF S hw hinit 3 0 (ty := (.object "HutRow$Told")) rfl inG3 tyX3 tyX3_ok nmX3 (by decide) (List.mem_cons_of_mem _ wg105) (by decide) rfl rfl (by decide +kernel) rfl rfl ha0 (dd_at ddX3_init 30 rfl) (fun H locs hw => ?_)
  have ha0 := Ext_O (Ext_sR _ a0 0 (some a1)) ha0
  have ha1 := Ext_O (Ext_sR _ a0 0 (some a1)) ha1
  have ho_3 := Ext_O (Ext_sR _ a0 0 (some a1)) ho_3
  have ho_9 := Ext_O (Ext_sR _ a0 0 (some a1)) ho_9
  have ho_15 := Ext_O (Ext_sR _ a0 0 (some a1)) ho_15
  have ho_21 := Ext_O (Ext_sR _ a0 0 (some a1)) ho_21
  have hx := Ext_tr hx (Ext_sR _ a0 0 (some a1))
  exact e_VL S hr hlocks hw hx h (dd_at ddX3_init 31 rfl)

def w_X3_hold (E : En) (a0 : Nat) (p1 : Int32) (p2 : Int32) (p3 : Int32) (d : Dy) (K : Dy → Prop) : Prop := okO E a0 3 ∧ ∃ b_1 : Nat, eR E a0 6 = some b_1 ∧ okO E b_1 6 ∧ w_X6_set E b_1 p1 0 p2 d (fun d_4 => ∃ b_6 : Nat, eR E a0 6 = some b_6 ∧ okO E b_6 6 ∧ w_X6_set E b_6 p1 1 p3 d_4 (fun d_9 => K d_9))
abbrev rm_X3_hold : Room := { frames := 1, cells := 0, slots := 0, locals := 23 }
set_option maxRecDepth 100000 in
set_option maxHeartbeats 4000000 in
theorem m_X3_hold (l : Launch) (D : va_G) (cs : Nat → ClassId) (E : En) (d : Dy) (sz : Nat) (a0 : Nat) (p1 : Int32) (p2 : Int32) (p3 : Int32) (K : Dy → Prop) : CV l yX3_hold (.code yX3_hold cX3_hold 4 none :: wsL_law) rm_X3_hold D cs E d sz [.ref a0, .int p1, .int p2, .int p3] (w_X3_hold E a0 p1 p2 p3 d K) K := by
  refine e_of (cc := cX3_hold) (maxL := 4) (ret := none) (own := RX3) (by decide) rfl rfl (Nat.le_of_ble_eq_true rfl) ?_
  intro p e s m below meth c S hr hlocks hsz H locs hw h ls hl
  have hl : lv_has ls 4 [(0, .ref a0), (1, .int p1), (2, .int p2), (3, .int p3)] := hl
  unfold w_X3_hold at h
  obtain ⟨ha0, h⟩ := h
  refine lv_aload_n S.1 S.2.1 (dd_at ddX3_hold 0 rfl) rfl (lv_at hl 0 rfl) ?_
  obtain ⟨b_1, hb_2, ho_3, h⟩ := h
  refine r_getR S hw 3 6 rfl inG3 (by decide) (List.mem_cons_of_mem _ wg99) (by decide) ha0 hb_2 (dd_at ddX3_hold 1 rfl) ?_
  refine lv_iload_n S.1 S.2.1 (dd_at ddX3_hold 2 rfl) rfl (lv_at hl 1 rfl) ?_
  refine lv_iconst (v := 0) S.1 S.2.1 (dd_at ddX3_hold 3 rfl) (by decide) ?_
  refine lv_iload_n S.1 S.2.1 (dd_at ddX3_hold 4 rfl) rfl (lv_at hl 2 rfl) ?_
  refine r_callV hw (r_runV (As := [.int p1, .int 0, .int p2]) (rest := []) S hw (m_X6_set l D cs E d H.size b_1 p1 0 p2 _) (cwV 3 S.2.2.2.2 (gV wg672 wg318 wg319 wg51 wg320) rfl rfl rfl (by decide +kernel) ⟨Nat.le_of_ble_eq_true rfl, Nat.le_of_ble_eq_true rfl⟩) (ci := 6) rfl ho_3 h rfl hl.1 rfl (Nat.le_of_ble_eq_true rfl) (dd_at ddX3_hold 5 rfl) ⟨Nat.le_of_ble_eq_true rfl, Nat.le_of_ble_eq_true rfl⟩) (fun d_4 H locs h hw => ?_)
  refine lv_aload_n S.1 S.2.1 (dd_at ddX3_hold 6 rfl) rfl (lv_at hl 0 rfl) ?_
  obtain ⟨b_6, hb_7, ho_8, h⟩ := h
  refine r_getR S hw 3 6 rfl inG3 (by decide) (List.mem_cons_of_mem _ wg99) (by decide) ha0 hb_7 (dd_at ddX3_hold 7 rfl) ?_
  refine lv_iload_n S.1 S.2.1 (dd_at ddX3_hold 8 rfl) rfl (lv_at hl 1 rfl) ?_
  refine lv_iconst (v := 1) S.1 S.2.1 (dd_at ddX3_hold 9 rfl) (by decide) ?_
  refine lv_iload_n S.1 S.2.1 (dd_at ddX3_hold 10 rfl) rfl (lv_at hl 3 rfl) ?_
  refine r_callV hw (r_runV (As := [.int p1, .int 1, .int p3]) (rest := []) S hw (m_X6_set l D cs E d_4 H.size b_6 p1 1 p3 _) (cwV 3 S.2.2.2.2 (gV wg672 wg318 wg319 wg51 wg320) rfl rfl rfl (by decide +kernel) ⟨Nat.le_of_ble_eq_true rfl, Nat.le_of_ble_eq_true rfl⟩) (ci := 6) rfl ho_8 h rfl hl.1 rfl (Nat.le_of_ble_eq_true rfl) (dd_at ddX3_hold 11 rfl) ⟨Nat.le_of_ble_eq_true rfl, Nat.le_of_ble_eq_true rfl⟩) (fun d_9 H locs h hw => ?_)
  exact e_V S hr hlocks hw h (dd_at ddX3_hold 12 rfl)

def b_X3_begin_83 (E : En) (a0 : Nat) (p1 : Int32) (K : Dy → Prop) (k83 : Int32 → Dy → Prop) (v2 : Int32) (d : Dy) : Prop := ∃ b_1 : Nat, eR E a0 0 = some b_1 ∧ okO E b_1 8 ∧ ∃ b_4 : Nat, eR E b_1 2 = some b_4 ∧ okO E b_4 6 ∧ w_X6_size E b_4 d (fun r_8 d_7 => ((r_8 ≤ v2 → K d_7) ∧ (¬ r_8 ≤ v2 → ∃ b_10 : Nat, eR E a0 6 = some b_10 ∧ okO E b_10 6 ∧ w_X6_open E b_10 d_7 (fun r_14 d_13 => ∃ b_15 : Nat, eR E a0 0 = some b_15 ∧ okO E b_15 8 ∧ ∃ b_18 : Nat, eR E b_15 2 = some b_18 ∧ okO E b_18 6 ∧ w_X6_get E b_18 v2 1 d_13 (fun r_22 d_21 => w_X3_hold E a0 v2 r_22 1900 d_21 (fun d_23 => ∃ b_25 : Nat, eR E a0 7 = some b_25 ∧ okO E b_25 6 ∧ ∃ b_28 : Nat, eR E a0 7 = some b_28 ∧ okO E b_28 6 ∧ w_X6_open E b_28 d_23 (fun r_32 d_31 => w_X6_set E b_25 r_32 0 v2 d_31 (fun d_33 => k83 (v2 + 1) d_33))))))))
def l_X3_begin_83 (E : En) (a0 : Nat) (p1 : Int32) (K : Dy → Prop) : Nat → Int32 → Dy → Prop
  | 0 => fun _ _ => False
  | n + 1 => b_X3_begin_83 E a0 p1 K (l_X3_begin_83 E a0 p1 K n)
def b_X3_begin_31 (E : En) (a0 : Nat) (p1 : Int32) (K : Dy → Prop) (k31 : Int32 → Dy → Prop) (v2 : Int32) (d : Dy) : Prop := ∃ b_35 : Nat, eR E a0 0 = some b_35 ∧ okO E b_35 8 ∧ ∃ b_38 : Nat, eR E b_35 1 = some b_38 ∧ okO E b_38 6 ∧ w_X6_size E b_38 d (fun r_42 d_41 => ((r_42 ≤ v2 → ∃ b_44 : Nat, eR E a0 6 = some b_44 ∧ okO E b_44 6 ∧ w_X6_clear E b_44 d_41 (fun d_47 => ∃ b_49 : Nat, eR E a0 7 = some b_49 ∧ okO E b_49 6 ∧ w_X6_clear E b_49 d_47 (fun d_52 => (∃ n_54 : Nat, l_X3_begin_83 E a0 p1 K n_54 0 d_52)))) ∧ (¬ r_42 ≤ v2 → ∃ b_55 : Nat, eR E a0 5 = some b_55 ∧ okO E b_55 6 ∧ ∃ b_58 : Nat, eR E a0 5 = some b_58 ∧ okO E b_58 6 ∧ w_X6_open E b_58 d_41 (fun r_62 d_61 => w_X6_set E b_55 r_62 0 (-1) d_61 (fun d_63 => k31 (v2 + 1) d_63)))))
def l_X3_begin_31 (E : En) (a0 : Nat) (p1 : Int32) (K : Dy → Prop) : Nat → Int32 → Dy → Prop
  | 0 => fun _ _ => False
  | n + 1 => b_X3_begin_31 E a0 p1 K (l_X3_begin_31 E a0 p1 K n)
def w_X3_begin (E : En) (a0 : Nat) (p1 : Int32) (d : Dy) (K : Dy → Prop) : Prop := okO E a0 3 ∧ ∃ b_65 : Nat, eR E a0 5 = some b_65 ∧ okO E b_65 6 ∧ w_X6_clear E b_65 (pI (pI (pI (pI d a0 1 p1) a0 2 1900) a0 3 0) a0 4 0) (fun d_68 => (∃ n_70 : Nat, l_X3_begin_31 E a0 p1 K n_70 0 d_68))
abbrev rm_X3_begin : Room := { frames := 2, cells := 0, slots := 0, locals := 46 }
set_option maxRecDepth 100000 in
set_option maxHeartbeats 4000000 in
theorem m_X3_begin (l : Launch) (D : va_G) (cs : Nat → ClassId) (E : En) (d : Dy) (sz : Nat) (a0 : Nat) (p1 : Int32) (K : Dy → Prop) : CV l yX3_begin (.code yX3_begin cX3_begin 3 none :: wsL_law) rm_X3_begin D cs E d sz [.ref a0, .int p1] (w_X3_begin E a0 p1 d K) K := by
  refine e_of (cc := cX3_begin) (maxL := 3) (ret := none) (own := RX3) (by decide) rfl rfl (Nat.le_of_ble_eq_true rfl) ?_
  intro p e s m below meth c S hr hlocks hsz H locs hw h ls hl
  have hl : lv_has ls 3 [(0, .ref a0), (1, .int p1)] := hl
  unfold w_X3_begin at h
  obtain ⟨ha0, h⟩ := h
  have tl83 : ∀ (n : Nat) (v2 : Int32) (d : Dy) (H : Heap) (locs : List Loc) (ls : Array Slot), l_X3_begin_83 E a0 p1 K n v2 d → Wd D cs (AW E sz) s.heap s E d H locs → lv_has ls 3 [(0, .ref a0), (2, .int v2)] → W p l e rm_X3_begin s m ([.ref a0, .int p1] : List Value).toArray below meth c H locs 0 0 (MQ below (va_Qv K (OutW D cs E (AW E sz)) (AW E sz)) ([.ref a0, .int p1] : List Value).toArray s rm_X3_begin.cells rm_X3_begin.slots (AW E sz)) (F0 m 83 ls []) := by
    intro n83
    induction n83 with
    | zero => intro v2 d H locs ls h; exact absurd h id
    | succ n83 ih83 =>
      intro v2 d H locs ls h hw hl
      have h : b_X3_begin_83 E a0 p1 K (l_X3_begin_83 E a0 p1 K n83) v2 d := h
      unfold b_X3_begin_83 at h
      refine lv_iload_n S.1 S.2.1 (dd_at ddX3_begin 41 rfl) rfl (lv_at hl 1 rfl) ?_
      refine lv_aload_n S.1 S.2.1 (dd_at ddX3_begin 42 rfl) rfl (lv_at hl 0 rfl) ?_
      obtain ⟨b_1, hb_2, ho_3, h⟩ := h
      refine r_getR S hw 3 0 rfl inG3 (by decide) (List.mem_cons_of_mem _ wg105) (by decide) ha0 hb_2 (dd_at ddX3_begin 43 rfl) ?_
      obtain ⟨b_4, hb_5, ho_6, h⟩ := h
      refine r_getRN S hw 8 2 rfl inG8 (by decide) nx6 (by decide) ho_3 hb_5 (dd_at ddX3_begin 44 rfl) ?_
      refine r_callI hw (r_runV (As := []) (rest := [.int v2]) S hw (m_X6_size l D cs E d H.size b_4 _) (cwV 0 S.2.2.2.2 (gV wg670 wg372 wg373 wg51 wg374) rfl rfl rfl (by decide +kernel) ⟨Nat.le_of_ble_eq_true rfl, Nat.le_of_ble_eq_true rfl⟩) (ci := 6) rfl ho_6 h rfl hl.1 rfl (Nat.le_of_ble_eq_true rfl) (dd_at ddX3_begin 45 rfl) ⟨Nat.le_of_ble_eq_true rfl, Nat.le_of_ble_eq_true rfl⟩) (fun r_8 d_7 H locs h hw => ?_)
      refine lv_icmp_ge (tgt := 147) S.1 S.2.1 (dd_at ddX3_begin 46 rfl) (by decide) (fun hc_9 => ?_) (fun hc_9 => ?_)
      · have h := h.1 hc_9
        exact e_V S hr hlocks hw h (dd_at ddX3_begin 71 rfl)
      · have h := h.2 hc_9
        refine lv_aload_n S.1 S.2.1 (dd_at ddX3_begin 47 rfl) rfl (lv_at hl 0 rfl) ?_
        obtain ⟨b_10, hb_11, ho_12, h⟩ := h
        refine r_getR S hw 3 6 rfl inG3 (by decide) (List.mem_cons_of_mem _ wg99) (by decide) ha0 hb_11 (dd_at ddX3_begin 48 rfl) ?_
        refine r_callI hw (r_runV (As := []) (rest := []) S hw (m_X6_open l D cs E d_7 H.size b_10 _) (cwV 0 S.2.2.2.2 (gV wg671 wg310 wg311 wg51 wg312) rfl rfl rfl (by decide +kernel) ⟨Nat.le_of_ble_eq_true rfl, Nat.le_of_ble_eq_true rfl⟩) (ci := 6) rfl ho_12 h rfl hl.1 rfl (Nat.le_of_ble_eq_true rfl) (dd_at ddX3_begin 49 rfl) ⟨Nat.le_of_ble_eq_true rfl, Nat.le_of_ble_eq_true rfl⟩) (fun r_14 d_13 H locs h hw => ?_)
        refine lv_pop S.1 S.2.1 (dd_at ddX3_begin 50 rfl) rfl ?_
        refine lv_aload_n S.1 S.2.1 (dd_at ddX3_begin 51 rfl) rfl (lv_at hl 0 rfl) ?_
        refine lv_iload_n S.1 S.2.1 (dd_at ddX3_begin 52 rfl) rfl (lv_at hl 1 rfl) ?_
        refine lv_aload_n S.1 S.2.1 (dd_at ddX3_begin 53 rfl) rfl (lv_at hl 0 rfl) ?_
        obtain ⟨b_15, hb_16, ho_17, h⟩ := h
        refine r_getR S hw 3 0 rfl inG3 (by decide) (List.mem_cons_of_mem _ wg105) (by decide) ha0 hb_16 (dd_at ddX3_begin 54 rfl) ?_
        obtain ⟨b_18, hb_19, ho_20, h⟩ := h
        refine r_getRN S hw 8 2 rfl inG8 (by decide) nx6 (by decide) ho_17 hb_19 (dd_at ddX3_begin 55 rfl) ?_
        refine lv_iload_n S.1 S.2.1 (dd_at ddX3_begin 56 rfl) rfl (lv_at hl 1 rfl) ?_
        refine lv_iconst (v := 1) S.1 S.2.1 (dd_at ddX3_begin 57 rfl) (by decide) ?_
        refine r_callI hw (r_runV (As := [.int v2, .int 1]) (rest := [.int v2, .ref a0]) S hw (m_X6_get l D cs E d_13 H.size b_18 v2 1 _) (cwV 2 S.2.2.2.2 (gV wg673 wg623 wg624 wg51 wg625) rfl rfl rfl (by decide +kernel) ⟨Nat.le_of_ble_eq_true rfl, Nat.le_of_ble_eq_true rfl⟩) (ci := 6) rfl ho_20 h rfl hl.1 rfl (Nat.le_of_ble_eq_true rfl) (dd_at ddX3_begin 58 rfl) ⟨Nat.le_of_ble_eq_true rfl, Nat.le_of_ble_eq_true rfl⟩) (fun r_22 d_21 H locs h hw => ?_)
        refine lv_sipush (v := 1900) S.1 S.2.1 (dd_at ddX3_begin 59 rfl) (by decide) ?_
        refine r_callV hw (r_runV (As := [.int v2, .int r_22, .int 1900]) (rest := []) S hw (m_X3_hold l D cs E d_21 H.size a0 v2 r_22 1900 _) (cwV 3 S.2.2.2.2 (gV wg674 wg675 wg676 wg25 wg677) rfl rfl rfl (by decide +kernel) ⟨Nat.le_of_ble_eq_true rfl, Nat.le_of_ble_eq_true rfl⟩) (ci := 3) rfl ha0 h rfl hl.1 rfl (Nat.le_of_ble_eq_true rfl) (dd_at ddX3_begin 60 rfl) ⟨Nat.le_of_ble_eq_true rfl, Nat.le_of_ble_eq_true rfl⟩) (fun d_23 H locs h hw => ?_)
        refine lv_aload_n S.1 S.2.1 (dd_at ddX3_begin 61 rfl) rfl (lv_at hl 0 rfl) ?_
        obtain ⟨b_25, hb_26, ho_27, h⟩ := h
        refine r_getR S hw 3 7 rfl inG3 (by decide) (List.mem_cons_of_mem _ wg100) (by decide) ha0 hb_26 (dd_at ddX3_begin 62 rfl) ?_
        refine lv_aload_n S.1 S.2.1 (dd_at ddX3_begin 63 rfl) rfl (lv_at hl 0 rfl) ?_
        obtain ⟨b_28, hb_29, ho_30, h⟩ := h
        refine r_getR S hw 3 7 rfl inG3 (by decide) (List.mem_cons_of_mem _ wg100) (by decide) ha0 hb_29 (dd_at ddX3_begin 64 rfl) ?_
        refine r_callI hw (r_runV (As := []) (rest := [.ref b_25]) S hw (m_X6_open l D cs E d_23 H.size b_28 _) (cwV 0 S.2.2.2.2 (gV wg671 wg310 wg311 wg51 wg312) rfl rfl rfl (by decide +kernel) ⟨Nat.le_of_ble_eq_true rfl, Nat.le_of_ble_eq_true rfl⟩) (ci := 6) rfl ho_30 h rfl hl.1 rfl (Nat.le_of_ble_eq_true rfl) (dd_at ddX3_begin 65 rfl) ⟨Nat.le_of_ble_eq_true rfl, Nat.le_of_ble_eq_true rfl⟩) (fun r_32 d_31 H locs h hw => ?_)
        refine lv_iconst (v := 0) S.1 S.2.1 (dd_at ddX3_begin 66 rfl) (by decide) ?_
        refine lv_iload_n S.1 S.2.1 (dd_at ddX3_begin 67 rfl) rfl (lv_at hl 1 rfl) ?_
        refine r_callV hw (r_runV (As := [.int r_32, .int 0, .int v2]) (rest := []) S hw (m_X6_set l D cs E d_31 H.size b_25 r_32 0 v2 _) (cwV 3 S.2.2.2.2 (gV wg672 wg318 wg319 wg51 wg320) rfl rfl rfl (by decide +kernel) ⟨Nat.le_of_ble_eq_true rfl, Nat.le_of_ble_eq_true rfl⟩) (ci := 6) rfl ho_27 h rfl hl.1 rfl (Nat.le_of_ble_eq_true rfl) (dd_at ddX3_begin 68 rfl) ⟨Nat.le_of_ble_eq_true rfl, Nat.le_of_ble_eq_true rfl⟩) (fun d_33 H locs h hw => ?_)
        refine lv_iinc (v := v2 + 1) (lv' := [(2, .int (v2 + 1)), (0, .ref a0)]) S.1 S.2.1 (dd_at ddX3_begin 69 rfl) hl (k := 1) rfl rfl (by decide) rfl (fun ls hl => ?_)
        refine lv_goto (tgt := 83) S.1 S.2.1 (dd_at ddX3_begin 70 rfl) (by decide) ?_
        exact ih83 (v2 + 1) d_33 H locs ls h hw (lv_sub hl [1, 0] rfl)
  have tl31 : ∀ (n : Nat) (v2 : Int32) (d : Dy) (H : Heap) (locs : List Loc) (ls : Array Slot), l_X3_begin_31 E a0 p1 K n v2 d → Wd D cs (AW E sz) s.heap s E d H locs → lv_has ls 3 [(0, .ref a0), (2, .int v2)] → W p l e rm_X3_begin s m ([.ref a0, .int p1] : List Value).toArray below meth c H locs 0 0 (MQ below (va_Qv K (OutW D cs E (AW E sz)) (AW E sz)) ([.ref a0, .int p1] : List Value).toArray s rm_X3_begin.cells rm_X3_begin.slots (AW E sz)) (F0 m 31 ls []) := by
    intro n31
    induction n31 with
    | zero => intro v2 d H locs ls h; exact absurd h id
    | succ n31 ih31 =>
      intro v2 d H locs ls h hw hl
      have h : b_X3_begin_31 E a0 p1 K (l_X3_begin_31 E a0 p1 K n31) v2 d := h
      unfold b_X3_begin_31 at h
      refine lv_iload_n S.1 S.2.1 (dd_at ddX3_begin 17 rfl) rfl (lv_at hl 1 rfl) ?_
      refine lv_aload_n S.1 S.2.1 (dd_at ddX3_begin 18 rfl) rfl (lv_at hl 0 rfl) ?_
      obtain ⟨b_35, hb_36, ho_37, h⟩ := h
      refine r_getR S hw 3 0 rfl inG3 (by decide) (List.mem_cons_of_mem _ wg105) (by decide) ha0 hb_36 (dd_at ddX3_begin 19 rfl) ?_
      obtain ⟨b_38, hb_39, ho_40, h⟩ := h
      refine r_getRN S hw 8 1 rfl inG8 (by decide) nx1 (by decide) ho_37 hb_39 (dd_at ddX3_begin 20 rfl) ?_
      refine r_callI hw (r_runV (As := []) (rest := [.int v2]) S hw (m_X6_size l D cs E d H.size b_38 _) (cwV 0 S.2.2.2.2 (gV wg670 wg372 wg373 wg51 wg374) rfl rfl rfl (by decide +kernel) ⟨Nat.le_of_ble_eq_true rfl, Nat.le_of_ble_eq_true rfl⟩) (ci := 6) rfl ho_40 h rfl hl.1 rfl (Nat.le_of_ble_eq_true rfl) (dd_at ddX3_begin 21 rfl) ⟨Nat.le_of_ble_eq_true rfl, Nat.le_of_ble_eq_true rfl⟩) (fun r_42 d_41 H locs h hw => ?_)
      refine lv_icmp_ge (tgt := 67) S.1 S.2.1 (dd_at ddX3_begin 22 rfl) (by decide) (fun hc_43 => ?_) (fun hc_43 => ?_)
      · have h := h.1 hc_43
        refine lv_aload_n S.1 S.2.1 (dd_at ddX3_begin 33 rfl) rfl (lv_at hl 0 rfl) ?_
        obtain ⟨b_44, hb_45, ho_46, h⟩ := h
        refine r_getR S hw 3 6 rfl inG3 (by decide) (List.mem_cons_of_mem _ wg99) (by decide) ha0 hb_45 (dd_at ddX3_begin 34 rfl) ?_
        refine r_callV hw (r_runV (As := []) (rest := []) S hw (m_X6_clear l D cs E d_41 H.size b_44 _) (cwV 0 S.2.2.2.2 (gV wg669 wg239 wg240 wg51 wg241) rfl rfl rfl (by decide +kernel) ⟨Nat.le_of_ble_eq_true rfl, Nat.le_of_ble_eq_true rfl⟩) (ci := 6) rfl ho_46 h rfl hl.1 rfl (Nat.le_of_ble_eq_true rfl) (dd_at ddX3_begin 35 rfl) ⟨Nat.le_of_ble_eq_true rfl, Nat.le_of_ble_eq_true rfl⟩) (fun d_47 H locs h hw => ?_)
        refine lv_aload_n S.1 S.2.1 (dd_at ddX3_begin 36 rfl) rfl (lv_at hl 0 rfl) ?_
        obtain ⟨b_49, hb_50, ho_51, h⟩ := h
        refine r_getR S hw 3 7 rfl inG3 (by decide) (List.mem_cons_of_mem _ wg100) (by decide) ha0 hb_50 (dd_at ddX3_begin 37 rfl) ?_
        refine r_callV hw (r_runV (As := []) (rest := []) S hw (m_X6_clear l D cs E d_47 H.size b_49 _) (cwV 0 S.2.2.2.2 (gV wg669 wg239 wg240 wg51 wg241) rfl rfl rfl (by decide +kernel) ⟨Nat.le_of_ble_eq_true rfl, Nat.le_of_ble_eq_true rfl⟩) (ci := 6) rfl ho_51 h rfl hl.1 rfl (Nat.le_of_ble_eq_true rfl) (dd_at ddX3_begin 38 rfl) ⟨Nat.le_of_ble_eq_true rfl, Nat.le_of_ble_eq_true rfl⟩) (fun d_52 H locs h hw => ?_)
        refine lv_iconst (v := 0) S.1 S.2.1 (dd_at ddX3_begin 39 rfl) (by decide) ?_
        refine lv_istore_n (lv' := [(2, .int 0), (0, .ref a0)]) S.1 S.2.1 (dd_at ddX3_begin 40 rfl) rfl hl (by decide) rfl (fun ls hl => ?_)
        obtain ⟨n_54, h⟩ := h
        exact tl83 n_54 0 d_52 H locs ls h hw (lv_sub hl [1, 0] rfl)
      · have h := h.2 hc_43
        refine lv_aload_n S.1 S.2.1 (dd_at ddX3_begin 23 rfl) rfl (lv_at hl 0 rfl) ?_
        obtain ⟨b_55, hb_56, ho_57, h⟩ := h
        refine r_getR S hw 3 5 rfl inG3 (by decide) (List.mem_cons_of_mem _ wg98) (by decide) ha0 hb_56 (dd_at ddX3_begin 24 rfl) ?_
        refine lv_aload_n S.1 S.2.1 (dd_at ddX3_begin 25 rfl) rfl (lv_at hl 0 rfl) ?_
        obtain ⟨b_58, hb_59, ho_60, h⟩ := h
        refine r_getR S hw 3 5 rfl inG3 (by decide) (List.mem_cons_of_mem _ wg98) (by decide) ha0 hb_59 (dd_at ddX3_begin 26 rfl) ?_
        refine r_callI hw (r_runV (As := []) (rest := [.ref b_55]) S hw (m_X6_open l D cs E d_41 H.size b_58 _) (cwV 0 S.2.2.2.2 (gV wg671 wg310 wg311 wg51 wg312) rfl rfl rfl (by decide +kernel) ⟨Nat.le_of_ble_eq_true rfl, Nat.le_of_ble_eq_true rfl⟩) (ci := 6) rfl ho_60 h rfl hl.1 rfl (Nat.le_of_ble_eq_true rfl) (dd_at ddX3_begin 27 rfl) ⟨Nat.le_of_ble_eq_true rfl, Nat.le_of_ble_eq_true rfl⟩) (fun r_62 d_61 H locs h hw => ?_)
        refine lv_iconst (v := 0) S.1 S.2.1 (dd_at ddX3_begin 28 rfl) (by decide) ?_
        refine lv_iconst (v := -1) S.1 S.2.1 (dd_at ddX3_begin 29 rfl) (by decide) ?_
        refine r_callV hw (r_runV (As := [.int r_62, .int 0, .int (-1)]) (rest := []) S hw (m_X6_set l D cs E d_61 H.size b_55 r_62 0 (-1) _) (cwV 3 S.2.2.2.2 (gV wg672 wg318 wg319 wg51 wg320) rfl rfl rfl (by decide +kernel) ⟨Nat.le_of_ble_eq_true rfl, Nat.le_of_ble_eq_true rfl⟩) (ci := 6) rfl ho_57 h rfl hl.1 rfl (Nat.le_of_ble_eq_true rfl) (dd_at ddX3_begin 30 rfl) ⟨Nat.le_of_ble_eq_true rfl, Nat.le_of_ble_eq_true rfl⟩) (fun d_63 H locs h hw => ?_)
        refine lv_iinc (v := v2 + 1) (lv' := [(2, .int (v2 + 1)), (0, .ref a0)]) S.1 S.2.1 (dd_at ddX3_begin 31 rfl) hl (k := 1) rfl rfl (by decide) rfl (fun ls hl => ?_)
        refine lv_goto (tgt := 31) S.1 S.2.1 (dd_at ddX3_begin 32 rfl) (by decide) ?_
        exact ih31 (v2 + 1) d_63 H locs ls h hw (lv_sub hl [1, 0] rfl)
  refine lv_aload_n S.1 S.2.1 (dd_at ddX3_begin 0 rfl) rfl (lv_at hl 0 rfl) ?_
  refine lv_iload_n S.1 S.2.1 (dd_at ddX3_begin 1 rfl) rfl (lv_at hl 1 rfl) ?_
  refine r_putI S hw 3 1 (ty := .int) (v := p1) rfl inG3 tyX3 tyX3_ok nmX3 (by decide) (List.mem_cons_of_mem _ wg665) (by decide) rfl (by decide +kernel) rfl rfl ha0 (dd_at ddX3_begin 2 rfl) (fun H locs hw => ?_)
  refine lv_aload_n S.1 S.2.1 (dd_at ddX3_begin 3 rfl) rfl (lv_at hl 0 rfl) ?_
  refine lv_sipush (v := 1900) S.1 S.2.1 (dd_at ddX3_begin 4 rfl) (by decide) ?_
  refine r_putI S hw 3 2 (ty := .int) (v := 1900) rfl inG3 tyX3 tyX3_ok nmX3 (by decide) (List.mem_cons_of_mem _ wg666) (by decide) rfl (by decide +kernel) rfl rfl ha0 (dd_at ddX3_begin 5 rfl) (fun H locs hw => ?_)
  refine lv_aload_n S.1 S.2.1 (dd_at ddX3_begin 6 rfl) rfl (lv_at hl 0 rfl) ?_
  refine lv_iconst (v := 0) S.1 S.2.1 (dd_at ddX3_begin 7 rfl) (by decide) ?_
  refine r_putI S hw 3 3 (ty := .int) (v := 0) rfl inG3 tyX3 tyX3_ok nmX3 (by decide) (List.mem_cons_of_mem _ wg667) (by decide) rfl (by decide +kernel) rfl rfl ha0 (dd_at ddX3_begin 8 rfl) (fun H locs hw => ?_)
  refine lv_aload_n S.1 S.2.1 (dd_at ddX3_begin 9 rfl) rfl (lv_at hl 0 rfl) ?_
  refine lv_iconst (v := 0) S.1 S.2.1 (dd_at ddX3_begin 10 rfl) (by decide) ?_
  refine r_putI S hw 3 4 (ty := .int) (v := 0) rfl inG3 tyX3 tyX3_ok nmX3 (by decide) (List.mem_cons_of_mem _ wg668) (by decide) rfl (by decide +kernel) rfl rfl ha0 (dd_at ddX3_begin 11 rfl) (fun H locs hw => ?_)
  refine lv_aload_n S.1 S.2.1 (dd_at ddX3_begin 12 rfl) rfl (lv_at hl 0 rfl) ?_
  obtain ⟨b_65, hb_66, ho_67, h⟩ := h
  refine r_getR S hw 3 5 rfl inG3 (by decide) (List.mem_cons_of_mem _ wg98) (by decide) ha0 hb_66 (dd_at ddX3_begin 13 rfl) ?_
  refine r_callV hw (r_runV (As := []) (rest := []) S hw (m_X6_clear l D cs E (pI (pI (pI (pI d a0 1 p1) a0 2 1900) a0 3 0) a0 4 0) H.size b_65 _) (cwV 0 S.2.2.2.2 (gV wg669 wg239 wg240 wg51 wg241) rfl rfl rfl (by decide +kernel) ⟨Nat.le_of_ble_eq_true rfl, Nat.le_of_ble_eq_true rfl⟩) (ci := 6) rfl ho_67 h rfl hl.1 rfl (Nat.le_of_ble_eq_true rfl) (dd_at ddX3_begin 14 rfl) ⟨Nat.le_of_ble_eq_true rfl, Nat.le_of_ble_eq_true rfl⟩) (fun d_68 H locs h hw => ?_)
  refine lv_iconst (v := 0) S.1 S.2.1 (dd_at ddX3_begin 15 rfl) (by decide) ?_
  refine lv_istore_n (lv' := [(2, .int 0), (0, .ref a0), (1, .int p1)]) S.1 S.2.1 (dd_at ddX3_begin 16 rfl) rfl hl (by decide) rfl (fun ls hl => ?_)
  obtain ⟨n_70, h⟩ := h
  exact tl31 n_70 0 d_68 H locs ls h hw (lv_sub hl [1, 0] rfl)

def w_X3_holderOf (E : En) (a0 : Nat) (p1 : Int32) (d : Dy) (K : Int32 → Dy → Prop) : Prop := okO E a0 3 ∧ ∃ b_1 : Nat, eR E a0 6 = some b_1 ∧ okO E b_1 6 ∧ w_X6_get E b_1 p1 0 d (fun r_5 d_4 => K r_5 d_4)
abbrev rm_X3_holderOf : Room := { frames := 1, cells := 0, slots := 0, locals := 23 }
set_option maxRecDepth 100000 in
set_option maxHeartbeats 4000000 in
theorem m_X3_holderOf (l : Launch) (D : va_G) (cs : Nat → ClassId) (E : En) (d : Dy) (sz : Nat) (a0 : Nat) (p1 : Int32) (K : Int32 → Dy → Prop) : CI l yX3_holderOf (.code yX3_holderOf cX3_holderOf 2 (some .int) :: wsL_law) rm_X3_holderOf D cs E d sz [.ref a0, .int p1] (w_X3_holderOf E a0 p1 d K) K := by
  refine e_of (cc := cX3_holderOf) (maxL := 2) (ret := (some .int)) (own := RX3) (by decide) rfl rfl (Nat.le_of_ble_eq_true rfl) ?_
  intro p e s m below meth c S hr hlocks hsz H locs hw h ls hl
  have hl : lv_has ls 2 [(0, .ref a0), (1, .int p1)] := hl
  unfold w_X3_holderOf at h
  obtain ⟨ha0, h⟩ := h
  refine lv_aload_n S.1 S.2.1 (dd_at ddX3_holderOf 0 rfl) rfl (lv_at hl 0 rfl) ?_
  obtain ⟨b_1, hb_2, ho_3, h⟩ := h
  refine r_getR S hw 3 6 rfl inG3 (by decide) (List.mem_cons_of_mem _ wg99) (by decide) ha0 hb_2 (dd_at ddX3_holderOf 1 rfl) ?_
  refine lv_iload_n S.1 S.2.1 (dd_at ddX3_holderOf 2 rfl) rfl (lv_at hl 1 rfl) ?_
  refine lv_iconst (v := 0) S.1 S.2.1 (dd_at ddX3_holderOf 3 rfl) (by decide) ?_
  refine r_callI hw (r_runV (As := [.int p1, .int 0]) (rest := []) S hw (m_X6_get l D cs E d H.size b_1 p1 0 _) (cwV 2 S.2.2.2.2 (gV wg673 wg623 wg624 wg51 wg625) rfl rfl rfl (by decide +kernel) ⟨Nat.le_of_ble_eq_true rfl, Nat.le_of_ble_eq_true rfl⟩) (ci := 6) rfl ho_3 h rfl hl.1 rfl (Nat.le_of_ble_eq_true rfl) (dd_at ddX3_holderOf 4 rfl) ⟨Nat.le_of_ble_eq_true rfl, Nat.le_of_ble_eq_true rfl⟩) (fun r_5 d_4 H locs h hw => ?_)
  exact e_I S hr hlocks hw h (dd_at ddX3_holderOf 5 rfl)

def w_X3_sinceOf (E : En) (a0 : Nat) (p1 : Int32) (d : Dy) (K : Int32 → Dy → Prop) : Prop := okO E a0 3 ∧ ∃ b_1 : Nat, eR E a0 6 = some b_1 ∧ okO E b_1 6 ∧ w_X6_get E b_1 p1 1 d (fun r_5 d_4 => K r_5 d_4)
abbrev rm_X3_sinceOf : Room := { frames := 1, cells := 0, slots := 0, locals := 23 }
set_option maxRecDepth 100000 in
set_option maxHeartbeats 4000000 in
theorem m_X3_sinceOf (l : Launch) (D : va_G) (cs : Nat → ClassId) (E : En) (d : Dy) (sz : Nat) (a0 : Nat) (p1 : Int32) (K : Int32 → Dy → Prop) : CI l yX3_sinceOf (.code yX3_sinceOf cX3_sinceOf 2 (some .int) :: wsL_law) rm_X3_sinceOf D cs E d sz [.ref a0, .int p1] (w_X3_sinceOf E a0 p1 d K) K := by
  refine e_of (cc := cX3_sinceOf) (maxL := 2) (ret := (some .int)) (own := RX3) (by decide) rfl rfl (Nat.le_of_ble_eq_true rfl) ?_
  intro p e s m below meth c S hr hlocks hsz H locs hw h ls hl
  have hl : lv_has ls 2 [(0, .ref a0), (1, .int p1)] := hl
  unfold w_X3_sinceOf at h
  obtain ⟨ha0, h⟩ := h
  refine lv_aload_n S.1 S.2.1 (dd_at ddX3_sinceOf 0 rfl) rfl (lv_at hl 0 rfl) ?_
  obtain ⟨b_1, hb_2, ho_3, h⟩ := h
  refine r_getR S hw 3 6 rfl inG3 (by decide) (List.mem_cons_of_mem _ wg99) (by decide) ha0 hb_2 (dd_at ddX3_sinceOf 1 rfl) ?_
  refine lv_iload_n S.1 S.2.1 (dd_at ddX3_sinceOf 2 rfl) rfl (lv_at hl 1 rfl) ?_
  refine lv_iconst (v := 1) S.1 S.2.1 (dd_at ddX3_sinceOf 3 rfl) (by decide) ?_
  refine r_callI hw (r_runV (As := [.int p1, .int 1]) (rest := []) S hw (m_X6_get l D cs E d H.size b_1 p1 1 _) (cwV 2 S.2.2.2.2 (gV wg673 wg623 wg624 wg51 wg625) rfl rfl rfl (by decide +kernel) ⟨Nat.le_of_ble_eq_true rfl, Nat.le_of_ble_eq_true rfl⟩) (ci := 6) rfl ho_3 h rfl hl.1 rfl (Nat.le_of_ble_eq_true rfl) (dd_at ddX3_sinceOf 4 rfl) ⟨Nat.le_of_ble_eq_true rfl, Nat.le_of_ble_eq_true rfl⟩) (fun r_5 d_4 H locs h hw => ?_)
  exact e_I S hr hlocks hw h (dd_at ddX3_sinceOf 5 rfl)

def w_X3_spouseOf (E : En) (a0 : Nat) (p1 : Int32) (d : Dy) (K : Int32 → Dy → Prop) : Prop := okO E a0 3 ∧ ∃ b_1 : Nat, eR E a0 5 = some b_1 ∧ okO E b_1 6 ∧ w_X6_get E b_1 p1 0 d (fun r_5 d_4 => ((r_5 = (-1) → K (-1) d_4) ∧ (¬ r_5 = (-1) → w_X3_lives E a0 r_5 d_4 (fun r_8 d_7 => ((r_8 = 0 → K (-1) d_7) ∧ (¬ r_8 = 0 → K r_5 d_7))))))
abbrev rm_X3_spouseOf : Room := { frames := 1, cells := 0, slots := 0, locals := 23 }
set_option maxRecDepth 100000 in
set_option maxHeartbeats 4000000 in
theorem m_X3_spouseOf (l : Launch) (D : va_G) (cs : Nat → ClassId) (E : En) (d : Dy) (sz : Nat) (a0 : Nat) (p1 : Int32) (K : Int32 → Dy → Prop) : CI l yX3_spouseOf (.code yX3_spouseOf cX3_spouseOf 3 (some .int) :: wsL_law) rm_X3_spouseOf D cs E d sz [.ref a0, .int p1] (w_X3_spouseOf E a0 p1 d K) K := by
  refine e_of (cc := cX3_spouseOf) (maxL := 3) (ret := (some .int)) (own := RX3) (by decide) rfl rfl (Nat.le_of_ble_eq_true rfl) ?_
  intro p e s m below meth c S hr hlocks hsz H locs hw h ls hl
  have hl : lv_has ls 3 [(0, .ref a0), (1, .int p1)] := hl
  unfold w_X3_spouseOf at h
  obtain ⟨ha0, h⟩ := h
  refine lv_aload_n S.1 S.2.1 (dd_at ddX3_spouseOf 0 rfl) rfl (lv_at hl 0 rfl) ?_
  obtain ⟨b_1, hb_2, ho_3, h⟩ := h
  refine r_getR S hw 3 5 rfl inG3 (by decide) (List.mem_cons_of_mem _ wg98) (by decide) ha0 hb_2 (dd_at ddX3_spouseOf 1 rfl) ?_
  refine lv_iload_n S.1 S.2.1 (dd_at ddX3_spouseOf 2 rfl) rfl (lv_at hl 1 rfl) ?_
  refine lv_iconst (v := 0) S.1 S.2.1 (dd_at ddX3_spouseOf 3 rfl) (by decide) ?_
  refine r_callI hw (r_runV (As := [.int p1, .int 0]) (rest := []) S hw (m_X6_get l D cs E d H.size b_1 p1 0 _) (cwV 2 S.2.2.2.2 (gV wg673 wg623 wg624 wg51 wg625) rfl rfl rfl (by decide +kernel) ⟨Nat.le_of_ble_eq_true rfl, Nat.le_of_ble_eq_true rfl⟩) (ci := 6) rfl ho_3 h rfl hl.1 rfl (Nat.le_of_ble_eq_true rfl) (dd_at ddX3_spouseOf 4 rfl) ⟨Nat.le_of_ble_eq_true rfl, Nat.le_of_ble_eq_true rfl⟩) (fun r_5 d_4 H locs h hw => ?_)
  refine lv_istore_n (lv' := [(2, .int r_5), (0, .ref a0), (1, .int p1)]) S.1 S.2.1 (dd_at ddX3_spouseOf 5 rfl) rfl hl (by decide) rfl (fun ls hl => ?_)
  refine lv_iload_n S.1 S.2.1 (dd_at ddX3_spouseOf 6 rfl) rfl (lv_at hl 0 rfl) ?_
  refine lv_iconst (v := -1) S.1 S.2.1 (dd_at ddX3_spouseOf 7 rfl) (by decide) ?_
  refine lv_icmp_eq (tgt := 27) S.1 S.2.1 (dd_at ddX3_spouseOf 8 rfl) (by decide) (fun hc_6 => ?_) (fun hc_6 => ?_)
  · have h := h.1 hc_6
    refine lv_iconst (v := -1) S.1 S.2.1 (dd_at ddX3_spouseOf 15 rfl) (by decide) ?_
    exact e_I S hr hlocks hw h (dd_at ddX3_spouseOf 16 rfl)
  · have h := h.2 hc_6
    refine lv_aload_n S.1 S.2.1 (dd_at ddX3_spouseOf 9 rfl) rfl (lv_at hl 1 rfl) ?_
    refine lv_iload_n S.1 S.2.1 (dd_at ddX3_spouseOf 10 rfl) rfl (lv_at hl 0 rfl) ?_
    refine r_callI hw (r_runV (As := [.int r_5]) (rest := []) S hw (m_X3_lives l D cs E d_4 H.size a0 r_5 _) (cwV 1 S.2.2.2.2 (gV wg690 wg691 wg692 wg25 wg693) rfl rfl rfl (by decide +kernel) ⟨Nat.le_of_ble_eq_true rfl, Nat.le_of_ble_eq_true rfl⟩) (ci := 3) rfl ha0 h rfl hl.1 rfl (Nat.le_of_ble_eq_true rfl) (dd_at ddX3_spouseOf 11 rfl) ⟨Nat.le_of_ble_eq_true rfl, Nat.le_of_ble_eq_true rfl⟩) (fun r_8 d_7 H locs h hw => ?_)
    refine lv_if_eq (tgt := 27) S.1 S.2.1 (dd_at ddX3_spouseOf 12 rfl) (by decide) (fun hc_9 => ?_) (fun hc_9 => ?_)
    · have h := h.1 hc_9
      refine lv_iconst (v := -1) S.1 S.2.1 (dd_at ddX3_spouseOf 15 rfl) (by decide) ?_
      exact e_I S hr hlocks hw h (dd_at ddX3_spouseOf 16 rfl)
    · have h := h.2 hc_9
      refine lv_iload_n S.1 S.2.1 (dd_at ddX3_spouseOf 13 rfl) rfl (lv_at hl 0 rfl) ?_
      refine lv_goto (tgt := 28) S.1 S.2.1 (dd_at ddX3_spouseOf 14 rfl) (by decide) ?_
      exact e_I S hr hlocks hw h (dd_at ddX3_spouseOf 16 rfl)

def b_X3_eldest_28 (E : En) (a0 : Nat) (p1 : Int32) (K : Int32 → Dy → Prop) (k4 : Int32 → Int32 → Dy → Prop) (v2 : Int32) (v3 : Int32) (s0 : Int32) (d : Dy) : Prop := ((s0 = 0 → k4 v2 (v3 + 1) d) ∧ (¬ s0 = 0 → ((v2 = (-1) → k4 v3 (v3 + 1) d) ∧ (¬ v2 = (-1) → ∃ b_3 : Nat, eR E a0 0 = some b_3 ∧ okO E b_3 8 ∧ ∃ b_6 : Nat, eR E b_3 1 = some b_6 ∧ okO E b_6 6 ∧ w_X6_get E b_6 v3 0 d (fun r_10 d_9 => ∃ b_11 : Nat, eR E a0 0 = some b_11 ∧ okO E b_11 8 ∧ ∃ b_14 : Nat, eR E b_11 1 = some b_14 ∧ okO E b_14 6 ∧ w_X6_get E b_14 v2 0 d_9 (fun r_18 d_17 => ((r_18 ≤ r_10 → k4 v2 (v3 + 1) d_17) ∧ (¬ r_18 ≤ r_10 → k4 v3 (v3 + 1) d_17))))))))
def b_X3_eldest_4 (E : En) (a0 : Nat) (p1 : Int32) (K : Int32 → Dy → Prop) (k4 : Int32 → Int32 → Dy → Prop) (v2 : Int32) (v3 : Int32) (d : Dy) : Prop := ∃ b_20 : Nat, eR E a0 5 = some b_20 ∧ okO E b_20 6 ∧ w_X6_size E b_20 d (fun r_24 d_23 => ((r_24 ≤ v3 → K v2 d_23) ∧ (¬ r_24 ≤ v3 → ((((p1 >>> (v3 &&& 31)) &&& 1) = 0 → b_X3_eldest_28 E a0 p1 K k4 v2 v3 0 d_23) ∧ (¬ ((p1 >>> (v3 &&& 31)) &&& 1) = 0 → b_X3_eldest_28 E a0 p1 K k4 v2 v3 1 d_23)))))
def l_X3_eldest_4 (E : En) (a0 : Nat) (p1 : Int32) (K : Int32 → Dy → Prop) : Nat → Int32 → Int32 → Dy → Prop
  | 0 => fun _ _ _ => False
  | n + 1 => b_X3_eldest_4 E a0 p1 K (l_X3_eldest_4 E a0 p1 K n)
def w_X3_eldest (E : En) (a0 : Nat) (p1 : Int32) (d : Dy) (K : Int32 → Dy → Prop) : Prop := okO E a0 3 ∧ (∃ n_27 : Nat, l_X3_eldest_4 E a0 p1 K n_27 (-1) 0 d)
abbrev rm_X3_eldest : Room := { frames := 1, cells := 0, slots := 0, locals := 23 }
set_option maxRecDepth 100000 in
set_option maxHeartbeats 4000000 in
theorem m_X3_eldest (l : Launch) (D : va_G) (cs : Nat → ClassId) (E : En) (d : Dy) (sz : Nat) (a0 : Nat) (p1 : Int32) (K : Int32 → Dy → Prop) : CI l yX3_eldest (.code yX3_eldest cX3_eldest 5 (some .int) :: wsL_law) rm_X3_eldest D cs E d sz [.ref a0, .int p1] (w_X3_eldest E a0 p1 d K) K := by
  refine e_of (cc := cX3_eldest) (maxL := 5) (ret := (some .int)) (own := RX3) (by decide) rfl rfl (Nat.le_of_ble_eq_true rfl) ?_
  intro p e s m below meth c S hr hlocks hsz H locs hw h ls hl
  have hl : lv_has ls 5 [(0, .ref a0), (1, .int p1)] := hl
  unfold w_X3_eldest at h
  obtain ⟨ha0, h⟩ := h
  have tl4 : ∀ (n : Nat) (v2 : Int32) (v3 : Int32) (d : Dy) (H : Heap) (locs : List Loc) (ls : Array Slot), l_X3_eldest_4 E a0 p1 K n v2 v3 d → Wd D cs (AW E sz) s.heap s E d H locs → lv_has ls 5 [(0, .ref a0), (1, .int p1), (2, .int v2), (3, .int v3)] → W p l e rm_X3_eldest s m ([.ref a0, .int p1] : List Value).toArray below meth c H locs 0 0 (MQ below (va_Qi K (OutW D cs E (AW E sz)) (AW E sz)) ([.ref a0, .int p1] : List Value).toArray s rm_X3_eldest.cells rm_X3_eldest.slots (AW E sz)) (F0 m 4 ls []) := by
    intro n4
    induction n4 with
    | zero => intro v2 v3 d H locs ls h; exact absurd h id
    | succ n4 ih4 =>
      have tb28 : ∀ (v2 : Int32) (v3 : Int32) (s0 : Int32) (d : Dy) (H : Heap) (locs : List Loc) (ls : Array Slot), b_X3_eldest_28 E a0 p1 K (l_X3_eldest_4 E a0 p1 K n4) v2 v3 s0 d → Wd D cs (AW E sz) s.heap s E d H locs → lv_has ls 5 [(0, .ref a0), (1, .int p1), (2, .int v2), (3, .int v3)] → W p l e rm_X3_eldest s m ([.ref a0, .int p1] : List Value).toArray below meth c H locs 0 0 (MQ below (va_Qi K (OutW D cs E (AW E sz)) (AW E sz)) ([.ref a0, .int p1] : List Value).toArray s rm_X3_eldest.cells rm_X3_eldest.slots (AW E sz)) (F0 m 28 ls [.int s0]) := by
        intro v2 v3 s0 d H locs ls h hw hl
        unfold b_X3_eldest_28 at h
        refine lv_istore (lv' := [(4, .int s0), (0, .ref a0), (1, .int p1), (2, .int v2), (3, .int v3)]) S.1 S.2.1 (dd_at ddX3_eldest 18 rfl) hl (by decide) rfl (fun ls hl => ?_)
        refine lv_iload S.1 S.2.1 (dd_at ddX3_eldest 19 rfl) (lv_at hl 0 rfl) ?_
        refine lv_if_eq (tgt := 69) S.1 S.2.1 (dd_at ddX3_eldest 20 rfl) (by decide) (fun hc_1 => ?_) (fun hc_1 => ?_)
        · have h := h.1 hc_1
          refine lv_iinc (v := v3 + 1) (lv' := [(3, .int (v3 + 1)), (4, .int s0), (0, .ref a0), (1, .int p1), (2, .int v2)]) S.1 S.2.1 (dd_at ddX3_eldest 39 rfl) hl (k := 4) rfl rfl (by decide) rfl (fun ls hl => ?_)
          refine lv_goto (tgt := 4) S.1 S.2.1 (dd_at ddX3_eldest 40 rfl) (by decide) ?_
          exact ih4 v2 (v3 + 1) d H locs ls h hw (lv_sub hl [2, 3, 4, 0] rfl)
        · have h := h.2 hc_1
          refine lv_iload_n S.1 S.2.1 (dd_at ddX3_eldest 21 rfl) rfl (lv_at hl 3 rfl) ?_
          refine lv_iconst (v := -1) S.1 S.2.1 (dd_at ddX3_eldest 22 rfl) (by decide) ?_
          refine lv_icmp_eq (tgt := 67) S.1 S.2.1 (dd_at ddX3_eldest 23 rfl) (by decide) (fun hc_2 => ?_) (fun hc_2 => ?_)
          · have h := h.1 hc_2
            refine lv_iload_n S.1 S.2.1 (dd_at ddX3_eldest 37 rfl) rfl (lv_at hl 4 rfl) ?_
            refine lv_istore_n (lv' := [(2, .int v3), (4, .int s0), (0, .ref a0), (1, .int p1), (3, .int v3)]) S.1 S.2.1 (dd_at ddX3_eldest 38 rfl) rfl hl (by decide) rfl (fun ls hl => ?_)
            refine lv_iinc (v := v3 + 1) (lv' := [(3, .int (v3 + 1)), (2, .int v3), (4, .int s0), (0, .ref a0), (1, .int p1)]) S.1 S.2.1 (dd_at ddX3_eldest 39 rfl) hl (k := 4) rfl rfl (by decide) rfl (fun ls hl => ?_)
            refine lv_goto (tgt := 4) S.1 S.2.1 (dd_at ddX3_eldest 40 rfl) (by decide) ?_
            exact ih4 v3 (v3 + 1) d H locs ls h hw (lv_sub hl [3, 4, 1, 0] rfl)
          · have h := h.2 hc_2
            refine lv_aload_n S.1 S.2.1 (dd_at ddX3_eldest 24 rfl) rfl (lv_at hl 1 rfl) ?_
            obtain ⟨b_3, hb_4, ho_5, h⟩ := h
            refine r_getR S hw 3 0 rfl inG3 (by decide) (List.mem_cons_of_mem _ wg105) (by decide) ha0 hb_4 (dd_at ddX3_eldest 25 rfl) ?_
            obtain ⟨b_6, hb_7, ho_8, h⟩ := h
            refine r_getRN S hw 8 1 rfl inG8 (by decide) nx1 (by decide) ho_5 hb_7 (dd_at ddX3_eldest 26 rfl) ?_
            refine lv_iload_n S.1 S.2.1 (dd_at ddX3_eldest 27 rfl) rfl (lv_at hl 4 rfl) ?_
            refine lv_iconst (v := 0) S.1 S.2.1 (dd_at ddX3_eldest 28 rfl) (by decide) ?_
            refine r_callI hw (r_runV (As := [.int v3, .int 0]) (rest := []) S hw (m_X6_get l D cs E d H.size b_6 v3 0 _) (cwV 2 S.2.2.2.2 (gV wg673 wg623 wg624 wg51 wg625) rfl rfl rfl (by decide +kernel) ⟨Nat.le_of_ble_eq_true rfl, Nat.le_of_ble_eq_true rfl⟩) (ci := 6) rfl ho_8 h rfl hl.1 rfl (Nat.le_of_ble_eq_true rfl) (dd_at ddX3_eldest 29 rfl) ⟨Nat.le_of_ble_eq_true rfl, Nat.le_of_ble_eq_true rfl⟩) (fun r_10 d_9 H locs h hw => ?_)
            refine lv_aload_n S.1 S.2.1 (dd_at ddX3_eldest 30 rfl) rfl (lv_at hl 1 rfl) ?_
            obtain ⟨b_11, hb_12, ho_13, h⟩ := h
            refine r_getR S hw 3 0 rfl inG3 (by decide) (List.mem_cons_of_mem _ wg105) (by decide) ha0 hb_12 (dd_at ddX3_eldest 31 rfl) ?_
            obtain ⟨b_14, hb_15, ho_16, h⟩ := h
            refine r_getRN S hw 8 1 rfl inG8 (by decide) nx1 (by decide) ho_13 hb_15 (dd_at ddX3_eldest 32 rfl) ?_
            refine lv_iload_n S.1 S.2.1 (dd_at ddX3_eldest 33 rfl) rfl (lv_at hl 3 rfl) ?_
            refine lv_iconst (v := 0) S.1 S.2.1 (dd_at ddX3_eldest 34 rfl) (by decide) ?_
            refine r_callI hw (r_runV (As := [.int v2, .int 0]) (rest := [.int r_10]) S hw (m_X6_get l D cs E d_9 H.size b_14 v2 0 _) (cwV 2 S.2.2.2.2 (gV wg673 wg623 wg624 wg51 wg625) rfl rfl rfl (by decide +kernel) ⟨Nat.le_of_ble_eq_true rfl, Nat.le_of_ble_eq_true rfl⟩) (ci := 6) rfl ho_16 h rfl hl.1 rfl (Nat.le_of_ble_eq_true rfl) (dd_at ddX3_eldest 35 rfl) ⟨Nat.le_of_ble_eq_true rfl, Nat.le_of_ble_eq_true rfl⟩) (fun r_18 d_17 H locs h hw => ?_)
            refine lv_icmp_ge (tgt := 69) S.1 S.2.1 (dd_at ddX3_eldest 36 rfl) (by decide) (fun hc_19 => ?_) (fun hc_19 => ?_)
            · have h := h.1 hc_19
              refine lv_iinc (v := v3 + 1) (lv' := [(3, .int (v3 + 1)), (4, .int s0), (0, .ref a0), (1, .int p1), (2, .int v2)]) S.1 S.2.1 (dd_at ddX3_eldest 39 rfl) hl (k := 4) rfl rfl (by decide) rfl (fun ls hl => ?_)
              refine lv_goto (tgt := 4) S.1 S.2.1 (dd_at ddX3_eldest 40 rfl) (by decide) ?_
              exact ih4 v2 (v3 + 1) d_17 H locs ls h hw (lv_sub hl [2, 3, 4, 0] rfl)
            · have h := h.2 hc_19
              refine lv_iload_n S.1 S.2.1 (dd_at ddX3_eldest 37 rfl) rfl (lv_at hl 4 rfl) ?_
              refine lv_istore_n (lv' := [(2, .int v3), (4, .int s0), (0, .ref a0), (1, .int p1), (3, .int v3)]) S.1 S.2.1 (dd_at ddX3_eldest 38 rfl) rfl hl (by decide) rfl (fun ls hl => ?_)
              refine lv_iinc (v := v3 + 1) (lv' := [(3, .int (v3 + 1)), (2, .int v3), (4, .int s0), (0, .ref a0), (1, .int p1)]) S.1 S.2.1 (dd_at ddX3_eldest 39 rfl) hl (k := 4) rfl rfl (by decide) rfl (fun ls hl => ?_)
              refine lv_goto (tgt := 4) S.1 S.2.1 (dd_at ddX3_eldest 40 rfl) (by decide) ?_
              exact ih4 v3 (v3 + 1) d_17 H locs ls h hw (lv_sub hl [3, 4, 1, 0] rfl)
      intro v2 v3 d H locs ls h hw hl
      have h : b_X3_eldest_4 E a0 p1 K (l_X3_eldest_4 E a0 p1 K n4) v2 v3 d := h
      unfold b_X3_eldest_4 at h
      refine lv_iload_n S.1 S.2.1 (dd_at ddX3_eldest 4 rfl) rfl (lv_at hl 3 rfl) ?_
      refine lv_aload_n S.1 S.2.1 (dd_at ddX3_eldest 5 rfl) rfl (lv_at hl 0 rfl) ?_
      obtain ⟨b_20, hb_21, ho_22, h⟩ := h
      refine r_getR S hw 3 5 rfl inG3 (by decide) (List.mem_cons_of_mem _ wg98) (by decide) ha0 hb_21 (dd_at ddX3_eldest 6 rfl) ?_
      refine r_callI hw (r_runV (As := []) (rest := [.int v3]) S hw (m_X6_size l D cs E d H.size b_20 _) (cwV 0 S.2.2.2.2 (gV wg670 wg372 wg373 wg51 wg374) rfl rfl rfl (by decide +kernel) ⟨Nat.le_of_ble_eq_true rfl, Nat.le_of_ble_eq_true rfl⟩) (ci := 6) rfl ho_22 h rfl hl.1 rfl (Nat.le_of_ble_eq_true rfl) (dd_at ddX3_eldest 7 rfl) ⟨Nat.le_of_ble_eq_true rfl, Nat.le_of_ble_eq_true rfl⟩) (fun r_24 d_23 H locs h hw => ?_)
      refine lv_icmp_ge (tgt := 75) S.1 S.2.1 (dd_at ddX3_eldest 8 rfl) (by decide) (fun hc_25 => ?_) (fun hc_25 => ?_)
      · have h := h.1 hc_25
        refine lv_iload_n S.1 S.2.1 (dd_at ddX3_eldest 41 rfl) rfl (lv_at hl 2 rfl) ?_
        exact e_I S hr hlocks hw h (dd_at ddX3_eldest 42 rfl)
      · have h := h.2 hc_25
        refine lv_iload_n S.1 S.2.1 (dd_at ddX3_eldest 9 rfl) rfl (lv_at hl 1 rfl) ?_
        refine lv_iload_n S.1 S.2.1 (dd_at ddX3_eldest 10 rfl) rfl (lv_at hl 3 rfl) ?_
        refine lv_ishr S.1 S.2.1 (dd_at ddX3_eldest 11 rfl) ?_
        refine lv_iconst (v := 1) S.1 S.2.1 (dd_at ddX3_eldest 12 rfl) (by decide) ?_
        refine lv_iand S.1 S.2.1 (dd_at ddX3_eldest 13 rfl) ?_
        refine lv_if_eq (tgt := 27) S.1 S.2.1 (dd_at ddX3_eldest 14 rfl) (by decide) (fun hc_26 => ?_) (fun hc_26 => ?_)
        · have h := h.1 hc_26
          refine lv_iconst (v := 0) S.1 S.2.1 (dd_at ddX3_eldest 17 rfl) (by decide) ?_
          exact tb28 v2 v3 0 d_23 H locs ls h hw (lv_sub hl [0, 1, 2, 3] rfl)
        · have h := h.2 hc_26
          refine lv_iconst (v := 1) S.1 S.2.1 (dd_at ddX3_eldest 15 rfl) (by decide) ?_
          refine lv_goto (tgt := 28) S.1 S.2.1 (dd_at ddX3_eldest 16 rfl) (by decide) ?_
          exact tb28 v2 v3 1 d_23 H locs ls h hw (lv_sub hl [0, 1, 2, 3] rfl)
  refine lv_iconst (v := -1) S.1 S.2.1 (dd_at ddX3_eldest 0 rfl) (by decide) ?_
  refine lv_istore_n (lv' := [(2, .int (-1)), (0, .ref a0), (1, .int p1)]) S.1 S.2.1 (dd_at ddX3_eldest 1 rfl) rfl hl (by decide) rfl (fun ls hl => ?_)
  refine lv_iconst (v := 0) S.1 S.2.1 (dd_at ddX3_eldest 2 rfl) (by decide) ?_
  refine lv_istore_n (lv' := [(3, .int 0), (2, .int (-1)), (0, .ref a0), (1, .int p1)]) S.1 S.2.1 (dd_at ddX3_eldest 3 rfl) rfl hl (by decide) rfl (fun ls hl => ?_)
  obtain ⟨n_27, h⟩ := h
  exact tl4 n_27 (-1) 0 d H locs ls h hw (lv_sub hl [2, 3, 1, 0] rfl)

def w_X3_parentOf (E : En) (a0 : Nat) (p1 : Int32) (d : Dy) (K : Int32 → Dy → Prop) : Prop := okO E a0 3 ∧ ∃ b_1 : Nat, eR E a0 5 = some b_1 ∧ okO E b_1 6 ∧ w_X6_get E b_1 p1 2 d (fun r_5 d_4 => ((¬ (r_5 &&& ((gI d_4 a0 4) ^^^ (-1))) = 0 → w_J6_numberOfTrailingZeros_0f7a4 E (r_5 &&& ((gI d_4 a0 4) ^^^ (-1))) d_4 (fun r_8 d_7 => K r_8 d_7)) ∧ ((r_5 &&& ((gI d_4 a0 4) ^^^ (-1))) = 0 → K (-1) d_4)))
abbrev rm_X3_parentOf : Room := { frames := 1, cells := 0, slots := 0, locals := 23 }
set_option maxRecDepth 100000 in
set_option maxHeartbeats 4000000 in
theorem m_X3_parentOf (l : Launch) (D : va_G) (cs : Nat → ClassId) (E : En) (d : Dy) (sz : Nat) (a0 : Nat) (p1 : Int32) (K : Int32 → Dy → Prop) : CI l yX3_parentOf (.code yX3_parentOf cX3_parentOf 3 (some .int) :: wsL_law) rm_X3_parentOf D cs E d sz [.ref a0, .int p1] (w_X3_parentOf E a0 p1 d K) K := by
  refine e_of (cc := cX3_parentOf) (maxL := 3) (ret := (some .int)) (own := RX3) (by decide) rfl rfl (Nat.le_of_ble_eq_true rfl) ?_
  intro p e s m below meth c S hr hlocks hsz H locs hw h ls hl
  have hl : lv_has ls 3 [(0, .ref a0), (1, .int p1)] := hl
  unfold w_X3_parentOf at h
  obtain ⟨ha0, h⟩ := h
  refine lv_aload_n S.1 S.2.1 (dd_at ddX3_parentOf 0 rfl) rfl (lv_at hl 0 rfl) ?_
  obtain ⟨b_1, hb_2, ho_3, h⟩ := h
  refine r_getR S hw 3 5 rfl inG3 (by decide) (List.mem_cons_of_mem _ wg98) (by decide) ha0 hb_2 (dd_at ddX3_parentOf 1 rfl) ?_
  refine lv_iload_n S.1 S.2.1 (dd_at ddX3_parentOf 2 rfl) rfl (lv_at hl 1 rfl) ?_
  refine lv_iconst (v := 2) S.1 S.2.1 (dd_at ddX3_parentOf 3 rfl) (by decide) ?_
  refine r_callI hw (r_runV (As := [.int p1, .int 2]) (rest := []) S hw (m_X6_get l D cs E d H.size b_1 p1 2 _) (cwV 2 S.2.2.2.2 (gV wg673 wg623 wg624 wg51 wg625) rfl rfl rfl (by decide +kernel) ⟨Nat.le_of_ble_eq_true rfl, Nat.le_of_ble_eq_true rfl⟩) (ci := 6) rfl ho_3 h rfl hl.1 rfl (Nat.le_of_ble_eq_true rfl) (dd_at ddX3_parentOf 4 rfl) ⟨Nat.le_of_ble_eq_true rfl, Nat.le_of_ble_eq_true rfl⟩) (fun r_5 d_4 H locs h hw => ?_)
  refine lv_aload_n S.1 S.2.1 (dd_at ddX3_parentOf 5 rfl) rfl (lv_at hl 0 rfl) ?_
  refine r_getI S hw 3 4 rfl inG3 (by decide) (List.mem_cons_of_mem _ wg668) (by decide) ha0 (dd_at ddX3_parentOf 6 rfl) ?_
  refine lv_iconst (v := -1) S.1 S.2.1 (dd_at ddX3_parentOf 7 rfl) (by decide) ?_
  refine lv_ixor S.1 S.2.1 (dd_at ddX3_parentOf 8 rfl) ?_
  refine lv_iand S.1 S.2.1 (dd_at ddX3_parentOf 9 rfl) ?_
  refine lv_istore_n (lv' := [(2, .int (r_5 &&& ((gI d_4 a0 4) ^^^ (-1)))), (0, .ref a0), (1, .int p1)]) S.1 S.2.1 (dd_at ddX3_parentOf 10 rfl) rfl hl (by decide) rfl (fun ls hl => ?_)
  refine lv_iload_n S.1 S.2.1 (dd_at ddX3_parentOf 11 rfl) rfl (lv_at hl 0 rfl) ?_
  refine lv_if_ne (tgt := 25) S.1 S.2.1 (dd_at ddX3_parentOf 12 rfl) (by decide) (fun hc_6 => ?_) (fun hc_6 => ?_)
  · have h := h.1 hc_6
    refine lv_iload_n S.1 S.2.1 (dd_at ddX3_parentOf 15 rfl) rfl (lv_at hl 0 rfl) ?_
    refine r_callI hw (r_runS (As := [.int (r_5 &&& ((gI d_4 a0 4) ^^^ (-1)))]) (rest := []) S hw (m_J6_numberOfTrailingZeros_0f7a4 l D cs E d_4 H.size (r_5 &&& ((gI d_4 a0 4) ^^^ (-1))) _) (va_cwS 1 S.2.2.2.2 (gS wg781 wg782 wg725 wg783) rfl rfl rfl (by decide +kernel) ⟨Nat.le_of_ble_eq_true rfl, Nat.le_of_ble_eq_true rfl⟩) h rfl hl.1 rfl (Nat.le_of_ble_eq_true rfl) (dd_at ddX3_parentOf 16 rfl) ⟨Nat.le_of_ble_eq_true rfl, Nat.le_of_ble_eq_true rfl⟩) (fun r_8 d_7 H locs h hw => ?_)
    exact e_I S hr hlocks hw h (dd_at ddX3_parentOf 17 rfl)
  · have h := h.2 hc_6
    refine lv_iconst (v := -1) S.1 S.2.1 (dd_at ddX3_parentOf 13 rfl) (by decide) ?_
    refine lv_goto (tgt := 29) S.1 S.2.1 (dd_at ddX3_parentOf 14 rfl) (by decide) ?_
    exact e_I S hr hlocks hw h (dd_at ddX3_parentOf 17 rfl)

def b_X3_siblingsOf_15 (E : En) (a0 : Nat) (p1 : Int32) (K : Int32 → Dy → Prop) (k15 : Int32 → Int32 → Int32 → Dy → Prop) (v2 : Int32) (v3 : Int32) (v4 : Int32) (d : Dy) : Prop := ∃ b_1 : Nat, eR E a0 5 = some b_1 ∧ okO E b_1 6 ∧ w_X6_size E b_1 d (fun r_5 d_4 => ((r_5 ≤ v4 → K ((v3 &&& ((gI d_4 a0 4) ^^^ (-1))) &&& (((1 : Int32) <<< (p1 &&& 31)) ^^^ (-1))) d_4) ∧ (¬ r_5 ≤ v4 → ((((v2 >>> (v4 &&& 31)) &&& 1) = 0 → k15 v2 v3 (v4 + 1) d_4) ∧ (¬ ((v2 >>> (v4 &&& 31)) &&& 1) = 0 → ∃ b_8 : Nat, eR E a0 5 = some b_8 ∧ okO E b_8 6 ∧ w_X6_get E b_8 v4 1 d_4 (fun r_12 d_11 => k15 v2 (v3 ||| r_12) (v4 + 1) d_11))))))
def l_X3_siblingsOf_15 (E : En) (a0 : Nat) (p1 : Int32) (K : Int32 → Dy → Prop) : Nat → Int32 → Int32 → Int32 → Dy → Prop
  | 0 => fun _ _ _ _ => False
  | n + 1 => b_X3_siblingsOf_15 E a0 p1 K (l_X3_siblingsOf_15 E a0 p1 K n)
def w_X3_siblingsOf (E : En) (a0 : Nat) (p1 : Int32) (d : Dy) (K : Int32 → Dy → Prop) : Prop := okO E a0 3 ∧ ∃ b_13 : Nat, eR E a0 5 = some b_13 ∧ okO E b_13 6 ∧ w_X6_get E b_13 p1 2 d (fun r_17 d_16 => (∃ n_18 : Nat, l_X3_siblingsOf_15 E a0 p1 K n_18 r_17 0 0 d_16))
abbrev rm_X3_siblingsOf : Room := { frames := 1, cells := 0, slots := 0, locals := 23 }
set_option maxRecDepth 100000 in
set_option maxHeartbeats 4000000 in
theorem m_X3_siblingsOf (l : Launch) (D : va_G) (cs : Nat → ClassId) (E : En) (d : Dy) (sz : Nat) (a0 : Nat) (p1 : Int32) (K : Int32 → Dy → Prop) : CI l yX3_siblingsOf (.code yX3_siblingsOf cX3_siblingsOf 5 (some .int) :: wsL_law) rm_X3_siblingsOf D cs E d sz [.ref a0, .int p1] (w_X3_siblingsOf E a0 p1 d K) K := by
  refine e_of (cc := cX3_siblingsOf) (maxL := 5) (ret := (some .int)) (own := RX3) (by decide) rfl rfl (Nat.le_of_ble_eq_true rfl) ?_
  intro p e s m below meth c S hr hlocks hsz H locs hw h ls hl
  have hl : lv_has ls 5 [(0, .ref a0), (1, .int p1)] := hl
  unfold w_X3_siblingsOf at h
  obtain ⟨ha0, h⟩ := h
  have tl15 : ∀ (n : Nat) (v2 : Int32) (v3 : Int32) (v4 : Int32) (d : Dy) (H : Heap) (locs : List Loc) (ls : Array Slot), l_X3_siblingsOf_15 E a0 p1 K n v2 v3 v4 d → Wd D cs (AW E sz) s.heap s E d H locs → lv_has ls 5 [(0, .ref a0), (1, .int p1), (2, .int v2), (3, .int v3), (4, .int v4)] → W p l e rm_X3_siblingsOf s m ([.ref a0, .int p1] : List Value).toArray below meth c H locs 0 0 (MQ below (va_Qi K (OutW D cs E (AW E sz)) (AW E sz)) ([.ref a0, .int p1] : List Value).toArray s rm_X3_siblingsOf.cells rm_X3_siblingsOf.slots (AW E sz)) (F0 m 15 ls []) := by
    intro n15
    induction n15 with
    | zero => intro v2 v3 v4 d H locs ls h; exact absurd h id
    | succ n15 ih15 =>
      intro v2 v3 v4 d H locs ls h hw hl
      have h : b_X3_siblingsOf_15 E a0 p1 K (l_X3_siblingsOf_15 E a0 p1 K n15) v2 v3 v4 d := h
      unfold b_X3_siblingsOf_15 at h
      refine lv_iload S.1 S.2.1 (dd_at ddX3_siblingsOf 10 rfl) (lv_at hl 4 rfl) ?_
      refine lv_aload_n S.1 S.2.1 (dd_at ddX3_siblingsOf 11 rfl) rfl (lv_at hl 0 rfl) ?_
      obtain ⟨b_1, hb_2, ho_3, h⟩ := h
      refine r_getR S hw 3 5 rfl inG3 (by decide) (List.mem_cons_of_mem _ wg98) (by decide) ha0 hb_2 (dd_at ddX3_siblingsOf 12 rfl) ?_
      refine r_callI hw (r_runV (As := []) (rest := [.int v4]) S hw (m_X6_size l D cs E d H.size b_1 _) (cwV 0 S.2.2.2.2 (gV wg670 wg372 wg373 wg51 wg374) rfl rfl rfl (by decide +kernel) ⟨Nat.le_of_ble_eq_true rfl, Nat.le_of_ble_eq_true rfl⟩) (ci := 6) rfl ho_3 h rfl hl.1 rfl (Nat.le_of_ble_eq_true rfl) (dd_at ddX3_siblingsOf 13 rfl) ⟨Nat.le_of_ble_eq_true rfl, Nat.le_of_ble_eq_true rfl⟩) (fun r_5 d_4 H locs h hw => ?_)
      refine lv_icmp_ge (tgt := 55) S.1 S.2.1 (dd_at ddX3_siblingsOf 14 rfl) (by decide) (fun hc_6 => ?_) (fun hc_6 => ?_)
      · have h := h.1 hc_6
        refine lv_iload_n S.1 S.2.1 (dd_at ddX3_siblingsOf 31 rfl) rfl (lv_at hl 3 rfl) ?_
        refine lv_aload_n S.1 S.2.1 (dd_at ddX3_siblingsOf 32 rfl) rfl (lv_at hl 0 rfl) ?_
        refine r_getI S hw 3 4 rfl inG3 (by decide) (List.mem_cons_of_mem _ wg668) (by decide) ha0 (dd_at ddX3_siblingsOf 33 rfl) ?_
        refine lv_iconst (v := -1) S.1 S.2.1 (dd_at ddX3_siblingsOf 34 rfl) (by decide) ?_
        refine lv_ixor S.1 S.2.1 (dd_at ddX3_siblingsOf 35 rfl) ?_
        refine lv_iand S.1 S.2.1 (dd_at ddX3_siblingsOf 36 rfl) ?_
        refine lv_iconst (v := 1) S.1 S.2.1 (dd_at ddX3_siblingsOf 37 rfl) (by decide) ?_
        refine lv_iload_n S.1 S.2.1 (dd_at ddX3_siblingsOf 38 rfl) rfl (lv_at hl 1 rfl) ?_
        refine lv_ishl S.1 S.2.1 (dd_at ddX3_siblingsOf 39 rfl) ?_
        refine lv_iconst (v := -1) S.1 S.2.1 (dd_at ddX3_siblingsOf 40 rfl) (by decide) ?_
        refine lv_ixor S.1 S.2.1 (dd_at ddX3_siblingsOf 41 rfl) ?_
        refine lv_iand S.1 S.2.1 (dd_at ddX3_siblingsOf 42 rfl) ?_
        exact e_I S hr hlocks hw h (dd_at ddX3_siblingsOf 43 rfl)
      · have h := h.2 hc_6
        refine lv_iload_n S.1 S.2.1 (dd_at ddX3_siblingsOf 15 rfl) rfl (lv_at hl 2 rfl) ?_
        refine lv_iload S.1 S.2.1 (dd_at ddX3_siblingsOf 16 rfl) (lv_at hl 4 rfl) ?_
        refine lv_ishr S.1 S.2.1 (dd_at ddX3_siblingsOf 17 rfl) ?_
        refine lv_iconst (v := 1) S.1 S.2.1 (dd_at ddX3_siblingsOf 18 rfl) (by decide) ?_
        refine lv_iand S.1 S.2.1 (dd_at ddX3_siblingsOf 19 rfl) ?_
        refine lv_if_eq (tgt := 49) S.1 S.2.1 (dd_at ddX3_siblingsOf 20 rfl) (by decide) (fun hc_7 => ?_) (fun hc_7 => ?_)
        · have h := h.1 hc_7
          refine lv_iinc (v := v4 + 1) (lv' := [(4, .int (v4 + 1)), (0, .ref a0), (1, .int p1), (2, .int v2), (3, .int v3)]) S.1 S.2.1 (dd_at ddX3_siblingsOf 29 rfl) hl (k := 4) rfl rfl (by decide) rfl (fun ls hl => ?_)
          refine lv_goto (tgt := 15) S.1 S.2.1 (dd_at ddX3_siblingsOf 30 rfl) (by decide) ?_
          exact ih15 v2 v3 (v4 + 1) d_4 H locs ls h hw (lv_sub hl [1, 2, 3, 4, 0] rfl)
        · have h := h.2 hc_7
          refine lv_iload_n S.1 S.2.1 (dd_at ddX3_siblingsOf 21 rfl) rfl (lv_at hl 3 rfl) ?_
          refine lv_aload_n S.1 S.2.1 (dd_at ddX3_siblingsOf 22 rfl) rfl (lv_at hl 0 rfl) ?_
          obtain ⟨b_8, hb_9, ho_10, h⟩ := h
          refine r_getR S hw 3 5 rfl inG3 (by decide) (List.mem_cons_of_mem _ wg98) (by decide) ha0 hb_9 (dd_at ddX3_siblingsOf 23 rfl) ?_
          refine lv_iload S.1 S.2.1 (dd_at ddX3_siblingsOf 24 rfl) (lv_at hl 4 rfl) ?_
          refine lv_iconst (v := 1) S.1 S.2.1 (dd_at ddX3_siblingsOf 25 rfl) (by decide) ?_
          refine r_callI hw (r_runV (As := [.int v4, .int 1]) (rest := [.int v3]) S hw (m_X6_get l D cs E d_4 H.size b_8 v4 1 _) (cwV 2 S.2.2.2.2 (gV wg673 wg623 wg624 wg51 wg625) rfl rfl rfl (by decide +kernel) ⟨Nat.le_of_ble_eq_true rfl, Nat.le_of_ble_eq_true rfl⟩) (ci := 6) rfl ho_10 h rfl hl.1 rfl (Nat.le_of_ble_eq_true rfl) (dd_at ddX3_siblingsOf 26 rfl) ⟨Nat.le_of_ble_eq_true rfl, Nat.le_of_ble_eq_true rfl⟩) (fun r_12 d_11 H locs h hw => ?_)
          refine lv_ior S.1 S.2.1 (dd_at ddX3_siblingsOf 27 rfl) ?_
          refine lv_istore_n (lv' := [(3, .int (v3 ||| r_12)), (0, .ref a0), (1, .int p1), (2, .int v2), (4, .int v4)]) S.1 S.2.1 (dd_at ddX3_siblingsOf 28 rfl) rfl hl (by decide) rfl (fun ls hl => ?_)
          refine lv_iinc (v := v4 + 1) (lv' := [(4, .int (v4 + 1)), (3, .int (v3 ||| r_12)), (0, .ref a0), (1, .int p1), (2, .int v2)]) S.1 S.2.1 (dd_at ddX3_siblingsOf 29 rfl) hl (k := 4) rfl rfl (by decide) rfl (fun ls hl => ?_)
          refine lv_goto (tgt := 15) S.1 S.2.1 (dd_at ddX3_siblingsOf 30 rfl) (by decide) ?_
          exact ih15 v2 (v3 ||| r_12) (v4 + 1) d_11 H locs ls h hw (lv_sub hl [2, 3, 4, 1, 0] rfl)
  refine lv_aload_n S.1 S.2.1 (dd_at ddX3_siblingsOf 0 rfl) rfl (lv_at hl 0 rfl) ?_
  obtain ⟨b_13, hb_14, ho_15, h⟩ := h
  refine r_getR S hw 3 5 rfl inG3 (by decide) (List.mem_cons_of_mem _ wg98) (by decide) ha0 hb_14 (dd_at ddX3_siblingsOf 1 rfl) ?_
  refine lv_iload_n S.1 S.2.1 (dd_at ddX3_siblingsOf 2 rfl) rfl (lv_at hl 1 rfl) ?_
  refine lv_iconst (v := 2) S.1 S.2.1 (dd_at ddX3_siblingsOf 3 rfl) (by decide) ?_
  refine r_callI hw (r_runV (As := [.int p1, .int 2]) (rest := []) S hw (m_X6_get l D cs E d H.size b_13 p1 2 _) (cwV 2 S.2.2.2.2 (gV wg673 wg623 wg624 wg51 wg625) rfl rfl rfl (by decide +kernel) ⟨Nat.le_of_ble_eq_true rfl, Nat.le_of_ble_eq_true rfl⟩) (ci := 6) rfl ho_15 h rfl hl.1 rfl (Nat.le_of_ble_eq_true rfl) (dd_at ddX3_siblingsOf 4 rfl) ⟨Nat.le_of_ble_eq_true rfl, Nat.le_of_ble_eq_true rfl⟩) (fun r_17 d_16 H locs h hw => ?_)
  refine lv_istore_n (lv' := [(2, .int r_17), (0, .ref a0), (1, .int p1)]) S.1 S.2.1 (dd_at ddX3_siblingsOf 5 rfl) rfl hl (by decide) rfl (fun ls hl => ?_)
  refine lv_iconst (v := 0) S.1 S.2.1 (dd_at ddX3_siblingsOf 6 rfl) (by decide) ?_
  refine lv_istore_n (lv' := [(3, .int 0), (2, .int r_17), (0, .ref a0), (1, .int p1)]) S.1 S.2.1 (dd_at ddX3_siblingsOf 7 rfl) rfl hl (by decide) rfl (fun ls hl => ?_)
  refine lv_iconst (v := 0) S.1 S.2.1 (dd_at ddX3_siblingsOf 8 rfl) (by decide) ?_
  refine lv_istore (lv' := [(4, .int 0), (3, .int 0), (2, .int r_17), (0, .ref a0), (1, .int p1)]) S.1 S.2.1 (dd_at ddX3_siblingsOf 9 rfl) hl (by decide) rfl (fun ls hl => ?_)
  obtain ⟨n_18, h⟩ := h
  exact tl15 n_18 r_17 0 0 d_16 H locs ls h hw (lv_sub hl [3, 4, 2, 1, 0] rfl)

def w_X3_relative (E : En) (a0 : Nat) (p1 : Int32) (p2 : Int32) (d : Dy) (K : Int32 → Dy → Prop) : Prop := okO E a0 3 ∧ ((p2 = 0 → w_X3_spouseOf E a0 p1 d (fun r_3 d_2 => K r_3 d_2)) ∧ (p2 = 1 → w_X3_childrenOf E a0 p1 d (fun r_6 d_5 => w_X3_eldest E a0 r_6 d_5 (fun r_8 d_7 => K r_8 d_7))) ∧ (p2 = 2 → w_X3_parentOf E a0 p1 d (fun r_11 d_10 => K r_11 d_10)) ∧ (p2 = 3 → w_X3_siblingsOf E a0 p1 d (fun r_14 d_13 => w_X3_eldest E a0 r_14 d_13 (fun r_16 d_15 => K r_16 d_15))) ∧ (¬ p2 = 0 → ¬ p2 = 1 → ¬ p2 = 2 → ¬ p2 = 3 → K (-1) d))
abbrev rm_X3_relative : Room := { frames := 2, cells := 0, slots := 0, locals := 47 }
set_option maxRecDepth 100000 in
set_option maxHeartbeats 4000000 in
theorem m_X3_relative (l : Launch) (D : va_G) (cs : Nat → ClassId) (E : En) (d : Dy) (sz : Nat) (a0 : Nat) (p1 : Int32) (p2 : Int32) (K : Int32 → Dy → Prop) : CI l yX3_relative (.code yX3_relative cX3_relative 3 (some .int) :: wsL_law) rm_X3_relative D cs E d sz [.ref a0, .int p1, .int p2] (w_X3_relative E a0 p1 p2 d K) K := by
  refine e_of (cc := cX3_relative) (maxL := 3) (ret := (some .int)) (own := RX3) (by decide) rfl rfl (Nat.le_of_ble_eq_true rfl) ?_
  intro p e s m below meth c S hr hlocks hsz H locs hw h ls hl
  have hl : lv_has ls 3 [(0, .ref a0), (1, .int p1), (2, .int p2)] := hl
  unfold w_X3_relative at h
  obtain ⟨ha0, h⟩ := h
  refine lv_iload_n S.1 S.2.1 (dd_at ddX3_relative 0 rfl) rfl (lv_at hl 2 rfl) ?_
  by_cases hc_4 : p2 = 0
  · have h := h.1 hc_4
    refine lv_tableIn (off := 31) (tgt := 32) S.1 S.2.1 (dd_at ddX3_relative 1 rfl) (by rw [hc_4]; decide) (by rw [hc_4]; decide) (by rw [hc_4]; rfl) (by decide) ?_
    refine lv_aload_n S.1 S.2.1 (dd_at ddX3_relative 2 rfl) rfl (lv_at hl 0 rfl) ?_
    refine lv_iload_n S.1 S.2.1 (dd_at ddX3_relative 3 rfl) rfl (lv_at hl 1 rfl) ?_
    refine r_callI hw (r_runV (As := [.int p1]) (rest := []) S hw (m_X3_spouseOf l D cs E d H.size a0 p1 _) (cwV 1 S.2.2.2.2 (gV wg769 wg770 wg771 wg25 wg772) rfl rfl rfl (by decide +kernel) ⟨Nat.le_of_ble_eq_true rfl, Nat.le_of_ble_eq_true rfl⟩) (ci := 3) rfl ha0 h rfl hl.1 rfl (Nat.le_of_ble_eq_true rfl) (dd_at ddX3_relative 4 rfl) ⟨Nat.le_of_ble_eq_true rfl, Nat.le_of_ble_eq_true rfl⟩) (fun r_3 d_2 H locs h hw => ?_)
    exact e_I S hr hlocks hw h (dd_at ddX3_relative 5 rfl)
  · skip
    by_cases hc_9 : p2 = 1
    · have h := h.2.1 hc_9
      refine lv_tableIn (off := 37) (tgt := 38) S.1 S.2.1 (dd_at ddX3_relative 1 rfl) (by rw [hc_9]; decide) (by rw [hc_9]; decide) (by rw [hc_9]; rfl) (by decide) ?_
      refine lv_aload_n S.1 S.2.1 (dd_at ddX3_relative 6 rfl) rfl (lv_at hl 0 rfl) ?_
      refine lv_aload_n S.1 S.2.1 (dd_at ddX3_relative 7 rfl) rfl (lv_at hl 0 rfl) ?_
      refine lv_iload_n S.1 S.2.1 (dd_at ddX3_relative 8 rfl) rfl (lv_at hl 1 rfl) ?_
      refine r_callI hw (r_runV (As := [.int p1]) (rest := [.ref a0]) S hw (m_X3_childrenOf l D cs E d H.size a0 p1 _) (cwV 1 S.2.2.2.2 (gV wg719 wg720 wg721 wg25 wg722) rfl rfl rfl (by decide +kernel) ⟨Nat.le_of_ble_eq_true rfl, Nat.le_of_ble_eq_true rfl⟩) (ci := 3) rfl ha0 h rfl hl.1 rfl (Nat.le_of_ble_eq_true rfl) (dd_at ddX3_relative 9 rfl) ⟨Nat.le_of_ble_eq_true rfl, Nat.le_of_ble_eq_true rfl⟩) (fun r_6 d_5 H locs h hw => ?_)
      refine r_callI hw (r_runV (As := [.int r_6]) (rest := []) S hw (m_X3_eldest l D cs E d_5 H.size a0 r_6 _) (cwV 1 S.2.2.2.2 (gV wg773 wg774 wg775 wg25 wg776) rfl rfl rfl (by decide +kernel) ⟨Nat.le_of_ble_eq_true rfl, Nat.le_of_ble_eq_true rfl⟩) (ci := 3) rfl ha0 h rfl hl.1 rfl (Nat.le_of_ble_eq_true rfl) (dd_at ddX3_relative 10 rfl) ⟨Nat.le_of_ble_eq_true rfl, Nat.le_of_ble_eq_true rfl⟩) (fun r_8 d_7 H locs h hw => ?_)
      exact e_I S hr hlocks hw h (dd_at ddX3_relative 11 rfl)
    · skip
      by_cases hc_12 : p2 = 2
      · have h := h.2.2.1 hc_12
        refine lv_tableIn (off := 47) (tgt := 48) S.1 S.2.1 (dd_at ddX3_relative 1 rfl) (by rw [hc_12]; decide) (by rw [hc_12]; decide) (by rw [hc_12]; rfl) (by decide) ?_
        refine lv_aload_n S.1 S.2.1 (dd_at ddX3_relative 12 rfl) rfl (lv_at hl 0 rfl) ?_
        refine lv_iload_n S.1 S.2.1 (dd_at ddX3_relative 13 rfl) rfl (lv_at hl 1 rfl) ?_
        refine r_callI hw (r_runV (As := [.int p1]) (rest := []) S hw (m_X3_parentOf l D cs E d H.size a0 p1 _) (cwV 1 S.2.2.2.2 (gV wg777 wg778 wg779 wg25 wg780) rfl rfl rfl (by decide +kernel) ⟨Nat.le_of_ble_eq_true rfl, Nat.le_of_ble_eq_true rfl⟩) (ci := 3) rfl ha0 h rfl hl.1 rfl (Nat.le_of_ble_eq_true rfl) (dd_at ddX3_relative 14 rfl) ⟨Nat.le_of_ble_eq_true rfl, Nat.le_of_ble_eq_true rfl⟩) (fun r_11 d_10 H locs h hw => ?_)
        exact e_I S hr hlocks hw h (dd_at ddX3_relative 15 rfl)
      · skip
        by_cases hc_17 : p2 = 3
        · have h := h.2.2.2.1 hc_17
          refine lv_tableIn (off := 53) (tgt := 54) S.1 S.2.1 (dd_at ddX3_relative 1 rfl) (by rw [hc_17]; decide) (by rw [hc_17]; decide) (by rw [hc_17]; rfl) (by decide) ?_
          refine lv_aload_n S.1 S.2.1 (dd_at ddX3_relative 16 rfl) rfl (lv_at hl 0 rfl) ?_
          refine lv_aload_n S.1 S.2.1 (dd_at ddX3_relative 17 rfl) rfl (lv_at hl 0 rfl) ?_
          refine lv_iload_n S.1 S.2.1 (dd_at ddX3_relative 18 rfl) rfl (lv_at hl 1 rfl) ?_
          refine r_callI hw (r_runV (As := [.int p1]) (rest := [.ref a0]) S hw (m_X3_siblingsOf l D cs E d H.size a0 p1 _) (cwV 1 S.2.2.2.2 (gV wg785 wg786 wg787 wg25 wg788) rfl rfl rfl (by decide +kernel) ⟨Nat.le_of_ble_eq_true rfl, Nat.le_of_ble_eq_true rfl⟩) (ci := 3) rfl ha0 h rfl hl.1 rfl (Nat.le_of_ble_eq_true rfl) (dd_at ddX3_relative 19 rfl) ⟨Nat.le_of_ble_eq_true rfl, Nat.le_of_ble_eq_true rfl⟩) (fun r_14 d_13 H locs h hw => ?_)
          refine r_callI hw (r_runV (As := [.int r_14]) (rest := []) S hw (m_X3_eldest l D cs E d_13 H.size a0 r_14 _) (cwV 1 S.2.2.2.2 (gV wg773 wg774 wg775 wg25 wg776) rfl rfl rfl (by decide +kernel) ⟨Nat.le_of_ble_eq_true rfl, Nat.le_of_ble_eq_true rfl⟩) (ci := 3) rfl ha0 h rfl hl.1 rfl (Nat.le_of_ble_eq_true rfl) (dd_at ddX3_relative 20 rfl) ⟨Nat.le_of_ble_eq_true rfl, Nat.le_of_ble_eq_true rfl⟩) (fun r_16 d_15 H locs h hw => ?_)
          exact e_I S hr hlocks hw h (dd_at ddX3_relative 21 rfl)
        · skip
          have h := h.2.2.2.2 hc_4 hc_9 hc_12 hc_17
          have thc_4 := lv_neT (k := 0) (a := 0) hc_4 (by decide)
          have thc_9 := lv_neT (k := 1) (a := 1) hc_9 (by decide)
          have thc_12 := lv_neT (k := 2) (a := 2) hc_12 (by decide)
          have thc_17 := lv_neT (k := 3) (a := 3) hc_17 (by decide)
          refine lv_tableOut (tgt := 64) S.1 S.2.1 (dd_at ddX3_relative 1 rfl) (by omega) (by decide) ?_
          refine lv_iconst (v := -1) S.1 S.2.1 (dd_at ddX3_relative 22 rfl) (by decide) ?_
          exact e_I S hr hlocks hw h (dd_at ddX3_relative 23 rfl)

def b_X3_heirOf_101 (E : En) (a0 : Nat) (p1 : Int32) (p2 : Int32) (p3 : Int32) (K : Int32 → Dy → Prop) (k61 : Nat → Int32 → Dy → Prop) (v4 : Nat) (v5 : Int32) (s0 : Int32) (d : Dy) : Prop := okO E v4 7 ∧ ((s0 = (-1) → k61 v4 (v5 + 1) d) ∧ (¬ s0 = (-1) → K s0 d))
def b_X3_heirOf_61 (E : En) (a0 : Nat) (p1 : Int32) (p2 : Int32) (p3 : Int32) (K : Int32 → Dy → Prop) (k61 : Nat → Int32 → Dy → Prop) (v4 : Nat) (v5 : Int32) (d : Dy) : Prop := okO E v4 7 ∧ w_X7_size E v4 d (fun r_3 d_2 => ((r_3 ≤ v5 → K (-1) d_2) ∧ (¬ r_3 ≤ v5 → ∃ b_5 : Nat, eR E a0 8 = some b_5 ∧ okO E b_5 0 ∧ w_X7_holds E v4 v5 b_5 d_2 (fun r_9 d_8 => ((r_9 = 0 → b_X3_heirOf_101 E a0 p1 p2 p3 K k61 v4 v5 (-1) d_8) ∧ (¬ r_9 = 0 → w_X7_what E v4 v5 d_8 (fun r_12 d_11 => w_X3_relative E a0 p1 r_12 d_11 (fun r_14 d_13 => b_X3_heirOf_101 E a0 p1 p2 p3 K k61 v4 v5 r_14 d_13))))))))
def l_X3_heirOf_61 (E : En) (a0 : Nat) (p1 : Int32) (p2 : Int32) (p3 : Int32) (K : Int32 → Dy → Prop) : Nat → Nat → Int32 → Dy → Prop
  | 0 => fun _ _ _ => False
  | n + 1 => b_X3_heirOf_61 E a0 p1 p2 p3 K (l_X3_heirOf_61 E a0 p1 p2 p3 K n)
def w_X3_heirOf (E : En) (a0 : Nat) (p1 : Int32) (p2 : Int32) (p3 : Int32) (d : Dy) (K : Int32 → Dy → Prop) : Prop := okO E a0 3 ∧ ∃ b_15 : Nat, eR E a0 0 = some b_15 ∧ okO E b_15 8 ∧ w_X8_inForce E b_15 0 d (fun r_19 d_18 => ((r_19 = none → K (-1) d_18) ∧ (∀ b_21 : Nat, r_19 = some b_21 → okO E b_21 7 ∧ ∃ b_23 : Nat, eR E a0 8 = some b_23 ∧ okO E b_23 0 ∧ w_X3_sinceOf E a0 p2 d_18 (fun r_27 d_26 => w_X0_know E b_23 0 (p3 - r_27) d_26 (fun d_28 => ∃ b_30 : Nat, eR E a0 8 = some b_30 ∧ okO E b_30 0 ∧ ∃ b_33 : Nat, eR E a0 0 = some b_33 ∧ okO E b_33 8 ∧ ∃ b_36 : Nat, eR E b_33 2 = some b_36 ∧ okO E b_36 6 ∧ w_X6_get E b_36 p2 0 d_28 (fun r_40 d_39 => w_X0_know E b_30 4 r_40 d_39 (fun d_41 => w_X3_knowPerson E a0 p1 p3 d_41 (fun d_43 => (∃ n_45 : Nat, l_X3_heirOf_61 E a0 p1 p2 p3 K n_45 b_21 0 d_43)))))))))
abbrev rm_X3_heirOf : Room := { frames := 3, cells := 0, slots := 0, locals := 69 }
set_option maxRecDepth 100000 in
set_option maxHeartbeats 4000000 in
theorem m_X3_heirOf (l : Launch) (D : va_G) (cs : Nat → ClassId) (E : En) (d : Dy) (sz : Nat) (a0 : Nat) (p1 : Int32) (p2 : Int32) (p3 : Int32) (K : Int32 → Dy → Prop) : CI l yX3_heirOf (.code yX3_heirOf cX3_heirOf 7 (some .int) :: wsL_law) rm_X3_heirOf D cs E d sz [.ref a0, .int p1, .int p2, .int p3] (w_X3_heirOf E a0 p1 p2 p3 d K) K := by
  refine e_of (cc := cX3_heirOf) (maxL := 7) (ret := (some .int)) (own := RX3) (by decide) rfl rfl (Nat.le_of_ble_eq_true rfl) ?_
  intro p e s m below meth c S hr hlocks hsz H locs hw h ls hl
  have hl : lv_has ls 7 [(0, .ref a0), (1, .int p1), (2, .int p2), (3, .int p3)] := hl
  unfold w_X3_heirOf at h
  obtain ⟨ha0, h⟩ := h
  have tl61 : ∀ (n : Nat) (v4 : Nat) (v5 : Int32) (d : Dy) (H : Heap) (locs : List Loc) (ls : Array Slot), l_X3_heirOf_61 E a0 p1 p2 p3 K n v4 v5 d → Wd D cs (AW E sz) s.heap s E d H locs → lv_has ls 7 [(0, .ref a0), (1, .int p1), (4, .ref v4), (5, .int v5)] → W p l e rm_X3_heirOf s m ([.ref a0, .int p1, .int p2, .int p3] : List Value).toArray below meth c H locs 0 0 (MQ below (va_Qi K (OutW D cs E (AW E sz)) (AW E sz)) ([.ref a0, .int p1, .int p2, .int p3] : List Value).toArray s rm_X3_heirOf.cells rm_X3_heirOf.slots (AW E sz)) (F0 m 61 ls []) := by
    intro n61
    induction n61 with
    | zero => intro v4 v5 d H locs ls h; exact absurd h id
    | succ n61 ih61 =>
      have tb101 : ∀ (v4 : Nat) (v5 : Int32) (s0 : Int32) (d : Dy) (H : Heap) (locs : List Loc) (ls : Array Slot), b_X3_heirOf_101 E a0 p1 p2 p3 K (l_X3_heirOf_61 E a0 p1 p2 p3 K n61) v4 v5 s0 d → Wd D cs (AW E sz) s.heap s E d H locs → lv_has ls 7 [(0, .ref a0), (1, .int p1), (4, .ref v4), (5, .int v5)] → W p l e rm_X3_heirOf s m ([.ref a0, .int p1, .int p2, .int p3] : List Value).toArray below meth c H locs 0 0 (MQ below (va_Qi K (OutW D cs E (AW E sz)) (AW E sz)) ([.ref a0, .int p1, .int p2, .int p3] : List Value).toArray s rm_X3_heirOf.cells rm_X3_heirOf.slots (AW E sz)) (F0 m 101 ls [.int s0]) := by
        intro v4 v5 s0 d H locs ls h hw hl
        unfold b_X3_heirOf_101 at h
        obtain ⟨hov4, h⟩ := h
        refine lv_istore (lv' := [(6, .int s0), (0, .ref a0), (1, .int p1), (4, .ref v4), (5, .int v5)]) S.1 S.2.1 (dd_at ddX3_heirOf 52 rfl) hl (by decide) rfl (fun ls hl => ?_)
        refine lv_iload S.1 S.2.1 (dd_at ddX3_heirOf 53 rfl) (lv_at hl 0 rfl) ?_
        refine lv_iconst (v := -1) S.1 S.2.1 (dd_at ddX3_heirOf 54 rfl) (by decide) ?_
        refine lv_icmp_eq (tgt := 112) S.1 S.2.1 (dd_at ddX3_heirOf 55 rfl) (by decide) (fun hc_1 => ?_) (fun hc_1 => ?_)
        · have h := h.1 hc_1
          refine lv_iinc (v := v5 + 1) (lv' := [(5, .int (v5 + 1)), (6, .int s0), (0, .ref a0), (1, .int p1), (4, .ref v4)]) S.1 S.2.1 (dd_at ddX3_heirOf 58 rfl) hl (k := 4) rfl rfl (by decide) rfl (fun ls hl => ?_)
          refine lv_goto (tgt := 61) S.1 S.2.1 (dd_at ddX3_heirOf 59 rfl) (by decide) ?_
          exact ih61 v4 (v5 + 1) d H locs ls h hw (lv_sub hl [2, 3, 4, 0] rfl)
        · have h := h.2 hc_1
          refine lv_iload S.1 S.2.1 (dd_at ddX3_heirOf 56 rfl) (lv_at hl 0 rfl) ?_
          exact e_I S hr hlocks hw h (dd_at ddX3_heirOf 57 rfl)
      intro v4 v5 d H locs ls h hw hl
      have h : b_X3_heirOf_61 E a0 p1 p2 p3 K (l_X3_heirOf_61 E a0 p1 p2 p3 K n61) v4 v5 d := h
      unfold b_X3_heirOf_61 at h
      obtain ⟨hov4, h⟩ := h
      refine lv_iload S.1 S.2.1 (dd_at ddX3_heirOf 34 rfl) (lv_at hl 3 rfl) ?_
      refine lv_aload S.1 S.2.1 (dd_at ddX3_heirOf 35 rfl) (lv_at hl 2 rfl) ?_
      refine r_callI hw (r_runV (As := []) (rest := [.int v5]) S hw (m_X7_size l D cs E d H.size v4 _) (cwV 0 S.2.2.2.2 (gV wg730 wg405 wg406 wg370 wg407) rfl rfl rfl (by decide +kernel) ⟨Nat.le_of_ble_eq_true rfl, Nat.le_of_ble_eq_true rfl⟩) (ci := 7) rfl hov4 h rfl hl.1 rfl (Nat.le_of_ble_eq_true rfl) (dd_at ddX3_heirOf 36 rfl) ⟨Nat.le_of_ble_eq_true rfl, Nat.le_of_ble_eq_true rfl⟩) (fun r_3 d_2 H locs h hw => ?_)
      refine lv_icmp_ge (tgt := 118) S.1 S.2.1 (dd_at ddX3_heirOf 37 rfl) (by decide) (fun hc_4 => ?_) (fun hc_4 => ?_)
      · have h := h.1 hc_4
        refine lv_iconst (v := -1) S.1 S.2.1 (dd_at ddX3_heirOf 60 rfl) (by decide) ?_
        exact e_I S hr hlocks hw h (dd_at ddX3_heirOf 61 rfl)
      · have h := h.2 hc_4
        refine lv_aload S.1 S.2.1 (dd_at ddX3_heirOf 38 rfl) (lv_at hl 2 rfl) ?_
        refine lv_iload S.1 S.2.1 (dd_at ddX3_heirOf 39 rfl) (lv_at hl 3 rfl) ?_
        refine lv_aload_n S.1 S.2.1 (dd_at ddX3_heirOf 40 rfl) rfl (lv_at hl 0 rfl) ?_
        obtain ⟨b_5, hb_6, ho_7, h⟩ := h
        refine r_getR S hw 3 8 rfl inG3 (by decide) (List.mem_cons_of_mem _ wg104) (by decide) ha0 hb_6 (dd_at ddX3_heirOf 41 rfl) ?_
        refine r_callI hw (r_runV (As := [.int v5, .ref b_5]) (rest := []) S hw (m_X7_holds l D cs E d_2 H.size v4 v5 b_5 _) (cwV 2 S.2.2.2.2 (gV wg731 wg732 wg733 wg370 wg734) rfl rfl rfl (by decide +kernel) ⟨Nat.le_of_ble_eq_true rfl, Nat.le_of_ble_eq_true rfl⟩) (ci := 7) rfl hov4 h rfl hl.1 rfl (Nat.le_of_ble_eq_true rfl) (dd_at ddX3_heirOf 42 rfl) ⟨Nat.le_of_ble_eq_true rfl, Nat.le_of_ble_eq_true rfl⟩) (fun r_9 d_8 H locs h hw => ?_)
        refine lv_if_eq (tgt := 100) S.1 S.2.1 (dd_at ddX3_heirOf 43 rfl) (by decide) (fun hc_10 => ?_) (fun hc_10 => ?_)
        · have h := h.1 hc_10
          refine lv_iconst (v := -1) S.1 S.2.1 (dd_at ddX3_heirOf 51 rfl) (by decide) ?_
          exact tb101 v4 v5 (-1) d_8 H locs ls h hw (lv_sub hl [0, 1, 2, 3] rfl)
        · have h := h.2 hc_10
          refine lv_aload_n S.1 S.2.1 (dd_at ddX3_heirOf 44 rfl) rfl (lv_at hl 0 rfl) ?_
          refine lv_iload_n S.1 S.2.1 (dd_at ddX3_heirOf 45 rfl) rfl (lv_at hl 1 rfl) ?_
          refine lv_aload S.1 S.2.1 (dd_at ddX3_heirOf 46 rfl) (lv_at hl 2 rfl) ?_
          refine lv_iload S.1 S.2.1 (dd_at ddX3_heirOf 47 rfl) (lv_at hl 3 rfl) ?_
          refine r_callI hw (r_runV (As := [.int v5]) (rest := [.int p1, .ref a0]) S hw (m_X7_what l D cs E d_8 H.size v4 v5 _) (cwV 1 S.2.2.2.2 (gV wg761 wg762 wg763 wg370 wg764) rfl rfl rfl (by decide +kernel) ⟨Nat.le_of_ble_eq_true rfl, Nat.le_of_ble_eq_true rfl⟩) (ci := 7) rfl hov4 h rfl hl.1 rfl (Nat.le_of_ble_eq_true rfl) (dd_at ddX3_heirOf 48 rfl) ⟨Nat.le_of_ble_eq_true rfl, Nat.le_of_ble_eq_true rfl⟩) (fun r_12 d_11 H locs h hw => ?_)
          refine r_callI hw (r_runV (As := [.int p1, .int r_12]) (rest := []) S hw (m_X3_relative l D cs E d_11 H.size a0 p1 r_12 _) (cwV 2 S.2.2.2.2 (gV wg765 wg766 wg767 wg25 wg768) rfl rfl rfl (by decide +kernel) ⟨Nat.le_of_ble_eq_true rfl, Nat.le_of_ble_eq_true rfl⟩) (ci := 3) rfl ha0 h rfl hl.1 rfl (Nat.le_of_ble_eq_true rfl) (dd_at ddX3_heirOf 49 rfl) ⟨Nat.le_of_ble_eq_true rfl, Nat.le_of_ble_eq_true rfl⟩) (fun r_14 d_13 H locs h hw => ?_)
          refine lv_goto (tgt := 101) S.1 S.2.1 (dd_at ddX3_heirOf 50 rfl) (by decide) ?_
          exact tb101 v4 v5 r_14 d_13 H locs ls h hw (lv_sub hl [0, 1, 2, 3] rfl)
  refine lv_aload_n S.1 S.2.1 (dd_at ddX3_heirOf 0 rfl) rfl (lv_at hl 0 rfl) ?_
  obtain ⟨b_15, hb_16, ho_17, h⟩ := h
  refine r_getR S hw 3 0 rfl inG3 (by decide) (List.mem_cons_of_mem _ wg105) (by decide) ha0 hb_16 (dd_at ddX3_heirOf 1 rfl) ?_
  refine lv_iconst (v := 0) S.1 S.2.1 (dd_at ddX3_heirOf 2 rfl) (by decide) ?_
  refine r_callQ hw (r_runV (As := [.int 0]) (rest := []) S hw (m_X8_inForce l D cs E d H.size b_15 0 _) (cwV 1 S.2.2.2.2 (gV wg702 wg703 wg704 wg15 wg705) rfl rfl rfl (by decide +kernel) ⟨Nat.le_of_ble_eq_true rfl, Nat.le_of_ble_eq_true rfl⟩) (ci := 8) rfl ho_17 h rfl hl.1 rfl (Nat.le_of_ble_eq_true rfl) (dd_at ddX3_heirOf 3 rfl) ⟨Nat.le_of_ble_eq_true rfl, Nat.le_of_ble_eq_true rfl⟩) (fun r_19 d_18 H locs h hw => ?_)
  refine lv_astoreQ (lv' := [(4, va_rf r_19), (0, .ref a0), (1, .int p1), (2, .int p2), (3, .int p3)]) S.1 S.2.1 (dd_at ddX3_heirOf 4 rfl) hl (by decide) rfl (fun ls hl => ?_)
  refine lv_aloadQ S.1 S.2.1 (dd_at ddX3_heirOf 5 rfl) (lv_at hl 0 rfl) ?_
  rcases Option.eq_none_or_eq_some r_19 with hq_46 | ⟨b_21, hq_46⟩
  · have h := h.1 hq_46
    rw [hq_46] at hl
    rw [hq_46]
    have hl : lv_has ls 7 [(4, va_rf none), (0, .ref a0), (1, .int p1), (2, .int p2), (3, .int p3)] := hl
    refine lv_ifnonnullN S.1 S.2.1 (dd_at ddX3_heirOf 6 rfl) ?_
    refine lv_iconst (v := -1) S.1 S.2.1 (dd_at ddX3_heirOf 7 rfl) (by decide) ?_
    exact e_I S hr hlocks hw h (dd_at ddX3_heirOf 8 rfl)
  · obtain ⟨ho_22, h⟩ := h.2 b_21 hq_46
    rw [hq_46] at hl
    rw [hq_46]
    have hl : lv_has ls 7 [(4, .ref b_21), (0, .ref a0), (1, .int p1), (2, .int p2), (3, .int p3)] := hl
    refine lv_ifnonnull (tgt := 17) S.1 S.2.1 (dd_at ddX3_heirOf 6 rfl) (by decide) ?_
    refine lv_aload_n S.1 S.2.1 (dd_at ddX3_heirOf 9 rfl) rfl (lv_at hl 1 rfl) ?_
    obtain ⟨b_23, hb_24, ho_25, h⟩ := h
    refine r_getR S hw 3 8 rfl inG3 (by decide) (List.mem_cons_of_mem _ wg104) (by decide) ha0 hb_24 (dd_at ddX3_heirOf 10 rfl) ?_
    refine lv_iconst (v := 0) S.1 S.2.1 (dd_at ddX3_heirOf 11 rfl) (by decide) ?_
    refine lv_iload_n S.1 S.2.1 (dd_at ddX3_heirOf 12 rfl) rfl (lv_at hl 4 rfl) ?_
    refine lv_aload_n S.1 S.2.1 (dd_at ddX3_heirOf 13 rfl) rfl (lv_at hl 1 rfl) ?_
    refine lv_iload_n S.1 S.2.1 (dd_at ddX3_heirOf 14 rfl) rfl (lv_at hl 3 rfl) ?_
    refine r_callI hw (r_runV (As := [.int p2]) (rest := [.int p3, .int 0, .ref b_23]) S hw (m_X3_sinceOf l D cs E d_18 H.size a0 p2 _) (cwV 1 S.2.2.2.2 (gV wg706 wg707 wg708 wg25 wg709) rfl rfl rfl (by decide +kernel) ⟨Nat.le_of_ble_eq_true rfl, Nat.le_of_ble_eq_true rfl⟩) (ci := 3) rfl ha0 h rfl hl.1 rfl (Nat.le_of_ble_eq_true rfl) (dd_at ddX3_heirOf 15 rfl) ⟨Nat.le_of_ble_eq_true rfl, Nat.le_of_ble_eq_true rfl⟩) (fun r_27 d_26 H locs h hw => ?_)
    refine lv_isub S.1 S.2.1 (dd_at ddX3_heirOf 16 rfl) ?_
    refine r_callV hw (r_runV (As := [.int 0, .int (p3 - r_27)]) (rest := []) S hw (m_X0_know l D cs E d_26 H.size b_23 0 (p3 - r_27) _) (cwV 2 S.2.2.2.2 (gV wg710 wg711 wg712 wg103 wg713) rfl rfl rfl (by decide +kernel) ⟨Nat.le_of_ble_eq_true rfl, Nat.le_of_ble_eq_true rfl⟩) (ci := 0) rfl ho_25 h rfl hl.1 rfl (Nat.le_of_ble_eq_true rfl) (dd_at ddX3_heirOf 17 rfl) ⟨Nat.le_of_ble_eq_true rfl, Nat.le_of_ble_eq_true rfl⟩) (fun d_28 H locs h hw => ?_)
    refine lv_aload_n S.1 S.2.1 (dd_at ddX3_heirOf 18 rfl) rfl (lv_at hl 1 rfl) ?_
    obtain ⟨b_30, hb_31, ho_32, h⟩ := h
    refine r_getR S hw 3 8 rfl inG3 (by decide) (List.mem_cons_of_mem _ wg104) (by decide) ha0 hb_31 (dd_at ddX3_heirOf 19 rfl) ?_
    refine lv_iconst (v := 4) S.1 S.2.1 (dd_at ddX3_heirOf 20 rfl) (by decide) ?_
    refine lv_aload_n S.1 S.2.1 (dd_at ddX3_heirOf 21 rfl) rfl (lv_at hl 1 rfl) ?_
    obtain ⟨b_33, hb_34, ho_35, h⟩ := h
    refine r_getR S hw 3 0 rfl inG3 (by decide) (List.mem_cons_of_mem _ wg105) (by decide) ha0 hb_34 (dd_at ddX3_heirOf 22 rfl) ?_
    obtain ⟨b_36, hb_37, ho_38, h⟩ := h
    refine r_getRN S hw 8 2 rfl inG8 (by decide) nx6 (by decide) ho_35 hb_37 (dd_at ddX3_heirOf 23 rfl) ?_
    refine lv_iload_n S.1 S.2.1 (dd_at ddX3_heirOf 24 rfl) rfl (lv_at hl 3 rfl) ?_
    refine lv_iconst (v := 0) S.1 S.2.1 (dd_at ddX3_heirOf 25 rfl) (by decide) ?_
    refine r_callI hw (r_runV (As := [.int p2, .int 0]) (rest := [.int 4, .ref b_30]) S hw (m_X6_get l D cs E d_28 H.size b_36 p2 0 _) (cwV 2 S.2.2.2.2 (gV wg673 wg623 wg624 wg51 wg625) rfl rfl rfl (by decide +kernel) ⟨Nat.le_of_ble_eq_true rfl, Nat.le_of_ble_eq_true rfl⟩) (ci := 6) rfl ho_38 h rfl hl.1 rfl (Nat.le_of_ble_eq_true rfl) (dd_at ddX3_heirOf 26 rfl) ⟨Nat.le_of_ble_eq_true rfl, Nat.le_of_ble_eq_true rfl⟩) (fun r_40 d_39 H locs h hw => ?_)
    refine r_callV hw (r_runV (As := [.int 4, .int r_40]) (rest := []) S hw (m_X0_know l D cs E d_39 H.size b_30 4 r_40 _) (cwV 2 S.2.2.2.2 (gV wg710 wg711 wg712 wg103 wg713) rfl rfl rfl (by decide +kernel) ⟨Nat.le_of_ble_eq_true rfl, Nat.le_of_ble_eq_true rfl⟩) (ci := 0) rfl ho_32 h rfl hl.1 rfl (Nat.le_of_ble_eq_true rfl) (dd_at ddX3_heirOf 27 rfl) ⟨Nat.le_of_ble_eq_true rfl, Nat.le_of_ble_eq_true rfl⟩) (fun d_41 H locs h hw => ?_)
    refine lv_aload_n S.1 S.2.1 (dd_at ddX3_heirOf 28 rfl) rfl (lv_at hl 1 rfl) ?_
    refine lv_iload_n S.1 S.2.1 (dd_at ddX3_heirOf 29 rfl) rfl (lv_at hl 2 rfl) ?_
    refine lv_iload_n S.1 S.2.1 (dd_at ddX3_heirOf 30 rfl) rfl (lv_at hl 4 rfl) ?_
    refine r_callV hw (r_runV (As := [.int p1, .int p3]) (rest := []) S hw (m_X3_knowPerson l D cs E d_41 H.size a0 p1 p3 _) (cwV 2 S.2.2.2.2 (gV wg714 wg715 wg716 wg25 wg717) rfl rfl rfl (by decide +kernel) ⟨Nat.le_of_ble_eq_true rfl, Nat.le_of_ble_eq_true rfl⟩) (ci := 3) rfl ha0 h rfl hl.1 rfl (Nat.le_of_ble_eq_true rfl) (dd_at ddX3_heirOf 31 rfl) ⟨Nat.le_of_ble_eq_true rfl, Nat.le_of_ble_eq_true rfl⟩) (fun d_43 H locs h hw => ?_)
    refine lv_iconst (v := 0) S.1 S.2.1 (dd_at ddX3_heirOf 32 rfl) (by decide) ?_
    refine lv_istore (lv' := [(5, .int 0), (4, .ref b_21), (0, .ref a0), (1, .int p1), (2, .int p2), (3, .int p3)]) S.1 S.2.1 (dd_at ddX3_heirOf 33 rfl) hl (by decide) rfl (fun ls hl => ?_)
    obtain ⟨n_45, h⟩ := h
    exact tl61 n_45 b_21 0 d_43 H locs ls h hw (lv_sub hl [2, 3, 1, 0] rfl)

def b_X3_die_23 (E : En) (a0 : Nat) (p1 : Int32) (p2 : Int32) (K : Dy → Prop) (k23 : Int32 → Dy → Prop) (v3 : Int32) (d : Dy) : Prop := ∃ b_1 : Nat, eR E a0 6 = some b_1 ∧ okO E b_1 6 ∧ w_X6_size E b_1 d (fun r_5 d_4 => ((r_5 ≤ v3 → K d_4) ∧ (¬ r_5 ≤ v3 → w_X3_holderOf E a0 v3 d_4 (fun r_8 d_7 => ((¬ r_8 = p1 → k23 (v3 + 1) d_7) ∧ (r_8 = p1 → w_X3_heirOf E a0 p1 v3 p2 d_7 (fun r_11 d_10 => w_X3_hold E a0 v3 r_11 p2 d_10 (fun d_12 => k23 (v3 + 1) d_12))))))))
def l_X3_die_23 (E : En) (a0 : Nat) (p1 : Int32) (p2 : Int32) (K : Dy → Prop) : Nat → Int32 → Dy → Prop
  | 0 => fun _ _ => False
  | n + 1 => b_X3_die_23 E a0 p1 p2 K (l_X3_die_23 E a0 p1 p2 K n)
def w_X3_die (E : En) (a0 : Nat) (p1 : Int32) (p2 : Int32) (d : Dy) (K : Dy → Prop) : Prop := okO E a0 3 ∧ w_X3_lives E a0 p1 d (fun r_15 d_14 => ((¬ r_15 = 0 → (∃ n_17 : Nat, l_X3_die_23 E a0 p1 p2 K n_17 0 (pI d_14 a0 4 ((gI d_14 a0 4) ||| ((1 : Int32) <<< (p1 &&& 31)))))) ∧ (r_15 = 0 → K d_14)))
abbrev rm_X3_die : Room := { frames := 4, cells := 0, slots := 0, locals := 95 }
set_option maxRecDepth 100000 in
set_option maxHeartbeats 4000000 in
theorem m_X3_die (l : Launch) (D : va_G) (cs : Nat → ClassId) (E : En) (d : Dy) (sz : Nat) (a0 : Nat) (p1 : Int32) (p2 : Int32) (K : Dy → Prop) : CV l yX3_die (.code yX3_die cX3_die 5 none :: wsL_law) rm_X3_die D cs E d sz [.ref a0, .int p1, .int p2] (w_X3_die E a0 p1 p2 d K) K := by
  refine e_of (cc := cX3_die) (maxL := 5) (ret := none) (own := RX3) (by decide) rfl rfl (Nat.le_of_ble_eq_true rfl) ?_
  intro p e s m below meth c S hr hlocks hsz H locs hw h ls hl
  have hl : lv_has ls 5 [(0, .ref a0), (1, .int p1), (2, .int p2)] := hl
  unfold w_X3_die at h
  obtain ⟨ha0, h⟩ := h
  have tl23 : ∀ (n : Nat) (v3 : Int32) (d : Dy) (H : Heap) (locs : List Loc) (ls : Array Slot), l_X3_die_23 E a0 p1 p2 K n v3 d → Wd D cs (AW E sz) s.heap s E d H locs → lv_has ls 5 [(0, .ref a0), (1, .int p1), (2, .int p2), (3, .int v3)] → W p l e rm_X3_die s m ([.ref a0, .int p1, .int p2] : List Value).toArray below meth c H locs 0 0 (MQ below (va_Qv K (OutW D cs E (AW E sz)) (AW E sz)) ([.ref a0, .int p1, .int p2] : List Value).toArray s rm_X3_die.cells rm_X3_die.slots (AW E sz)) (F0 m 23 ls []) := by
    intro n23
    induction n23 with
    | zero => intro v3 d H locs ls h; exact absurd h id
    | succ n23 ih23 =>
      intro v3 d H locs ls h hw hl
      have h : b_X3_die_23 E a0 p1 p2 K (l_X3_die_23 E a0 p1 p2 K n23) v3 d := h
      unfold b_X3_die_23 at h
      refine lv_iload_n S.1 S.2.1 (dd_at ddX3_die 15 rfl) rfl (lv_at hl 3 rfl) ?_
      refine lv_aload_n S.1 S.2.1 (dd_at ddX3_die 16 rfl) rfl (lv_at hl 0 rfl) ?_
      obtain ⟨b_1, hb_2, ho_3, h⟩ := h
      refine r_getR S hw 3 6 rfl inG3 (by decide) (List.mem_cons_of_mem _ wg99) (by decide) ha0 hb_2 (dd_at ddX3_die 17 rfl) ?_
      refine r_callI hw (r_runV (As := []) (rest := [.int v3]) S hw (m_X6_size l D cs E d H.size b_1 _) (cwV 0 S.2.2.2.2 (gV wg670 wg372 wg373 wg51 wg374) rfl rfl rfl (by decide +kernel) ⟨Nat.le_of_ble_eq_true rfl, Nat.le_of_ble_eq_true rfl⟩) (ci := 6) rfl ho_3 h rfl hl.1 rfl (Nat.le_of_ble_eq_true rfl) (dd_at ddX3_die 18 rfl) ⟨Nat.le_of_ble_eq_true rfl, Nat.le_of_ble_eq_true rfl⟩) (fun r_5 d_4 H locs h hw => ?_)
      refine lv_icmp_ge (tgt := 66) S.1 S.2.1 (dd_at ddX3_die 19 rfl) (by decide) (fun hc_6 => ?_) (fun hc_6 => ?_)
      · have h := h.1 hc_6
        exact e_V S hr hlocks hw h (dd_at ddX3_die 38 rfl)
      · have h := h.2 hc_6
        refine lv_aload_n S.1 S.2.1 (dd_at ddX3_die 20 rfl) rfl (lv_at hl 0 rfl) ?_
        refine lv_iload_n S.1 S.2.1 (dd_at ddX3_die 21 rfl) rfl (lv_at hl 3 rfl) ?_
        refine r_callI hw (r_runV (As := [.int v3]) (rest := []) S hw (m_X3_holderOf l D cs E d_4 H.size a0 v3 _) (cwV 1 S.2.2.2.2 (gV wg694 wg695 wg696 wg25 wg697) rfl rfl rfl (by decide +kernel) ⟨Nat.le_of_ble_eq_true rfl, Nat.le_of_ble_eq_true rfl⟩) (ci := 3) rfl ha0 h rfl hl.1 rfl (Nat.le_of_ble_eq_true rfl) (dd_at ddX3_die 22 rfl) ⟨Nat.le_of_ble_eq_true rfl, Nat.le_of_ble_eq_true rfl⟩) (fun r_8 d_7 H locs h hw => ?_)
        refine lv_iload_n S.1 S.2.1 (dd_at ddX3_die 23 rfl) rfl (lv_at hl 1 rfl) ?_
        refine lv_icmp_ne (tgt := 60) S.1 S.2.1 (dd_at ddX3_die 24 rfl) (by decide) (fun hc_9 => ?_) (fun hc_9 => ?_)
        · have h := h.1 hc_9
          refine lv_iinc (v := v3 + 1) (lv' := [(3, .int (v3 + 1)), (0, .ref a0), (1, .int p1), (2, .int p2)]) S.1 S.2.1 (dd_at ddX3_die 36 rfl) hl (k := 3) rfl rfl (by decide) rfl (fun ls hl => ?_)
          refine lv_goto (tgt := 23) S.1 S.2.1 (dd_at ddX3_die 37 rfl) (by decide) ?_
          exact ih23 (v3 + 1) d_7 H locs ls h hw (lv_sub hl [1, 2, 3, 0] rfl)
        · have h := h.2 hc_9
          refine lv_aload_n S.1 S.2.1 (dd_at ddX3_die 25 rfl) rfl (lv_at hl 0 rfl) ?_
          refine lv_iload_n S.1 S.2.1 (dd_at ddX3_die 26 rfl) rfl (lv_at hl 1 rfl) ?_
          refine lv_iload_n S.1 S.2.1 (dd_at ddX3_die 27 rfl) rfl (lv_at hl 3 rfl) ?_
          refine lv_iload_n S.1 S.2.1 (dd_at ddX3_die 28 rfl) rfl (lv_at hl 2 rfl) ?_
          refine r_callI hw (r_runV (As := [.int p1, .int v3, .int p2]) (rest := []) S hw (m_X3_heirOf l D cs E d_7 H.size a0 p1 v3 p2 _) (cwV 3 S.2.2.2.2 (gV wg698 wg699 wg700 wg25 wg701) rfl rfl rfl (by decide +kernel) ⟨Nat.le_of_ble_eq_true rfl, Nat.le_of_ble_eq_true rfl⟩) (ci := 3) rfl ha0 h rfl hl.1 rfl (Nat.le_of_ble_eq_true rfl) (dd_at ddX3_die 29 rfl) ⟨Nat.le_of_ble_eq_true rfl, Nat.le_of_ble_eq_true rfl⟩) (fun r_11 d_10 H locs h hw => ?_)
          refine lv_istore (lv' := [(4, .int r_11), (0, .ref a0), (1, .int p1), (2, .int p2), (3, .int v3)]) S.1 S.2.1 (dd_at ddX3_die 30 rfl) hl (by decide) rfl (fun ls hl => ?_)
          refine lv_aload_n S.1 S.2.1 (dd_at ddX3_die 31 rfl) rfl (lv_at hl 1 rfl) ?_
          refine lv_iload_n S.1 S.2.1 (dd_at ddX3_die 32 rfl) rfl (lv_at hl 4 rfl) ?_
          refine lv_iload S.1 S.2.1 (dd_at ddX3_die 33 rfl) (lv_at hl 0 rfl) ?_
          refine lv_iload_n S.1 S.2.1 (dd_at ddX3_die 34 rfl) rfl (lv_at hl 3 rfl) ?_
          refine r_callV hw (r_runV (As := [.int v3, .int r_11, .int p2]) (rest := []) S hw (m_X3_hold l D cs E d_10 H.size a0 v3 r_11 p2 _) (cwV 3 S.2.2.2.2 (gV wg674 wg675 wg676 wg25 wg677) rfl rfl rfl (by decide +kernel) ⟨Nat.le_of_ble_eq_true rfl, Nat.le_of_ble_eq_true rfl⟩) (ci := 3) rfl ha0 h rfl hl.1 rfl (Nat.le_of_ble_eq_true rfl) (dd_at ddX3_die 35 rfl) ⟨Nat.le_of_ble_eq_true rfl, Nat.le_of_ble_eq_true rfl⟩) (fun d_12 H locs h hw => ?_)
          refine lv_iinc (v := v3 + 1) (lv' := [(3, .int (v3 + 1)), (4, .int r_11), (0, .ref a0), (1, .int p1), (2, .int p2)]) S.1 S.2.1 (dd_at ddX3_die 36 rfl) hl (k := 4) rfl rfl (by decide) rfl (fun ls hl => ?_)
          refine lv_goto (tgt := 23) S.1 S.2.1 (dd_at ddX3_die 37 rfl) (by decide) ?_
          exact ih23 (v3 + 1) d_12 H locs ls h hw (lv_sub hl [2, 3, 4, 0] rfl)
  refine lv_aload_n S.1 S.2.1 (dd_at ddX3_die 0 rfl) rfl (lv_at hl 0 rfl) ?_
  refine lv_iload_n S.1 S.2.1 (dd_at ddX3_die 1 rfl) rfl (lv_at hl 1 rfl) ?_
  refine r_callI hw (r_runV (As := [.int p1]) (rest := []) S hw (m_X3_lives l D cs E d H.size a0 p1 _) (cwV 1 S.2.2.2.2 (gV wg690 wg691 wg692 wg25 wg693) rfl rfl rfl (by decide +kernel) ⟨Nat.le_of_ble_eq_true rfl, Nat.le_of_ble_eq_true rfl⟩) (ci := 3) rfl ha0 h rfl hl.1 rfl (Nat.le_of_ble_eq_true rfl) (dd_at ddX3_die 2 rfl) ⟨Nat.le_of_ble_eq_true rfl, Nat.le_of_ble_eq_true rfl⟩) (fun r_15 d_14 H locs h hw => ?_)
  refine lv_if_ne (tgt := 9) S.1 S.2.1 (dd_at ddX3_die 3 rfl) (by decide) (fun hc_16 => ?_) (fun hc_16 => ?_)
  · have h := h.1 hc_16
    refine lv_aload_n S.1 S.2.1 (dd_at ddX3_die 5 rfl) rfl (lv_at hl 0 rfl) ?_
    refine lv_dup S.1 S.2.1 (dd_at ddX3_die 6 rfl) rfl ?_
    refine r_getI S hw 3 4 rfl inG3 (by decide) (List.mem_cons_of_mem _ wg668) (by decide) ha0 (dd_at ddX3_die 7 rfl) ?_
    refine lv_iconst (v := 1) S.1 S.2.1 (dd_at ddX3_die 8 rfl) (by decide) ?_
    refine lv_iload_n S.1 S.2.1 (dd_at ddX3_die 9 rfl) rfl (lv_at hl 1 rfl) ?_
    refine lv_ishl S.1 S.2.1 (dd_at ddX3_die 10 rfl) ?_
    refine lv_ior S.1 S.2.1 (dd_at ddX3_die 11 rfl) ?_
    refine r_putI S hw 3 4 (ty := .int) (v := (gI d_14 a0 4) ||| ((1 : Int32) <<< (p1 &&& 31))) rfl inG3 tyX3 tyX3_ok nmX3 (by decide) (List.mem_cons_of_mem _ wg668) (by decide) rfl (by decide +kernel) rfl rfl ha0 (dd_at ddX3_die 12 rfl) (fun H locs hw => ?_)
    refine lv_iconst (v := 0) S.1 S.2.1 (dd_at ddX3_die 13 rfl) (by decide) ?_
    refine lv_istore_n (lv' := [(3, .int 0), (0, .ref a0), (1, .int p1), (2, .int p2)]) S.1 S.2.1 (dd_at ddX3_die 14 rfl) rfl hl (by decide) rfl (fun ls hl => ?_)
    obtain ⟨n_17, h⟩ := h
    exact tl23 n_17 0 (pI d_14 a0 4 ((gI d_14 a0 4) ||| ((1 : Int32) <<< (p1 &&& 31)))) H locs ls h hw (lv_sub hl [1, 2, 3, 0] rfl)
  · have h := h.2 hc_16
    exact e_V S hr hlocks hw h (dd_at ddX3_die 4 rfl)

def w_X3_leave (E : En) (a0 : Nat) (p1 : Int32) (p2 : Int32) (d : Dy) (K : Dy → Prop) : Prop := okO E a0 3 ∧ ∃ b_1 : Nat, eR E a0 5 = some b_1 ∧ okO E b_1 6 ∧ w_X6_get E b_1 p1 0 d (fun r_5 d_4 => ((¬ r_5 = p2 → K d_4) ∧ (r_5 = p2 → ∃ b_7 : Nat, eR E a0 5 = some b_7 ∧ okO E b_7 6 ∧ w_X6_set E b_7 p1 0 (-1) d_4 (fun d_10 => K d_10))))
abbrev rm_X3_leave : Room := { frames := 1, cells := 0, slots := 0, locals := 23 }
set_option maxRecDepth 100000 in
set_option maxHeartbeats 4000000 in
theorem m_X3_leave (l : Launch) (D : va_G) (cs : Nat → ClassId) (E : En) (d : Dy) (sz : Nat) (a0 : Nat) (p1 : Int32) (p2 : Int32) (K : Dy → Prop) : CV l yX3_leave (.code yX3_leave cX3_leave 3 none :: wsL_law) rm_X3_leave D cs E d sz [.ref a0, .int p1, .int p2] (w_X3_leave E a0 p1 p2 d K) K := by
  refine e_of (cc := cX3_leave) (maxL := 3) (ret := none) (own := RX3) (by decide) rfl rfl (Nat.le_of_ble_eq_true rfl) ?_
  intro p e s m below meth c S hr hlocks hsz H locs hw h ls hl
  have hl : lv_has ls 3 [(0, .ref a0), (1, .int p1), (2, .int p2)] := hl
  unfold w_X3_leave at h
  obtain ⟨ha0, h⟩ := h
  refine lv_aload_n S.1 S.2.1 (dd_at ddX3_leave 0 rfl) rfl (lv_at hl 0 rfl) ?_
  obtain ⟨b_1, hb_2, ho_3, h⟩ := h
  refine r_getR S hw 3 5 rfl inG3 (by decide) (List.mem_cons_of_mem _ wg98) (by decide) ha0 hb_2 (dd_at ddX3_leave 1 rfl) ?_
  refine lv_iload_n S.1 S.2.1 (dd_at ddX3_leave 2 rfl) rfl (lv_at hl 1 rfl) ?_
  refine lv_iconst (v := 0) S.1 S.2.1 (dd_at ddX3_leave 3 rfl) (by decide) ?_
  refine r_callI hw (r_runV (As := [.int p1, .int 0]) (rest := []) S hw (m_X6_get l D cs E d H.size b_1 p1 0 _) (cwV 2 S.2.2.2.2 (gV wg673 wg623 wg624 wg51 wg625) rfl rfl rfl (by decide +kernel) ⟨Nat.le_of_ble_eq_true rfl, Nat.le_of_ble_eq_true rfl⟩) (ci := 6) rfl ho_3 h rfl hl.1 rfl (Nat.le_of_ble_eq_true rfl) (dd_at ddX3_leave 4 rfl) ⟨Nat.le_of_ble_eq_true rfl, Nat.le_of_ble_eq_true rfl⟩) (fun r_5 d_4 H locs h hw => ?_)
  refine lv_iload_n S.1 S.2.1 (dd_at ddX3_leave 5 rfl) rfl (lv_at hl 2 rfl) ?_
  refine lv_icmp_ne (tgt := 23) S.1 S.2.1 (dd_at ddX3_leave 6 rfl) (by decide) (fun hc_6 => ?_) (fun hc_6 => ?_)
  · have h := h.1 hc_6
    exact e_V S hr hlocks hw h (dd_at ddX3_leave 13 rfl)
  · have h := h.2 hc_6
    refine lv_aload_n S.1 S.2.1 (dd_at ddX3_leave 7 rfl) rfl (lv_at hl 0 rfl) ?_
    obtain ⟨b_7, hb_8, ho_9, h⟩ := h
    refine r_getR S hw 3 5 rfl inG3 (by decide) (List.mem_cons_of_mem _ wg98) (by decide) ha0 hb_8 (dd_at ddX3_leave 8 rfl) ?_
    refine lv_iload_n S.1 S.2.1 (dd_at ddX3_leave 9 rfl) rfl (lv_at hl 1 rfl) ?_
    refine lv_iconst (v := 0) S.1 S.2.1 (dd_at ddX3_leave 10 rfl) (by decide) ?_
    refine lv_iconst (v := -1) S.1 S.2.1 (dd_at ddX3_leave 11 rfl) (by decide) ?_
    refine r_callV hw (r_runV (As := [.int p1, .int 0, .int (-1)]) (rest := []) S hw (m_X6_set l D cs E d_4 H.size b_7 p1 0 (-1) _) (cwV 3 S.2.2.2.2 (gV wg672 wg318 wg319 wg51 wg320) rfl rfl rfl (by decide +kernel) ⟨Nat.le_of_ble_eq_true rfl, Nat.le_of_ble_eq_true rfl⟩) (ci := 6) rfl ho_9 h rfl hl.1 rfl (Nat.le_of_ble_eq_true rfl) (dd_at ddX3_leave 12 rfl) ⟨Nat.le_of_ble_eq_true rfl, Nat.le_of_ble_eq_true rfl⟩) (fun d_10 H locs h hw => ?_)
    exact e_V S hr hlocks hw h (dd_at ddX3_leave 13 rfl)

def w_X3_sells (E : En) (a0 : Nat) (p1 : Int32) (d : Dy) (K : Int32 → Dy → Prop) : Prop := okO E a0 3 ∧ ∃ b_1 : Nat, eR E a0 0 = some b_1 ∧ okO E b_1 8 ∧ ∃ b_4 : Nat, eR E b_1 3 = some b_4 ∧ okO E b_4 6 ∧ w_X6_get E b_4 p1 3 d (fun r_8 d_7 => w_X3_holderOf E a0 r_8 d_7 (fun r_10 d_9 => ∃ b_11 : Nat, eR E a0 0 = some b_11 ∧ okO E b_11 8 ∧ ∃ b_14 : Nat, eR E b_11 3 = some b_14 ∧ okO E b_14 6 ∧ w_X6_get E b_14 p1 4 d_9 (fun r_18 d_17 => ∃ b_19 : Nat, eR E a0 0 = some b_19 ∧ okO E b_19 8 ∧ ∃ b_22 : Nat, eR E b_19 3 = some b_22 ∧ okO E b_22 6 ∧ w_X6_get E b_22 p1 2 d_17 (fun r_26 d_25 => ((¬ r_26 = 4 → K 0 d_25) ∧ (r_26 = 4 → ∃ b_28 : Nat, eR E a0 0 = some b_28 ∧ okO E b_28 8 ∧ ∃ b_31 : Nat, eR E b_28 3 = some b_31 ∧ okO E b_31 6 ∧ w_X6_get E b_31 p1 1 d_25 (fun r_35 d_34 => (((gI d_34 a0 1) < r_35 → K 0 d_34) ∧ (¬ (gI d_34 a0 1) < r_35 → ((r_10 = (-1) → K 0 d_34) ∧ (¬ r_10 = (-1) → ((r_10 = r_18 → K 0 d_34) ∧ (¬ r_10 = r_18 → w_X3_lives E a0 r_18 d_34 (fun r_40 d_39 => ((r_40 = 0 → K 0 d_39) ∧ (¬ r_40 = 0 → K 1 d_39))))))))))))))))
abbrev rm_X3_sells : Room := { frames := 2, cells := 0, slots := 0, locals := 44 }
set_option maxRecDepth 100000 in
set_option maxHeartbeats 4000000 in
theorem m_X3_sells (l : Launch) (D : va_G) (cs : Nat → ClassId) (E : En) (d : Dy) (sz : Nat) (a0 : Nat) (p1 : Int32) (K : Int32 → Dy → Prop) : CI l yX3_sells (.code yX3_sells cX3_sells 4 (some .boolean) :: wsL_law) rm_X3_sells D cs E d sz [.ref a0, .int p1] (w_X3_sells E a0 p1 d K) K := by
  refine e_of (cc := cX3_sells) (maxL := 4) (ret := (some .boolean)) (own := RX3) (by decide) rfl rfl (Nat.le_of_ble_eq_true rfl) ?_
  intro p e s m below meth c S hr hlocks hsz H locs hw h ls hl
  have hl : lv_has ls 4 [(0, .ref a0), (1, .int p1)] := hl
  unfold w_X3_sells at h
  obtain ⟨ha0, h⟩ := h
  refine lv_aload_n S.1 S.2.1 (dd_at ddX3_sells 0 rfl) rfl (lv_at hl 0 rfl) ?_
  refine lv_aload_n S.1 S.2.1 (dd_at ddX3_sells 1 rfl) rfl (lv_at hl 0 rfl) ?_
  obtain ⟨b_1, hb_2, ho_3, h⟩ := h
  refine r_getR S hw 3 0 rfl inG3 (by decide) (List.mem_cons_of_mem _ wg105) (by decide) ha0 hb_2 (dd_at ddX3_sells 2 rfl) ?_
  obtain ⟨b_4, hb_5, ho_6, h⟩ := h
  refine r_getRN S hw 8 3 rfl inG8 (by decide) nx8 (by decide) ho_3 hb_5 (dd_at ddX3_sells 3 rfl) ?_
  refine lv_iload_n S.1 S.2.1 (dd_at ddX3_sells 4 rfl) rfl (lv_at hl 1 rfl) ?_
  refine lv_iconst (v := 3) S.1 S.2.1 (dd_at ddX3_sells 5 rfl) (by decide) ?_
  refine r_callI hw (r_runV (As := [.int p1, .int 3]) (rest := [.ref a0]) S hw (m_X6_get l D cs E d H.size b_4 p1 3 _) (cwV 2 S.2.2.2.2 (gV wg673 wg623 wg624 wg51 wg625) rfl rfl rfl (by decide +kernel) ⟨Nat.le_of_ble_eq_true rfl, Nat.le_of_ble_eq_true rfl⟩) (ci := 6) rfl ho_6 h rfl hl.1 rfl (Nat.le_of_ble_eq_true rfl) (dd_at ddX3_sells 6 rfl) ⟨Nat.le_of_ble_eq_true rfl, Nat.le_of_ble_eq_true rfl⟩) (fun r_8 d_7 H locs h hw => ?_)
  refine r_callI hw (r_runV (As := [.int r_8]) (rest := []) S hw (m_X3_holderOf l D cs E d_7 H.size a0 r_8 _) (cwV 1 S.2.2.2.2 (gV wg694 wg695 wg696 wg25 wg697) rfl rfl rfl (by decide +kernel) ⟨Nat.le_of_ble_eq_true rfl, Nat.le_of_ble_eq_true rfl⟩) (ci := 3) rfl ha0 h rfl hl.1 rfl (Nat.le_of_ble_eq_true rfl) (dd_at ddX3_sells 7 rfl) ⟨Nat.le_of_ble_eq_true rfl, Nat.le_of_ble_eq_true rfl⟩) (fun r_10 d_9 H locs h hw => ?_)
  refine lv_istore_n (lv' := [(2, .int r_10), (0, .ref a0), (1, .int p1)]) S.1 S.2.1 (dd_at ddX3_sells 8 rfl) rfl hl (by decide) rfl (fun ls hl => ?_)
  refine lv_aload_n S.1 S.2.1 (dd_at ddX3_sells 9 rfl) rfl (lv_at hl 1 rfl) ?_
  obtain ⟨b_11, hb_12, ho_13, h⟩ := h
  refine r_getR S hw 3 0 rfl inG3 (by decide) (List.mem_cons_of_mem _ wg105) (by decide) ha0 hb_12 (dd_at ddX3_sells 10 rfl) ?_
  obtain ⟨b_14, hb_15, ho_16, h⟩ := h
  refine r_getRN S hw 8 3 rfl inG8 (by decide) nx8 (by decide) ho_13 hb_15 (dd_at ddX3_sells 11 rfl) ?_
  refine lv_iload_n S.1 S.2.1 (dd_at ddX3_sells 12 rfl) rfl (lv_at hl 2 rfl) ?_
  refine lv_iconst (v := 4) S.1 S.2.1 (dd_at ddX3_sells 13 rfl) (by decide) ?_
  refine r_callI hw (r_runV (As := [.int p1, .int 4]) (rest := []) S hw (m_X6_get l D cs E d_9 H.size b_14 p1 4 _) (cwV 2 S.2.2.2.2 (gV wg673 wg623 wg624 wg51 wg625) rfl rfl rfl (by decide +kernel) ⟨Nat.le_of_ble_eq_true rfl, Nat.le_of_ble_eq_true rfl⟩) (ci := 6) rfl ho_16 h rfl hl.1 rfl (Nat.le_of_ble_eq_true rfl) (dd_at ddX3_sells 14 rfl) ⟨Nat.le_of_ble_eq_true rfl, Nat.le_of_ble_eq_true rfl⟩) (fun r_18 d_17 H locs h hw => ?_)
  refine lv_istore_n (lv' := [(3, .int r_18), (2, .int r_10), (0, .ref a0), (1, .int p1)]) S.1 S.2.1 (dd_at ddX3_sells 15 rfl) rfl hl (by decide) rfl (fun ls hl => ?_)
  refine lv_aload_n S.1 S.2.1 (dd_at ddX3_sells 16 rfl) rfl (lv_at hl 2 rfl) ?_
  obtain ⟨b_19, hb_20, ho_21, h⟩ := h
  refine r_getR S hw 3 0 rfl inG3 (by decide) (List.mem_cons_of_mem _ wg105) (by decide) ha0 hb_20 (dd_at ddX3_sells 17 rfl) ?_
  obtain ⟨b_22, hb_23, ho_24, h⟩ := h
  refine r_getRN S hw 8 3 rfl inG8 (by decide) nx8 (by decide) ho_21 hb_23 (dd_at ddX3_sells 18 rfl) ?_
  refine lv_iload_n S.1 S.2.1 (dd_at ddX3_sells 19 rfl) rfl (lv_at hl 3 rfl) ?_
  refine lv_iconst (v := 2) S.1 S.2.1 (dd_at ddX3_sells 20 rfl) (by decide) ?_
  refine r_callI hw (r_runV (As := [.int p1, .int 2]) (rest := []) S hw (m_X6_get l D cs E d_17 H.size b_22 p1 2 _) (cwV 2 S.2.2.2.2 (gV wg673 wg623 wg624 wg51 wg625) rfl rfl rfl (by decide +kernel) ⟨Nat.le_of_ble_eq_true rfl, Nat.le_of_ble_eq_true rfl⟩) (ci := 6) rfl ho_24 h rfl hl.1 rfl (Nat.le_of_ble_eq_true rfl) (dd_at ddX3_sells 21 rfl) ⟨Nat.le_of_ble_eq_true rfl, Nat.le_of_ble_eq_true rfl⟩) (fun r_26 d_25 H locs h hw => ?_)
  refine lv_iconst (v := 4) S.1 S.2.1 (dd_at ddX3_sells 22 rfl) (by decide) ?_
  refine lv_icmp_ne (tgt := 87) S.1 S.2.1 (dd_at ddX3_sells 23 rfl) (by decide) (fun hc_27 => ?_) (fun hc_27 => ?_)
  · have h := h.1 hc_27
    refine lv_iconst (v := 0) S.1 S.2.1 (dd_at ddX3_sells 45 rfl) (by decide) ?_
    exact e_Z S hr hlocks hw (Or.inl rfl) h (dd_at ddX3_sells 46 rfl)
  · have h := h.2 hc_27
    refine lv_aload_n S.1 S.2.1 (dd_at ddX3_sells 24 rfl) rfl (lv_at hl 2 rfl) ?_
    obtain ⟨b_28, hb_29, ho_30, h⟩ := h
    refine r_getR S hw 3 0 rfl inG3 (by decide) (List.mem_cons_of_mem _ wg105) (by decide) ha0 hb_29 (dd_at ddX3_sells 25 rfl) ?_
    obtain ⟨b_31, hb_32, ho_33, h⟩ := h
    refine r_getRN S hw 8 3 rfl inG8 (by decide) nx8 (by decide) ho_30 hb_32 (dd_at ddX3_sells 26 rfl) ?_
    refine lv_iload_n S.1 S.2.1 (dd_at ddX3_sells 27 rfl) rfl (lv_at hl 3 rfl) ?_
    refine lv_iconst (v := 1) S.1 S.2.1 (dd_at ddX3_sells 28 rfl) (by decide) ?_
    refine r_callI hw (r_runV (As := [.int p1, .int 1]) (rest := []) S hw (m_X6_get l D cs E d_25 H.size b_31 p1 1 _) (cwV 2 S.2.2.2.2 (gV wg673 wg623 wg624 wg51 wg625) rfl rfl rfl (by decide +kernel) ⟨Nat.le_of_ble_eq_true rfl, Nat.le_of_ble_eq_true rfl⟩) (ci := 6) rfl ho_33 h rfl hl.1 rfl (Nat.le_of_ble_eq_true rfl) (dd_at ddX3_sells 29 rfl) ⟨Nat.le_of_ble_eq_true rfl, Nat.le_of_ble_eq_true rfl⟩) (fun r_35 d_34 H locs h hw => ?_)
    refine lv_aload_n S.1 S.2.1 (dd_at ddX3_sells 30 rfl) rfl (lv_at hl 2 rfl) ?_
    refine r_getI S hw 3 1 rfl inG3 (by decide) (List.mem_cons_of_mem _ wg665) (by decide) ha0 (dd_at ddX3_sells 31 rfl) ?_
    refine lv_icmp_gt (tgt := 87) S.1 S.2.1 (dd_at ddX3_sells 32 rfl) (by decide) (fun hc_36 => ?_) (fun hc_36 => ?_)
    · have h := h.1 hc_36
      refine lv_iconst (v := 0) S.1 S.2.1 (dd_at ddX3_sells 45 rfl) (by decide) ?_
      exact e_Z S hr hlocks hw (Or.inl rfl) h (dd_at ddX3_sells 46 rfl)
    · have h := h.2 hc_36
      refine lv_iload_n S.1 S.2.1 (dd_at ddX3_sells 33 rfl) rfl (lv_at hl 1 rfl) ?_
      refine lv_iconst (v := -1) S.1 S.2.1 (dd_at ddX3_sells 34 rfl) (by decide) ?_
      refine lv_icmp_eq (tgt := 87) S.1 S.2.1 (dd_at ddX3_sells 35 rfl) (by decide) (fun hc_37 => ?_) (fun hc_37 => ?_)
      · have h := h.1 hc_37
        refine lv_iconst (v := 0) S.1 S.2.1 (dd_at ddX3_sells 45 rfl) (by decide) ?_
        exact e_Z S hr hlocks hw (Or.inl rfl) h (dd_at ddX3_sells 46 rfl)
      · have h := h.2 hc_37
        refine lv_iload_n S.1 S.2.1 (dd_at ddX3_sells 36 rfl) rfl (lv_at hl 1 rfl) ?_
        refine lv_iload_n S.1 S.2.1 (dd_at ddX3_sells 37 rfl) rfl (lv_at hl 0 rfl) ?_
        refine lv_icmp_eq (tgt := 87) S.1 S.2.1 (dd_at ddX3_sells 38 rfl) (by decide) (fun hc_38 => ?_) (fun hc_38 => ?_)
        · have h := h.1 hc_38
          refine lv_iconst (v := 0) S.1 S.2.1 (dd_at ddX3_sells 45 rfl) (by decide) ?_
          exact e_Z S hr hlocks hw (Or.inl rfl) h (dd_at ddX3_sells 46 rfl)
        · have h := h.2 hc_38
          refine lv_aload_n S.1 S.2.1 (dd_at ddX3_sells 39 rfl) rfl (lv_at hl 2 rfl) ?_
          refine lv_iload_n S.1 S.2.1 (dd_at ddX3_sells 40 rfl) rfl (lv_at hl 0 rfl) ?_
          refine r_callI hw (r_runV (As := [.int r_18]) (rest := []) S hw (m_X3_lives l D cs E d_34 H.size a0 r_18 _) (cwV 1 S.2.2.2.2 (gV wg690 wg691 wg692 wg25 wg693) rfl rfl rfl (by decide +kernel) ⟨Nat.le_of_ble_eq_true rfl, Nat.le_of_ble_eq_true rfl⟩) (ci := 3) rfl ha0 h rfl hl.1 rfl (Nat.le_of_ble_eq_true rfl) (dd_at ddX3_sells 41 rfl) ⟨Nat.le_of_ble_eq_true rfl, Nat.le_of_ble_eq_true rfl⟩) (fun r_40 d_39 H locs h hw => ?_)
          refine lv_if_eq (tgt := 87) S.1 S.2.1 (dd_at ddX3_sells 42 rfl) (by decide) (fun hc_41 => ?_) (fun hc_41 => ?_)
          · have h := h.1 hc_41
            refine lv_iconst (v := 0) S.1 S.2.1 (dd_at ddX3_sells 45 rfl) (by decide) ?_
            exact e_Z S hr hlocks hw (Or.inl rfl) h (dd_at ddX3_sells 46 rfl)
          · have h := h.2 hc_41
            refine lv_iconst (v := 1) S.1 S.2.1 (dd_at ddX3_sells 43 rfl) (by decide) ?_
            refine lv_goto (tgt := 88) S.1 S.2.1 (dd_at ddX3_sells 44 rfl) (by decide) ?_
            exact e_Z S hr hlocks hw (Or.inr rfl) h (dd_at ddX3_sells 46 rfl)

def b_X3_placeOf_2 (E : En) (a0 : Nat) (p1 : Int32) (K : Int32 → Dy → Prop) (k2 : Int32 → Dy → Prop) (v2 : Int32) (d : Dy) : Prop := ∃ b_1 : Nat, eR E a0 7 = some b_1 ∧ okO E b_1 6 ∧ w_X6_size E b_1 d (fun r_5 d_4 => ((r_5 ≤ v2 → K v2 d_4) ∧ (¬ r_5 ≤ v2 → ∃ b_7 : Nat, eR E a0 7 = some b_7 ∧ okO E b_7 6 ∧ w_X6_get E b_7 v2 0 d_4 (fun r_11 d_10 => ((r_11 = p1 → K v2 d_10) ∧ (¬ r_11 = p1 → k2 (v2 + 1) d_10))))))
def l_X3_placeOf_2 (E : En) (a0 : Nat) (p1 : Int32) (K : Int32 → Dy → Prop) : Nat → Int32 → Dy → Prop
  | 0 => fun _ _ => False
  | n + 1 => b_X3_placeOf_2 E a0 p1 K (l_X3_placeOf_2 E a0 p1 K n)
def w_X3_placeOf (E : En) (a0 : Nat) (p1 : Int32) (d : Dy) (K : Int32 → Dy → Prop) : Prop := okO E a0 3 ∧ (∃ n_13 : Nat, l_X3_placeOf_2 E a0 p1 K n_13 0 d)
abbrev rm_X3_placeOf : Room := { frames := 1, cells := 0, slots := 0, locals := 23 }
set_option maxRecDepth 100000 in
set_option maxHeartbeats 4000000 in
theorem m_X3_placeOf (l : Launch) (D : va_G) (cs : Nat → ClassId) (E : En) (d : Dy) (sz : Nat) (a0 : Nat) (p1 : Int32) (K : Int32 → Dy → Prop) : CI l yX3_placeOf (.code yX3_placeOf cX3_placeOf 3 (some .int) :: wsL_law) rm_X3_placeOf D cs E d sz [.ref a0, .int p1] (w_X3_placeOf E a0 p1 d K) K := by
  refine e_of (cc := cX3_placeOf) (maxL := 3) (ret := (some .int)) (own := RX3) (by decide) rfl rfl (Nat.le_of_ble_eq_true rfl) ?_
  intro p e s m below meth c S hr hlocks hsz H locs hw h ls hl
  have hl : lv_has ls 3 [(0, .ref a0), (1, .int p1)] := hl
  unfold w_X3_placeOf at h
  obtain ⟨ha0, h⟩ := h
  have tl2 : ∀ (n : Nat) (v2 : Int32) (d : Dy) (H : Heap) (locs : List Loc) (ls : Array Slot), l_X3_placeOf_2 E a0 p1 K n v2 d → Wd D cs (AW E sz) s.heap s E d H locs → lv_has ls 3 [(0, .ref a0), (1, .int p1), (2, .int v2)] → W p l e rm_X3_placeOf s m ([.ref a0, .int p1] : List Value).toArray below meth c H locs 0 0 (MQ below (va_Qi K (OutW D cs E (AW E sz)) (AW E sz)) ([.ref a0, .int p1] : List Value).toArray s rm_X3_placeOf.cells rm_X3_placeOf.slots (AW E sz)) (F0 m 2 ls []) := by
    intro n2
    induction n2 with
    | zero => intro v2 d H locs ls h; exact absurd h id
    | succ n2 ih2 =>
      intro v2 d H locs ls h hw hl
      have h : b_X3_placeOf_2 E a0 p1 K (l_X3_placeOf_2 E a0 p1 K n2) v2 d := h
      unfold b_X3_placeOf_2 at h
      refine lv_iload_n S.1 S.2.1 (dd_at ddX3_placeOf 2 rfl) rfl (lv_at hl 2 rfl) ?_
      refine lv_aload_n S.1 S.2.1 (dd_at ddX3_placeOf 3 rfl) rfl (lv_at hl 0 rfl) ?_
      obtain ⟨b_1, hb_2, ho_3, h⟩ := h
      refine r_getR S hw 3 7 rfl inG3 (by decide) (List.mem_cons_of_mem _ wg100) (by decide) ha0 hb_2 (dd_at ddX3_placeOf 4 rfl) ?_
      refine r_callI hw (r_runV (As := []) (rest := [.int v2]) S hw (m_X6_size l D cs E d H.size b_1 _) (cwV 0 S.2.2.2.2 (gV wg670 wg372 wg373 wg51 wg374) rfl rfl rfl (by decide +kernel) ⟨Nat.le_of_ble_eq_true rfl, Nat.le_of_ble_eq_true rfl⟩) (ci := 6) rfl ho_3 h rfl hl.1 rfl (Nat.le_of_ble_eq_true rfl) (dd_at ddX3_placeOf 5 rfl) ⟨Nat.le_of_ble_eq_true rfl, Nat.le_of_ble_eq_true rfl⟩) (fun r_5 d_4 H locs h hw => ?_)
      refine lv_icmp_ge (tgt := 32) S.1 S.2.1 (dd_at ddX3_placeOf 6 rfl) (by decide) (fun hc_6 => ?_) (fun hc_6 => ?_)
      · have h := h.1 hc_6
        refine lv_iload_n S.1 S.2.1 (dd_at ddX3_placeOf 16 rfl) rfl (lv_at hl 2 rfl) ?_
        exact e_I S hr hlocks hw h (dd_at ddX3_placeOf 17 rfl)
      · have h := h.2 hc_6
        refine lv_aload_n S.1 S.2.1 (dd_at ddX3_placeOf 7 rfl) rfl (lv_at hl 0 rfl) ?_
        obtain ⟨b_7, hb_8, ho_9, h⟩ := h
        refine r_getR S hw 3 7 rfl inG3 (by decide) (List.mem_cons_of_mem _ wg100) (by decide) ha0 hb_8 (dd_at ddX3_placeOf 8 rfl) ?_
        refine lv_iload_n S.1 S.2.1 (dd_at ddX3_placeOf 9 rfl) rfl (lv_at hl 2 rfl) ?_
        refine lv_iconst (v := 0) S.1 S.2.1 (dd_at ddX3_placeOf 10 rfl) (by decide) ?_
        refine r_callI hw (r_runV (As := [.int v2, .int 0]) (rest := []) S hw (m_X6_get l D cs E d_4 H.size b_7 v2 0 _) (cwV 2 S.2.2.2.2 (gV wg673 wg623 wg624 wg51 wg625) rfl rfl rfl (by decide +kernel) ⟨Nat.le_of_ble_eq_true rfl, Nat.le_of_ble_eq_true rfl⟩) (ci := 6) rfl ho_9 h rfl hl.1 rfl (Nat.le_of_ble_eq_true rfl) (dd_at ddX3_placeOf 11 rfl) ⟨Nat.le_of_ble_eq_true rfl, Nat.le_of_ble_eq_true rfl⟩) (fun r_11 d_10 H locs h hw => ?_)
        refine lv_iload_n S.1 S.2.1 (dd_at ddX3_placeOf 12 rfl) rfl (lv_at hl 1 rfl) ?_
        refine lv_icmp_eq (tgt := 32) S.1 S.2.1 (dd_at ddX3_placeOf 13 rfl) (by decide) (fun hc_12 => ?_) (fun hc_12 => ?_)
        · have h := h.1 hc_12
          refine lv_iload_n S.1 S.2.1 (dd_at ddX3_placeOf 16 rfl) rfl (lv_at hl 2 rfl) ?_
          exact e_I S hr hlocks hw h (dd_at ddX3_placeOf 17 rfl)
        · have h := h.2 hc_12
          refine lv_iinc (v := v2 + 1) (lv' := [(2, .int (v2 + 1)), (0, .ref a0), (1, .int p1)]) S.1 S.2.1 (dd_at ddX3_placeOf 14 rfl) hl (k := 2) rfl rfl (by decide) rfl (fun ls hl => ?_)
          refine lv_goto (tgt := 2) S.1 S.2.1 (dd_at ddX3_placeOf 15 rfl) (by decide) ?_
          exact ih2 (v2 + 1) d_10 H locs ls h hw (lv_sub hl [1, 2, 0] rfl)
  refine lv_iconst (v := 0) S.1 S.2.1 (dd_at ddX3_placeOf 0 rfl) (by decide) ?_
  refine lv_istore_n (lv' := [(2, .int 0), (0, .ref a0), (1, .int p1)]) S.1 S.2.1 (dd_at ddX3_placeOf 1 rfl) rfl hl (by decide) rfl (fun ls hl => ?_)
  obtain ⟨n_13, h⟩ := h
  exact tl2 n_13 0 d H locs ls h hw (lv_sub hl [1, 2, 0] rfl)

def b_X3_move_65 (E : En) (a0 : Nat) (p1 : Int32) (p2 : Int32) (K : Dy → Prop) (d : Dy) : Prop := ∃ b_1 : Nat, eR E a0 7 = some b_1 ∧ okO E b_1 6 ∧ w_X6_set E b_1 p2 0 p1 d (fun d_4 => K d_4)
def b_X3_move_21 (E : En) (a0 : Nat) (p1 : Int32) (p2 : Int32) (K : Dy → Prop) (k21 : Int32 → Int32 → Int32 → Dy → Prop) (v3 : Int32) (v4 : Int32) (v5 : Int32) (d : Dy) : Prop := ((10 ≤ v5 → b_X3_move_65 E a0 p1 p2 K d) ∧ (¬ 10 ≤ v5 → ((v3 = p2 → b_X3_move_65 E a0 p1 p2 K d) ∧ (¬ v3 = p2 → ∃ b_8 : Nat, eR E a0 7 = some b_8 ∧ okO E b_8 6 ∧ ∃ b_11 : Nat, eR E a0 7 = some b_11 ∧ okO E b_11 6 ∧ w_X6_get E b_11 (v3 + v4) 0 d (fun r_15 d_14 => w_X6_set E b_8 v3 0 r_15 d_14 (fun d_16 => k21 (v3 + v4) v4 (v5 + 1) d_16))))))
def l_X3_move_21 (E : En) (a0 : Nat) (p1 : Int32) (p2 : Int32) (K : Dy → Prop) : Nat → Int32 → Int32 → Int32 → Dy → Prop
  | 0 => fun _ _ _ _ => False
  | n + 1 => b_X3_move_21 E a0 p1 p2 K (l_X3_move_21 E a0 p1 p2 K n)
def w_X3_move (E : En) (a0 : Nat) (p1 : Int32) (p2 : Int32) (d : Dy) (K : Dy → Prop) : Prop := okO E a0 3 ∧ w_X3_placeOf E a0 p1 d (fun r_19 d_18 => ((p2 ≤ r_19 → (∃ n_21 : Nat, l_X3_move_21 E a0 p1 p2 K n_21 r_19 (-1) 0 d_18)) ∧ (¬ p2 ≤ r_19 → (∃ n_22 : Nat, l_X3_move_21 E a0 p1 p2 K n_22 r_19 1 0 d_18))))
abbrev rm_X3_move : Room := { frames := 2, cells := 0, slots := 0, locals := 45 }
set_option maxRecDepth 100000 in
set_option maxHeartbeats 4000000 in
theorem m_X3_move (l : Launch) (D : va_G) (cs : Nat → ClassId) (E : En) (d : Dy) (sz : Nat) (a0 : Nat) (p1 : Int32) (p2 : Int32) (K : Dy → Prop) : CV l yX3_move (.code yX3_move cX3_move 6 none :: wsL_law) rm_X3_move D cs E d sz [.ref a0, .int p1, .int p2] (w_X3_move E a0 p1 p2 d K) K := by
  refine e_of (cc := cX3_move) (maxL := 6) (ret := none) (own := RX3) (by decide) rfl rfl (Nat.le_of_ble_eq_true rfl) ?_
  intro p e s m below meth c S hr hlocks hsz H locs hw h ls hl
  have hl : lv_has ls 6 [(0, .ref a0), (1, .int p1), (2, .int p2)] := hl
  unfold w_X3_move at h
  obtain ⟨ha0, h⟩ := h
  have tb65 : ∀ (d : Dy) (H : Heap) (locs : List Loc) (ls : Array Slot), b_X3_move_65 E a0 p1 p2 K d → Wd D cs (AW E sz) s.heap s E d H locs → lv_has ls 6 [(0, .ref a0), (1, .int p1), (2, .int p2)] → W p l e rm_X3_move s m ([.ref a0, .int p1, .int p2] : List Value).toArray below meth c H locs 0 0 (MQ below (va_Qv K (OutW D cs E (AW E sz)) (AW E sz)) ([.ref a0, .int p1, .int p2] : List Value).toArray s rm_X3_move.cells rm_X3_move.slots (AW E sz)) (F0 m 65 ls []) := by
    intro d H locs ls h hw hl
    unfold b_X3_move_65 at h
    refine lv_aload_n S.1 S.2.1 (dd_at ddX3_move 37 rfl) rfl (lv_at hl 0 rfl) ?_
    obtain ⟨b_1, hb_2, ho_3, h⟩ := h
    refine r_getR S hw 3 7 rfl inG3 (by decide) (List.mem_cons_of_mem _ wg100) (by decide) ha0 hb_2 (dd_at ddX3_move 38 rfl) ?_
    refine lv_iload_n S.1 S.2.1 (dd_at ddX3_move 39 rfl) rfl (lv_at hl 2 rfl) ?_
    refine lv_iconst (v := 0) S.1 S.2.1 (dd_at ddX3_move 40 rfl) (by decide) ?_
    refine lv_iload_n S.1 S.2.1 (dd_at ddX3_move 41 rfl) rfl (lv_at hl 1 rfl) ?_
    refine r_callV hw (r_runV (As := [.int p2, .int 0, .int p1]) (rest := []) S hw (m_X6_set l D cs E d H.size b_1 p2 0 p1 _) (cwV 3 S.2.2.2.2 (gV wg672 wg318 wg319 wg51 wg320) rfl rfl rfl (by decide +kernel) ⟨Nat.le_of_ble_eq_true rfl, Nat.le_of_ble_eq_true rfl⟩) (ci := 6) rfl ho_3 h rfl hl.1 rfl (Nat.le_of_ble_eq_true rfl) (dd_at ddX3_move 42 rfl) ⟨Nat.le_of_ble_eq_true rfl, Nat.le_of_ble_eq_true rfl⟩) (fun d_4 H locs h hw => ?_)
    exact e_V S hr hlocks hw h (dd_at ddX3_move 43 rfl)
  have tl21 : ∀ (n : Nat) (v3 : Int32) (v4 : Int32) (v5 : Int32) (d : Dy) (H : Heap) (locs : List Loc) (ls : Array Slot), l_X3_move_21 E a0 p1 p2 K n v3 v4 v5 d → Wd D cs (AW E sz) s.heap s E d H locs → lv_has ls 6 [(0, .ref a0), (1, .int p1), (2, .int p2), (3, .int v3), (4, .int v4), (5, .int v5)] → W p l e rm_X3_move s m ([.ref a0, .int p1, .int p2] : List Value).toArray below meth c H locs 0 0 (MQ below (va_Qv K (OutW D cs E (AW E sz)) (AW E sz)) ([.ref a0, .int p1, .int p2] : List Value).toArray s rm_X3_move.cells rm_X3_move.slots (AW E sz)) (F0 m 21 ls []) := by
    intro n21
    induction n21 with
    | zero => intro v3 v4 v5 d H locs ls h; exact absurd h id
    | succ n21 ih21 =>
      intro v3 v4 v5 d H locs ls h hw hl
      have h : b_X3_move_21 E a0 p1 p2 K (l_X3_move_21 E a0 p1 p2 K n21) v3 v4 v5 d := h
      unfold b_X3_move_21 at h
      refine lv_iload S.1 S.2.1 (dd_at ddX3_move 13 rfl) (lv_at hl 5 rfl) ?_
      refine lv_bipush (v := 10) S.1 S.2.1 (dd_at ddX3_move 14 rfl) (by decide) ?_
      refine lv_icmp_ge (tgt := 65) S.1 S.2.1 (dd_at ddX3_move 15 rfl) (by decide) (fun hc_6 => ?_) (fun hc_6 => ?_)
      · have h := h.1 hc_6
        exact tb65 d H locs ls h hw (lv_sub hl [0, 1, 2] rfl)
      · have h := h.2 hc_6
        refine lv_iload_n S.1 S.2.1 (dd_at ddX3_move 16 rfl) rfl (lv_at hl 3 rfl) ?_
        refine lv_iload_n S.1 S.2.1 (dd_at ddX3_move 17 rfl) rfl (lv_at hl 2 rfl) ?_
        refine lv_icmp_eq (tgt := 65) S.1 S.2.1 (dd_at ddX3_move 18 rfl) (by decide) (fun hc_7 => ?_) (fun hc_7 => ?_)
        · have h := h.1 hc_7
          exact tb65 d H locs ls h hw (lv_sub hl [0, 1, 2] rfl)
        · have h := h.2 hc_7
          refine lv_aload_n S.1 S.2.1 (dd_at ddX3_move 19 rfl) rfl (lv_at hl 0 rfl) ?_
          obtain ⟨b_8, hb_9, ho_10, h⟩ := h
          refine r_getR S hw 3 7 rfl inG3 (by decide) (List.mem_cons_of_mem _ wg100) (by decide) ha0 hb_9 (dd_at ddX3_move 20 rfl) ?_
          refine lv_iload_n S.1 S.2.1 (dd_at ddX3_move 21 rfl) rfl (lv_at hl 3 rfl) ?_
          refine lv_iconst (v := 0) S.1 S.2.1 (dd_at ddX3_move 22 rfl) (by decide) ?_
          refine lv_aload_n S.1 S.2.1 (dd_at ddX3_move 23 rfl) rfl (lv_at hl 0 rfl) ?_
          obtain ⟨b_11, hb_12, ho_13, h⟩ := h
          refine r_getR S hw 3 7 rfl inG3 (by decide) (List.mem_cons_of_mem _ wg100) (by decide) ha0 hb_12 (dd_at ddX3_move 24 rfl) ?_
          refine lv_iload_n S.1 S.2.1 (dd_at ddX3_move 25 rfl) rfl (lv_at hl 3 rfl) ?_
          refine lv_iload S.1 S.2.1 (dd_at ddX3_move 26 rfl) (lv_at hl 4 rfl) ?_
          refine lv_iadd S.1 S.2.1 (dd_at ddX3_move 27 rfl) ?_
          refine lv_iconst (v := 0) S.1 S.2.1 (dd_at ddX3_move 28 rfl) (by decide) ?_
          refine r_callI hw (r_runV (As := [.int (v3 + v4), .int 0]) (rest := [.int 0, .int v3, .ref b_8]) S hw (m_X6_get l D cs E d H.size b_11 (v3 + v4) 0 _) (cwV 2 S.2.2.2.2 (gV wg673 wg623 wg624 wg51 wg625) rfl rfl rfl (by decide +kernel) ⟨Nat.le_of_ble_eq_true rfl, Nat.le_of_ble_eq_true rfl⟩) (ci := 6) rfl ho_13 h rfl hl.1 rfl (Nat.le_of_ble_eq_true rfl) (dd_at ddX3_move 29 rfl) ⟨Nat.le_of_ble_eq_true rfl, Nat.le_of_ble_eq_true rfl⟩) (fun r_15 d_14 H locs h hw => ?_)
          refine r_callV hw (r_runV (As := [.int v3, .int 0, .int r_15]) (rest := []) S hw (m_X6_set l D cs E d_14 H.size b_8 v3 0 r_15 _) (cwV 3 S.2.2.2.2 (gV wg672 wg318 wg319 wg51 wg320) rfl rfl rfl (by decide +kernel) ⟨Nat.le_of_ble_eq_true rfl, Nat.le_of_ble_eq_true rfl⟩) (ci := 6) rfl ho_10 h rfl hl.1 rfl (Nat.le_of_ble_eq_true rfl) (dd_at ddX3_move 30 rfl) ⟨Nat.le_of_ble_eq_true rfl, Nat.le_of_ble_eq_true rfl⟩) (fun d_16 H locs h hw => ?_)
          refine lv_iload_n S.1 S.2.1 (dd_at ddX3_move 31 rfl) rfl (lv_at hl 3 rfl) ?_
          refine lv_iload S.1 S.2.1 (dd_at ddX3_move 32 rfl) (lv_at hl 4 rfl) ?_
          refine lv_iadd S.1 S.2.1 (dd_at ddX3_move 33 rfl) ?_
          refine lv_istore_n (lv' := [(3, .int (v3 + v4)), (0, .ref a0), (1, .int p1), (2, .int p2), (4, .int v4), (5, .int v5)]) S.1 S.2.1 (dd_at ddX3_move 34 rfl) rfl hl (by decide) rfl (fun ls hl => ?_)
          refine lv_iinc (v := v5 + 1) (lv' := [(5, .int (v5 + 1)), (3, .int (v3 + v4)), (0, .ref a0), (1, .int p1), (2, .int p2), (4, .int v4)]) S.1 S.2.1 (dd_at ddX3_move 35 rfl) hl (k := 5) rfl rfl (by decide) rfl (fun ls hl => ?_)
          refine lv_goto (tgt := 21) S.1 S.2.1 (dd_at ddX3_move 36 rfl) (by decide) ?_
          exact ih21 (v3 + v4) v4 (v5 + 1) d_16 H locs ls h hw (lv_sub hl [2, 3, 4, 1, 5, 0] rfl)
  refine lv_aload_n S.1 S.2.1 (dd_at ddX3_move 0 rfl) rfl (lv_at hl 0 rfl) ?_
  refine lv_iload_n S.1 S.2.1 (dd_at ddX3_move 1 rfl) rfl (lv_at hl 1 rfl) ?_
  refine r_callI hw (r_runV (As := [.int p1]) (rest := []) S hw (m_X3_placeOf l D cs E d H.size a0 p1 _) (cwV 1 S.2.2.2.2 (gV wg801 wg802 wg803 wg25 wg804) rfl rfl rfl (by decide +kernel) ⟨Nat.le_of_ble_eq_true rfl, Nat.le_of_ble_eq_true rfl⟩) (ci := 3) rfl ha0 h rfl hl.1 rfl (Nat.le_of_ble_eq_true rfl) (dd_at ddX3_move 2 rfl) ⟨Nat.le_of_ble_eq_true rfl, Nat.le_of_ble_eq_true rfl⟩) (fun r_19 d_18 H locs h hw => ?_)
  refine lv_istore_n (lv' := [(3, .int r_19), (0, .ref a0), (1, .int p1), (2, .int p2)]) S.1 S.2.1 (dd_at ddX3_move 3 rfl) rfl hl (by decide) rfl (fun ls hl => ?_)
  refine lv_iload_n S.1 S.2.1 (dd_at ddX3_move 4 rfl) rfl (lv_at hl 0 rfl) ?_
  refine lv_iload_n S.1 S.2.1 (dd_at ddX3_move 5 rfl) rfl (lv_at hl 3 rfl) ?_
  refine lv_icmp_ge (tgt := 15) S.1 S.2.1 (dd_at ddX3_move 6 rfl) (by decide) (fun hc_20 => ?_) (fun hc_20 => ?_)
  · have h := h.1 hc_20
    refine lv_iconst (v := -1) S.1 S.2.1 (dd_at ddX3_move 9 rfl) (by decide) ?_
    refine lv_istore (lv' := [(4, .int (-1)), (3, .int r_19), (0, .ref a0), (1, .int p1), (2, .int p2)]) S.1 S.2.1 (dd_at ddX3_move 10 rfl) hl (by decide) rfl (fun ls hl => ?_)
    refine lv_iconst (v := 0) S.1 S.2.1 (dd_at ddX3_move 11 rfl) (by decide) ?_
    refine lv_istore (lv' := [(5, .int 0), (4, .int (-1)), (3, .int r_19), (0, .ref a0), (1, .int p1), (2, .int p2)]) S.1 S.2.1 (dd_at ddX3_move 12 rfl) hl (by decide) rfl (fun ls hl => ?_)
    obtain ⟨n_21, h⟩ := h
    exact tl21 n_21 r_19 (-1) 0 d_18 H locs ls h hw (lv_sub hl [3, 4, 5, 2, 1, 0] rfl)
  · have h := h.2 hc_20
    refine lv_iconst (v := 1) S.1 S.2.1 (dd_at ddX3_move 7 rfl) (by decide) ?_
    refine lv_goto (tgt := 16) S.1 S.2.1 (dd_at ddX3_move 8 rfl) (by decide) ?_
    refine lv_istore (lv' := [(4, .int 1), (3, .int r_19), (0, .ref a0), (1, .int p1), (2, .int p2)]) S.1 S.2.1 (dd_at ddX3_move 10 rfl) hl (by decide) rfl (fun ls hl => ?_)
    refine lv_iconst (v := 0) S.1 S.2.1 (dd_at ddX3_move 11 rfl) (by decide) ?_
    refine lv_istore (lv' := [(5, .int 0), (4, .int 1), (3, .int r_19), (0, .ref a0), (1, .int p1), (2, .int p2)]) S.1 S.2.1 (dd_at ddX3_move 12 rfl) hl (by decide) rfl (fun ls hl => ?_)
    obtain ⟨n_22, h⟩ := h
    exact tl21 n_22 r_19 1 0 d_18 H locs ls h hw (lv_sub hl [3, 4, 5, 2, 1, 0] rfl)

def w_X3_step (E : En) (a0 : Nat) (d : Dy) (K : Dy → Prop) : Prop := okO E a0 3 ∧ ∃ b_1 : Nat, eR E a0 0 = some b_1 ∧ okO E b_1 8 ∧ ∃ b_4 : Nat, eR E b_1 3 = some b_4 ∧ okO E b_4 6 ∧ w_X6_get E b_4 (gI d a0 3) 1 (pI d a0 3 ((gI d a0 3) + 1)) (fun r_8 d_7 => ((r_8 ≤ (gI d_7 a0 1) → ∃ b_10 : Nat, eR E a0 0 = some b_10 ∧ okO E b_10 8 ∧ ∃ b_13 : Nat, eR E b_10 3 = some b_13 ∧ okO E b_13 6 ∧ w_X6_get E b_13 (gI d a0 3) 0 d_7 (fun r_17 d_16 => ∃ b_18 : Nat, eR E a0 0 = some b_18 ∧ okO E b_18 8 ∧ ∃ b_21 : Nat, eR E b_18 3 = some b_21 ∧ okO E b_21 6 ∧ w_X6_get E b_21 (gI d a0 3) 3 d_16 (fun r_25 d_24 => ∃ b_26 : Nat, eR E a0 0 = some b_26 ∧ okO E b_26 8 ∧ ∃ b_29 : Nat, eR E b_26 3 = some b_29 ∧ okO E b_29 6 ∧ w_X6_get E b_29 (gI d a0 3) 4 d_24 (fun r_33 d_32 => ∃ b_34 : Nat, eR E a0 0 = some b_34 ∧ okO E b_34 8 ∧ ∃ b_37 : Nat, eR E b_34 3 = some b_37 ∧ okO E b_37 6 ∧ w_X6_get E b_37 (gI d a0 3) 2 d_32 (fun r_41 d_40 => ((r_41 = 0 → w_X3_die E a0 r_25 r_17 d_40 (fun d_43 => K d_43)) ∧ (r_41 = 1 → ∃ b_46 : Nat, eR E a0 5 = some b_46 ∧ okO E b_46 6 ∧ w_X6_set E b_46 r_25 0 r_33 d_40 (fun d_49 => ∃ b_51 : Nat, eR E a0 5 = some b_51 ∧ okO E b_51 6 ∧ w_X6_set E b_51 r_33 0 r_25 d_49 (fun d_54 => K d_54))) ∧ (r_41 = 2 → w_X3_leave E a0 r_25 r_33 d_40 (fun d_57 => w_X3_leave E a0 r_33 r_25 d_57 (fun d_59 => K d_59))) ∧ (r_41 = 3 → ∃ b_62 : Nat, eR E a0 5 = some b_62 ∧ okO E b_62 6 ∧ ∃ b_65 : Nat, eR E a0 5 = some b_65 ∧ okO E b_65 6 ∧ w_X6_get E b_65 r_25 1 d_40 (fun r_69 d_68 => w_X6_set E b_62 r_25 1 (r_69 ||| ((1 : Int32) <<< (r_33 &&& 31))) d_68 (fun d_70 => ∃ b_72 : Nat, eR E a0 5 = some b_72 ∧ okO E b_72 6 ∧ ∃ b_75 : Nat, eR E a0 5 = some b_75 ∧ okO E b_75 6 ∧ w_X6_get E b_75 r_33 2 d_70 (fun r_79 d_78 => w_X6_set E b_72 r_33 2 (r_79 ||| ((1 : Int32) <<< (r_25 &&& 31))) d_78 (fun d_80 => K d_80))))) ∧ (r_41 = 4 → w_X3_sells E a0 (gI d a0 3) d_40 (fun r_84 d_83 => ((r_84 = 0 → K d_83) ∧ (¬ r_84 = 0 → w_X3_hold E a0 r_25 r_33 r_17 d_83 (fun d_86 => K d_86))))) ∧ (r_41 = 5 → w_X3_holderOf E a0 r_25 d_40 (fun r_90 d_89 => ((¬ r_90 = (-1) → K d_89) ∧ (r_90 = (-1) → w_X3_lives E a0 r_33 d_89 (fun r_93 d_92 => ((r_93 = 0 → K d_92) ∧ (¬ r_93 = 0 → w_X3_hold E a0 r_25 r_33 r_17 d_92 (fun d_95 => K d_95)))))))) ∧ (¬ r_41 = 0 → ¬ r_41 = 1 → ¬ r_41 = 2 → ¬ r_41 = 3 → ¬ r_41 = 4 → ¬ r_41 = 5 → w_X3_move E a0 r_25 r_33 d_40 (fun d_98 => K d_98)))))))) ∧ (¬ r_8 ≤ (gI d_7 a0 1) → K d_7)))
abbrev rm_X3_step : Room := { frames := 5, cells := 0, slots := 0, locals := 119 }
set_option maxRecDepth 100000 in
set_option maxHeartbeats 4000000 in
theorem m_X3_step (l : Launch) (D : va_G) (cs : Nat → ClassId) (E : En) (d : Dy) (sz : Nat) (a0 : Nat) (K : Dy → Prop) : CV l yX3_step (.code yX3_step cX3_step 5 none :: wsL_law) rm_X3_step D cs E d sz [.ref a0] (w_X3_step E a0 d K) K := by
  refine e_of (cc := cX3_step) (maxL := 5) (ret := none) (own := RX3) (by decide) rfl rfl (Nat.le_of_ble_eq_true rfl) ?_
  intro p e s m below meth c S hr hlocks hsz H locs hw h ls hl
  have hl : lv_has ls 5 [(0, .ref a0)] := hl
  unfold w_X3_step at h
  obtain ⟨ha0, h⟩ := h
  refine lv_aload_n S.1 S.2.1 (dd_at ddX3_step 0 rfl) rfl (lv_at hl 0 rfl) ?_
  refine r_getI S hw 3 3 rfl inG3 (by decide) (List.mem_cons_of_mem _ wg667) (by decide) ha0 (dd_at ddX3_step 1 rfl) ?_
  refine lv_istore_n (lv' := [(1, .int (gI d a0 3)), (0, .ref a0)]) S.1 S.2.1 (dd_at ddX3_step 2 rfl) rfl hl (by decide) rfl (fun ls hl => ?_)
  refine lv_aload_n S.1 S.2.1 (dd_at ddX3_step 3 rfl) rfl (lv_at hl 1 rfl) ?_
  refine lv_dup S.1 S.2.1 (dd_at ddX3_step 4 rfl) rfl ?_
  refine r_getI S hw 3 3 rfl inG3 (by decide) (List.mem_cons_of_mem _ wg667) (by decide) ha0 (dd_at ddX3_step 5 rfl) ?_
  refine lv_iconst (v := 1) S.1 S.2.1 (dd_at ddX3_step 6 rfl) (by decide) ?_
  refine lv_iadd S.1 S.2.1 (dd_at ddX3_step 7 rfl) ?_
  refine r_putI S hw 3 3 (ty := .int) (v := (gI d a0 3) + 1) rfl inG3 tyX3 tyX3_ok nmX3 (by decide) (List.mem_cons_of_mem _ wg667) (by decide) rfl (by decide +kernel) rfl rfl ha0 (dd_at ddX3_step 8 rfl) (fun H locs hw => ?_)
  refine lv_aload_n S.1 S.2.1 (dd_at ddX3_step 9 rfl) rfl (lv_at hl 1 rfl) ?_
  obtain ⟨b_1, hb_2, ho_3, h⟩ := h
  refine r_getR S hw 3 0 rfl inG3 (by decide) (List.mem_cons_of_mem _ wg105) (by decide) ha0 hb_2 (dd_at ddX3_step 10 rfl) ?_
  obtain ⟨b_4, hb_5, ho_6, h⟩ := h
  refine r_getRN S hw 8 3 rfl inG8 (by decide) nx8 (by decide) ho_3 hb_5 (dd_at ddX3_step 11 rfl) ?_
  refine lv_iload_n S.1 S.2.1 (dd_at ddX3_step 12 rfl) rfl (lv_at hl 0 rfl) ?_
  refine lv_iconst (v := 1) S.1 S.2.1 (dd_at ddX3_step 13 rfl) (by decide) ?_
  refine r_callI hw (r_runV (As := [.int (gI d a0 3), .int 1]) (rest := []) S hw (m_X6_get l D cs E (pI d a0 3 ((gI d a0 3) + 1)) H.size b_4 (gI d a0 3) 1 _) (cwV 2 S.2.2.2.2 (gV wg673 wg623 wg624 wg51 wg625) rfl rfl rfl (by decide +kernel) ⟨Nat.le_of_ble_eq_true rfl, Nat.le_of_ble_eq_true rfl⟩) (ci := 6) rfl ho_6 h rfl hl.1 rfl (Nat.le_of_ble_eq_true rfl) (dd_at ddX3_step 14 rfl) ⟨Nat.le_of_ble_eq_true rfl, Nat.le_of_ble_eq_true rfl⟩) (fun r_8 d_7 H locs h hw => ?_)
  refine lv_aload_n S.1 S.2.1 (dd_at ddX3_step 15 rfl) rfl (lv_at hl 1 rfl) ?_
  refine r_getI S hw 3 1 rfl inG3 (by decide) (List.mem_cons_of_mem _ wg665) (by decide) ha0 (dd_at ddX3_step 16 rfl) ?_
  refine lv_icmp_le (tgt := 35) S.1 S.2.1 (dd_at ddX3_step 17 rfl) (by decide) (fun hc_9 => ?_) (fun hc_9 => ?_)
  · have h := h.1 hc_9
    refine lv_aload_n S.1 S.2.1 (dd_at ddX3_step 19 rfl) rfl (lv_at hl 1 rfl) ?_
    obtain ⟨b_10, hb_11, ho_12, h⟩ := h
    refine r_getR S hw 3 0 rfl inG3 (by decide) (List.mem_cons_of_mem _ wg105) (by decide) ha0 hb_11 (dd_at ddX3_step 20 rfl) ?_
    obtain ⟨b_13, hb_14, ho_15, h⟩ := h
    refine r_getRN S hw 8 3 rfl inG8 (by decide) nx8 (by decide) ho_12 hb_14 (dd_at ddX3_step 21 rfl) ?_
    refine lv_iload_n S.1 S.2.1 (dd_at ddX3_step 22 rfl) rfl (lv_at hl 0 rfl) ?_
    refine lv_iconst (v := 0) S.1 S.2.1 (dd_at ddX3_step 23 rfl) (by decide) ?_
    refine r_callI hw (r_runV (As := [.int (gI d a0 3), .int 0]) (rest := []) S hw (m_X6_get l D cs E d_7 H.size b_13 (gI d a0 3) 0 _) (cwV 2 S.2.2.2.2 (gV wg673 wg623 wg624 wg51 wg625) rfl rfl rfl (by decide +kernel) ⟨Nat.le_of_ble_eq_true rfl, Nat.le_of_ble_eq_true rfl⟩) (ci := 6) rfl ho_15 h rfl hl.1 rfl (Nat.le_of_ble_eq_true rfl) (dd_at ddX3_step 24 rfl) ⟨Nat.le_of_ble_eq_true rfl, Nat.le_of_ble_eq_true rfl⟩) (fun r_17 d_16 H locs h hw => ?_)
    refine lv_istore_n (lv' := [(2, .int r_17), (1, .int (gI d a0 3)), (0, .ref a0)]) S.1 S.2.1 (dd_at ddX3_step 25 rfl) rfl hl (by decide) rfl (fun ls hl => ?_)
    refine lv_aload_n S.1 S.2.1 (dd_at ddX3_step 26 rfl) rfl (lv_at hl 2 rfl) ?_
    obtain ⟨b_18, hb_19, ho_20, h⟩ := h
    refine r_getR S hw 3 0 rfl inG3 (by decide) (List.mem_cons_of_mem _ wg105) (by decide) ha0 hb_19 (dd_at ddX3_step 27 rfl) ?_
    obtain ⟨b_21, hb_22, ho_23, h⟩ := h
    refine r_getRN S hw 8 3 rfl inG8 (by decide) nx8 (by decide) ho_20 hb_22 (dd_at ddX3_step 28 rfl) ?_
    refine lv_iload_n S.1 S.2.1 (dd_at ddX3_step 29 rfl) rfl (lv_at hl 1 rfl) ?_
    refine lv_iconst (v := 3) S.1 S.2.1 (dd_at ddX3_step 30 rfl) (by decide) ?_
    refine r_callI hw (r_runV (As := [.int (gI d a0 3), .int 3]) (rest := []) S hw (m_X6_get l D cs E d_16 H.size b_21 (gI d a0 3) 3 _) (cwV 2 S.2.2.2.2 (gV wg673 wg623 wg624 wg51 wg625) rfl rfl rfl (by decide +kernel) ⟨Nat.le_of_ble_eq_true rfl, Nat.le_of_ble_eq_true rfl⟩) (ci := 6) rfl ho_23 h rfl hl.1 rfl (Nat.le_of_ble_eq_true rfl) (dd_at ddX3_step 31 rfl) ⟨Nat.le_of_ble_eq_true rfl, Nat.le_of_ble_eq_true rfl⟩) (fun r_25 d_24 H locs h hw => ?_)
    refine lv_istore_n (lv' := [(3, .int r_25), (2, .int r_17), (1, .int (gI d a0 3)), (0, .ref a0)]) S.1 S.2.1 (dd_at ddX3_step 32 rfl) rfl hl (by decide) rfl (fun ls hl => ?_)
    refine lv_aload_n S.1 S.2.1 (dd_at ddX3_step 33 rfl) rfl (lv_at hl 3 rfl) ?_
    obtain ⟨b_26, hb_27, ho_28, h⟩ := h
    refine r_getR S hw 3 0 rfl inG3 (by decide) (List.mem_cons_of_mem _ wg105) (by decide) ha0 hb_27 (dd_at ddX3_step 34 rfl) ?_
    obtain ⟨b_29, hb_30, ho_31, h⟩ := h
    refine r_getRN S hw 8 3 rfl inG8 (by decide) nx8 (by decide) ho_28 hb_30 (dd_at ddX3_step 35 rfl) ?_
    refine lv_iload_n S.1 S.2.1 (dd_at ddX3_step 36 rfl) rfl (lv_at hl 2 rfl) ?_
    refine lv_iconst (v := 4) S.1 S.2.1 (dd_at ddX3_step 37 rfl) (by decide) ?_
    refine r_callI hw (r_runV (As := [.int (gI d a0 3), .int 4]) (rest := []) S hw (m_X6_get l D cs E d_24 H.size b_29 (gI d a0 3) 4 _) (cwV 2 S.2.2.2.2 (gV wg673 wg623 wg624 wg51 wg625) rfl rfl rfl (by decide +kernel) ⟨Nat.le_of_ble_eq_true rfl, Nat.le_of_ble_eq_true rfl⟩) (ci := 6) rfl ho_31 h rfl hl.1 rfl (Nat.le_of_ble_eq_true rfl) (dd_at ddX3_step 38 rfl) ⟨Nat.le_of_ble_eq_true rfl, Nat.le_of_ble_eq_true rfl⟩) (fun r_33 d_32 H locs h hw => ?_)
    refine lv_istore (lv' := [(4, .int r_33), (3, .int r_25), (2, .int r_17), (1, .int (gI d a0 3)), (0, .ref a0)]) S.1 S.2.1 (dd_at ddX3_step 39 rfl) hl (by decide) rfl (fun ls hl => ?_)
    refine lv_aload_n S.1 S.2.1 (dd_at ddX3_step 40 rfl) rfl (lv_at hl 4 rfl) ?_
    obtain ⟨b_34, hb_35, ho_36, h⟩ := h
    refine r_getR S hw 3 0 rfl inG3 (by decide) (List.mem_cons_of_mem _ wg105) (by decide) ha0 hb_35 (dd_at ddX3_step 41 rfl) ?_
    obtain ⟨b_37, hb_38, ho_39, h⟩ := h
    refine r_getRN S hw 8 3 rfl inG8 (by decide) nx8 (by decide) ho_36 hb_38 (dd_at ddX3_step 42 rfl) ?_
    refine lv_iload_n S.1 S.2.1 (dd_at ddX3_step 43 rfl) rfl (lv_at hl 3 rfl) ?_
    refine lv_iconst (v := 2) S.1 S.2.1 (dd_at ddX3_step 44 rfl) (by decide) ?_
    refine r_callI hw (r_runV (As := [.int (gI d a0 3), .int 2]) (rest := []) S hw (m_X6_get l D cs E d_32 H.size b_37 (gI d a0 3) 2 _) (cwV 2 S.2.2.2.2 (gV wg673 wg623 wg624 wg51 wg625) rfl rfl rfl (by decide +kernel) ⟨Nat.le_of_ble_eq_true rfl, Nat.le_of_ble_eq_true rfl⟩) (ci := 6) rfl ho_39 h rfl hl.1 rfl (Nat.le_of_ble_eq_true rfl) (dd_at ddX3_step 45 rfl) ⟨Nat.le_of_ble_eq_true rfl, Nat.le_of_ble_eq_true rfl⟩) (fun r_41 d_40 H locs h hw => ?_)
    by_cases hc_45 : r_41 = 0
    · have h := h.1 hc_45
      refine lv_tableIn (off := 37) (tgt := 124) S.1 S.2.1 (dd_at ddX3_step 46 rfl) (by rw [hc_45]; decide) (by rw [hc_45]; decide) (by rw [hc_45]; rfl) (by decide) ?_
      refine lv_aload_n S.1 S.2.1 (dd_at ddX3_step 47 rfl) rfl (lv_at hl 4 rfl) ?_
      refine lv_iload_n S.1 S.2.1 (dd_at ddX3_step 48 rfl) rfl (lv_at hl 1 rfl) ?_
      refine lv_iload_n S.1 S.2.1 (dd_at ddX3_step 49 rfl) rfl (lv_at hl 2 rfl) ?_
      refine r_callV hw (r_runV (As := [.int r_25, .int r_17]) (rest := []) S hw (m_X3_die l D cs E d_40 H.size a0 r_25 r_17 _) (cwV 2 S.2.2.2.2 (gV wg686 wg687 wg688 wg25 wg689) rfl rfl rfl (by decide +kernel) ⟨Nat.le_of_ble_eq_true rfl, Nat.le_of_ble_eq_true rfl⟩) (ci := 3) rfl ha0 h rfl hl.1 rfl (Nat.le_of_ble_eq_true rfl) (dd_at ddX3_step 50 rfl) ⟨Nat.le_of_ble_eq_true rfl, Nat.le_of_ble_eq_true rfl⟩) (fun d_43 H locs h hw => ?_)
      refine lv_goto (tgt := 280) S.1 S.2.1 (dd_at ddX3_step 51 rfl) (by decide) ?_
      exact e_V S hr hlocks hw h (dd_at ddX3_step 132 rfl)
    · skip
      by_cases hc_56 : r_41 = 1
      · have h := h.2.1 hc_56
        refine lv_tableIn (off := 46) (tgt := 133) S.1 S.2.1 (dd_at ddX3_step 46 rfl) (by rw [hc_56]; decide) (by rw [hc_56]; decide) (by rw [hc_56]; rfl) (by decide) ?_
        refine lv_aload_n S.1 S.2.1 (dd_at ddX3_step 52 rfl) rfl (lv_at hl 4 rfl) ?_
        obtain ⟨b_46, hb_47, ho_48, h⟩ := h
        refine r_getR S hw 3 5 rfl inG3 (by decide) (List.mem_cons_of_mem _ wg98) (by decide) ha0 hb_47 (dd_at ddX3_step 53 rfl) ?_
        refine lv_iload_n S.1 S.2.1 (dd_at ddX3_step 54 rfl) rfl (lv_at hl 1 rfl) ?_
        refine lv_iconst (v := 0) S.1 S.2.1 (dd_at ddX3_step 55 rfl) (by decide) ?_
        refine lv_iload S.1 S.2.1 (dd_at ddX3_step 56 rfl) (lv_at hl 0 rfl) ?_
        refine r_callV hw (r_runV (As := [.int r_25, .int 0, .int r_33]) (rest := []) S hw (m_X6_set l D cs E d_40 H.size b_46 r_25 0 r_33 _) (cwV 3 S.2.2.2.2 (gV wg672 wg318 wg319 wg51 wg320) rfl rfl rfl (by decide +kernel) ⟨Nat.le_of_ble_eq_true rfl, Nat.le_of_ble_eq_true rfl⟩) (ci := 6) rfl ho_48 h rfl hl.1 rfl (Nat.le_of_ble_eq_true rfl) (dd_at ddX3_step 57 rfl) ⟨Nat.le_of_ble_eq_true rfl, Nat.le_of_ble_eq_true rfl⟩) (fun d_49 H locs h hw => ?_)
        refine lv_aload_n S.1 S.2.1 (dd_at ddX3_step 58 rfl) rfl (lv_at hl 4 rfl) ?_
        obtain ⟨b_51, hb_52, ho_53, h⟩ := h
        refine r_getR S hw 3 5 rfl inG3 (by decide) (List.mem_cons_of_mem _ wg98) (by decide) ha0 hb_52 (dd_at ddX3_step 59 rfl) ?_
        refine lv_iload S.1 S.2.1 (dd_at ddX3_step 60 rfl) (lv_at hl 0 rfl) ?_
        refine lv_iconst (v := 0) S.1 S.2.1 (dd_at ddX3_step 61 rfl) (by decide) ?_
        refine lv_iload_n S.1 S.2.1 (dd_at ddX3_step 62 rfl) rfl (lv_at hl 1 rfl) ?_
        refine r_callV hw (r_runV (As := [.int r_33, .int 0, .int r_25]) (rest := []) S hw (m_X6_set l D cs E d_49 H.size b_51 r_33 0 r_25 _) (cwV 3 S.2.2.2.2 (gV wg672 wg318 wg319 wg51 wg320) rfl rfl rfl (by decide +kernel) ⟨Nat.le_of_ble_eq_true rfl, Nat.le_of_ble_eq_true rfl⟩) (ci := 6) rfl ho_53 h rfl hl.1 rfl (Nat.le_of_ble_eq_true rfl) (dd_at ddX3_step 63 rfl) ⟨Nat.le_of_ble_eq_true rfl, Nat.le_of_ble_eq_true rfl⟩) (fun d_54 H locs h hw => ?_)
        refine lv_goto (tgt := 280) S.1 S.2.1 (dd_at ddX3_step 64 rfl) (by decide) ?_
        exact e_V S hr hlocks hw h (dd_at ddX3_step 132 rfl)
      · skip
        by_cases hc_61 : r_41 = 2
        · have h := h.2.2.1 hc_61
          refine lv_tableIn (off := 71) (tgt := 158) S.1 S.2.1 (dd_at ddX3_step 46 rfl) (by rw [hc_61]; decide) (by rw [hc_61]; decide) (by rw [hc_61]; rfl) (by decide) ?_
          refine lv_aload_n S.1 S.2.1 (dd_at ddX3_step 65 rfl) rfl (lv_at hl 4 rfl) ?_
          refine lv_iload_n S.1 S.2.1 (dd_at ddX3_step 66 rfl) rfl (lv_at hl 1 rfl) ?_
          refine lv_iload S.1 S.2.1 (dd_at ddX3_step 67 rfl) (lv_at hl 0 rfl) ?_
          refine r_callV hw (r_runV (As := [.int r_25, .int r_33]) (rest := []) S hw (m_X3_leave l D cs E d_40 H.size a0 r_25 r_33 _) (cwV 2 S.2.2.2.2 (gV wg789 wg790 wg791 wg25 wg792) rfl rfl rfl (by decide +kernel) ⟨Nat.le_of_ble_eq_true rfl, Nat.le_of_ble_eq_true rfl⟩) (ci := 3) rfl ha0 h rfl hl.1 rfl (Nat.le_of_ble_eq_true rfl) (dd_at ddX3_step 68 rfl) ⟨Nat.le_of_ble_eq_true rfl, Nat.le_of_ble_eq_true rfl⟩) (fun d_57 H locs h hw => ?_)
          refine lv_aload_n S.1 S.2.1 (dd_at ddX3_step 69 rfl) rfl (lv_at hl 4 rfl) ?_
          refine lv_iload S.1 S.2.1 (dd_at ddX3_step 70 rfl) (lv_at hl 0 rfl) ?_
          refine lv_iload_n S.1 S.2.1 (dd_at ddX3_step 71 rfl) rfl (lv_at hl 1 rfl) ?_
          refine r_callV hw (r_runV (As := [.int r_33, .int r_25]) (rest := []) S hw (m_X3_leave l D cs E d_57 H.size a0 r_33 r_25 _) (cwV 2 S.2.2.2.2 (gV wg789 wg790 wg791 wg25 wg792) rfl rfl rfl (by decide +kernel) ⟨Nat.le_of_ble_eq_true rfl, Nat.le_of_ble_eq_true rfl⟩) (ci := 3) rfl ha0 h rfl hl.1 rfl (Nat.le_of_ble_eq_true rfl) (dd_at ddX3_step 72 rfl) ⟨Nat.le_of_ble_eq_true rfl, Nat.le_of_ble_eq_true rfl⟩) (fun d_59 H locs h hw => ?_)
          refine lv_goto (tgt := 280) S.1 S.2.1 (dd_at ddX3_step 73 rfl) (by decide) ?_
          exact e_V S hr hlocks hw h (dd_at ddX3_step 132 rfl)
        · skip
          by_cases hc_82 : r_41 = 3
          · have h := h.2.2.2.1 hc_82
            refine lv_tableIn (off := 88) (tgt := 175) S.1 S.2.1 (dd_at ddX3_step 46 rfl) (by rw [hc_82]; decide) (by rw [hc_82]; decide) (by rw [hc_82]; rfl) (by decide) ?_
            refine lv_aload_n S.1 S.2.1 (dd_at ddX3_step 74 rfl) rfl (lv_at hl 4 rfl) ?_
            obtain ⟨b_62, hb_63, ho_64, h⟩ := h
            refine r_getR S hw 3 5 rfl inG3 (by decide) (List.mem_cons_of_mem _ wg98) (by decide) ha0 hb_63 (dd_at ddX3_step 75 rfl) ?_
            refine lv_iload_n S.1 S.2.1 (dd_at ddX3_step 76 rfl) rfl (lv_at hl 1 rfl) ?_
            refine lv_iconst (v := 1) S.1 S.2.1 (dd_at ddX3_step 77 rfl) (by decide) ?_
            refine lv_aload_n S.1 S.2.1 (dd_at ddX3_step 78 rfl) rfl (lv_at hl 4 rfl) ?_
            obtain ⟨b_65, hb_66, ho_67, h⟩ := h
            refine r_getR S hw 3 5 rfl inG3 (by decide) (List.mem_cons_of_mem _ wg98) (by decide) ha0 hb_66 (dd_at ddX3_step 79 rfl) ?_
            refine lv_iload_n S.1 S.2.1 (dd_at ddX3_step 80 rfl) rfl (lv_at hl 1 rfl) ?_
            refine lv_iconst (v := 1) S.1 S.2.1 (dd_at ddX3_step 81 rfl) (by decide) ?_
            refine r_callI hw (r_runV (As := [.int r_25, .int 1]) (rest := [.int 1, .int r_25, .ref b_62]) S hw (m_X6_get l D cs E d_40 H.size b_65 r_25 1 _) (cwV 2 S.2.2.2.2 (gV wg673 wg623 wg624 wg51 wg625) rfl rfl rfl (by decide +kernel) ⟨Nat.le_of_ble_eq_true rfl, Nat.le_of_ble_eq_true rfl⟩) (ci := 6) rfl ho_67 h rfl hl.1 rfl (Nat.le_of_ble_eq_true rfl) (dd_at ddX3_step 82 rfl) ⟨Nat.le_of_ble_eq_true rfl, Nat.le_of_ble_eq_true rfl⟩) (fun r_69 d_68 H locs h hw => ?_)
            refine lv_iconst (v := 1) S.1 S.2.1 (dd_at ddX3_step 83 rfl) (by decide) ?_
            refine lv_iload S.1 S.2.1 (dd_at ddX3_step 84 rfl) (lv_at hl 0 rfl) ?_
            refine lv_ishl S.1 S.2.1 (dd_at ddX3_step 85 rfl) ?_
            refine lv_ior S.1 S.2.1 (dd_at ddX3_step 86 rfl) ?_
            refine r_callV hw (r_runV (As := [.int r_25, .int 1, .int (r_69 ||| ((1 : Int32) <<< (r_33 &&& 31)))]) (rest := []) S hw (m_X6_set l D cs E d_68 H.size b_62 r_25 1 (r_69 ||| ((1 : Int32) <<< (r_33 &&& 31))) _) (cwV 3 S.2.2.2.2 (gV wg672 wg318 wg319 wg51 wg320) rfl rfl rfl (by decide +kernel) ⟨Nat.le_of_ble_eq_true rfl, Nat.le_of_ble_eq_true rfl⟩) (ci := 6) rfl ho_64 h rfl hl.1 rfl (Nat.le_of_ble_eq_true rfl) (dd_at ddX3_step 87 rfl) ⟨Nat.le_of_ble_eq_true rfl, Nat.le_of_ble_eq_true rfl⟩) (fun d_70 H locs h hw => ?_)
            refine lv_aload_n S.1 S.2.1 (dd_at ddX3_step 88 rfl) rfl (lv_at hl 4 rfl) ?_
            obtain ⟨b_72, hb_73, ho_74, h⟩ := h
            refine r_getR S hw 3 5 rfl inG3 (by decide) (List.mem_cons_of_mem _ wg98) (by decide) ha0 hb_73 (dd_at ddX3_step 89 rfl) ?_
            refine lv_iload S.1 S.2.1 (dd_at ddX3_step 90 rfl) (lv_at hl 0 rfl) ?_
            refine lv_iconst (v := 2) S.1 S.2.1 (dd_at ddX3_step 91 rfl) (by decide) ?_
            refine lv_aload_n S.1 S.2.1 (dd_at ddX3_step 92 rfl) rfl (lv_at hl 4 rfl) ?_
            obtain ⟨b_75, hb_76, ho_77, h⟩ := h
            refine r_getR S hw 3 5 rfl inG3 (by decide) (List.mem_cons_of_mem _ wg98) (by decide) ha0 hb_76 (dd_at ddX3_step 93 rfl) ?_
            refine lv_iload S.1 S.2.1 (dd_at ddX3_step 94 rfl) (lv_at hl 0 rfl) ?_
            refine lv_iconst (v := 2) S.1 S.2.1 (dd_at ddX3_step 95 rfl) (by decide) ?_
            refine r_callI hw (r_runV (As := [.int r_33, .int 2]) (rest := [.int 2, .int r_33, .ref b_72]) S hw (m_X6_get l D cs E d_70 H.size b_75 r_33 2 _) (cwV 2 S.2.2.2.2 (gV wg673 wg623 wg624 wg51 wg625) rfl rfl rfl (by decide +kernel) ⟨Nat.le_of_ble_eq_true rfl, Nat.le_of_ble_eq_true rfl⟩) (ci := 6) rfl ho_77 h rfl hl.1 rfl (Nat.le_of_ble_eq_true rfl) (dd_at ddX3_step 96 rfl) ⟨Nat.le_of_ble_eq_true rfl, Nat.le_of_ble_eq_true rfl⟩) (fun r_79 d_78 H locs h hw => ?_)
            refine lv_iconst (v := 1) S.1 S.2.1 (dd_at ddX3_step 97 rfl) (by decide) ?_
            refine lv_iload_n S.1 S.2.1 (dd_at ddX3_step 98 rfl) rfl (lv_at hl 1 rfl) ?_
            refine lv_ishl S.1 S.2.1 (dd_at ddX3_step 99 rfl) ?_
            refine lv_ior S.1 S.2.1 (dd_at ddX3_step 100 rfl) ?_
            refine r_callV hw (r_runV (As := [.int r_33, .int 2, .int (r_79 ||| ((1 : Int32) <<< (r_25 &&& 31)))]) (rest := []) S hw (m_X6_set l D cs E d_78 H.size b_72 r_33 2 (r_79 ||| ((1 : Int32) <<< (r_25 &&& 31))) _) (cwV 3 S.2.2.2.2 (gV wg672 wg318 wg319 wg51 wg320) rfl rfl rfl (by decide +kernel) ⟨Nat.le_of_ble_eq_true rfl, Nat.le_of_ble_eq_true rfl⟩) (ci := 6) rfl ho_74 h rfl hl.1 rfl (Nat.le_of_ble_eq_true rfl) (dd_at ddX3_step 101 rfl) ⟨Nat.le_of_ble_eq_true rfl, Nat.le_of_ble_eq_true rfl⟩) (fun d_80 H locs h hw => ?_)
            refine lv_goto (tgt := 280) S.1 S.2.1 (dd_at ddX3_step 102 rfl) (by decide) ?_
            exact e_V S hr hlocks hw h (dd_at ddX3_step 132 rfl)
          · skip
            by_cases hc_88 : r_41 = 4
            · have h := h.2.2.2.2.1 hc_88
              refine lv_tableIn (off := 138) (tgt := 225) S.1 S.2.1 (dd_at ddX3_step 46 rfl) (by rw [hc_88]; decide) (by rw [hc_88]; decide) (by rw [hc_88]; rfl) (by decide) ?_
              refine lv_aload_n S.1 S.2.1 (dd_at ddX3_step 103 rfl) rfl (lv_at hl 4 rfl) ?_
              refine lv_iload_n S.1 S.2.1 (dd_at ddX3_step 104 rfl) rfl (lv_at hl 3 rfl) ?_
              refine r_callI hw (r_runV (As := [.int (gI d a0 3)]) (rest := []) S hw (m_X3_sells l D cs E d_40 H.size a0 (gI d a0 3) _) (cwV 1 S.2.2.2.2 (gV wg793 wg794 wg795 wg25 wg796) rfl rfl rfl (by decide +kernel) ⟨Nat.le_of_ble_eq_true rfl, Nat.le_of_ble_eq_true rfl⟩) (ci := 3) rfl ha0 h rfl hl.1 rfl (Nat.le_of_ble_eq_true rfl) (dd_at ddX3_step 105 rfl) ⟨Nat.le_of_ble_eq_true rfl, Nat.le_of_ble_eq_true rfl⟩) (fun r_84 d_83 H locs h hw => ?_)
              refine lv_if_eq (tgt := 280) S.1 S.2.1 (dd_at ddX3_step 106 rfl) (by decide) (fun hc_85 => ?_) (fun hc_85 => ?_)
              · have h := h.1 hc_85
                exact e_V S hr hlocks hw h (dd_at ddX3_step 132 rfl)
              · have h := h.2 hc_85
                refine lv_aload_n S.1 S.2.1 (dd_at ddX3_step 107 rfl) rfl (lv_at hl 4 rfl) ?_
                refine lv_iload_n S.1 S.2.1 (dd_at ddX3_step 108 rfl) rfl (lv_at hl 1 rfl) ?_
                refine lv_iload S.1 S.2.1 (dd_at ddX3_step 109 rfl) (lv_at hl 0 rfl) ?_
                refine lv_iload_n S.1 S.2.1 (dd_at ddX3_step 110 rfl) rfl (lv_at hl 2 rfl) ?_
                refine r_callV hw (r_runV (As := [.int r_25, .int r_33, .int r_17]) (rest := []) S hw (m_X3_hold l D cs E d_83 H.size a0 r_25 r_33 r_17 _) (cwV 3 S.2.2.2.2 (gV wg674 wg675 wg676 wg25 wg677) rfl rfl rfl (by decide +kernel) ⟨Nat.le_of_ble_eq_true rfl, Nat.le_of_ble_eq_true rfl⟩) (ci := 3) rfl ha0 h rfl hl.1 rfl (Nat.le_of_ble_eq_true rfl) (dd_at ddX3_step 111 rfl) ⟨Nat.le_of_ble_eq_true rfl, Nat.le_of_ble_eq_true rfl⟩) (fun d_86 H locs h hw => ?_)
                refine lv_goto (tgt := 280) S.1 S.2.1 (dd_at ddX3_step 112 rfl) (by decide) ?_
                exact e_V S hr hlocks hw h (dd_at ddX3_step 132 rfl)
            · skip
              by_cases hc_97 : r_41 = 5
              · have h := h.2.2.2.2.2.1 hc_97
                refine lv_tableIn (off := 157) (tgt := 244) S.1 S.2.1 (dd_at ddX3_step 46 rfl) (by rw [hc_97]; decide) (by rw [hc_97]; decide) (by rw [hc_97]; rfl) (by decide) ?_
                refine lv_aload_n S.1 S.2.1 (dd_at ddX3_step 113 rfl) rfl (lv_at hl 4 rfl) ?_
                refine lv_iload_n S.1 S.2.1 (dd_at ddX3_step 114 rfl) rfl (lv_at hl 1 rfl) ?_
                refine r_callI hw (r_runV (As := [.int r_25]) (rest := []) S hw (m_X3_holderOf l D cs E d_40 H.size a0 r_25 _) (cwV 1 S.2.2.2.2 (gV wg694 wg695 wg696 wg25 wg697) rfl rfl rfl (by decide +kernel) ⟨Nat.le_of_ble_eq_true rfl, Nat.le_of_ble_eq_true rfl⟩) (ci := 3) rfl ha0 h rfl hl.1 rfl (Nat.le_of_ble_eq_true rfl) (dd_at ddX3_step 115 rfl) ⟨Nat.le_of_ble_eq_true rfl, Nat.le_of_ble_eq_true rfl⟩) (fun r_90 d_89 H locs h hw => ?_)
                refine lv_iconst (v := -1) S.1 S.2.1 (dd_at ddX3_step 116 rfl) (by decide) ?_
                refine lv_icmp_ne (tgt := 280) S.1 S.2.1 (dd_at ddX3_step 117 rfl) (by decide) (fun hc_91 => ?_) (fun hc_91 => ?_)
                · have h := h.1 hc_91
                  exact e_V S hr hlocks hw h (dd_at ddX3_step 132 rfl)
                · have h := h.2 hc_91
                  refine lv_aload_n S.1 S.2.1 (dd_at ddX3_step 118 rfl) rfl (lv_at hl 4 rfl) ?_
                  refine lv_iload S.1 S.2.1 (dd_at ddX3_step 119 rfl) (lv_at hl 0 rfl) ?_
                  refine r_callI hw (r_runV (As := [.int r_33]) (rest := []) S hw (m_X3_lives l D cs E d_89 H.size a0 r_33 _) (cwV 1 S.2.2.2.2 (gV wg690 wg691 wg692 wg25 wg693) rfl rfl rfl (by decide +kernel) ⟨Nat.le_of_ble_eq_true rfl, Nat.le_of_ble_eq_true rfl⟩) (ci := 3) rfl ha0 h rfl hl.1 rfl (Nat.le_of_ble_eq_true rfl) (dd_at ddX3_step 120 rfl) ⟨Nat.le_of_ble_eq_true rfl, Nat.le_of_ble_eq_true rfl⟩) (fun r_93 d_92 H locs h hw => ?_)
                  refine lv_if_eq (tgt := 280) S.1 S.2.1 (dd_at ddX3_step 121 rfl) (by decide) (fun hc_94 => ?_) (fun hc_94 => ?_)
                  · have h := h.1 hc_94
                    exact e_V S hr hlocks hw h (dd_at ddX3_step 132 rfl)
                  · have h := h.2 hc_94
                    refine lv_aload_n S.1 S.2.1 (dd_at ddX3_step 122 rfl) rfl (lv_at hl 4 rfl) ?_
                    refine lv_iload_n S.1 S.2.1 (dd_at ddX3_step 123 rfl) rfl (lv_at hl 1 rfl) ?_
                    refine lv_iload S.1 S.2.1 (dd_at ddX3_step 124 rfl) (lv_at hl 0 rfl) ?_
                    refine lv_iload_n S.1 S.2.1 (dd_at ddX3_step 125 rfl) rfl (lv_at hl 2 rfl) ?_
                    refine r_callV hw (r_runV (As := [.int r_25, .int r_33, .int r_17]) (rest := []) S hw (m_X3_hold l D cs E d_92 H.size a0 r_25 r_33 r_17 _) (cwV 3 S.2.2.2.2 (gV wg674 wg675 wg676 wg25 wg677) rfl rfl rfl (by decide +kernel) ⟨Nat.le_of_ble_eq_true rfl, Nat.le_of_ble_eq_true rfl⟩) (ci := 3) rfl ha0 h rfl hl.1 rfl (Nat.le_of_ble_eq_true rfl) (dd_at ddX3_step 126 rfl) ⟨Nat.le_of_ble_eq_true rfl, Nat.le_of_ble_eq_true rfl⟩) (fun d_95 H locs h hw => ?_)
                    refine lv_goto (tgt := 280) S.1 S.2.1 (dd_at ddX3_step 127 rfl) (by decide) ?_
                    exact e_V S hr hlocks hw h (dd_at ddX3_step 132 rfl)
              · skip
                have h := h.2.2.2.2.2.2 hc_45 hc_56 hc_61 hc_82 hc_88 hc_97
                have thc_45 := lv_neT (k := 0) (a := 0) hc_45 (by decide)
                have thc_56 := lv_neT (k := 1) (a := 1) hc_56 (by decide)
                have thc_61 := lv_neT (k := 2) (a := 2) hc_61 (by decide)
                have thc_82 := lv_neT (k := 3) (a := 3) hc_82 (by decide)
                have thc_88 := lv_neT (k := 4) (a := 4) hc_88 (by decide)
                have thc_97 := lv_neT (k := 5) (a := 5) hc_97 (by decide)
                refine lv_tableOut (tgt := 273) S.1 S.2.1 (dd_at ddX3_step 46 rfl) (by omega) (by decide) ?_
                refine lv_aload_n S.1 S.2.1 (dd_at ddX3_step 128 rfl) rfl (lv_at hl 4 rfl) ?_
                refine lv_iload_n S.1 S.2.1 (dd_at ddX3_step 129 rfl) rfl (lv_at hl 1 rfl) ?_
                refine lv_iload S.1 S.2.1 (dd_at ddX3_step 130 rfl) (lv_at hl 0 rfl) ?_
                refine r_callV hw (r_runV (As := [.int r_25, .int r_33]) (rest := []) S hw (m_X3_move l D cs E d_40 H.size a0 r_25 r_33 _) (cwV 2 S.2.2.2.2 (gV wg797 wg798 wg799 wg25 wg800) rfl rfl rfl (by decide +kernel) ⟨Nat.le_of_ble_eq_true rfl, Nat.le_of_ble_eq_true rfl⟩) (ci := 3) rfl ha0 h rfl hl.1 rfl (Nat.le_of_ble_eq_true rfl) (dd_at ddX3_step 131 rfl) ⟨Nat.le_of_ble_eq_true rfl, Nat.le_of_ble_eq_true rfl⟩) (fun d_98 H locs h hw => ?_)
                exact e_V S hr hlocks hw h (dd_at ddX3_step 132 rfl)
  · have h := h.2 hc_9
    exact e_V S hr hlocks hw h (dd_at ddX3_step 18 rfl)
