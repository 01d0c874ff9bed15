def b_X3_goTo_5 (E : En) (a0 : Nat) (p1 : Int32) (K : Dy → Prop) (k5 : Int32 → Dy → Prop) (v2 : Int32) (d : Dy) : Prop := ∃ b_1 : Nat, eR E a0 0 = some b_1 ∧ okO E b_1 8 ∧ ∃ b_4 : Nat, eR E b_1 3 = some b_4 ∧ okO E b_4 6 ∧ w_X6_size E b_4 d (fun r_8 d_7 => ((r_8 ≤ v2 → K (pI d_7 a0 2 p1)) ∧ (¬ r_8 ≤ v2 → ∃ b_10 : Nat, eR E a0 0 = some b_10 ∧ okO E b_10 8 ∧ ∃ b_13 : Nat, eR E b_10 3 = some b_13 ∧ okO E b_13 6 ∧ w_X6_get E b_13 v2 0 d_7 (fun r_17 d_16 => ((p1 < r_17 → K (pI d_16 a0 2 p1)) ∧ (¬ p1 < r_17 → w_X3_step E a0 d_16 (fun d_19 => k5 (v2 + 1) d_19)))))))
def l_X3_goTo_5 (E : En) (a0 : Nat) (p1 : Int32) (K : Dy → Prop) : Nat → Int32 → Dy → Prop
  | 0 => fun _ _ => False
  | n + 1 => b_X3_goTo_5 E a0 p1 K (l_X3_goTo_5 E a0 p1 K n)
def w_X3_goTo (E : En) (a0 : Nat) (p1 : Int32) (d : Dy) (K : Dy → Prop) : Prop := okO E a0 3 ∧ (∃ n_21 : Nat, l_X3_goTo_5 E a0 p1 K n_21 (gI d a0 3) d)
abbrev rm_X3_goTo : Room := { frames := 6, cells := 0, slots := 0, locals := 143 }
set_option maxRecDepth 100000 in
set_option maxHeartbeats 4000000 in
theorem m_X3_goTo (l : Launch) (D : va_G) (cs : Nat → ClassId) (E : En) (d : Dy) (sz : Nat) (a0 : Nat) (p1 : Int32) (K : Dy → Prop) : CV l yX3_goTo (.code yX3_goTo cX3_goTo 3 none :: wsL_law) rm_X3_goTo D cs E d sz [.ref a0, .int p1] (w_X3_goTo E a0 p1 d K) K := by
  refine e_of (cc := cX3_goTo) (maxL := 3) (ret := none) (own := RX3) (by decide) rfl rfl (Nat.le_of_ble_eq_true rfl) ?_
  intro p e s m below meth c S hr hlocks hsz H locs hw h ls hl
  have hl : lv_has ls 3 [(0, .ref a0), (1, .int p1)] := hl
  unfold w_X3_goTo at h
  obtain ⟨ha0, h⟩ := h
  have tl5 : ∀ (n : Nat) (v2 : Int32) (d : Dy) (H : Heap) (locs : List Loc) (ls : Array Slot), l_X3_goTo_5 E a0 p1 K n v2 d → Wd D cs (AW E sz) s.heap s E d H locs → lv_has ls 3 [(0, .ref a0), (1, .int p1), (2, .int v2)] → W p l e rm_X3_goTo s m ([.ref a0, .int p1] : List Value).toArray below meth c H locs 0 0 (MQ below (va_Qv K (OutW D cs E (AW E sz)) (AW E sz)) ([.ref a0, .int p1] : List Value).toArray s rm_X3_goTo.cells rm_X3_goTo.slots (AW E sz)) (F0 m 5 ls []) := by
    intro n5
    induction n5 with
    | zero => intro v2 d H locs ls h; exact absurd h id
    | succ n5 ih5 =>
      intro v2 d H locs ls h hw hl
      have h : b_X3_goTo_5 E a0 p1 K (l_X3_goTo_5 E a0 p1 K n5) v2 d := h
      unfold b_X3_goTo_5 at h
      refine lv_iload_n S.1 S.2.1 (dd_at ddX3_goTo 3 rfl) rfl (lv_at hl 2 rfl) ?_
      refine lv_aload_n S.1 S.2.1 (dd_at ddX3_goTo 4 rfl) rfl (lv_at hl 0 rfl) ?_
      obtain ⟨b_1, hb_2, ho_3, h⟩ := h
      refine r_getR S hw 3 0 rfl inG3 (by decide) (List.mem_cons_of_mem _ wg105) (by decide) ha0 hb_2 (dd_at ddX3_goTo 5 rfl) ?_
      obtain ⟨b_4, hb_5, ho_6, h⟩ := h
      refine r_getRN S hw 8 3 rfl inG8 (by decide) nx8 (by decide) ho_3 hb_5 (dd_at ddX3_goTo 6 rfl) ?_
      refine r_callI hw (r_runV (As := []) (rest := [.int v2]) S hw (m_X6_size l D cs E d H.size b_4 _) (cwV 0 S.2.2.2.2 (gV wg670 wg372 wg373 wg51 wg374) rfl rfl rfl (by decide +kernel) ⟨Nat.le_of_ble_eq_true rfl, Nat.le_of_ble_eq_true rfl⟩) (ci := 6) rfl ho_6 h rfl hl.1 rfl (Nat.le_of_ble_eq_true rfl) (dd_at ddX3_goTo 7 rfl) ⟨Nat.le_of_ble_eq_true rfl, Nat.le_of_ble_eq_true rfl⟩) (fun r_8 d_7 H locs h hw => ?_)
      refine lv_icmp_ge (tgt := 45) S.1 S.2.1 (dd_at ddX3_goTo 8 rfl) (by decide) (fun hc_9 => ?_) (fun hc_9 => ?_)
      · have h := h.1 hc_9
        refine lv_aload_n S.1 S.2.1 (dd_at ddX3_goTo 21 rfl) rfl (lv_at hl 0 rfl) ?_
        refine lv_iload_n S.1 S.2.1 (dd_at ddX3_goTo 22 rfl) rfl (lv_at hl 1 rfl) ?_
        refine r_putI S hw 3 2 (ty := .int) (v := p1) rfl inG3 tyX3 tyX3_ok nmX3 (by decide) (List.mem_cons_of_mem _ wg666) (by decide) rfl (by decide +kernel) rfl rfl ha0 (dd_at ddX3_goTo 23 rfl) (fun H locs hw => ?_)
        exact e_V S hr hlocks hw h (dd_at ddX3_goTo 24 rfl)
      · have h := h.2 hc_9
        refine lv_aload_n S.1 S.2.1 (dd_at ddX3_goTo 9 rfl) rfl (lv_at hl 0 rfl) ?_
        obtain ⟨b_10, hb_11, ho_12, h⟩ := h
        refine r_getR S hw 3 0 rfl inG3 (by decide) (List.mem_cons_of_mem _ wg105) (by decide) ha0 hb_11 (dd_at ddX3_goTo 10 rfl) ?_
        obtain ⟨b_13, hb_14, ho_15, h⟩ := h
        refine r_getRN S hw 8 3 rfl inG8 (by decide) nx8 (by decide) ho_12 hb_14 (dd_at ddX3_goTo 11 rfl) ?_
        refine lv_iload_n S.1 S.2.1 (dd_at ddX3_goTo 12 rfl) rfl (lv_at hl 2 rfl) ?_
        refine lv_iconst (v := 0) S.1 S.2.1 (dd_at ddX3_goTo 13 rfl) (by decide) ?_
        refine r_callI hw (r_runV (As := [.int v2, .int 0]) (rest := []) S hw (m_X6_get l D cs E d_7 H.size b_13 v2 0 _) (cwV 2 S.2.2.2.2 (gV wg673 wg623 wg624 wg51 wg625) rfl rfl rfl (by decide +kernel) ⟨Nat.le_of_ble_eq_true rfl, Nat.le_of_ble_eq_true rfl⟩) (ci := 6) rfl ho_15 h rfl hl.1 rfl (Nat.le_of_ble_eq_true rfl) (dd_at ddX3_goTo 14 rfl) ⟨Nat.le_of_ble_eq_true rfl, Nat.le_of_ble_eq_true rfl⟩) (fun r_17 d_16 H locs h hw => ?_)
        refine lv_iload_n S.1 S.2.1 (dd_at ddX3_goTo 15 rfl) rfl (lv_at hl 1 rfl) ?_
        refine lv_icmp_gt (tgt := 45) S.1 S.2.1 (dd_at ddX3_goTo 16 rfl) (by decide) (fun hc_18 => ?_) (fun hc_18 => ?_)
        · have h := h.1 hc_18
          refine lv_aload_n S.1 S.2.1 (dd_at ddX3_goTo 21 rfl) rfl (lv_at hl 0 rfl) ?_
          refine lv_iload_n S.1 S.2.1 (dd_at ddX3_goTo 22 rfl) rfl (lv_at hl 1 rfl) ?_
          refine r_putI S hw 3 2 (ty := .int) (v := p1) rfl inG3 tyX3 tyX3_ok nmX3 (by decide) (List.mem_cons_of_mem _ wg666) (by decide) rfl (by decide +kernel) rfl rfl ha0 (dd_at ddX3_goTo 23 rfl) (fun H locs hw => ?_)
          exact e_V S hr hlocks hw h (dd_at ddX3_goTo 24 rfl)
        · have h := h.2 hc_18
          refine lv_aload_n S.1 S.2.1 (dd_at ddX3_goTo 17 rfl) rfl (lv_at hl 0 rfl) ?_
          refine r_callV hw (r_runV (As := []) (rest := []) S hw (m_X3_step l D cs E d_16 H.size a0 _) (cwV 0 S.2.2.2.2 (gV wg682 wg683 wg684 wg25 wg685) rfl rfl rfl (by decide +kernel) ⟨Nat.le_of_ble_eq_true rfl, Nat.le_of_ble_eq_true rfl⟩) (ci := 3) rfl ha0 h rfl hl.1 rfl (Nat.le_of_ble_eq_true rfl) (dd_at ddX3_goTo 18 rfl) ⟨Nat.le_of_ble_eq_true rfl, Nat.le_of_ble_eq_true rfl⟩) (fun d_19 H locs h hw => ?_)
          refine lv_iinc (v := v2 + 1) (lv' := [(2, .int (v2 + 1)), (0, .ref a0), (1, .int p1)]) S.1 S.2.1 (dd_at ddX3_goTo 19 rfl) hl (k := 2) rfl rfl (by decide) rfl (fun ls hl => ?_)
          refine lv_goto (tgt := 5) S.1 S.2.1 (dd_at ddX3_goTo 20 rfl) (by decide) ?_
          exact ih5 (v2 + 1) d_19 H locs ls h hw (lv_sub hl [1, 2, 0] rfl)
  refine lv_aload_n S.1 S.2.1 (dd_at ddX3_goTo 0 rfl) rfl (lv_at hl 0 rfl) ?_
  refine r_getI S hw 3 3 rfl inG3 (by decide) (List.mem_cons_of_mem _ wg667) (by decide) ha0 (dd_at ddX3_goTo 1 rfl) ?_
  refine lv_istore_n (lv' := [(2, .int (gI d a0 3)), (0, .ref a0), (1, .int p1)]) S.1 S.2.1 (dd_at ddX3_goTo 2 rfl) rfl hl (by decide) rfl (fun ls hl => ?_)
  obtain ⟨n_21, h⟩ := h
  exact tl5 n_21 (gI d a0 3) d H locs ls h hw (lv_sub hl [1, 2, 0] rfl)

def w_X3_sellsToKin (E : En) (a0 : Nat) (p1 : Int32) (d : Dy) (K : Int32 → Dy → Prop) : Prop := okO E a0 3 ∧ ∃ b_1 : Nat, eR E a0 0 = some b_1 ∧ okO E b_1 8 ∧ ∃ b_4 : Nat, eR E b_1 3 = some b_4 ∧ okO E b_4 6 ∧ w_X6_get E b_4 p1 3 d (fun r_8 d_7 => w_X3_holderOf E a0 r_8 d_7 (fun r_10 d_9 => ∃ b_11 : Nat, eR E a0 0 = some b_11 ∧ okO E b_11 8 ∧ ∃ b_14 : Nat, eR E b_11 3 = some b_14 ∧ okO E b_14 6 ∧ w_X6_get E b_14 p1 4 d_9 (fun r_18 d_17 => w_X3_childrenOf E a0 r_10 d_17 (fun r_20 d_19 => ∃ b_21 : Nat, eR E a0 5 = some b_21 ∧ okO E b_21 6 ∧ w_X6_get E b_21 r_10 2 d_19 (fun r_25 d_24 => w_X3_siblingsOf E a0 r_10 d_24 (fun r_27 d_26 => w_X3_spouseOf E a0 r_10 d_26 (fun r_29 d_28 => ((r_29 = r_18 → K 1 d_28) ∧ (¬ r_29 = r_18 → ((((((r_20 ||| r_25) ||| r_27) >>> (r_18 &&& 31)) &&& 1) = 0 → K 0 d_28) ∧ (¬ ((((r_20 ||| r_25) ||| r_27) >>> (r_18 &&& 31)) &&& 1) = 0 → K 1 d_28)))))))))))
abbrev rm_X3_sellsToKin : Room := { frames := 2, cells := 0, slots := 0, locals := 47 }
set_option maxRecDepth 100000 in
set_option maxHeartbeats 4000000 in
theorem m_X3_sellsToKin (l : Launch) (D : va_G) (cs : Nat → ClassId) (E : En) (d : Dy) (sz : Nat) (a0 : Nat) (p1 : Int32) (K : Int32 → Dy → Prop) : CI l yX3_sellsToKin (.code yX3_sellsToKin cX3_sellsToKin 5 (some .boolean) :: wsL_law) rm_X3_sellsToKin D cs E d sz [.ref a0, .int p1] (w_X3_sellsToKin E a0 p1 d K) K := by
  refine e_of (cc := cX3_sellsToKin) (maxL := 5) (ret := (some .boolean)) (own := RX3) (by decide) rfl rfl (Nat.le_of_ble_eq_true rfl) ?_
  intro p e s m below meth c S hr hlocks hsz H locs hw h ls hl
  have hl : lv_has ls 5 [(0, .ref a0), (1, .int p1)] := hl
  unfold w_X3_sellsToKin at h
  obtain ⟨ha0, h⟩ := h
  refine lv_aload_n S.1 S.2.1 (dd_at ddX3_sellsToKin 0 rfl) rfl (lv_at hl 0 rfl) ?_
  refine lv_aload_n S.1 S.2.1 (dd_at ddX3_sellsToKin 1 rfl) rfl (lv_at hl 0 rfl) ?_
  obtain ⟨b_1, hb_2, ho_3, h⟩ := h
  refine r_getR S hw 3 0 rfl inG3 (by decide) (List.mem_cons_of_mem _ wg105) (by decide) ha0 hb_2 (dd_at ddX3_sellsToKin 2 rfl) ?_
  obtain ⟨b_4, hb_5, ho_6, h⟩ := h
  refine r_getRN S hw 8 3 rfl inG8 (by decide) nx8 (by decide) ho_3 hb_5 (dd_at ddX3_sellsToKin 3 rfl) ?_
  refine lv_iload_n S.1 S.2.1 (dd_at ddX3_sellsToKin 4 rfl) rfl (lv_at hl 1 rfl) ?_
  refine lv_iconst (v := 3) S.1 S.2.1 (dd_at ddX3_sellsToKin 5 rfl) (by decide) ?_
  refine r_callI hw (r_runV (As := [.int p1, .int 3]) (rest := [.ref a0]) S hw (m_X6_get l D cs E d H.size b_4 p1 3 _) (cwV 2 S.2.2.2.2 (gV wg673 wg623 wg624 wg51 wg625) rfl rfl rfl (by decide +kernel) ⟨Nat.le_of_ble_eq_true rfl, Nat.le_of_ble_eq_true rfl⟩) (ci := 6) rfl ho_6 h rfl hl.1 rfl (Nat.le_of_ble_eq_true rfl) (dd_at ddX3_sellsToKin 6 rfl) ⟨Nat.le_of_ble_eq_true rfl, Nat.le_of_ble_eq_true rfl⟩) (fun r_8 d_7 H locs h hw => ?_)
  refine r_callI hw (r_runV (As := [.int r_8]) (rest := []) S hw (m_X3_holderOf l D cs E d_7 H.size a0 r_8 _) (cwV 1 S.2.2.2.2 (gV wg694 wg695 wg696 wg25 wg697) rfl rfl rfl (by decide +kernel) ⟨Nat.le_of_ble_eq_true rfl, Nat.le_of_ble_eq_true rfl⟩) (ci := 3) rfl ha0 h rfl hl.1 rfl (Nat.le_of_ble_eq_true rfl) (dd_at ddX3_sellsToKin 7 rfl) ⟨Nat.le_of_ble_eq_true rfl, Nat.le_of_ble_eq_true rfl⟩) (fun r_10 d_9 H locs h hw => ?_)
  refine lv_istore_n (lv' := [(2, .int r_10), (0, .ref a0), (1, .int p1)]) S.1 S.2.1 (dd_at ddX3_sellsToKin 8 rfl) rfl hl (by decide) rfl (fun ls hl => ?_)
  refine lv_aload_n S.1 S.2.1 (dd_at ddX3_sellsToKin 9 rfl) rfl (lv_at hl 1 rfl) ?_
  obtain ⟨b_11, hb_12, ho_13, h⟩ := h
  refine r_getR S hw 3 0 rfl inG3 (by decide) (List.mem_cons_of_mem _ wg105) (by decide) ha0 hb_12 (dd_at ddX3_sellsToKin 10 rfl) ?_
  obtain ⟨b_14, hb_15, ho_16, h⟩ := h
  refine r_getRN S hw 8 3 rfl inG8 (by decide) nx8 (by decide) ho_13 hb_15 (dd_at ddX3_sellsToKin 11 rfl) ?_
  refine lv_iload_n S.1 S.2.1 (dd_at ddX3_sellsToKin 12 rfl) rfl (lv_at hl 2 rfl) ?_
  refine lv_iconst (v := 4) S.1 S.2.1 (dd_at ddX3_sellsToKin 13 rfl) (by decide) ?_
  refine r_callI hw (r_runV (As := [.int p1, .int 4]) (rest := []) S hw (m_X6_get l D cs E d_9 H.size b_14 p1 4 _) (cwV 2 S.2.2.2.2 (gV wg673 wg623 wg624 wg51 wg625) rfl rfl rfl (by decide +kernel) ⟨Nat.le_of_ble_eq_true rfl, Nat.le_of_ble_eq_true rfl⟩) (ci := 6) rfl ho_16 h rfl hl.1 rfl (Nat.le_of_ble_eq_true rfl) (dd_at ddX3_sellsToKin 14 rfl) ⟨Nat.le_of_ble_eq_true rfl, Nat.le_of_ble_eq_true rfl⟩) (fun r_18 d_17 H locs h hw => ?_)
  refine lv_istore_n (lv' := [(3, .int r_18), (2, .int r_10), (0, .ref a0), (1, .int p1)]) S.1 S.2.1 (dd_at ddX3_sellsToKin 15 rfl) rfl hl (by decide) rfl (fun ls hl => ?_)
  refine lv_aload_n S.1 S.2.1 (dd_at ddX3_sellsToKin 16 rfl) rfl (lv_at hl 2 rfl) ?_
  refine lv_iload_n S.1 S.2.1 (dd_at ddX3_sellsToKin 17 rfl) rfl (lv_at hl 1 rfl) ?_
  refine r_callI hw (r_runV (As := [.int r_10]) (rest := []) S hw (m_X3_childrenOf l D cs E d_17 H.size a0 r_10 _) (cwV 1 S.2.2.2.2 (gV wg719 wg720 wg721 wg25 wg722) rfl rfl rfl (by decide +kernel) ⟨Nat.le_of_ble_eq_true rfl, Nat.le_of_ble_eq_true rfl⟩) (ci := 3) rfl ha0 h rfl hl.1 rfl (Nat.le_of_ble_eq_true rfl) (dd_at ddX3_sellsToKin 18 rfl) ⟨Nat.le_of_ble_eq_true rfl, Nat.le_of_ble_eq_true rfl⟩) (fun r_20 d_19 H locs h hw => ?_)
  refine lv_aload_n S.1 S.2.1 (dd_at ddX3_sellsToKin 19 rfl) rfl (lv_at hl 2 rfl) ?_
  obtain ⟨b_21, hb_22, ho_23, h⟩ := h
  refine r_getR S hw 3 5 rfl inG3 (by decide) (List.mem_cons_of_mem _ wg98) (by decide) ha0 hb_22 (dd_at ddX3_sellsToKin 20 rfl) ?_
  refine lv_iload_n S.1 S.2.1 (dd_at ddX3_sellsToKin 21 rfl) rfl (lv_at hl 1 rfl) ?_
  refine lv_iconst (v := 2) S.1 S.2.1 (dd_at ddX3_sellsToKin 22 rfl) (by decide) ?_
  refine r_callI hw (r_runV (As := [.int r_10, .int 2]) (rest := [.int r_20]) S hw (m_X6_get l D cs E d_19 H.size b_21 r_10 2 _) (cwV 2 S.2.2.2.2 (gV wg673 wg623 wg624 wg51 wg625) rfl rfl rfl (by decide +kernel) ⟨Nat.le_of_ble_eq_true rfl, Nat.le_of_ble_eq_true rfl⟩) (ci := 6) rfl ho_23 h rfl hl.1 rfl (Nat.le_of_ble_eq_true rfl) (dd_at ddX3_sellsToKin 23 rfl) ⟨Nat.le_of_ble_eq_true rfl, Nat.le_of_ble_eq_true rfl⟩) (fun r_25 d_24 H locs h hw => ?_)
  refine lv_ior S.1 S.2.1 (dd_at ddX3_sellsToKin 24 rfl) ?_
  refine lv_aload_n S.1 S.2.1 (dd_at ddX3_sellsToKin 25 rfl) rfl (lv_at hl 2 rfl) ?_
  refine lv_iload_n S.1 S.2.1 (dd_at ddX3_sellsToKin 26 rfl) rfl (lv_at hl 1 rfl) ?_
  refine r_callI hw (r_runV (As := [.int r_10]) (rest := [.int (r_20 ||| r_25)]) S hw (m_X3_siblingsOf l D cs E d_24 H.size a0 r_10 _) (cwV 1 S.2.2.2.2 (gV wg785 wg786 wg787 wg25 wg788) rfl rfl rfl (by decide +kernel) ⟨Nat.le_of_ble_eq_true rfl, Nat.le_of_ble_eq_true rfl⟩) (ci := 3) rfl ha0 h rfl hl.1 rfl (Nat.le_of_ble_eq_true rfl) (dd_at ddX3_sellsToKin 27 rfl) ⟨Nat.le_of_ble_eq_true rfl, Nat.le_of_ble_eq_true rfl⟩) (fun r_27 d_26 H locs h hw => ?_)
  refine lv_ior S.1 S.2.1 (dd_at ddX3_sellsToKin 28 rfl) ?_
  refine lv_istore (lv' := [(4, .int ((r_20 ||| r_25) ||| r_27)), (3, .int r_18), (2, .int r_10), (0, .ref a0), (1, .int p1)]) S.1 S.2.1 (dd_at ddX3_sellsToKin 29 rfl) hl (by decide) rfl (fun ls hl => ?_)
  refine lv_aload_n S.1 S.2.1 (dd_at ddX3_sellsToKin 30 rfl) rfl (lv_at hl 3 rfl) ?_
  refine lv_iload_n S.1 S.2.1 (dd_at ddX3_sellsToKin 31 rfl) rfl (lv_at hl 2 rfl) ?_
  refine r_callI hw (r_runV (As := [.int r_10]) (rest := []) S hw (m_X3_spouseOf l D cs E d_26 H.size a0 r_10 _) (cwV 1 S.2.2.2.2 (gV wg769 wg770 wg771 wg25 wg772) rfl rfl rfl (by decide +kernel) ⟨Nat.le_of_ble_eq_true rfl, Nat.le_of_ble_eq_true rfl⟩) (ci := 3) rfl ha0 h rfl hl.1 rfl (Nat.le_of_ble_eq_true rfl) (dd_at ddX3_sellsToKin 32 rfl) ⟨Nat.le_of_ble_eq_true rfl, Nat.le_of_ble_eq_true rfl⟩) (fun r_29 d_28 H locs h hw => ?_)
  refine lv_iload_n S.1 S.2.1 (dd_at ddX3_sellsToKin 33 rfl) rfl (lv_at hl 1 rfl) ?_
  refine lv_icmp_eq (tgt := 71) S.1 S.2.1 (dd_at ddX3_sellsToKin 34 rfl) (by decide) (fun hc_30 => ?_) (fun hc_30 => ?_)
  · have h := h.1 hc_30
    refine lv_iconst (v := 1) S.1 S.2.1 (dd_at ddX3_sellsToKin 41 rfl) (by decide) ?_
    refine lv_goto (tgt := 76) S.1 S.2.1 (dd_at ddX3_sellsToKin 42 rfl) (by decide) ?_
    exact e_Z S hr hlocks hw (Or.inr rfl) h (dd_at ddX3_sellsToKin 44 rfl)
  · have h := h.2 hc_30
    refine lv_iload S.1 S.2.1 (dd_at ddX3_sellsToKin 35 rfl) (lv_at hl 0 rfl) ?_
    refine lv_iload_n S.1 S.2.1 (dd_at ddX3_sellsToKin 36 rfl) rfl (lv_at hl 1 rfl) ?_
    refine lv_ishr S.1 S.2.1 (dd_at ddX3_sellsToKin 37 rfl) ?_
    refine lv_iconst (v := 1) S.1 S.2.1 (dd_at ddX3_sellsToKin 38 rfl) (by decide) ?_
    refine lv_iand S.1 S.2.1 (dd_at ddX3_sellsToKin 39 rfl) ?_
    refine lv_if_eq (tgt := 75) S.1 S.2.1 (dd_at ddX3_sellsToKin 40 rfl) (by decide) (fun hc_31 => ?_) (fun hc_31 => ?_)
    · have h := h.1 hc_31
      refine lv_iconst (v := 0) S.1 S.2.1 (dd_at ddX3_sellsToKin 43 rfl) (by decide) ?_
      exact e_Z S hr hlocks hw (Or.inl rfl) h (dd_at ddX3_sellsToKin 44 rfl)
    · have h := h.2 hc_31
      refine lv_iconst (v := 1) S.1 S.2.1 (dd_at ddX3_sellsToKin 41 rfl) (by decide) ?_
      refine lv_goto (tgt := 76) S.1 S.2.1 (dd_at ddX3_sellsToKin 42 rfl) (by decide) ?_
      exact e_Z S hr hlocks hw (Or.inr rfl) h (dd_at ddX3_sellsToKin 44 rfl)

def b_X3_knowHut_96 (E : En) (a0 : Nat) (p1 : Int32) (K : Dy → Prop) (v2 : Int32) (s0 : Nat) (s1 : Int32) (s2 : Int32) (d : Dy) : Prop := okO E s0 0 ∧ w_X0_know E s0 s1 s2 d (fun d_1 => ∃ b_3 : Nat, eR E a0 8 = some b_3 ∧ okO E b_3 0 ∧ ((¬ v2 = (-1) → ∃ b_7 : Nat, eR E a0 0 = some b_7 ∧ okO E b_7 8 ∧ ∃ b_10 : Nat, eR E b_7 1 = some b_10 ∧ okO E b_10 6 ∧ w_X6_get E b_10 v2 2 d_1 (fun r_14 d_13 => w_X0_know E b_3 8 r_14 d_13 (fun d_15 => K d_15))) ∧ (v2 = (-1) → w_X0_know E b_3 8 0 d_1 (fun d_17 => K d_17))))
def w_X3_knowHut (E : En) (a0 : Nat) (p1 : Int32) (d : Dy) (K : Dy → Prop) : Prop := okO E a0 3 ∧ w_X3_holderOf E a0 p1 d (fun r_20 d_19 => ∃ b_21 : Nat, eR E a0 8 = some b_21 ∧ okO E b_21 0 ∧ w_X0_know E b_21 3 (gI d_19 a0 2) d_19 (fun d_24 => ∃ b_26 : Nat, eR E a0 8 = some b_26 ∧ okO E b_26 0 ∧ ∃ b_29 : Nat, eR E a0 0 = some b_29 ∧ okO E b_29 8 ∧ ∃ b_32 : Nat, eR E b_29 2 = some b_32 ∧ okO E b_32 6 ∧ w_X6_get E b_32 p1 0 d_24 (fun r_36 d_35 => w_X0_know E b_26 4 r_36 d_35 (fun d_37 => ∃ b_39 : Nat, eR E a0 8 = some b_39 ∧ okO E b_39 0 ∧ w_X3_placeOf E a0 p1 d_37 (fun r_43 d_42 => w_X0_know E b_39 5 r_43 d_42 (fun d_44 => ∃ b_46 : Nat, eR E a0 8 = some b_46 ∧ okO E b_46 0 ∧ ∃ b_49 : Nat, eR E a0 0 = some b_49 ∧ okO E b_49 8 ∧ ∃ b_52 : Nat, eR E b_49 2 = some b_52 ∧ okO E b_52 6 ∧ w_X6_get E b_52 p1 2 d_44 (fun r_56 d_55 => w_X0_know E b_46 6 r_56 d_55 (fun d_57 => ∃ b_59 : Nat, eR E a0 8 = some b_59 ∧ okO E b_59 0 ∧ ((¬ r_20 = (-1) → w_X3_sinceOf E a0 p1 d_57 (fun r_64 d_63 => b_X3_knowHut_96 E a0 p1 K r_20 b_59 0 ((gI d_57 a0 2) - r_64) d_63)) ∧ (r_20 = (-1) → b_X3_knowHut_96 E a0 p1 K r_20 b_59 0 0 d_57))))))))))
abbrev rm_X3_knowHut : Room := { frames := 2, cells := 0, slots := 0, locals := 45 }
set_option maxRecDepth 100000 in
set_option maxHeartbeats 4000000 in
theorem m_X3_knowHut (l : Launch) (D : va_G) (cs : Nat → ClassId) (E : En) (d : Dy) (sz : Nat) (a0 : Nat) (p1 : Int32) (K : Dy → Prop) : CV l yX3_knowHut (.code yX3_knowHut cX3_knowHut 3 none :: wsL_law) rm_X3_knowHut D cs E d sz [.ref a0, .int p1] (w_X3_knowHut E a0 p1 d K) K := by
  refine e_of (cc := cX3_knowHut) (maxL := 3) (ret := none) (own := RX3) (by decide) rfl rfl (Nat.le_of_ble_eq_true rfl) ?_
  intro p e s m below meth c S hr hlocks hsz H locs hw h ls hl
  have hl : lv_has ls 3 [(0, .ref a0), (1, .int p1)] := hl
  unfold w_X3_knowHut at h
  obtain ⟨ha0, h⟩ := h
  have tb96 : ∀ (v2 : Int32) (s0 : Nat) (s1 : Int32) (s2 : Int32) (d : Dy) (H : Heap) (locs : List Loc) (ls : Array Slot), b_X3_knowHut_96 E a0 p1 K v2 s0 s1 s2 d → Wd D cs (AW E sz) s.heap s E d H locs → lv_has ls 3 [(0, .ref a0), (2, .int v2)] → W p l e rm_X3_knowHut s m ([.ref a0, .int p1] : List Value).toArray below meth c H locs 0 0 (MQ below (va_Qv K (OutW D cs E (AW E sz)) (AW E sz)) ([.ref a0, .int p1] : List Value).toArray s rm_X3_knowHut.cells rm_X3_knowHut.slots (AW E sz)) (F0 m 96 ls [.int s2, .int s1, .ref s0]) := by
    intro v2 s0 s1 s2 d H locs ls h hw hl
    unfold b_X3_knowHut_96 at h
    obtain ⟨hos0, h⟩ := h
    refine r_callV hw (r_runV (As := [.int s1, .int s2]) (rest := []) S hw (m_X0_know l D cs E d H.size s0 s1 s2 _) (cwV 2 S.2.2.2.2 (gV wg710 wg711 wg712 wg103 wg713) rfl rfl rfl (by decide +kernel) ⟨Nat.le_of_ble_eq_true rfl, Nat.le_of_ble_eq_true rfl⟩) (ci := 0) rfl hos0 h rfl hl.1 rfl (Nat.le_of_ble_eq_true rfl) (dd_at ddX3_knowHut 51 rfl) ⟨Nat.le_of_ble_eq_true rfl, Nat.le_of_ble_eq_true rfl⟩) (fun d_1 H locs h hw => ?_)
    refine lv_aload_n S.1 S.2.1 (dd_at ddX3_knowHut 52 rfl) rfl (lv_at hl 0 rfl) ?_
    obtain ⟨b_3, hb_4, ho_5, h⟩ := h
    refine r_getR S hw 3 8 rfl inG3 (by decide) (List.mem_cons_of_mem _ wg104) (by decide) ha0 hb_4 (dd_at ddX3_knowHut 53 rfl) ?_
    refine lv_bipush (v := 8) S.1 S.2.1 (dd_at ddX3_knowHut 54 rfl) (by decide) ?_
    refine lv_iload_n S.1 S.2.1 (dd_at ddX3_knowHut 55 rfl) rfl (lv_at hl 1 rfl) ?_
    refine lv_iconst (v := -1) S.1 S.2.1 (dd_at ddX3_knowHut 56 rfl) (by decide) ?_
    refine lv_icmp_ne (tgt := 114) S.1 S.2.1 (dd_at ddX3_knowHut 57 rfl) (by decide) (fun hc_6 => ?_) (fun hc_6 => ?_)
    · have h := h.1 hc_6
      refine lv_aload_n S.1 S.2.1 (dd_at ddX3_knowHut 60 rfl) rfl (lv_at hl 0 rfl) ?_
      obtain ⟨b_7, hb_8, ho_9, h⟩ := h
      refine r_getR S hw 3 0 rfl inG3 (by decide) (List.mem_cons_of_mem _ wg105) (by decide) ha0 hb_8 (dd_at ddX3_knowHut 61 rfl) ?_
      obtain ⟨b_10, hb_11, ho_12, h⟩ := h
      refine r_getRN S hw 8 1 rfl inG8 (by decide) nx1 (by decide) ho_9 hb_11 (dd_at ddX3_knowHut 62 rfl) ?_
      refine lv_iload_n S.1 S.2.1 (dd_at ddX3_knowHut 63 rfl) rfl (lv_at hl 1 rfl) ?_
      refine lv_iconst (v := 2) S.1 S.2.1 (dd_at ddX3_knowHut 64 rfl) (by decide) ?_
      refine r_callI hw (r_runV (As := [.int v2, .int 2]) (rest := [.int 8, .ref b_3]) S hw (m_X6_get l D cs E d_1 H.size b_10 v2 2 _) (cwV 2 S.2.2.2.2 (gV wg673 wg623 wg624 wg51 wg625) rfl rfl rfl (by decide +kernel) ⟨Nat.le_of_ble_eq_true rfl, Nat.le_of_ble_eq_true rfl⟩) (ci := 6) rfl ho_12 h rfl hl.1 rfl (Nat.le_of_ble_eq_true rfl) (dd_at ddX3_knowHut 65 rfl) ⟨Nat.le_of_ble_eq_true rfl, Nat.le_of_ble_eq_true rfl⟩) (fun r_14 d_13 H locs h hw => ?_)
      refine r_callV hw (r_runV (As := [.int 8, .int r_14]) (rest := []) S hw (m_X0_know l D cs E d_13 H.size b_3 8 r_14 _) (cwV 2 S.2.2.2.2 (gV wg710 wg711 wg712 wg103 wg713) rfl rfl rfl (by decide +kernel) ⟨Nat.le_of_ble_eq_true rfl, Nat.le_of_ble_eq_true rfl⟩) (ci := 0) rfl ho_5 h rfl hl.1 rfl (Nat.le_of_ble_eq_true rfl) (dd_at ddX3_knowHut 66 rfl) ⟨Nat.le_of_ble_eq_true rfl, Nat.le_of_ble_eq_true rfl⟩) (fun d_15 H locs h hw => ?_)
      exact e_V S hr hlocks hw h (dd_at ddX3_knowHut 67 rfl)
    · have h := h.2 hc_6
      refine lv_iconst (v := 0) S.1 S.2.1 (dd_at ddX3_knowHut 58 rfl) (by decide) ?_
      refine lv_goto (tgt := 126) S.1 S.2.1 (dd_at ddX3_knowHut 59 rfl) (by decide) ?_
      refine r_callV hw (r_runV (As := [.int 8, .int 0]) (rest := []) S hw (m_X0_know l D cs E d_1 H.size b_3 8 0 _) (cwV 2 S.2.2.2.2 (gV wg710 wg711 wg712 wg103 wg713) rfl rfl rfl (by decide +kernel) ⟨Nat.le_of_ble_eq_true rfl, Nat.le_of_ble_eq_true rfl⟩) (ci := 0) rfl ho_5 h rfl hl.1 rfl (Nat.le_of_ble_eq_true rfl) (dd_at ddX3_knowHut 66 rfl) ⟨Nat.le_of_ble_eq_true rfl, Nat.le_of_ble_eq_true rfl⟩) (fun d_17 H locs h hw => ?_)
      exact e_V S hr hlocks hw h (dd_at ddX3_knowHut 67 rfl)
  refine lv_aload_n S.1 S.2.1 (dd_at ddX3_knowHut 0 rfl) rfl (lv_at hl 0 rfl) ?_
  refine lv_iload_n S.1 S.2.1 (dd_at ddX3_knowHut 1 rfl) rfl (lv_at hl 1 rfl) ?_
  refine r_callI hw (r_runV (As := [.int p1]) (rest := []) S hw (m_X3_holderOf l D cs E d H.size a0 p1 _) (cwV 1 S.2.2.2.2 (gV wg694 wg695 wg696 wg25 wg697) rfl rfl rfl (by decide +kernel) ⟨Nat.le_of_ble_eq_true rfl, Nat.le_of_ble_eq_true rfl⟩) (ci := 3) rfl ha0 h rfl hl.1 rfl (Nat.le_of_ble_eq_true rfl) (dd_at ddX3_knowHut 2 rfl) ⟨Nat.le_of_ble_eq_true rfl, Nat.le_of_ble_eq_true rfl⟩) (fun r_20 d_19 H locs h hw => ?_)
  refine lv_istore_n (lv' := [(2, .int r_20), (0, .ref a0), (1, .int p1)]) S.1 S.2.1 (dd_at ddX3_knowHut 3 rfl) rfl hl (by decide) rfl (fun ls hl => ?_)
  refine lv_aload_n S.1 S.2.1 (dd_at ddX3_knowHut 4 rfl) rfl (lv_at hl 1 rfl) ?_
  obtain ⟨b_21, hb_22, ho_23, h⟩ := h
  refine r_getR S hw 3 8 rfl inG3 (by decide) (List.mem_cons_of_mem _ wg104) (by decide) ha0 hb_22 (dd_at ddX3_knowHut 5 rfl) ?_
  refine lv_iconst (v := 3) S.1 S.2.1 (dd_at ddX3_knowHut 6 rfl) (by decide) ?_
  refine lv_aload_n S.1 S.2.1 (dd_at ddX3_knowHut 7 rfl) rfl (lv_at hl 1 rfl) ?_
  refine r_getI S hw 3 2 rfl inG3 (by decide) (List.mem_cons_of_mem _ wg666) (by decide) ha0 (dd_at ddX3_knowHut 8 rfl) ?_
  refine r_callV hw (r_runV (As := [.int 3, .int (gI d_19 a0 2)]) (rest := []) S hw (m_X0_know l D cs E d_19 H.size b_21 3 (gI d_19 a0 2) _) (cwV 2 S.2.2.2.2 (gV wg710 wg711 wg712 wg103 wg713) rfl rfl rfl (by decide +kernel) ⟨Nat.le_of_ble_eq_true rfl, Nat.le_of_ble_eq_true rfl⟩) (ci := 0) rfl ho_23 h rfl hl.1 rfl (Nat.le_of_ble_eq_true rfl) (dd_at ddX3_knowHut 9 rfl) ⟨Nat.le_of_ble_eq_true rfl, Nat.le_of_ble_eq_true rfl⟩) (fun d_24 H locs h hw => ?_)
  refine lv_aload_n S.1 S.2.1 (dd_at ddX3_knowHut 10 rfl) rfl (lv_at hl 1 rfl) ?_
  obtain ⟨b_26, hb_27, ho_28, h⟩ := h
  refine r_getR S hw 3 8 rfl inG3 (by decide) (List.mem_cons_of_mem _ wg104) (by decide) ha0 hb_27 (dd_at ddX3_knowHut 11 rfl) ?_
  refine lv_iconst (v := 4) S.1 S.2.1 (dd_at ddX3_knowHut 12 rfl) (by decide) ?_
  refine lv_aload_n S.1 S.2.1 (dd_at ddX3_knowHut 13 rfl) rfl (lv_at hl 1 rfl) ?_
  obtain ⟨b_29, hb_30, ho_31, h⟩ := h
  refine r_getR S hw 3 0 rfl inG3 (by decide) (List.mem_cons_of_mem _ wg105) (by decide) ha0 hb_30 (dd_at ddX3_knowHut 14 rfl) ?_
  obtain ⟨b_32, hb_33, ho_34, h⟩ := h
  refine r_getRN S hw 8 2 rfl inG8 (by decide) nx6 (by decide) ho_31 hb_33 (dd_at ddX3_knowHut 15 rfl) ?_
  refine lv_iload_n S.1 S.2.1 (dd_at ddX3_knowHut 16 rfl) rfl (lv_at hl 2 rfl) ?_
  refine lv_iconst (v := 0) S.1 S.2.1 (dd_at ddX3_knowHut 17 rfl) (by decide) ?_
  refine r_callI hw (r_runV (As := [.int p1, .int 0]) (rest := [.int 4, .ref b_26]) S hw (m_X6_get l D cs E d_24 H.size b_32 p1 0 _) (cwV 2 S.2.2.2.2 (gV wg673 wg623 wg624 wg51 wg625) rfl rfl rfl (by decide +kernel) ⟨Nat.le_of_ble_eq_true rfl, Nat.le_of_ble_eq_true rfl⟩) (ci := 6) rfl ho_34 h rfl hl.1 rfl (Nat.le_of_ble_eq_true rfl) (dd_at ddX3_knowHut 18 rfl) ⟨Nat.le_of_ble_eq_true rfl, Nat.le_of_ble_eq_true rfl⟩) (fun r_36 d_35 H locs h hw => ?_)
  refine r_callV hw (r_runV (As := [.int 4, .int r_36]) (rest := []) S hw (m_X0_know l D cs E d_35 H.size b_26 4 r_36 _) (cwV 2 S.2.2.2.2 (gV wg710 wg711 wg712 wg103 wg713) rfl rfl rfl (by decide +kernel) ⟨Nat.le_of_ble_eq_true rfl, Nat.le_of_ble_eq_true rfl⟩) (ci := 0) rfl ho_28 h rfl hl.1 rfl (Nat.le_of_ble_eq_true rfl) (dd_at ddX3_knowHut 19 rfl) ⟨Nat.le_of_ble_eq_true rfl, Nat.le_of_ble_eq_true rfl⟩) (fun d_37 H locs h hw => ?_)
  refine lv_aload_n S.1 S.2.1 (dd_at ddX3_knowHut 20 rfl) rfl (lv_at hl 1 rfl) ?_
  obtain ⟨b_39, hb_40, ho_41, h⟩ := h
  refine r_getR S hw 3 8 rfl inG3 (by decide) (List.mem_cons_of_mem _ wg104) (by decide) ha0 hb_40 (dd_at ddX3_knowHut 21 rfl) ?_
  refine lv_iconst (v := 5) S.1 S.2.1 (dd_at ddX3_knowHut 22 rfl) (by decide) ?_
  refine lv_aload_n S.1 S.2.1 (dd_at ddX3_knowHut 23 rfl) rfl (lv_at hl 1 rfl) ?_
  refine lv_iload_n S.1 S.2.1 (dd_at ddX3_knowHut 24 rfl) rfl (lv_at hl 2 rfl) ?_
  refine r_callI hw (r_runV (As := [.int p1]) (rest := [.int 5, .ref b_39]) S hw (m_X3_placeOf l D cs E d_37 H.size a0 p1 _) (cwV 1 S.2.2.2.2 (gV wg801 wg802 wg803 wg25 wg804) rfl rfl rfl (by decide +kernel) ⟨Nat.le_of_ble_eq_true rfl, Nat.le_of_ble_eq_true rfl⟩) (ci := 3) rfl ha0 h rfl hl.1 rfl (Nat.le_of_ble_eq_true rfl) (dd_at ddX3_knowHut 25 rfl) ⟨Nat.le_of_ble_eq_true rfl, Nat.le_of_ble_eq_true rfl⟩) (fun r_43 d_42 H locs h hw => ?_)
  refine r_callV hw (r_runV (As := [.int 5, .int r_43]) (rest := []) S hw (m_X0_know l D cs E d_42 H.size b_39 5 r_43 _) (cwV 2 S.2.2.2.2 (gV wg710 wg711 wg712 wg103 wg713) rfl rfl rfl (by decide +kernel) ⟨Nat.le_of_ble_eq_true rfl, Nat.le_of_ble_eq_true rfl⟩) (ci := 0) rfl ho_41 h rfl hl.1 rfl (Nat.le_of_ble_eq_true rfl) (dd_at ddX3_knowHut 26 rfl) ⟨Nat.le_of_ble_eq_true rfl, Nat.le_of_ble_eq_true rfl⟩) (fun d_44 H locs h hw => ?_)
  refine lv_aload_n S.1 S.2.1 (dd_at ddX3_knowHut 27 rfl) rfl (lv_at hl 1 rfl) ?_
  obtain ⟨b_46, hb_47, ho_48, h⟩ := h
  refine r_getR S hw 3 8 rfl inG3 (by decide) (List.mem_cons_of_mem _ wg104) (by decide) ha0 hb_47 (dd_at ddX3_knowHut 28 rfl) ?_
  refine lv_bipush (v := 6) S.1 S.2.1 (dd_at ddX3_knowHut 29 rfl) (by decide) ?_
  refine lv_aload_n S.1 S.2.1 (dd_at ddX3_knowHut 30 rfl) rfl (lv_at hl 1 rfl) ?_
  obtain ⟨b_49, hb_50, ho_51, h⟩ := h
  refine r_getR S hw 3 0 rfl inG3 (by decide) (List.mem_cons_of_mem _ wg105) (by decide) ha0 hb_50 (dd_at ddX3_knowHut 31 rfl) ?_
  obtain ⟨b_52, hb_53, ho_54, h⟩ := h
  refine r_getRN S hw 8 2 rfl inG8 (by decide) nx6 (by decide) ho_51 hb_53 (dd_at ddX3_knowHut 32 rfl) ?_
  refine lv_iload_n S.1 S.2.1 (dd_at ddX3_knowHut 33 rfl) rfl (lv_at hl 2 rfl) ?_
  refine lv_iconst (v := 2) S.1 S.2.1 (dd_at ddX3_knowHut 34 rfl) (by decide) ?_
  refine r_callI hw (r_runV (As := [.int p1, .int 2]) (rest := [.int 6, .ref b_46]) S hw (m_X6_get l D cs E d_44 H.size b_52 p1 2 _) (cwV 2 S.2.2.2.2 (gV wg673 wg623 wg624 wg51 wg625) rfl rfl rfl (by decide +kernel) ⟨Nat.le_of_ble_eq_true rfl, Nat.le_of_ble_eq_true rfl⟩) (ci := 6) rfl ho_54 h rfl hl.1 rfl (Nat.le_of_ble_eq_true rfl) (dd_at ddX3_knowHut 35 rfl) ⟨Nat.le_of_ble_eq_true rfl, Nat.le_of_ble_eq_true rfl⟩) (fun r_56 d_55 H locs h hw => ?_)
  refine r_callV hw (r_runV (As := [.int 6, .int r_56]) (rest := []) S hw (m_X0_know l D cs E d_55 H.size b_46 6 r_56 _) (cwV 2 S.2.2.2.2 (gV wg710 wg711 wg712 wg103 wg713) rfl rfl rfl (by decide +kernel) ⟨Nat.le_of_ble_eq_true rfl, Nat.le_of_ble_eq_true rfl⟩) (ci := 0) rfl ho_48 h rfl hl.1 rfl (Nat.le_of_ble_eq_true rfl) (dd_at ddX3_knowHut 36 rfl) ⟨Nat.le_of_ble_eq_true rfl, Nat.le_of_ble_eq_true rfl⟩) (fun d_57 H locs h hw => ?_)
  refine lv_aload_n S.1 S.2.1 (dd_at ddX3_knowHut 37 rfl) rfl (lv_at hl 1 rfl) ?_
  obtain ⟨b_59, hb_60, ho_61, h⟩ := h
  refine r_getR S hw 3 8 rfl inG3 (by decide) (List.mem_cons_of_mem _ wg104) (by decide) ha0 hb_60 (dd_at ddX3_knowHut 38 rfl) ?_
  refine lv_iconst (v := 0) S.1 S.2.1 (dd_at ddX3_knowHut 39 rfl) (by decide) ?_
  refine lv_iload_n S.1 S.2.1 (dd_at ddX3_knowHut 40 rfl) rfl (lv_at hl 0 rfl) ?_
  refine lv_iconst (v := -1) S.1 S.2.1 (dd_at ddX3_knowHut 41 rfl) (by decide) ?_
  refine lv_icmp_ne (tgt := 86) S.1 S.2.1 (dd_at ddX3_knowHut 42 rfl) (by decide) (fun hc_62 => ?_) (fun hc_62 => ?_)
  · have h := h.1 hc_62
    refine lv_aload_n S.1 S.2.1 (dd_at ddX3_knowHut 45 rfl) rfl (lv_at hl 1 rfl) ?_
    refine r_getI S hw 3 2 rfl inG3 (by decide) (List.mem_cons_of_mem _ wg666) (by decide) ha0 (dd_at ddX3_knowHut 46 rfl) ?_
    refine lv_aload_n S.1 S.2.1 (dd_at ddX3_knowHut 47 rfl) rfl (lv_at hl 1 rfl) ?_
    refine lv_iload_n S.1 S.2.1 (dd_at ddX3_knowHut 48 rfl) rfl (lv_at hl 2 rfl) ?_
    refine r_callI hw (r_runV (As := [.int p1]) (rest := [.int (gI d_57 a0 2), .int 0, .ref b_59]) S hw (m_X3_sinceOf l D cs E d_57 H.size a0 p1 _) (cwV 1 S.2.2.2.2 (gV wg706 wg707 wg708 wg25 wg709) rfl rfl rfl (by decide +kernel) ⟨Nat.le_of_ble_eq_true rfl, Nat.le_of_ble_eq_true rfl⟩) (ci := 3) rfl ha0 h rfl hl.1 rfl (Nat.le_of_ble_eq_true rfl) (dd_at ddX3_knowHut 49 rfl) ⟨Nat.le_of_ble_eq_true rfl, Nat.le_of_ble_eq_true rfl⟩) (fun r_64 d_63 H locs h hw => ?_)
    refine lv_isub S.1 S.2.1 (dd_at ddX3_knowHut 50 rfl) ?_
    exact tb96 r_20 b_59 0 ((gI d_57 a0 2) - r_64) d_63 H locs ls h hw (lv_sub hl [1, 0] rfl)
  · have h := h.2 hc_62
    refine lv_iconst (v := 0) S.1 S.2.1 (dd_at ddX3_knowHut 43 rfl) (by decide) ?_
    refine lv_goto (tgt := 96) S.1 S.2.1 (dd_at ddX3_knowHut 44 rfl) (by decide) ?_
    exact tb96 r_20 b_59 0 0 d_57 H locs ls h hw (lv_sub hl [1, 0] rfl)

def w_X3_rentOf (E : En) (a0 : Nat) (p1 : Int32) (d : Dy) (K : Int32 → Dy → Prop) : Prop := okO E a0 3 ∧ ∃ b_1 : Nat, eR E a0 0 = some b_1 ∧ okO E b_1 8 ∧ w_X8_inForce E b_1 1 d (fun r_5 d_4 => ((r_5 = none → K 0 d_4) ∧ (∀ b_7 : Nat, r_5 = some b_7 → okO E b_7 7 ∧ w_X3_knowHut E a0 p1 d_4 (fun d_9 => ∃ b_11 : Nat, eR E a0 8 = some b_11 ∧ okO E b_11 0 ∧ w_X7_total E b_7 b_11 d_9 (fun r_15 d_14 => K (if 0 < r_15 then r_15 else 0) d_14)))))
abbrev rm_X3_rentOf : Room := { frames := 4, cells := 0, slots := 0, locals := 93 }
set_option maxRecDepth 100000 in
set_option maxHeartbeats 4000000 in
theorem m_X3_rentOf (l : Launch) (D : va_G) (cs : Nat → ClassId) (E : En) (d : Dy) (sz : Nat) (a0 : Nat) (p1 : Int32) (K : Int32 → Dy → Prop) : CI l yX3_rentOf (.code yX3_rentOf cX3_rentOf 3 (some .int) :: wsL_law) rm_X3_rentOf D cs E d sz [.ref a0, .int p1] (w_X3_rentOf E a0 p1 d K) K := by
  refine e_of (cc := cX3_rentOf) (maxL := 3) (ret := (some .int)) (own := RX3) (by decide) rfl rfl (Nat.le_of_ble_eq_true rfl) ?_
  intro p e s m below meth c S hr hlocks hsz H locs hw h ls hl
  have hl : lv_has ls 3 [(0, .ref a0), (1, .int p1)] := hl
  unfold w_X3_rentOf at h
  obtain ⟨ha0, h⟩ := h
  refine lv_aload_n S.1 S.2.1 (dd_at ddX3_rentOf 0 rfl) rfl (lv_at hl 0 rfl) ?_
  obtain ⟨b_1, hb_2, ho_3, h⟩ := h
  refine r_getR S hw 3 0 rfl inG3 (by decide) (List.mem_cons_of_mem _ wg105) (by decide) ha0 hb_2 (dd_at ddX3_rentOf 1 rfl) ?_
  refine lv_iconst (v := 1) S.1 S.2.1 (dd_at ddX3_rentOf 2 rfl) (by decide) ?_
  refine r_callQ hw (r_runV (As := [.int 1]) (rest := []) S hw (m_X8_inForce l D cs E d H.size b_1 1 _) (cwV 1 S.2.2.2.2 (gV wg702 wg703 wg704 wg15 wg705) rfl rfl rfl (by decide +kernel) ⟨Nat.le_of_ble_eq_true rfl, Nat.le_of_ble_eq_true rfl⟩) (ci := 8) rfl ho_3 h rfl hl.1 rfl (Nat.le_of_ble_eq_true rfl) (dd_at ddX3_rentOf 3 rfl) ⟨Nat.le_of_ble_eq_true rfl, Nat.le_of_ble_eq_true rfl⟩) (fun r_5 d_4 H locs h hw => ?_)
  refine lv_astore_nQ (lv' := [(2, va_rf r_5), (0, .ref a0), (1, .int p1)]) S.1 S.2.1 (dd_at ddX3_rentOf 4 rfl) rfl hl (by decide) rfl (fun ls hl => ?_)
  refine lv_aload_nQ S.1 S.2.1 (dd_at ddX3_rentOf 5 rfl) rfl (lv_at hl 0 rfl) ?_
  rcases Option.eq_none_or_eq_some r_5 with hq_16 | ⟨b_7, hq_16⟩
  · have h := h.1 hq_16
    rw [hq_16] at hl
    rw [hq_16]
    have hl : lv_has ls 3 [(2, va_rf none), (0, .ref a0), (1, .int p1)] := hl
    refine lv_ifnonnullN S.1 S.2.1 (dd_at ddX3_rentOf 6 rfl) ?_
    refine lv_iconst (v := 0) S.1 S.2.1 (dd_at ddX3_rentOf 7 rfl) (by decide) ?_
    exact e_I S hr hlocks hw h (dd_at ddX3_rentOf 8 rfl)
  · obtain ⟨ho_8, h⟩ := h.2 b_7 hq_16
    rw [hq_16] at hl
    rw [hq_16]
    have hl : lv_has ls 3 [(2, .ref b_7), (0, .ref a0), (1, .int p1)] := hl
    refine lv_ifnonnull (tgt := 15) S.1 S.2.1 (dd_at ddX3_rentOf 6 rfl) (by decide) ?_
    refine lv_aload_n S.1 S.2.1 (dd_at ddX3_rentOf 9 rfl) rfl (lv_at hl 1 rfl) ?_
    refine lv_iload_n S.1 S.2.1 (dd_at ddX3_rentOf 10 rfl) rfl (lv_at hl 2 rfl) ?_
    refine r_callV hw (r_runV (As := [.int p1]) (rest := []) S hw (m_X3_knowHut l D cs E d_4 H.size a0 p1 _) (cwV 1 S.2.2.2.2 (gV wg964 wg965 wg966 wg25 wg967) rfl rfl rfl (by decide +kernel) ⟨Nat.le_of_ble_eq_true rfl, Nat.le_of_ble_eq_true rfl⟩) (ci := 3) rfl ha0 h rfl hl.1 rfl (Nat.le_of_ble_eq_true rfl) (dd_at ddX3_rentOf 11 rfl) ⟨Nat.le_of_ble_eq_true rfl, Nat.le_of_ble_eq_true rfl⟩) (fun d_9 H locs h hw => ?_)
    refine lv_iconst (v := 0) S.1 S.2.1 (dd_at ddX3_rentOf 12 rfl) (by decide) ?_
    refine lv_aload_n S.1 S.2.1 (dd_at ddX3_rentOf 13 rfl) rfl (lv_at hl 0 rfl) ?_
    refine lv_aload_n S.1 S.2.1 (dd_at ddX3_rentOf 14 rfl) rfl (lv_at hl 1 rfl) ?_
    obtain ⟨b_11, hb_12, ho_13, h⟩ := h
    refine r_getR S hw 3 8 rfl inG3 (by decide) (List.mem_cons_of_mem _ wg104) (by decide) ha0 hb_12 (dd_at ddX3_rentOf 15 rfl) ?_
    refine r_callI hw (r_runV (As := [.ref b_11]) (rest := [.int 0]) S hw (m_X7_total l D cs E d_9 H.size b_7 b_11 _) (cwV 1 S.2.2.2.2 (gV wg968 wg969 wg970 wg370 wg971) rfl rfl rfl (by decide +kernel) ⟨Nat.le_of_ble_eq_true rfl, Nat.le_of_ble_eq_true rfl⟩) (ci := 7) rfl ho_8 h rfl hl.1 rfl (Nat.le_of_ble_eq_true rfl) (dd_at ddX3_rentOf 16 rfl) ⟨Nat.le_of_ble_eq_true rfl, Nat.le_of_ble_eq_true rfl⟩) (fun r_15 d_14 H locs h hw => ?_)
    refine va_mmax S.1 S.2.1 (by rw [hl.1]; exact S.2.2.1) S.2.2.2.1 (S.2.2.2.2 _ (List.mem_cons_of_mem _ wg718)) (S.2.2.2.2 _ (List.mem_cons_of_mem _ wg69)) (S.2.2.2.2 _ (List.mem_cons_of_mem _ wg70)) (S.2.2.2.2 _ (List.mem_cons_of_mem _ wg71)) (Nat.le_of_ble_eq_true rfl) (Nat.le_of_ble_eq_true rfl) (Nat.le_of_ble_eq_true rfl) (Nat.le_of_ble_eq_true rfl) (dd_at ddX3_rentOf 17 rfl) ?_
    exact e_I S hr hlocks hw h (dd_at ddX3_rentOf 18 rfl)

def w_X3_coloursOf (E : En) (a0 : Nat) (p1 : Int32) (d : Dy) (K : Int32 → Dy → Prop) : Prop := okO E a0 3 ∧ ∃ b_1 : Nat, eR E a0 0 = some b_1 ∧ okO E b_1 8 ∧ w_X8_inForce E b_1 3 d (fun r_5 d_4 => ((r_5 = none → K 255 d_4) ∧ (∀ b_7 : Nat, r_5 = some b_7 → okO E b_7 7 ∧ w_X3_knowHut E a0 p1 d_4 (fun d_9 => ∃ b_11 : Nat, eR E a0 8 = some b_11 ∧ okO E b_11 0 ∧ w_X7_colours E b_7 b_11 d_9 (fun r_15 d_14 => K r_15 d_14)))))
abbrev rm_X3_coloursOf : Room := { frames := 4, cells := 0, slots := 0, locals := 91 }
set_option maxRecDepth 100000 in
set_option maxHeartbeats 4000000 in
theorem m_X3_coloursOf (l : Launch) (D : va_G) (cs : Nat → ClassId) (E : En) (d : Dy) (sz : Nat) (a0 : Nat) (p1 : Int32) (K : Int32 → Dy → Prop) : CI l yX3_coloursOf (.code yX3_coloursOf cX3_coloursOf 3 (some .int) :: wsL_law) rm_X3_coloursOf D cs E d sz [.ref a0, .int p1] (w_X3_coloursOf E a0 p1 d K) K := by
  refine e_of (cc := cX3_coloursOf) (maxL := 3) (ret := (some .int)) (own := RX3) (by decide) rfl rfl (Nat.le_of_ble_eq_true rfl) ?_
  intro p e s m below meth c S hr hlocks hsz H locs hw h ls hl
  have hl : lv_has ls 3 [(0, .ref a0), (1, .int p1)] := hl
  unfold w_X3_coloursOf at h
  obtain ⟨ha0, h⟩ := h
  refine lv_aload_n S.1 S.2.1 (dd_at ddX3_coloursOf 0 rfl) rfl (lv_at hl 0 rfl) ?_
  obtain ⟨b_1, hb_2, ho_3, h⟩ := h
  refine r_getR S hw 3 0 rfl inG3 (by decide) (List.mem_cons_of_mem _ wg105) (by decide) ha0 hb_2 (dd_at ddX3_coloursOf 1 rfl) ?_
  refine lv_iconst (v := 3) S.1 S.2.1 (dd_at ddX3_coloursOf 2 rfl) (by decide) ?_
  refine r_callQ hw (r_runV (As := [.int 3]) (rest := []) S hw (m_X8_inForce l D cs E d H.size b_1 3 _) (cwV 1 S.2.2.2.2 (gV wg702 wg703 wg704 wg15 wg705) rfl rfl rfl (by decide +kernel) ⟨Nat.le_of_ble_eq_true rfl, Nat.le_of_ble_eq_true rfl⟩) (ci := 8) rfl ho_3 h rfl hl.1 rfl (Nat.le_of_ble_eq_true rfl) (dd_at ddX3_coloursOf 3 rfl) ⟨Nat.le_of_ble_eq_true rfl, Nat.le_of_ble_eq_true rfl⟩) (fun r_5 d_4 H locs h hw => ?_)
  refine lv_astore_nQ (lv' := [(2, va_rf r_5), (0, .ref a0), (1, .int p1)]) S.1 S.2.1 (dd_at ddX3_coloursOf 4 rfl) rfl hl (by decide) rfl (fun ls hl => ?_)
  refine lv_aload_nQ S.1 S.2.1 (dd_at ddX3_coloursOf 5 rfl) rfl (lv_at hl 0 rfl) ?_
  rcases Option.eq_none_or_eq_some r_5 with hq_16 | ⟨b_7, hq_16⟩
  · have h := h.1 hq_16
    rw [hq_16] at hl
    rw [hq_16]
    have hl : lv_has ls 3 [(2, va_rf none), (0, .ref a0), (1, .int p1)] := hl
    refine lv_ifnonnullN S.1 S.2.1 (dd_at ddX3_coloursOf 6 rfl) ?_
    refine lv_sipush (v := 255) S.1 S.2.1 (dd_at ddX3_coloursOf 7 rfl) (by decide) ?_
    exact e_I S hr hlocks hw h (dd_at ddX3_coloursOf 8 rfl)
  · obtain ⟨ho_8, h⟩ := h.2 b_7 hq_16
    rw [hq_16] at hl
    rw [hq_16]
    have hl : lv_has ls 3 [(2, .ref b_7), (0, .ref a0), (1, .int p1)] := hl
    refine lv_ifnonnull (tgt := 17) S.1 S.2.1 (dd_at ddX3_coloursOf 6 rfl) (by decide) ?_
    refine lv_aload_n S.1 S.2.1 (dd_at ddX3_coloursOf 9 rfl) rfl (lv_at hl 1 rfl) ?_
    refine lv_iload_n S.1 S.2.1 (dd_at ddX3_coloursOf 10 rfl) rfl (lv_at hl 2 rfl) ?_
    refine r_callV hw (r_runV (As := [.int p1]) (rest := []) S hw (m_X3_knowHut l D cs E d_4 H.size a0 p1 _) (cwV 1 S.2.2.2.2 (gV wg964 wg965 wg966 wg25 wg967) rfl rfl rfl (by decide +kernel) ⟨Nat.le_of_ble_eq_true rfl, Nat.le_of_ble_eq_true rfl⟩) (ci := 3) rfl ha0 h rfl hl.1 rfl (Nat.le_of_ble_eq_true rfl) (dd_at ddX3_coloursOf 11 rfl) ⟨Nat.le_of_ble_eq_true rfl, Nat.le_of_ble_eq_true rfl⟩) (fun d_9 H locs h hw => ?_)
    refine lv_aload_n S.1 S.2.1 (dd_at ddX3_coloursOf 12 rfl) rfl (lv_at hl 0 rfl) ?_
    refine lv_aload_n S.1 S.2.1 (dd_at ddX3_coloursOf 13 rfl) rfl (lv_at hl 1 rfl) ?_
    obtain ⟨b_11, hb_12, ho_13, h⟩ := h
    refine r_getR S hw 3 8 rfl inG3 (by decide) (List.mem_cons_of_mem _ wg104) (by decide) ha0 hb_12 (dd_at ddX3_coloursOf 14 rfl) ?_
    refine r_callI hw (r_runV (As := [.ref b_11]) (rest := []) S hw (m_X7_colours l D cs E d_9 H.size b_7 b_11 _) (cwV 1 S.2.2.2.2 (gV wg1437 wg1438 wg1439 wg370 wg1440) rfl rfl rfl (by decide +kernel) ⟨Nat.le_of_ble_eq_true rfl, Nat.le_of_ble_eq_true rfl⟩) (ci := 7) rfl ho_8 h rfl hl.1 rfl (Nat.le_of_ble_eq_true rfl) (dd_at ddX3_coloursOf 15 rfl) ⟨Nat.le_of_ble_eq_true rfl, Nat.le_of_ble_eq_true rfl⟩) (fun r_15 d_14 H locs h hw => ?_)
    exact e_I S hr hlocks hw h (dd_at ddX3_coloursOf 16 rfl)

def w_X3_livingMany (E : En) (a0 : Nat) (d : Dy) (K : Int32 → Dy → Prop) : Prop := okO E a0 3 ∧ ∃ b_1 : Nat, eR E a0 5 = some b_1 ∧ okO E b_1 6 ∧ w_X6_size E b_1 d (fun r_5 d_4 => w_J6_bitCount_0f7a4 E (gI d_4 a0 4) d_4 (fun r_7 d_6 => K (r_5 - r_7) d_6))
abbrev rm_X3_livingMany : Room := { frames := 1, cells := 0, slots := 0, locals := 20 }
set_option maxRecDepth 100000 in
set_option maxHeartbeats 4000000 in
theorem m_X3_livingMany (l : Launch) (D : va_G) (cs : Nat → ClassId) (E : En) (d : Dy) (sz : Nat) (a0 : Nat) (K : Int32 → Dy → Prop) : CI l yX3_livingMany (.code yX3_livingMany cX3_livingMany 1 (some .int) :: wsL_law) rm_X3_livingMany D cs E d sz [.ref a0] (w_X3_livingMany E a0 d K) K := by
  refine e_of (cc := cX3_livingMany) (maxL := 1) (ret := (some .int)) (own := RX3) (by decide) rfl rfl (Nat.le_of_ble_eq_true rfl) ?_
  intro p e s m below meth c S hr hlocks hsz H locs hw h ls hl
  have hl : lv_has ls 1 [(0, .ref a0)] := hl
  unfold w_X3_livingMany at h
  obtain ⟨ha0, h⟩ := h
  refine lv_aload_n S.1 S.2.1 (dd_at ddX3_livingMany 0 rfl) rfl (lv_at hl 0 rfl) ?_
  obtain ⟨b_1, hb_2, ho_3, h⟩ := h
  refine r_getR S hw 3 5 rfl inG3 (by decide) (List.mem_cons_of_mem _ wg98) (by decide) ha0 hb_2 (dd_at ddX3_livingMany 1 rfl) ?_
  refine r_callI hw (r_runV (As := []) (rest := []) S hw (m_X6_size l D cs E d H.size b_1 _) (cwV 0 S.2.2.2.2 (gV wg670 wg372 wg373 wg51 wg374) rfl rfl rfl (by decide +kernel) ⟨Nat.le_of_ble_eq_true rfl, Nat.le_of_ble_eq_true rfl⟩) (ci := 6) rfl ho_3 h rfl hl.1 rfl (Nat.le_of_ble_eq_true rfl) (dd_at ddX3_livingMany 2 rfl) ⟨Nat.le_of_ble_eq_true rfl, Nat.le_of_ble_eq_true rfl⟩) (fun r_5 d_4 H locs h hw => ?_)
  refine lv_aload_n S.1 S.2.1 (dd_at ddX3_livingMany 3 rfl) rfl (lv_at hl 0 rfl) ?_
  refine r_getI S hw 3 4 rfl inG3 (by decide) (List.mem_cons_of_mem _ wg668) (by decide) ha0 (dd_at ddX3_livingMany 4 rfl) ?_
  refine r_callI hw (r_runS (As := [.int (gI d_4 a0 4)]) (rest := [.int r_5]) S hw (m_J6_bitCount_0f7a4 l D cs E d_4 H.size (gI d_4 a0 4) _) (va_cwS 1 S.2.2.2.2 (gS wg723 wg724 wg725 wg726) rfl rfl rfl (by decide +kernel) ⟨Nat.le_of_ble_eq_true rfl, Nat.le_of_ble_eq_true rfl⟩) h rfl hl.1 rfl (Nat.le_of_ble_eq_true rfl) (dd_at ddX3_livingMany 5 rfl) ⟨Nat.le_of_ble_eq_true rfl, Nat.le_of_ble_eq_true rfl⟩) (fun r_7 d_6 H locs h hw => ?_)
  refine lv_isub S.1 S.2.1 (dd_at ddX3_livingMany 6 rfl) ?_
  exact e_I S hr hlocks hw h (dd_at ddX3_livingMany 7 rfl)

def b_X3_heldMany_4 (E : En) (a0 : Nat) (K : Int32 → Dy → Prop) (k4 : Int32 → Int32 → Dy → Prop) (v1 : Int32) (v2 : Int32) (d : Dy) : Prop := ∃ b_1 : Nat, eR E a0 6 = some b_1 ∧ okO E b_1 6 ∧ w_X6_size E b_1 d (fun r_5 d_4 => ((r_5 ≤ v2 → K v1 d_4) ∧ (¬ r_5 ≤ v2 → w_X3_holderOf E a0 v2 d_4 (fun r_8 d_7 => ((¬ r_8 = (-1) → k4 (v1 + 1) (v2 + 1) d_7) ∧ (r_8 = (-1) → k4 (v1 + 0) (v2 + 1) d_7))))))
def l_X3_heldMany_4 (E : En) (a0 : Nat) (K : Int32 → Dy → Prop) : Nat → Int32 → Int32 → Dy → Prop
  | 0 => fun _ _ _ => False
  | n + 1 => b_X3_heldMany_4 E a0 K (l_X3_heldMany_4 E a0 K n)
def w_X3_heldMany (E : En) (a0 : Nat) (d : Dy) (K : Int32 → Dy → Prop) : Prop := okO E a0 3 ∧ (∃ n_10 : Nat, l_X3_heldMany_4 E a0 K n_10 0 0 d)
abbrev rm_X3_heldMany : Room := { frames := 2, cells := 0, slots := 0, locals := 44 }
set_option maxRecDepth 100000 in
set_option maxHeartbeats 4000000 in
theorem m_X3_heldMany (l : Launch) (D : va_G) (cs : Nat → ClassId) (E : En) (d : Dy) (sz : Nat) (a0 : Nat) (K : Int32 → Dy → Prop) : CI l yX3_heldMany (.code yX3_heldMany cX3_heldMany 3 (some .int) :: wsL_law) rm_X3_heldMany D cs E d sz [.ref a0] (w_X3_heldMany E a0 d K) K := by
  refine e_of (cc := cX3_heldMany) (maxL := 3) (ret := (some .int)) (own := RX3) (by decide) rfl rfl (Nat.le_of_ble_eq_true rfl) ?_
  intro p e s m below meth c S hr hlocks hsz H locs hw h ls hl
  have hl : lv_has ls 3 [(0, .ref a0)] := hl
  unfold w_X3_heldMany at h
  obtain ⟨ha0, h⟩ := h
  have tl4 : ∀ (n : Nat) (v1 : Int32) (v2 : Int32) (d : Dy) (H : Heap) (locs : List Loc) (ls : Array Slot), l_X3_heldMany_4 E a0 K n v1 v2 d → Wd D cs (AW E sz) s.heap s E d H locs → lv_has ls 3 [(0, .ref a0), (1, .int v1), (2, .int v2)] → W p l e rm_X3_heldMany s m ([.ref a0] : List Value).toArray below meth c H locs 0 0 (MQ below (va_Qi K (OutW D cs E (AW E sz)) (AW E sz)) ([.ref a0] : List Value).toArray s rm_X3_heldMany.cells rm_X3_heldMany.slots (AW E sz)) (F0 m 4 ls []) := by
    intro n4
    induction n4 with
    | zero => intro v1 v2 d H locs ls h; exact absurd h id
    | succ n4 ih4 =>
      intro v1 v2 d H locs ls h hw hl
      have h : b_X3_heldMany_4 E a0 K (l_X3_heldMany_4 E a0 K n4) v1 v2 d := h
      unfold b_X3_heldMany_4 at h
      refine lv_iload_n S.1 S.2.1 (dd_at ddX3_heldMany 4 rfl) rfl (lv_at hl 2 rfl) ?_
      refine lv_aload_n S.1 S.2.1 (dd_at ddX3_heldMany 5 rfl) rfl (lv_at hl 0 rfl) ?_
      obtain ⟨b_1, hb_2, ho_3, h⟩ := h
      refine r_getR S hw 3 6 rfl inG3 (by decide) (List.mem_cons_of_mem _ wg99) (by decide) ha0 hb_2 (dd_at ddX3_heldMany 6 rfl) ?_
      refine r_callI hw (r_runV (As := []) (rest := [.int v2]) S hw (m_X6_size l D cs E d H.size b_1 _) (cwV 0 S.2.2.2.2 (gV wg670 wg372 wg373 wg51 wg374) rfl rfl rfl (by decide +kernel) ⟨Nat.le_of_ble_eq_true rfl, Nat.le_of_ble_eq_true rfl⟩) (ci := 6) rfl ho_3 h rfl hl.1 rfl (Nat.le_of_ble_eq_true rfl) (dd_at ddX3_heldMany 7 rfl) ⟨Nat.le_of_ble_eq_true rfl, Nat.le_of_ble_eq_true rfl⟩) (fun r_5 d_4 H locs h hw => ?_)
      refine lv_icmp_ge (tgt := 38) S.1 S.2.1 (dd_at ddX3_heldMany 8 rfl) (by decide) (fun hc_6 => ?_) (fun hc_6 => ?_)
      · have h := h.1 hc_6
        refine lv_iload_n S.1 S.2.1 (dd_at ddX3_heldMany 22 rfl) rfl (lv_at hl 1 rfl) ?_
        exact e_I S hr hlocks hw h (dd_at ddX3_heldMany 23 rfl)
      · have h := h.2 hc_6
        refine lv_iload_n S.1 S.2.1 (dd_at ddX3_heldMany 9 rfl) rfl (lv_at hl 1 rfl) ?_
        refine lv_aload_n S.1 S.2.1 (dd_at ddX3_heldMany 10 rfl) rfl (lv_at hl 0 rfl) ?_
        refine lv_iload_n S.1 S.2.1 (dd_at ddX3_heldMany 11 rfl) rfl (lv_at hl 2 rfl) ?_
        refine r_callI hw (r_runV (As := [.int v2]) (rest := [.int v1]) S hw (m_X3_holderOf l D cs E d_4 H.size a0 v2 _) (cwV 1 S.2.2.2.2 (gV wg694 wg695 wg696 wg25 wg697) rfl rfl rfl (by decide +kernel) ⟨Nat.le_of_ble_eq_true rfl, Nat.le_of_ble_eq_true rfl⟩) (ci := 3) rfl ha0 h rfl hl.1 rfl (Nat.le_of_ble_eq_true rfl) (dd_at ddX3_heldMany 12 rfl) ⟨Nat.le_of_ble_eq_true rfl, Nat.le_of_ble_eq_true rfl⟩) (fun r_8 d_7 H locs h hw => ?_)
        refine lv_iconst (v := -1) S.1 S.2.1 (dd_at ddX3_heldMany 13 rfl) (by decide) ?_
        refine lv_icmp_ne (tgt := 29) S.1 S.2.1 (dd_at ddX3_heldMany 14 rfl) (by decide) (fun hc_9 => ?_) (fun hc_9 => ?_)
        · have h := h.1 hc_9
          refine lv_iconst (v := 1) S.1 S.2.1 (dd_at ddX3_heldMany 17 rfl) (by decide) ?_
          refine lv_iadd S.1 S.2.1 (dd_at ddX3_heldMany 18 rfl) ?_
          refine lv_istore_n (lv' := [(1, .int (v1 + 1)), (0, .ref a0), (2, .int v2)]) S.1 S.2.1 (dd_at ddX3_heldMany 19 rfl) rfl hl (by decide) rfl (fun ls hl => ?_)
          refine lv_iinc (v := v2 + 1) (lv' := [(2, .int (v2 + 1)), (1, .int (v1 + 1)), (0, .ref a0)]) S.1 S.2.1 (dd_at ddX3_heldMany 20 rfl) hl (k := 2) rfl rfl (by decide) rfl (fun ls hl => ?_)
          refine lv_goto (tgt := 4) S.1 S.2.1 (dd_at ddX3_heldMany 21 rfl) (by decide) ?_
          exact ih4 (v1 + 1) (v2 + 1) d_7 H locs ls h hw (lv_sub hl [2, 1, 0] rfl)
        · have h := h.2 hc_9
          refine lv_iconst (v := 0) S.1 S.2.1 (dd_at ddX3_heldMany 15 rfl) (by decide) ?_
          refine lv_goto (tgt := 30) S.1 S.2.1 (dd_at ddX3_heldMany 16 rfl) (by decide) ?_
          refine lv_iadd S.1 S.2.1 (dd_at ddX3_heldMany 18 rfl) ?_
          refine lv_istore_n (lv' := [(1, .int (v1 + 0)), (0, .ref a0), (2, .int v2)]) S.1 S.2.1 (dd_at ddX3_heldMany 19 rfl) rfl hl (by decide) rfl (fun ls hl => ?_)
          refine lv_iinc (v := v2 + 1) (lv' := [(2, .int (v2 + 1)), (1, .int (v1 + 0)), (0, .ref a0)]) S.1 S.2.1 (dd_at ddX3_heldMany 20 rfl) hl (k := 2) rfl rfl (by decide) rfl (fun ls hl => ?_)
          refine lv_goto (tgt := 4) S.1 S.2.1 (dd_at ddX3_heldMany 21 rfl) (by decide) ?_
          exact ih4 (v1 + 0) (v2 + 1) d_7 H locs ls h hw (lv_sub hl [2, 1, 0] rfl)
  refine lv_iconst (v := 0) S.1 S.2.1 (dd_at ddX3_heldMany 0 rfl) (by decide) ?_
  refine lv_istore_n (lv' := [(1, .int 0), (0, .ref a0)]) S.1 S.2.1 (dd_at ddX3_heldMany 1 rfl) rfl hl (by decide) rfl (fun ls hl => ?_)
  refine lv_iconst (v := 0) S.1 S.2.1 (dd_at ddX3_heldMany 2 rfl) (by decide) ?_
  refine lv_istore_n (lv' := [(2, .int 0), (1, .int 0), (0, .ref a0)]) S.1 S.2.1 (dd_at ddX3_heldMany 3 rfl) rfl hl (by decide) rfl (fun ls hl => ?_)
  obtain ⟨n_10, h⟩ := h
  exact tl4 n_10 0 0 d H locs ls h hw (lv_sub hl [2, 1, 0] rfl)

def b_X3_hutsOf_4 (E : En) (a0 : Nat) (p1 : Int32) (K : Int32 → Dy → Prop) (k4 : Int32 → Int32 → Dy → Prop) (v2 : Int32) (v3 : Int32) (d : Dy) : Prop := ∃ b_1 : Nat, eR E a0 6 = some b_1 ∧ okO E b_1 6 ∧ w_X6_size E b_1 d (fun r_5 d_4 => ((r_5 ≤ v3 → K v2 d_4) ∧ (¬ r_5 ≤ v3 → w_X3_holderOf E a0 v3 d_4 (fun r_8 d_7 => ((¬ r_8 = p1 → k4 (v2 ||| 0) (v3 + 1) d_7) ∧ (r_8 = p1 → k4 (v2 ||| ((1 : Int32) <<< (v3 &&& 31))) (v3 + 1) d_7))))))
def l_X3_hutsOf_4 (E : En) (a0 : Nat) (p1 : Int32) (K : Int32 → Dy → Prop) : Nat → Int32 → Int32 → Dy → Prop
  | 0 => fun _ _ _ => False
  | n + 1 => b_X3_hutsOf_4 E a0 p1 K (l_X3_hutsOf_4 E a0 p1 K n)
def w_X3_hutsOf (E : En) (a0 : Nat) (p1 : Int32) (d : Dy) (K : Int32 → Dy → Prop) : Prop := okO E a0 3 ∧ (∃ n_10 : Nat, l_X3_hutsOf_4 E a0 p1 K n_10 0 0 d)
abbrev rm_X3_hutsOf : Room := { frames := 2, cells := 0, slots := 0, locals := 44 }
set_option maxRecDepth 100000 in
set_option maxHeartbeats 4000000 in
theorem m_X3_hutsOf (l : Launch) (D : va_G) (cs : Nat → ClassId) (E : En) (d : Dy) (sz : Nat) (a0 : Nat) (p1 : Int32) (K : Int32 → Dy → Prop) : CI l yX3_hutsOf (.code yX3_hutsOf cX3_hutsOf 4 (some .int) :: wsL_law) rm_X3_hutsOf D cs E d sz [.ref a0, .int p1] (w_X3_hutsOf E a0 p1 d K) K := by
  refine e_of (cc := cX3_hutsOf) (maxL := 4) (ret := (some .int)) (own := RX3) (by decide) rfl rfl (Nat.le_of_ble_eq_true rfl) ?_
  intro p e s m below meth c S hr hlocks hsz H locs hw h ls hl
  have hl : lv_has ls 4 [(0, .ref a0), (1, .int p1)] := hl
  unfold w_X3_hutsOf at h
  obtain ⟨ha0, h⟩ := h
  have tl4 : ∀ (n : Nat) (v2 : Int32) (v3 : Int32) (d : Dy) (H : Heap) (locs : List Loc) (ls : Array Slot), l_X3_hutsOf_4 E a0 p1 K n v2 v3 d → Wd D cs (AW E sz) s.heap s E d H locs → lv_has ls 4 [(0, .ref a0), (1, .int p1), (2, .int v2), (3, .int v3)] → W p l e rm_X3_hutsOf s m ([.ref a0, .int p1] : List Value).toArray below meth c H locs 0 0 (MQ below (va_Qi K (OutW D cs E (AW E sz)) (AW E sz)) ([.ref a0, .int p1] : List Value).toArray s rm_X3_hutsOf.cells rm_X3_hutsOf.slots (AW E sz)) (F0 m 4 ls []) := by
    intro n4
    induction n4 with
    | zero => intro v2 v3 d H locs ls h; exact absurd h id
    | succ n4 ih4 =>
      intro v2 v3 d H locs ls h hw hl
      have h : b_X3_hutsOf_4 E a0 p1 K (l_X3_hutsOf_4 E a0 p1 K n4) v2 v3 d := h
      unfold b_X3_hutsOf_4 at h
      refine lv_iload_n S.1 S.2.1 (dd_at ddX3_hutsOf 4 rfl) rfl (lv_at hl 3 rfl) ?_
      refine lv_aload_n S.1 S.2.1 (dd_at ddX3_hutsOf 5 rfl) rfl (lv_at hl 0 rfl) ?_
      obtain ⟨b_1, hb_2, ho_3, h⟩ := h
      refine r_getR S hw 3 6 rfl inG3 (by decide) (List.mem_cons_of_mem _ wg99) (by decide) ha0 hb_2 (dd_at ddX3_hutsOf 6 rfl) ?_
      refine r_callI hw (r_runV (As := []) (rest := [.int v3]) S hw (m_X6_size l D cs E d H.size b_1 _) (cwV 0 S.2.2.2.2 (gV wg670 wg372 wg373 wg51 wg374) rfl rfl rfl (by decide +kernel) ⟨Nat.le_of_ble_eq_true rfl, Nat.le_of_ble_eq_true rfl⟩) (ci := 6) rfl ho_3 h rfl hl.1 rfl (Nat.le_of_ble_eq_true rfl) (dd_at ddX3_hutsOf 7 rfl) ⟨Nat.le_of_ble_eq_true rfl, Nat.le_of_ble_eq_true rfl⟩) (fun r_5 d_4 H locs h hw => ?_)
      refine lv_icmp_ge (tgt := 40) S.1 S.2.1 (dd_at ddX3_hutsOf 8 rfl) (by decide) (fun hc_6 => ?_) (fun hc_6 => ?_)
      · have h := h.1 hc_6
        refine lv_iload_n S.1 S.2.1 (dd_at ddX3_hutsOf 24 rfl) rfl (lv_at hl 2 rfl) ?_
        exact e_I S hr hlocks hw h (dd_at ddX3_hutsOf 25 rfl)
      · have h := h.2 hc_6
        refine lv_iload_n S.1 S.2.1 (dd_at ddX3_hutsOf 9 rfl) rfl (lv_at hl 2 rfl) ?_
        refine lv_aload_n S.1 S.2.1 (dd_at ddX3_hutsOf 10 rfl) rfl (lv_at hl 0 rfl) ?_
        refine lv_iload_n S.1 S.2.1 (dd_at ddX3_hutsOf 11 rfl) rfl (lv_at hl 3 rfl) ?_
        refine r_callI hw (r_runV (As := [.int v3]) (rest := [.int v2]) S hw (m_X3_holderOf l D cs E d_4 H.size a0 v3 _) (cwV 1 S.2.2.2.2 (gV wg694 wg695 wg696 wg25 wg697) rfl rfl rfl (by decide +kernel) ⟨Nat.le_of_ble_eq_true rfl, Nat.le_of_ble_eq_true rfl⟩) (ci := 3) rfl ha0 h rfl hl.1 rfl (Nat.le_of_ble_eq_true rfl) (dd_at ddX3_hutsOf 12 rfl) ⟨Nat.le_of_ble_eq_true rfl, Nat.le_of_ble_eq_true rfl⟩) (fun r_8 d_7 H locs h hw => ?_)
        refine lv_iload_n S.1 S.2.1 (dd_at ddX3_hutsOf 13 rfl) rfl (lv_at hl 1 rfl) ?_
        refine lv_icmp_ne (tgt := 31) S.1 S.2.1 (dd_at ddX3_hutsOf 14 rfl) (by decide) (fun hc_9 => ?_) (fun hc_9 => ?_)
        · have h := h.1 hc_9
          refine lv_iconst (v := 0) S.1 S.2.1 (dd_at ddX3_hutsOf 19 rfl) (by decide) ?_
          refine lv_ior S.1 S.2.1 (dd_at ddX3_hutsOf 20 rfl) ?_
          refine lv_istore_n (lv' := [(2, .int (v2 ||| 0)), (0, .ref a0), (1, .int p1), (3, .int v3)]) S.1 S.2.1 (dd_at ddX3_hutsOf 21 rfl) rfl hl (by decide) rfl (fun ls hl => ?_)
          refine lv_iinc (v := v3 + 1) (lv' := [(3, .int (v3 + 1)), (2, .int (v2 ||| 0)), (0, .ref a0), (1, .int p1)]) S.1 S.2.1 (dd_at ddX3_hutsOf 22 rfl) hl (k := 3) rfl rfl (by decide) rfl (fun ls hl => ?_)
          refine lv_goto (tgt := 4) S.1 S.2.1 (dd_at ddX3_hutsOf 23 rfl) (by decide) ?_
          exact ih4 (v2 ||| 0) (v3 + 1) d_7 H locs ls h hw (lv_sub hl [2, 3, 1, 0] rfl)
        · have h := h.2 hc_9
          refine lv_iconst (v := 1) S.1 S.2.1 (dd_at ddX3_hutsOf 15 rfl) (by decide) ?_
          refine lv_iload_n S.1 S.2.1 (dd_at ddX3_hutsOf 16 rfl) rfl (lv_at hl 3 rfl) ?_
          refine lv_ishl S.1 S.2.1 (dd_at ddX3_hutsOf 17 rfl) ?_
          refine lv_goto (tgt := 32) S.1 S.2.1 (dd_at ddX3_hutsOf 18 rfl) (by decide) ?_
          refine lv_ior S.1 S.2.1 (dd_at ddX3_hutsOf 20 rfl) ?_
          refine lv_istore_n (lv' := [(2, .int (v2 ||| ((1 : Int32) <<< (v3 &&& 31)))), (0, .ref a0), (1, .int p1), (3, .int v3)]) S.1 S.2.1 (dd_at ddX3_hutsOf 21 rfl) rfl hl (by decide) rfl (fun ls hl => ?_)
          refine lv_iinc (v := v3 + 1) (lv' := [(3, .int (v3 + 1)), (2, .int (v2 ||| ((1 : Int32) <<< (v3 &&& 31)))), (0, .ref a0), (1, .int p1)]) S.1 S.2.1 (dd_at ddX3_hutsOf 22 rfl) hl (k := 3) rfl rfl (by decide) rfl (fun ls hl => ?_)
          refine lv_goto (tgt := 4) S.1 S.2.1 (dd_at ddX3_hutsOf 23 rfl) (by decide) ?_
          exact ih4 (v2 ||| ((1 : Int32) <<< (v3 &&& 31))) (v3 + 1) d_7 H locs ls h hw (lv_sub hl [2, 3, 1, 0] rfl)
  refine lv_iconst (v := 0) S.1 S.2.1 (dd_at ddX3_hutsOf 0 rfl) (by decide) ?_
  refine lv_istore_n (lv' := [(2, .int 0), (0, .ref a0), (1, .int p1)]) S.1 S.2.1 (dd_at ddX3_hutsOf 1 rfl) rfl hl (by decide) rfl (fun ls hl => ?_)
  refine lv_iconst (v := 0) S.1 S.2.1 (dd_at ddX3_hutsOf 2 rfl) (by decide) ?_
  refine lv_istore_n (lv' := [(3, .int 0), (2, .int 0), (0, .ref a0), (1, .int p1)]) S.1 S.2.1 (dd_at ddX3_hutsOf 3 rfl) rfl hl (by decide) rfl (fun ls hl => ?_)
  obtain ⟨n_10, h⟩ := h
  exact tl4 n_10 0 0 d H locs ls h hw (lv_sub hl [2, 3, 1, 0] rfl)

def w_X3_hutAt (E : En) (a0 : Nat) (p1 : Int32) (d : Dy) (K : Int32 → Dy → Prop) : Prop := okO E a0 3 ∧ ∃ b_1 : Nat, eR E a0 7 = some b_1 ∧ okO E b_1 6 ∧ w_X6_get E b_1 p1 0 d (fun r_5 d_4 => K r_5 d_4)
abbrev rm_X3_hutAt : Room := { frames := 1, cells := 0, slots := 0, locals := 23 }
set_option maxRecDepth 100000 in
set_option maxHeartbeats 4000000 in
theorem m_X3_hutAt (l : Launch) (D : va_G) (cs : Nat → ClassId) (E : En) (d : Dy) (sz : Nat) (a0 : Nat) (p1 : Int32) (K : Int32 → Dy → Prop) : CI l yX3_hutAt (.code yX3_hutAt cX3_hutAt 2 (some .int) :: wsL_law) rm_X3_hutAt D cs E d sz [.ref a0, .int p1] (w_X3_hutAt E a0 p1 d K) K := by
  refine e_of (cc := cX3_hutAt) (maxL := 2) (ret := (some .int)) (own := RX3) (by decide) rfl rfl (Nat.le_of_ble_eq_true rfl) ?_
  intro p e s m below meth c S hr hlocks hsz H locs hw h ls hl
  have hl : lv_has ls 2 [(0, .ref a0), (1, .int p1)] := hl
  unfold w_X3_hutAt at h
  obtain ⟨ha0, h⟩ := h
  refine lv_aload_n S.1 S.2.1 (dd_at ddX3_hutAt 0 rfl) rfl (lv_at hl 0 rfl) ?_
  obtain ⟨b_1, hb_2, ho_3, h⟩ := h
  refine r_getR S hw 3 7 rfl inG3 (by decide) (List.mem_cons_of_mem _ wg100) (by decide) ha0 hb_2 (dd_at ddX3_hutAt 1 rfl) ?_
  refine lv_iload_n S.1 S.2.1 (dd_at ddX3_hutAt 2 rfl) rfl (lv_at hl 1 rfl) ?_
  refine lv_iconst (v := 0) S.1 S.2.1 (dd_at ddX3_hutAt 3 rfl) (by decide) ?_
  refine r_callI hw (r_runV (As := [.int p1, .int 0]) (rest := []) S hw (m_X6_get l D cs E d H.size b_1 p1 0 _) (cwV 2 S.2.2.2.2 (gV wg673 wg623 wg624 wg51 wg625) rfl rfl rfl (by decide +kernel) ⟨Nat.le_of_ble_eq_true rfl, Nat.le_of_ble_eq_true rfl⟩) (ci := 6) rfl ho_3 h rfl hl.1 rfl (Nat.le_of_ble_eq_true rfl) (dd_at ddX3_hutAt 4 rfl) ⟨Nat.le_of_ble_eq_true rfl, Nat.le_of_ble_eq_true rfl⟩) (fun r_5 d_4 H locs h hw => ?_)
  exact e_I S hr hlocks hw h (dd_at ddX3_hutAt 5 rfl)
