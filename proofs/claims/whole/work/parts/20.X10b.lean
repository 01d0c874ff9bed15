def w_X10_rent (E : En) (a0 : Nat) (p1 : Int32) (p2 : Int32) (p3 : Int32) (d : Dy) (K : Int32 → Dy → Prop) (X : String → Dy → Prop) : Prop := okO E a0 10 ∧ w_X10_needHutInYears E a0 p1 p2 p3 d (fun d_1 => ∃ b_3 : Nat, eR E a0 5 = some b_3 ∧ okO E b_3 3 ∧ w_X3_begin E b_3 p3 d_1 (fun d_6 => ∃ b_8 : Nat, eR E a0 5 = some b_8 ∧ okO E b_8 3 ∧ w_X3_goTo E b_8 p2 d_6 (fun d_11 => ∃ b_13 : Nat, eR E a0 5 = some b_13 ∧ okO E b_13 3 ∧ w_X3_rentOf E b_13 p1 d_11 (fun r_17 d_16 => K r_17 d_16)))) X
abbrev rm_X10_rent : Room := { frames := 9, cells := 3, slots := 18, locals := 165 }
set_option maxRecDepth 100000 in
set_option maxHeartbeats 4000000 in
theorem m_X10_rent (l : Launch) (hst : l.stackTraces = false) (D : va_G) (cs : Nat → ClassId) (E : En) (d : Dy) (sz : Nat) (a0 : Nat) (p1 : Int32) (p2 : Int32) (p3 : Int32) (K : Int32 → Dy → Prop) (X : String → Dy → Prop) : XI l yX10_rent (.code yX10_rent cX10_rent 4 (some .int) :: wsL_law) rm_X10_rent D cs E d sz [.ref a0, .int p1, .int p2, .int p3] (w_X10_rent E a0 p1 p2 p3 d K X) K X := by
  refine e_ofX (cc := cX10_rent) (maxL := 4) (ret := (some .int)) (own := RX10) (by decide) rfl rfl (Nat.le_of_ble_eq_true rfl) ?_
  intro p e s m below meth c S hr hlocks hsz hT H locs hw h ls hl
  have hl : lv_has ls 4 [(0, .ref a0), (1, .int p1), (2, .int p2), (3, .int p3)] := hl
  unfold w_X10_rent at h
  obtain ⟨ha0, h⟩ := h
  refine lv_aload_n S.1 S.2.1 (dd_at ddX10_rent 0 rfl) rfl (lv_at hl 0 rfl) ?_
  refine lv_iload_n S.1 S.2.1 (dd_at ddX10_rent 1 rfl) rfl (lv_at hl 1 rfl) ?_
  refine lv_iload_n S.1 S.2.1 (dd_at ddX10_rent 2 rfl) rfl (lv_at hl 2 rfl) ?_
  refine lv_iload_n S.1 S.2.1 (dd_at ddX10_rent 3 rfl) rfl (lv_at hl 3 rfl) ?_
  refine r_xcallV hT hlocks hw (r_xrunV (As := [.int p1, .int p2, .int p3]) (rest := []) S hw (m_X10_needHutInYears l hst D cs E d H.size a0 p1 p2 p3 _ _) (cwV 3 S.2.2.2.2 (gV wg657 wg658 wg659 wg2 wg660) rfl rfl rfl (by decide +kernel) ⟨Nat.le_of_ble_eq_true rfl, Nat.le_of_ble_eq_true rfl⟩) (ci := 10) rfl ha0 h rfl hl.1 rfl (Nat.le_of_ble_eq_true rfl) (dd_at ddX10_rent 4 rfl) ⟨Nat.le_of_ble_eq_true rfl, Nat.le_of_ble_eq_true rfl⟩) (Nat.le_of_ble_eq_true rfl) (Nat.le_of_ble_eq_true rfl) (fun d_1 H locs h hw => ?_)
  refine lv_aload_n S.1 S.2.1 (dd_at ddX10_rent 5 rfl) rfl (lv_at hl 0 rfl) ?_
  obtain ⟨b_3, hb_4, ho_5, h⟩ := h
  refine r_getR S hw 10 5 rfl inG10 (by decide) (List.mem_cons_of_mem _ wg26) (by decide) ha0 hb_4 (dd_at ddX10_rent 6 rfl) ?_
  refine lv_iload_n S.1 S.2.1 (dd_at ddX10_rent 7 rfl) rfl (lv_at hl 3 rfl) ?_
  refine r_callV hw (r_runV (As := [.int p3]) (rest := []) S hw (m_X3_begin l D cs E d_1 H.size b_3 p3 _) (cwV 1 S.2.2.2.2 (gV wg661 wg662 wg663 wg25 wg664) rfl rfl rfl (by decide +kernel) ⟨Nat.le_of_ble_eq_true rfl, Nat.le_of_ble_eq_true rfl⟩) (ci := 3) rfl ho_5 h rfl hl.1 rfl (Nat.le_of_ble_eq_true rfl) (dd_at ddX10_rent 8 rfl) ⟨Nat.le_of_ble_eq_true rfl, Nat.le_of_ble_eq_true rfl⟩) (fun d_6 H locs h hw => ?_)
  refine lv_aload_n S.1 S.2.1 (dd_at ddX10_rent 9 rfl) rfl (lv_at hl 0 rfl) ?_
  obtain ⟨b_8, hb_9, ho_10, h⟩ := h
  refine r_getR S hw 10 5 rfl inG10 (by decide) (List.mem_cons_of_mem _ wg26) (by decide) ha0 hb_9 (dd_at ddX10_rent 10 rfl) ?_
  refine lv_iload_n S.1 S.2.1 (dd_at ddX10_rent 11 rfl) rfl (lv_at hl 2 rfl) ?_
  refine r_callV hw (r_runV (As := [.int p2]) (rest := []) S hw (m_X3_goTo l D cs E d_6 H.size b_8 p2 _) (cwV 1 S.2.2.2.2 (gV wg678 wg679 wg680 wg25 wg681) rfl rfl rfl (by decide +kernel) ⟨Nat.le_of_ble_eq_true rfl, Nat.le_of_ble_eq_true rfl⟩) (ci := 3) rfl ho_10 h rfl hl.1 rfl (Nat.le_of_ble_eq_true rfl) (dd_at ddX10_rent 12 rfl) ⟨Nat.le_of_ble_eq_true rfl, Nat.le_of_ble_eq_true rfl⟩) (fun d_11 H locs h hw => ?_)
  refine lv_aload_n S.1 S.2.1 (dd_at ddX10_rent 13 rfl) rfl (lv_at hl 0 rfl) ?_
  obtain ⟨b_13, hb_14, ho_15, h⟩ := h
  refine r_getR S hw 10 5 rfl inG10 (by decide) (List.mem_cons_of_mem _ wg26) (by decide) ha0 hb_14 (dd_at ddX10_rent 14 rfl) ?_
  refine lv_iload_n S.1 S.2.1 (dd_at ddX10_rent 15 rfl) rfl (lv_at hl 1 rfl) ?_
  refine r_callI hw (r_runV (As := [.int p1]) (rest := []) S hw (m_X3_rentOf l D cs E d_11 H.size b_13 p1 _) (cwV 1 S.2.2.2.2 (gV wg960 wg961 wg962 wg25 wg963) rfl rfl rfl (by decide +kernel) ⟨Nat.le_of_ble_eq_true rfl, Nat.le_of_ble_eq_true rfl⟩) (ci := 3) rfl ho_15 h rfl hl.1 rfl (Nat.le_of_ble_eq_true rfl) (dd_at ddX10_rent 16 rfl) ⟨Nat.le_of_ble_eq_true rfl, Nat.le_of_ble_eq_true rfl⟩) (fun r_17 d_16 H locs h hw => ?_)
  exact vx_ret (e_I S hr hlocks hw h (dd_at ddX10_rent 17 rfl))

def w_X10_stays (E : En) (a0 : Nat) (p1 : Int32) (p2 : Int32) (d : Dy) (K : Int32 → Dy → Prop) : Prop := okO E a0 10 ∧ ∃ b_1 : Nat, eR E a0 5 = some b_1 ∧ okO E b_1 3 ∧ w_X3_holderOf E b_1 p1 d (fun r_5 d_4 => ((r_5 = (-1) → K 0 d_4) ∧ (¬ r_5 = (-1) → ∃ b_7 : Nat, eR E a0 0 = some b_7 ∧ okO E b_7 8 ∧ ∃ b_10 : Nat, eR E b_7 1 = some b_10 ∧ okO E b_10 6 ∧ w_X6_get E b_10 r_5 1 d_4 (fun r_14 d_13 => ((r_14 < p2 → K 0 d_13) ∧ (¬ r_14 < p2 → K 1 d_13))))))
abbrev rm_X10_stays : Room := { frames := 2, cells := 0, slots := 0, locals := 44 }
set_option maxRecDepth 100000 in
set_option maxHeartbeats 4000000 in
theorem m_X10_stays (l : Launch) (D : va_G) (cs : Nat → ClassId) (E : En) (d : Dy) (sz : Nat) (a0 : Nat) (p1 : Int32) (p2 : Int32) (K : Int32 → Dy → Prop) : CI l yX10_stays (.code yX10_stays cX10_stays 4 (some .boolean) :: wsL_law) rm_X10_stays D cs E d sz [.ref a0, .int p1, .int p2] (w_X10_stays E a0 p1 p2 d K) K := by
  refine e_of (cc := cX10_stays) (maxL := 4) (ret := (some .boolean)) (own := RX10) (by decide) rfl rfl (Nat.le_of_ble_eq_true rfl) ?_
  intro p e s m below meth c S hr hlocks hsz H locs hw h ls hl
  have hl : lv_has ls 4 [(0, .ref a0), (1, .int p1), (2, .int p2)] := hl
  unfold w_X10_stays at h
  obtain ⟨ha0, h⟩ := h
  refine lv_aload_n S.1 S.2.1 (dd_at ddX10_stays 0 rfl) rfl (lv_at hl 0 rfl) ?_
  obtain ⟨b_1, hb_2, ho_3, h⟩ := h
  refine r_getR S hw 10 5 rfl inG10 (by decide) (List.mem_cons_of_mem _ wg26) (by decide) ha0 hb_2 (dd_at ddX10_stays 1 rfl) ?_
  refine lv_iload_n S.1 S.2.1 (dd_at ddX10_stays 2 rfl) rfl (lv_at hl 1 rfl) ?_
  refine r_callI hw (r_runV (As := [.int p1]) (rest := []) S hw (m_X3_holderOf l D cs E d H.size b_1 p1 _) (cwV 1 S.2.2.2.2 (gV wg805 wg695 wg696 wg25 wg697) rfl rfl rfl (by decide +kernel) ⟨Nat.le_of_ble_eq_true rfl, Nat.le_of_ble_eq_true rfl⟩) (ci := 3) rfl ho_3 h rfl hl.1 rfl (Nat.le_of_ble_eq_true rfl) (dd_at ddX10_stays 3 rfl) ⟨Nat.le_of_ble_eq_true rfl, Nat.le_of_ble_eq_true rfl⟩) (fun r_5 d_4 H locs h hw => ?_)
  refine lv_istore_n (lv' := [(3, .int r_5), (0, .ref a0), (1, .int p1), (2, .int p2)]) S.1 S.2.1 (dd_at ddX10_stays 4 rfl) rfl hl (by decide) rfl (fun ls hl => ?_)
  refine lv_iload_n S.1 S.2.1 (dd_at ddX10_stays 5 rfl) rfl (lv_at hl 0 rfl) ?_
  refine lv_iconst (v := -1) S.1 S.2.1 (dd_at ddX10_stays 6 rfl) (by decide) ?_
  refine lv_icmp_eq (tgt := 34) S.1 S.2.1 (dd_at ddX10_stays 7 rfl) (by decide) (fun hc_6 => ?_) (fun hc_6 => ?_)
  · have h := h.1 hc_6
    refine lv_iconst (v := 0) S.1 S.2.1 (dd_at ddX10_stays 18 rfl) (by decide) ?_
    exact e_Z S hr hlocks hw (Or.inl rfl) h (dd_at ddX10_stays 19 rfl)
  · have h := h.2 hc_6
    refine lv_aload_n S.1 S.2.1 (dd_at ddX10_stays 8 rfl) rfl (lv_at hl 1 rfl) ?_
    obtain ⟨b_7, hb_8, ho_9, h⟩ := h
    refine r_getR S hw 10 0 rfl inG10 (by decide) (List.mem_cons_of_mem _ wg16) (by decide) ha0 hb_8 (dd_at ddX10_stays 9 rfl) ?_
    obtain ⟨b_10, hb_11, ho_12, h⟩ := h
    refine r_getRN S hw 8 1 rfl inG8 (by decide) nx3 (by decide) ho_9 hb_11 (dd_at ddX10_stays 10 rfl) ?_
    refine lv_iload_n S.1 S.2.1 (dd_at ddX10_stays 11 rfl) rfl (lv_at hl 0 rfl) ?_
    refine lv_iconst (v := 1) S.1 S.2.1 (dd_at ddX10_stays 12 rfl) (by decide) ?_
    refine r_callI hw (r_runV (As := [.int r_5, .int 1]) (rest := []) S hw (m_X6_get l D cs E d_4 H.size b_10 r_5 1 _) (cwV 2 S.2.2.2.2 (gV wg997 wg623 wg624 wg51 wg625) rfl rfl rfl (by decide +kernel) ⟨Nat.le_of_ble_eq_true rfl, Nat.le_of_ble_eq_true rfl⟩) (ci := 6) rfl ho_12 h rfl hl.1 rfl (Nat.le_of_ble_eq_true rfl) (dd_at ddX10_stays 13 rfl) ⟨Nat.le_of_ble_eq_true rfl, Nat.le_of_ble_eq_true rfl⟩) (fun r_14 d_13 H locs h hw => ?_)
    refine lv_iload_n S.1 S.2.1 (dd_at ddX10_stays 14 rfl) rfl (lv_at hl 3 rfl) ?_
    refine lv_icmp_lt (tgt := 34) S.1 S.2.1 (dd_at ddX10_stays 15 rfl) (by decide) (fun hc_15 => ?_) (fun hc_15 => ?_)
    · have h := h.1 hc_15
      refine lv_iconst (v := 0) S.1 S.2.1 (dd_at ddX10_stays 18 rfl) (by decide) ?_
      exact e_Z S hr hlocks hw (Or.inl rfl) h (dd_at ddX10_stays 19 rfl)
    · have h := h.2 hc_15
      refine lv_iconst (v := 1) S.1 S.2.1 (dd_at ddX10_stays 16 rfl) (by decide) ?_
      refine lv_goto (tgt := 35) S.1 S.2.1 (dd_at ddX10_stays 17 rfl) (by decide) ?_
      exact e_Z S hr hlocks hw (Or.inr rfl) h (dd_at ddX10_stays 19 rfl)

def b_X10_leaves_38 (E : En) (a0 : Nat) (p1 : Int32) (p2 : Int32) (K : Int32 → Dy → Prop) (X : String → Dy → Prop) (k38 : Int32 → Int32 → Dy → Prop) (v3 : Int32) (v4 : Int32) (d : Dy) : Prop := ∃ b_1 : Nat, eR E a0 0 = some b_1 ∧ okO E b_1 8 ∧ ∃ b_4 : Nat, eR E b_1 2 = some b_4 ∧ okO E b_4 6 ∧ w_X6_size E b_4 d (fun r_8 d_7 => ((r_8 ≤ v4 → K v3 d_7) ∧ (¬ r_8 ≤ v4 → ∃ b_10 : Nat, eR E a0 5 = some b_10 ∧ okO E b_10 3 ∧ w_X3_holderOf E b_10 v4 d_7 (fun r_14 d_13 => ((r_14 = (-1) → k38 v3 (v4 + 1) d_13) ∧ (¬ r_14 = (-1) → ∃ b_16 : Nat, eR E a0 5 = some b_16 ∧ okO E b_16 3 ∧ w_X3_rentOf E b_16 v4 d_13 (fun r_20 d_19 => w_X10_stays E a0 v4 (r_20 * p2) d_19 (fun r_22 d_21 => ((¬ r_22 = 0 → k38 v3 (v4 + 1) d_21) ∧ (r_22 = 0 → k38 (v3 ||| ((1 : Int32) <<< (v4 &&& 31))) (v4 + 1) d_21))))))))))
def l_X10_leaves_38 (E : En) (a0 : Nat) (p1 : Int32) (p2 : Int32) (K : Int32 → Dy → Prop) (X : String → Dy → Prop) : Nat → Int32 → Int32 → Dy → Prop
  | 0 => fun _ _ _ => False
  | n + 1 => b_X10_leaves_38 E a0 p1 p2 K X (l_X10_leaves_38 E a0 p1 p2 K X n)
def w_X10_leaves (E : En) (a0 : Nat) (p1 : Int32) (p2 : Int32) (d : Dy) (K : Int32 → Dy → Prop) (X : String → Dy → Prop) : Prop := okO E a0 10 ∧ w_X10_needYear E p1 d (fun d_24 => w_X10_needBetween E p2 1 9 d_24 (fun d_26 => ∃ b_28 : Nat, eR E a0 5 = some b_28 ∧ okO E b_28 3 ∧ ∃ b_31 : Nat, eR E a0 0 = some b_31 ∧ okO E b_31 8 ∧ w_X3_begin E b_28 (gI d_26 b_31 0) d_26 (fun d_34 => ∃ b_36 : Nat, eR E a0 5 = some b_36 ∧ okO E b_36 3 ∧ w_X3_goTo E b_36 p1 d_34 (fun d_39 => (∃ n_41 : Nat, l_X10_leaves_38 E a0 p1 p2 K X n_41 0 0 d_39)))) X) X
abbrev rm_X10_leaves : Room := { frames := 8, cells := 2, slots := 12, locals := 165 }
set_option maxRecDepth 100000 in
set_option maxHeartbeats 4000000 in
theorem m_X10_leaves (l : Launch) (hst : l.stackTraces = false) (D : va_G) (cs : Nat → ClassId) (E : En) (d : Dy) (sz : Nat) (a0 : Nat) (p1 : Int32) (p2 : Int32) (K : Int32 → Dy → Prop) (X : String → Dy → Prop) : XI l yX10_leaves (.code yX10_leaves cX10_leaves 5 (some .int) :: wsL_law) rm_X10_leaves D cs E d sz [.ref a0, .int p1, .int p2] (w_X10_leaves E a0 p1 p2 d K X) K X := by
  refine e_ofX (cc := cX10_leaves) (maxL := 5) (ret := (some .int)) (own := RX10) (by decide) rfl rfl (Nat.le_of_ble_eq_true rfl) ?_
  intro p e s m below meth c S hr hlocks hsz hT H locs hw h ls hl
  have hl : lv_has ls 5 [(0, .ref a0), (1, .int p1), (2, .int p2)] := hl
  unfold w_X10_leaves at h
  obtain ⟨ha0, h⟩ := h
  have tl38 : ∀ (n : Nat) (v3 : Int32) (v4 : Int32) (d : Dy) (H : Heap) (locs : List Loc) (ls : Array Slot), l_X10_leaves_38 E a0 p1 p2 K X n v3 v4 d → Wd D cs (AW E sz) s.heap s E d H locs → lv_has ls 5 [(0, .ref a0), (2, .int p2), (3, .int v3), (4, .int v4)] → W p l e rm_X10_leaves s m ([.ref a0, .int p1, .int p2] : List Value).toArray below meth c H locs 2 12 (vx_MQ below (va_Qi K (OutW D cs E (AW E sz)) (AW E sz)) (XX D cs E sz X) ([.ref a0, .int p1, .int p2] : List Value).toArray s rm_X10_leaves.cells rm_X10_leaves.slots (AW E sz)) (F0 m 38 ls []) := by
    intro n38
    induction n38 with
    | zero => intro v3 v4 d H locs ls h; exact absurd h id
    | succ n38 ih38 =>
      intro v3 v4 d H locs ls h hw hl
      have h : b_X10_leaves_38 E a0 p1 p2 K X (l_X10_leaves_38 E a0 p1 p2 K X n38) v3 v4 d := h
      unfold b_X10_leaves_38 at h
      refine lv_iload S.1 S.2.1 (dd_at ddX10_leaves 20 rfl) (lv_at hl 3 rfl) ?_
      refine lv_aload_n S.1 S.2.1 (dd_at ddX10_leaves 21 rfl) rfl (lv_at hl 0 rfl) ?_
      obtain ⟨b_1, hb_2, ho_3, h⟩ := h
      refine r_getR S hw 10 0 rfl inG10 (by decide) (List.mem_cons_of_mem _ wg16) (by decide) ha0 hb_2 (dd_at ddX10_leaves 22 rfl) ?_
      obtain ⟨b_4, hb_5, ho_6, h⟩ := h
      refine r_getRN S hw 8 2 rfl inG8 (by decide) nx7 (by decide) ho_3 hb_5 (dd_at ddX10_leaves 23 rfl) ?_
      refine r_callI hw (r_runV (As := []) (rest := [.int v4]) S hw (m_X6_size l D cs E d H.size b_4 _) (cwV 0 S.2.2.2.2 (gV wg578 wg372 wg373 wg51 wg374) rfl rfl rfl (by decide +kernel) ⟨Nat.le_of_ble_eq_true rfl, Nat.le_of_ble_eq_true rfl⟩) (ci := 6) rfl ho_6 h rfl hl.1 rfl (Nat.le_of_ble_eq_true rfl) (dd_at ddX10_leaves 24 rfl) ⟨Nat.le_of_ble_eq_true rfl, Nat.le_of_ble_eq_true rfl⟩) (fun r_8 d_7 H locs h hw => ?_)
      refine lv_icmp_ge (tgt := 99) S.1 S.2.1 (dd_at ddX10_leaves 25 rfl) (by decide) (fun hc_9 => ?_) (fun hc_9 => ?_)
      · have h := h.1 hc_9
        refine lv_iload_n S.1 S.2.1 (dd_at ddX10_leaves 50 rfl) rfl (lv_at hl 2 rfl) ?_
        exact vx_ret (e_I S hr hlocks hw h (dd_at ddX10_leaves 51 rfl))
      · have h := h.2 hc_9
        refine lv_aload_n S.1 S.2.1 (dd_at ddX10_leaves 26 rfl) rfl (lv_at hl 0 rfl) ?_
        obtain ⟨b_10, hb_11, ho_12, h⟩ := h
        refine r_getR S hw 10 5 rfl inG10 (by decide) (List.mem_cons_of_mem _ wg26) (by decide) ha0 hb_11 (dd_at ddX10_leaves 27 rfl) ?_
        refine lv_iload S.1 S.2.1 (dd_at ddX10_leaves 28 rfl) (lv_at hl 3 rfl) ?_
        refine r_callI hw (r_runV (As := [.int v4]) (rest := []) S hw (m_X3_holderOf l D cs E d_7 H.size b_10 v4 _) (cwV 1 S.2.2.2.2 (gV wg805 wg695 wg696 wg25 wg697) rfl rfl rfl (by decide +kernel) ⟨Nat.le_of_ble_eq_true rfl, Nat.le_of_ble_eq_true rfl⟩) (ci := 3) rfl ho_12 h rfl hl.1 rfl (Nat.le_of_ble_eq_true rfl) (dd_at ddX10_leaves 29 rfl) ⟨Nat.le_of_ble_eq_true rfl, Nat.le_of_ble_eq_true rfl⟩) (fun r_14 d_13 H locs h hw => ?_)
        refine lv_iconst (v := -1) S.1 S.2.1 (dd_at ddX10_leaves 30 rfl) (by decide) ?_
        refine lv_icmp_eq (tgt := 93) S.1 S.2.1 (dd_at ddX10_leaves 31 rfl) (by decide) (fun hc_15 => ?_) (fun hc_15 => ?_)
        · have h := h.1 hc_15
          refine lv_iinc (v := v4 + 1) (lv' := [(4, .int (v4 + 1)), (0, .ref a0), (2, .int p2), (3, .int v3)]) S.1 S.2.1 (dd_at ddX10_leaves 48 rfl) hl (k := 3) rfl rfl (by decide) rfl (fun ls hl => ?_)
          refine lv_goto (tgt := 38) S.1 S.2.1 (dd_at ddX10_leaves 49 rfl) (by decide) ?_
          exact ih38 v3 (v4 + 1) d_13 H locs ls h hw (lv_sub hl [1, 2, 3, 0] rfl)
        · have h := h.2 hc_15
          refine lv_aload_n S.1 S.2.1 (dd_at ddX10_leaves 32 rfl) rfl (lv_at hl 0 rfl) ?_
          refine lv_iload S.1 S.2.1 (dd_at ddX10_leaves 33 rfl) (lv_at hl 3 rfl) ?_
          refine lv_aload_n S.1 S.2.1 (dd_at ddX10_leaves 34 rfl) rfl (lv_at hl 0 rfl) ?_
          obtain ⟨b_16, hb_17, ho_18, h⟩ := h
          refine r_getR S hw 10 5 rfl inG10 (by decide) (List.mem_cons_of_mem _ wg26) (by decide) ha0 hb_17 (dd_at ddX10_leaves 35 rfl) ?_
          refine lv_iload S.1 S.2.1 (dd_at ddX10_leaves 36 rfl) (lv_at hl 3 rfl) ?_
          refine r_callI hw (r_runV (As := [.int v4]) (rest := [.int v4, .ref a0]) S hw (m_X3_rentOf l D cs E d_13 H.size b_16 v4 _) (cwV 1 S.2.2.2.2 (gV wg960 wg961 wg962 wg25 wg963) rfl rfl rfl (by decide +kernel) ⟨Nat.le_of_ble_eq_true rfl, Nat.le_of_ble_eq_true rfl⟩) (ci := 3) rfl ho_18 h rfl hl.1 rfl (Nat.le_of_ble_eq_true rfl) (dd_at ddX10_leaves 37 rfl) ⟨Nat.le_of_ble_eq_true rfl, Nat.le_of_ble_eq_true rfl⟩) (fun r_20 d_19 H locs h hw => ?_)
          refine lv_iload_n S.1 S.2.1 (dd_at ddX10_leaves 38 rfl) rfl (lv_at hl 1 rfl) ?_
          refine lv_imul S.1 S.2.1 (dd_at ddX10_leaves 39 rfl) ?_
          refine r_callI hw (r_runV (As := [.int v4, .int (r_20 * p2)]) (rest := []) S hw (m_X10_stays l D cs E d_19 H.size a0 v4 (r_20 * p2) _) (cwV 2 S.2.2.2.2 (gV wg993 wg994 wg995 wg2 wg996) rfl rfl rfl (by decide +kernel) ⟨Nat.le_of_ble_eq_true rfl, Nat.le_of_ble_eq_true rfl⟩) (ci := 10) rfl ha0 h rfl hl.1 rfl (Nat.le_of_ble_eq_true rfl) (dd_at ddX10_leaves 40 rfl) ⟨Nat.le_of_ble_eq_true rfl, Nat.le_of_ble_eq_true rfl⟩) (fun r_22 d_21 H locs h hw => ?_)
          refine lv_if_ne (tgt := 93) S.1 S.2.1 (dd_at ddX10_leaves 41 rfl) (by decide) (fun hc_23 => ?_) (fun hc_23 => ?_)
          · have h := h.1 hc_23
            refine lv_iinc (v := v4 + 1) (lv' := [(4, .int (v4 + 1)), (0, .ref a0), (2, .int p2), (3, .int v3)]) S.1 S.2.1 (dd_at ddX10_leaves 48 rfl) hl (k := 3) rfl rfl (by decide) rfl (fun ls hl => ?_)
            refine lv_goto (tgt := 38) S.1 S.2.1 (dd_at ddX10_leaves 49 rfl) (by decide) ?_
            exact ih38 v3 (v4 + 1) d_21 H locs ls h hw (lv_sub hl [1, 2, 3, 0] rfl)
          · have h := h.2 hc_23
            refine lv_iload_n S.1 S.2.1 (dd_at ddX10_leaves 42 rfl) rfl (lv_at hl 2 rfl) ?_
            refine lv_iconst (v := 1) S.1 S.2.1 (dd_at ddX10_leaves 43 rfl) (by decide) ?_
            refine lv_iload S.1 S.2.1 (dd_at ddX10_leaves 44 rfl) (lv_at hl 3 rfl) ?_
            refine lv_ishl S.1 S.2.1 (dd_at ddX10_leaves 45 rfl) ?_
            refine lv_ior S.1 S.2.1 (dd_at ddX10_leaves 46 rfl) ?_
            refine lv_istore_n (lv' := [(3, .int (v3 ||| ((1 : Int32) <<< (v4 &&& 31)))), (0, .ref a0), (2, .int p2), (4, .int v4)]) S.1 S.2.1 (dd_at ddX10_leaves 47 rfl) rfl hl (by decide) rfl (fun ls hl => ?_)
            refine lv_iinc (v := v4 + 1) (lv' := [(4, .int (v4 + 1)), (3, .int (v3 ||| ((1 : Int32) <<< (v4 &&& 31)))), (0, .ref a0), (2, .int p2)]) S.1 S.2.1 (dd_at ddX10_leaves 48 rfl) hl (k := 3) rfl rfl (by decide) rfl (fun ls hl => ?_)
            refine lv_goto (tgt := 38) S.1 S.2.1 (dd_at ddX10_leaves 49 rfl) (by decide) ?_
            exact ih38 (v3 ||| ((1 : Int32) <<< (v4 &&& 31))) (v4 + 1) d_21 H locs ls h hw (lv_sub hl [2, 3, 1, 0] rfl)
  refine lv_iload_n S.1 S.2.1 (dd_at ddX10_leaves 0 rfl) rfl (lv_at hl 1 rfl) ?_
  refine r_xcallV hT hlocks hw (r_xrunS (As := [.int p1]) (rest := []) S hw (m_X10_needYear l hst D cs E d H.size p1 _ _) (va_cwS 1 S.2.2.2.2 (gS wg607 wg608 wg2 wg609) rfl rfl rfl (by decide +kernel) ⟨Nat.le_of_ble_eq_true rfl, Nat.le_of_ble_eq_true rfl⟩) h rfl hl.1 rfl (Nat.le_of_ble_eq_true rfl) (dd_at ddX10_leaves 1 rfl) ⟨Nat.le_of_ble_eq_true rfl, Nat.le_of_ble_eq_true rfl⟩) (Nat.le_of_ble_eq_true rfl) (Nat.le_of_ble_eq_true rfl) (fun d_24 H locs h hw => ?_)
  refine lv_iload_n S.1 S.2.1 (dd_at ddX10_leaves 2 rfl) rfl (lv_at hl 2 rfl) ?_
  refine lv_iconst (v := 1) S.1 S.2.1 (dd_at ddX10_leaves 3 rfl) (by decide) ?_
  refine lv_bipush (v := 9) S.1 S.2.1 (dd_at ddX10_leaves 4 rfl) (by decide) ?_
  refine r_xcallV hT hlocks hw (r_xrunS (As := [.int p2, .int 1, .int 9]) (rest := []) S hw (m_X10_needBetween l hst D cs E d_24 H.size p2 1 9 _ _) (va_cwS 3 S.2.2.2.2 (gS wg525 wg526 wg2 wg527) rfl rfl rfl (by decide +kernel) ⟨Nat.le_of_ble_eq_true rfl, Nat.le_of_ble_eq_true rfl⟩) h rfl hl.1 rfl (Nat.le_of_ble_eq_true rfl) (dd_at ddX10_leaves 5 rfl) ⟨Nat.le_of_ble_eq_true rfl, Nat.le_of_ble_eq_true rfl⟩) (Nat.le_of_ble_eq_true rfl) (Nat.le_of_ble_eq_true rfl) (fun d_26 H locs h hw => ?_)
  refine lv_aload_n S.1 S.2.1 (dd_at ddX10_leaves 6 rfl) rfl (lv_at hl 0 rfl) ?_
  obtain ⟨b_28, hb_29, ho_30, h⟩ := h
  refine r_getR S hw 10 5 rfl inG10 (by decide) (List.mem_cons_of_mem _ wg26) (by decide) ha0 hb_29 (dd_at ddX10_leaves 7 rfl) ?_
  refine lv_aload_n S.1 S.2.1 (dd_at ddX10_leaves 8 rfl) rfl (lv_at hl 0 rfl) ?_
  obtain ⟨b_31, hb_32, ho_33, h⟩ := h
  refine r_getR S hw 10 0 rfl inG10 (by decide) (List.mem_cons_of_mem _ wg16) (by decide) ha0 hb_32 (dd_at ddX10_leaves 9 rfl) ?_
  refine r_getIN S hw 8 0 rfl inG8 (by decide) nx0 (by decide) ho_33 (dd_at ddX10_leaves 10 rfl) ?_
  refine r_callV hw (r_runV (As := [.int (gI d_26 b_31 0)]) (rest := []) S hw (m_X3_begin l D cs E d_26 H.size b_28 (gI d_26 b_31 0) _) (cwV 1 S.2.2.2.2 (gV wg661 wg662 wg663 wg25 wg664) rfl rfl rfl (by decide +kernel) ⟨Nat.le_of_ble_eq_true rfl, Nat.le_of_ble_eq_true rfl⟩) (ci := 3) rfl ho_30 h rfl hl.1 rfl (Nat.le_of_ble_eq_true rfl) (dd_at ddX10_leaves 11 rfl) ⟨Nat.le_of_ble_eq_true rfl, Nat.le_of_ble_eq_true rfl⟩) (fun d_34 H locs h hw => ?_)
  refine lv_aload_n S.1 S.2.1 (dd_at ddX10_leaves 12 rfl) rfl (lv_at hl 0 rfl) ?_
  obtain ⟨b_36, hb_37, ho_38, h⟩ := h
  refine r_getR S hw 10 5 rfl inG10 (by decide) (List.mem_cons_of_mem _ wg26) (by decide) ha0 hb_37 (dd_at ddX10_leaves 13 rfl) ?_
  refine lv_iload_n S.1 S.2.1 (dd_at ddX10_leaves 14 rfl) rfl (lv_at hl 1 rfl) ?_
  refine r_callV hw (r_runV (As := [.int p1]) (rest := []) S hw (m_X3_goTo l D cs E d_34 H.size b_36 p1 _) (cwV 1 S.2.2.2.2 (gV wg678 wg679 wg680 wg25 wg681) rfl rfl rfl (by decide +kernel) ⟨Nat.le_of_ble_eq_true rfl, Nat.le_of_ble_eq_true rfl⟩) (ci := 3) rfl ho_38 h rfl hl.1 rfl (Nat.le_of_ble_eq_true rfl) (dd_at ddX10_leaves 15 rfl) ⟨Nat.le_of_ble_eq_true rfl, Nat.le_of_ble_eq_true rfl⟩) (fun d_39 H locs h hw => ?_)
  refine lv_iconst (v := 0) S.1 S.2.1 (dd_at ddX10_leaves 16 rfl) (by decide) ?_
  refine lv_istore_n (lv' := [(3, .int 0), (0, .ref a0), (1, .int p1), (2, .int p2)]) S.1 S.2.1 (dd_at ddX10_leaves 17 rfl) rfl hl (by decide) rfl (fun ls hl => ?_)
  refine lv_iconst (v := 0) S.1 S.2.1 (dd_at ddX10_leaves 18 rfl) (by decide) ?_
  refine lv_istore (lv' := [(4, .int 0), (3, .int 0), (0, .ref a0), (1, .int p1), (2, .int p2)]) S.1 S.2.1 (dd_at ddX10_leaves 19 rfl) hl (by decide) rfl (fun ls hl => ?_)
  obtain ⟨n_41, h⟩ := h
  exact tl38 n_41 0 0 d_39 H locs ls h hw (lv_sub hl [2, 4, 1, 0] rfl)

def b_X10_income_96 (E : En) (a0 : Nat) (p1 : Int32) (p2 : Int32) (K : Int32 → Dy → Prop) (X : String → Dy → Prop) (k45 : Int32 → Int32 → Dy → Prop) (v3 : Int32) (v4 : Int32) (v5 : Int32) (d : Dy) : Prop := k45 (v3 + v5) (v4 + 1) d
def b_X10_income_45 (E : En) (a0 : Nat) (p1 : Int32) (p2 : Int32) (K : Int32 → Dy → Prop) (X : String → Dy → Prop) (k45 : Int32 → Int32 → Dy → Prop) (v3 : Int32) (v4 : Int32) (d : Dy) : Prop := ∃ b_1 : Nat, eR E a0 0 = some b_1 ∧ okO E b_1 8 ∧ ∃ b_4 : Nat, eR E b_1 2 = some b_4 ∧ okO E b_4 6 ∧ w_X6_size E b_4 d (fun r_8 d_7 => ((r_8 ≤ v4 → K v3 d_7) ∧ (¬ r_8 ≤ v4 → ∃ b_10 : Nat, eR E a0 5 = some b_10 ∧ okO E b_10 3 ∧ w_X3_rentOf E b_10 v4 d_7 (fun r_14 d_13 => w_X10_stays E a0 v4 (r_14 * p2) d_13 (fun r_16 d_15 => ((¬ r_16 = 0 → b_X10_income_96 E a0 p1 p2 K X k45 v3 v4 (r_14 * p2) d_15) ∧ (r_16 = 0 → ∃ b_18 : Nat, eR E a0 7 = some b_18 ∧ okO E b_18 1 ∧ w_X1_takes E b_18 (r_14 * p2) d_15 (fun r_22 d_21 => ((r_22 = 0 → k45 v3 (v4 + 1) d_21) ∧ (¬ r_22 = 0 → b_X10_income_96 E a0 p1 p2 K X k45 v3 v4 (r_14 * p2) d_21))))))))))
def l_X10_income_45 (E : En) (a0 : Nat) (p1 : Int32) (p2 : Int32) (K : Int32 → Dy → Prop) (X : String → Dy → Prop) : Nat → Int32 → Int32 → Dy → Prop
  | 0 => fun _ _ _ => False
  | n + 1 => b_X10_income_45 E a0 p1 p2 K X (l_X10_income_45 E a0 p1 p2 K X n)
def w_X10_income (E : En) (a0 : Nat) (p1 : Int32) (p2 : Int32) (d : Dy) (K : Int32 → Dy → Prop) (X : String → Dy → Prop) : Prop := okO E a0 10 ∧ w_X10_needYear E p1 d (fun d_24 => w_X10_needBetween E p2 1 9 d_24 (fun d_26 => ∃ b_28 : Nat, eR E a0 5 = some b_28 ∧ okO E b_28 3 ∧ ∃ b_31 : Nat, eR E a0 0 = some b_31 ∧ okO E b_31 8 ∧ w_X3_begin E b_28 (gI d_26 b_31 0) d_26 (fun d_34 => ∃ b_36 : Nat, eR E a0 5 = some b_36 ∧ okO E b_36 3 ∧ w_X3_goTo E b_36 p1 d_34 (fun d_39 => ∃ b_41 : Nat, eR E a0 7 = some b_41 ∧ okO E b_41 1 ∧ w_X1_lineUp E b_41 d_39 (fun d_44 => (∃ n_46 : Nat, l_X10_income_45 E a0 p1 p2 K X n_46 0 0 d_44))))) X) X
abbrev rm_X10_income : Room := { frames := 8, cells := 2, slots := 12, locals := 165 }
set_option maxRecDepth 100000 in
set_option maxHeartbeats 4000000 in
theorem m_X10_income (l : Launch) (hst : l.stackTraces = false) (D : va_G) (cs : Nat → ClassId) (E : En) (d : Dy) (sz : Nat) (a0 : Nat) (p1 : Int32) (p2 : Int32) (K : Int32 → Dy → Prop) (X : String → Dy → Prop) : XI l yX10_income (.code yX10_income cX10_income 6 (some .int) :: wsL_law) rm_X10_income D cs E d sz [.ref a0, .int p1, .int p2] (w_X10_income E a0 p1 p2 d K X) K X := by
  refine e_ofX (cc := cX10_income) (maxL := 6) (ret := (some .int)) (own := RX10) (by decide) rfl rfl (Nat.le_of_ble_eq_true rfl) ?_
  intro p e s m below meth c S hr hlocks hsz hT H locs hw h ls hl
  have hl : lv_has ls 6 [(0, .ref a0), (1, .int p1), (2, .int p2)] := hl
  unfold w_X10_income at h
  obtain ⟨ha0, h⟩ := h
  have tl45 : ∀ (n : Nat) (v3 : Int32) (v4 : Int32) (d : Dy) (H : Heap) (locs : List Loc) (ls : Array Slot), l_X10_income_45 E a0 p1 p2 K X n v3 v4 d → Wd D cs (AW E sz) s.heap s E d H locs → lv_has ls 6 [(0, .ref a0), (2, .int p2), (3, .int v3), (4, .int v4)] → W p l e rm_X10_income s m ([.ref a0, .int p1, .int p2] : List Value).toArray below meth c H locs 2 12 (vx_MQ below (va_Qi K (OutW D cs E (AW E sz)) (AW E sz)) (XX D cs E sz X) ([.ref a0, .int p1, .int p2] : List Value).toArray s rm_X10_income.cells rm_X10_income.slots (AW E sz)) (F0 m 45 ls []) := by
    intro n45
    induction n45 with
    | zero => intro v3 v4 d H locs ls h; exact absurd h id
    | succ n45 ih45 =>
      have tb96 : ∀ (v3 : Int32) (v4 : Int32) (v5 : Int32) (d : Dy) (H : Heap) (locs : List Loc) (ls : Array Slot), b_X10_income_96 E a0 p1 p2 K X (l_X10_income_45 E a0 p1 p2 K X n45) v3 v4 v5 d → Wd D cs (AW E sz) s.heap s E d H locs → lv_has ls 6 [(0, .ref a0), (2, .int p2), (3, .int v3), (4, .int v4), (5, .int v5)] → W p l e rm_X10_income s m ([.ref a0, .int p1, .int p2] : List Value).toArray below meth c H locs 2 12 (vx_MQ below (va_Qi K (OutW D cs E (AW E sz)) (AW E sz)) (XX D cs E sz X) ([.ref a0, .int p1, .int p2] : List Value).toArray s rm_X10_income.cells rm_X10_income.slots (AW E sz)) (F0 m 96 ls []) := by
        intro v3 v4 v5 d H locs ls h hw hl
        unfold b_X10_income_96 at h
        refine lv_iload_n S.1 S.2.1 (dd_at ddX10_income 46 rfl) rfl (lv_at hl 2 rfl) ?_
        refine lv_iload S.1 S.2.1 (dd_at ddX10_income 47 rfl) (lv_at hl 4 rfl) ?_
        refine lv_iadd S.1 S.2.1 (dd_at ddX10_income 48 rfl) ?_
        refine lv_istore_n (lv' := [(3, .int (v3 + v5)), (0, .ref a0), (2, .int p2), (4, .int v4), (5, .int v5)]) S.1 S.2.1 (dd_at ddX10_income 49 rfl) rfl hl (by decide) rfl (fun ls hl => ?_)
        refine lv_iinc (v := v4 + 1) (lv' := [(4, .int (v4 + 1)), (3, .int (v3 + v5)), (0, .ref a0), (2, .int p2), (5, .int v5)]) S.1 S.2.1 (dd_at ddX10_income 50 rfl) hl (k := 3) rfl rfl (by decide) rfl (fun ls hl => ?_)
        refine lv_goto (tgt := 45) S.1 S.2.1 (dd_at ddX10_income 51 rfl) (by decide) ?_
        exact ih45 (v3 + v5) (v4 + 1) d H locs ls h hw (lv_sub hl [2, 3, 1, 0] rfl)
      intro v3 v4 d H locs ls h hw hl
      have h : b_X10_income_45 E a0 p1 p2 K X (l_X10_income_45 E a0 p1 p2 K X n45) v3 v4 d := h
      unfold b_X10_income_45 at h
      refine lv_iload S.1 S.2.1 (dd_at ddX10_income 23 rfl) (lv_at hl 3 rfl) ?_
      refine lv_aload_n S.1 S.2.1 (dd_at ddX10_income 24 rfl) rfl (lv_at hl 0 rfl) ?_
      obtain ⟨b_1, hb_2, ho_3, h⟩ := h
      refine r_getR S hw 10 0 rfl inG10 (by decide) (List.mem_cons_of_mem _ wg16) (by decide) ha0 hb_2 (dd_at ddX10_income 25 rfl) ?_
      obtain ⟨b_4, hb_5, ho_6, h⟩ := h
      refine r_getRN S hw 8 2 rfl inG8 (by decide) nx7 (by decide) ho_3 hb_5 (dd_at ddX10_income 26 rfl) ?_
      refine r_callI hw (r_runV (As := []) (rest := [.int v4]) S hw (m_X6_size l D cs E d H.size b_4 _) (cwV 0 S.2.2.2.2 (gV wg578 wg372 wg373 wg51 wg374) rfl rfl rfl (by decide +kernel) ⟨Nat.le_of_ble_eq_true rfl, Nat.le_of_ble_eq_true rfl⟩) (ci := 6) rfl ho_6 h rfl hl.1 rfl (Nat.le_of_ble_eq_true rfl) (dd_at ddX10_income 27 rfl) ⟨Nat.le_of_ble_eq_true rfl, Nat.le_of_ble_eq_true rfl⟩) (fun r_8 d_7 H locs h hw => ?_)
      refine lv_icmp_ge (tgt := 107) S.1 S.2.1 (dd_at ddX10_income 28 rfl) (by decide) (fun hc_9 => ?_) (fun hc_9 => ?_)
      · have h := h.1 hc_9
        refine lv_iload_n S.1 S.2.1 (dd_at ddX10_income 52 rfl) rfl (lv_at hl 2 rfl) ?_
        exact vx_ret (e_I S hr hlocks hw h (dd_at ddX10_income 53 rfl))
      · have h := h.2 hc_9
        refine lv_aload_n S.1 S.2.1 (dd_at ddX10_income 29 rfl) rfl (lv_at hl 0 rfl) ?_
        obtain ⟨b_10, hb_11, ho_12, h⟩ := h
        refine r_getR S hw 10 5 rfl inG10 (by decide) (List.mem_cons_of_mem _ wg26) (by decide) ha0 hb_11 (dd_at ddX10_income 30 rfl) ?_
        refine lv_iload S.1 S.2.1 (dd_at ddX10_income 31 rfl) (lv_at hl 3 rfl) ?_
        refine r_callI hw (r_runV (As := [.int v4]) (rest := []) S hw (m_X3_rentOf l D cs E d_7 H.size b_10 v4 _) (cwV 1 S.2.2.2.2 (gV wg960 wg961 wg962 wg25 wg963) rfl rfl rfl (by decide +kernel) ⟨Nat.le_of_ble_eq_true rfl, Nat.le_of_ble_eq_true rfl⟩) (ci := 3) rfl ho_12 h rfl hl.1 rfl (Nat.le_of_ble_eq_true rfl) (dd_at ddX10_income 32 rfl) ⟨Nat.le_of_ble_eq_true rfl, Nat.le_of_ble_eq_true rfl⟩) (fun r_14 d_13 H locs h hw => ?_)
        refine lv_iload_n S.1 S.2.1 (dd_at ddX10_income 33 rfl) rfl (lv_at hl 1 rfl) ?_
        refine lv_imul S.1 S.2.1 (dd_at ddX10_income 34 rfl) ?_
        refine lv_istore (lv' := [(5, .int (r_14 * p2)), (0, .ref a0), (2, .int p2), (3, .int v3), (4, .int v4)]) S.1 S.2.1 (dd_at ddX10_income 35 rfl) hl (by decide) rfl (fun ls hl => ?_)
        refine lv_aload_n S.1 S.2.1 (dd_at ddX10_income 36 rfl) rfl (lv_at hl 1 rfl) ?_
        refine lv_iload S.1 S.2.1 (dd_at ddX10_income 37 rfl) (lv_at hl 4 rfl) ?_
        refine lv_iload S.1 S.2.1 (dd_at ddX10_income 38 rfl) (lv_at hl 0 rfl) ?_
        refine r_callI hw (r_runV (As := [.int v4, .int (r_14 * p2)]) (rest := []) S hw (m_X10_stays l D cs E d_13 H.size a0 v4 (r_14 * p2) _) (cwV 2 S.2.2.2.2 (gV wg993 wg994 wg995 wg2 wg996) rfl rfl rfl (by decide +kernel) ⟨Nat.le_of_ble_eq_true rfl, Nat.le_of_ble_eq_true rfl⟩) (ci := 10) rfl ha0 h rfl hl.1 rfl (Nat.le_of_ble_eq_true rfl) (dd_at ddX10_income 39 rfl) ⟨Nat.le_of_ble_eq_true rfl, Nat.le_of_ble_eq_true rfl⟩) (fun r_16 d_15 H locs h hw => ?_)
        refine lv_if_ne (tgt := 96) S.1 S.2.1 (dd_at ddX10_income 40 rfl) (by decide) (fun hc_17 => ?_) (fun hc_17 => ?_)
        · have h := h.1 hc_17
          exact tb96 v3 v4 (r_14 * p2) d_15 H locs ls h hw (lv_sub hl [1, 2, 3, 4, 0] rfl)
        · have h := h.2 hc_17
          refine lv_aload_n S.1 S.2.1 (dd_at ddX10_income 41 rfl) rfl (lv_at hl 1 rfl) ?_
          obtain ⟨b_18, hb_19, ho_20, h⟩ := h
          refine r_getR S hw 10 7 rfl inG10 (by decide) (List.mem_cons_of_mem _ wg31) (by decide) ha0 hb_19 (dd_at ddX10_income 42 rfl) ?_
          refine lv_iload S.1 S.2.1 (dd_at ddX10_income 43 rfl) (lv_at hl 0 rfl) ?_
          refine r_callI hw (r_runV (As := [.int (r_14 * p2)]) (rest := []) S hw (m_X1_takes l D cs E d_15 H.size b_18 (r_14 * p2) _) (cwV 1 S.2.2.2.2 (gV wg1038 wg1039 wg1040 wg30 wg1041) rfl rfl rfl (by decide +kernel) ⟨Nat.le_of_ble_eq_true rfl, Nat.le_of_ble_eq_true rfl⟩) (ci := 1) rfl ho_20 h rfl hl.1 rfl (Nat.le_of_ble_eq_true rfl) (dd_at ddX10_income 44 rfl) ⟨Nat.le_of_ble_eq_true rfl, Nat.le_of_ble_eq_true rfl⟩) (fun r_22 d_21 H locs h hw => ?_)
          refine lv_if_eq (tgt := 101) S.1 S.2.1 (dd_at ddX10_income 45 rfl) (by decide) (fun hc_23 => ?_) (fun hc_23 => ?_)
          · have h := h.1 hc_23
            refine lv_iinc (v := v4 + 1) (lv' := [(4, .int (v4 + 1)), (5, .int (r_14 * p2)), (0, .ref a0), (2, .int p2), (3, .int v3)]) S.1 S.2.1 (dd_at ddX10_income 50 rfl) hl (k := 4) rfl rfl (by decide) rfl (fun ls hl => ?_)
            refine lv_goto (tgt := 45) S.1 S.2.1 (dd_at ddX10_income 51 rfl) (by decide) ?_
            exact ih45 v3 (v4 + 1) d_21 H locs ls h hw (lv_sub hl [2, 3, 4, 0] rfl)
          · have h := h.2 hc_23
            exact tb96 v3 v4 (r_14 * p2) d_21 H locs ls h hw (lv_sub hl [1, 2, 3, 4, 0] rfl)
  refine lv_iload_n S.1 S.2.1 (dd_at ddX10_income 0 rfl) rfl (lv_at hl 1 rfl) ?_
  refine r_xcallV hT hlocks hw (r_xrunS (As := [.int p1]) (rest := []) S hw (m_X10_needYear l hst D cs E d H.size p1 _ _) (va_cwS 1 S.2.2.2.2 (gS wg607 wg608 wg2 wg609) rfl rfl rfl (by decide +kernel) ⟨Nat.le_of_ble_eq_true rfl, Nat.le_of_ble_eq_true rfl⟩) h rfl hl.1 rfl (Nat.le_of_ble_eq_true rfl) (dd_at ddX10_income 1 rfl) ⟨Nat.le_of_ble_eq_true rfl, Nat.le_of_ble_eq_true rfl⟩) (Nat.le_of_ble_eq_true rfl) (Nat.le_of_ble_eq_true rfl) (fun d_24 H locs h hw => ?_)
  refine lv_iload_n S.1 S.2.1 (dd_at ddX10_income 2 rfl) rfl (lv_at hl 2 rfl) ?_
  refine lv_iconst (v := 1) S.1 S.2.1 (dd_at ddX10_income 3 rfl) (by decide) ?_
  refine lv_bipush (v := 9) S.1 S.2.1 (dd_at ddX10_income 4 rfl) (by decide) ?_
  refine r_xcallV hT hlocks hw (r_xrunS (As := [.int p2, .int 1, .int 9]) (rest := []) S hw (m_X10_needBetween l hst D cs E d_24 H.size p2 1 9 _ _) (va_cwS 3 S.2.2.2.2 (gS wg525 wg526 wg2 wg527) rfl rfl rfl (by decide +kernel) ⟨Nat.le_of_ble_eq_true rfl, Nat.le_of_ble_eq_true rfl⟩) h rfl hl.1 rfl (Nat.le_of_ble_eq_true rfl) (dd_at ddX10_income 5 rfl) ⟨Nat.le_of_ble_eq_true rfl, Nat.le_of_ble_eq_true rfl⟩) (Nat.le_of_ble_eq_true rfl) (Nat.le_of_ble_eq_true rfl) (fun d_26 H locs h hw => ?_)
  refine lv_aload_n S.1 S.2.1 (dd_at ddX10_income 6 rfl) rfl (lv_at hl 0 rfl) ?_
  obtain ⟨b_28, hb_29, ho_30, h⟩ := h
  refine r_getR S hw 10 5 rfl inG10 (by decide) (List.mem_cons_of_mem _ wg26) (by decide) ha0 hb_29 (dd_at ddX10_income 7 rfl) ?_
  refine lv_aload_n S.1 S.2.1 (dd_at ddX10_income 8 rfl) rfl (lv_at hl 0 rfl) ?_
  obtain ⟨b_31, hb_32, ho_33, h⟩ := h
  refine r_getR S hw 10 0 rfl inG10 (by decide) (List.mem_cons_of_mem _ wg16) (by decide) ha0 hb_32 (dd_at ddX10_income 9 rfl) ?_
  refine r_getIN S hw 8 0 rfl inG8 (by decide) nx0 (by decide) ho_33 (dd_at ddX10_income 10 rfl) ?_
  refine r_callV hw (r_runV (As := [.int (gI d_26 b_31 0)]) (rest := []) S hw (m_X3_begin l D cs E d_26 H.size b_28 (gI d_26 b_31 0) _) (cwV 1 S.2.2.2.2 (gV wg661 wg662 wg663 wg25 wg664) rfl rfl rfl (by decide +kernel) ⟨Nat.le_of_ble_eq_true rfl, Nat.le_of_ble_eq_true rfl⟩) (ci := 3) rfl ho_30 h rfl hl.1 rfl (Nat.le_of_ble_eq_true rfl) (dd_at ddX10_income 11 rfl) ⟨Nat.le_of_ble_eq_true rfl, Nat.le_of_ble_eq_true rfl⟩) (fun d_34 H locs h hw => ?_)
  refine lv_aload_n S.1 S.2.1 (dd_at ddX10_income 12 rfl) rfl (lv_at hl 0 rfl) ?_
  obtain ⟨b_36, hb_37, ho_38, h⟩ := h
  refine r_getR S hw 10 5 rfl inG10 (by decide) (List.mem_cons_of_mem _ wg26) (by decide) ha0 hb_37 (dd_at ddX10_income 13 rfl) ?_
  refine lv_iload_n S.1 S.2.1 (dd_at ddX10_income 14 rfl) rfl (lv_at hl 1 rfl) ?_
  refine r_callV hw (r_runV (As := [.int p1]) (rest := []) S hw (m_X3_goTo l D cs E d_34 H.size b_36 p1 _) (cwV 1 S.2.2.2.2 (gV wg678 wg679 wg680 wg25 wg681) rfl rfl rfl (by decide +kernel) ⟨Nat.le_of_ble_eq_true rfl, Nat.le_of_ble_eq_true rfl⟩) (ci := 3) rfl ho_38 h rfl hl.1 rfl (Nat.le_of_ble_eq_true rfl) (dd_at ddX10_income 15 rfl) ⟨Nat.le_of_ble_eq_true rfl, Nat.le_of_ble_eq_true rfl⟩) (fun d_39 H locs h hw => ?_)
  refine lv_aload_n S.1 S.2.1 (dd_at ddX10_income 16 rfl) rfl (lv_at hl 0 rfl) ?_
  obtain ⟨b_41, hb_42, ho_43, h⟩ := h
  refine r_getR S hw 10 7 rfl inG10 (by decide) (List.mem_cons_of_mem _ wg31) (by decide) ha0 hb_42 (dd_at ddX10_income 17 rfl) ?_
  refine r_callV hw (r_runV (As := []) (rest := []) S hw (m_X1_lineUp l D cs E d_39 H.size b_41 _) (cwV 0 S.2.2.2.2 (gV wg1013 wg1014 wg1015 wg30 wg1016) rfl rfl rfl (by decide +kernel) ⟨Nat.le_of_ble_eq_true rfl, Nat.le_of_ble_eq_true rfl⟩) (ci := 1) rfl ho_43 h rfl hl.1 rfl (Nat.le_of_ble_eq_true rfl) (dd_at ddX10_income 18 rfl) ⟨Nat.le_of_ble_eq_true rfl, Nat.le_of_ble_eq_true rfl⟩) (fun d_44 H locs h hw => ?_)
  refine lv_iconst (v := 0) S.1 S.2.1 (dd_at ddX10_income 19 rfl) (by decide) ?_
  refine lv_istore_n (lv' := [(3, .int 0), (0, .ref a0), (1, .int p1), (2, .int p2)]) S.1 S.2.1 (dd_at ddX10_income 20 rfl) rfl hl (by decide) rfl (fun ls hl => ?_)
  refine lv_iconst (v := 0) S.1 S.2.1 (dd_at ddX10_income 21 rfl) (by decide) ?_
  refine lv_istore (lv' := [(4, .int 0), (3, .int 0), (0, .ref a0), (1, .int p1), (2, .int p2)]) S.1 S.2.1 (dd_at ddX10_income 22 rfl) hl (by decide) rfl (fun ls hl => ?_)
  obtain ⟨n_46, h⟩ := h
  exact tl45 n_46 0 0 d_44 H locs ls h hw (lv_sub hl [2, 4, 1, 0] rfl)

def b_X10_waits_11 (E : En) (a0 : Nat) (p1 : Int32) (p2 : Int32) (K : Int32 → Dy → Prop) (X : String → Dy → Prop) (k11 : Int32 → Dy → Prop) (v3 : Int32) (d : Dy) : Prop := ∃ b_1 : Nat, eR E a0 0 = some b_1 ∧ okO E b_1 8 ∧ ∃ b_4 : Nat, eR E b_1 4 = some b_4 ∧ okO E b_4 6 ∧ w_X6_size E b_4 d (fun r_8 d_7 => ((r_8 ≤ v3 → ∃ b_10 : Nat, eR E a0 0 = some b_10 ∧ okO E b_10 8 ∧ ∃ b_13 : Nat, eR E b_10 4 = some b_13 ∧ okO E b_13 6 ∧ w_X10_needRoom E b_13 d_7 (fun d_16 => ∃ b_18 : Nat, eR E a0 0 = some b_18 ∧ okO E b_18 8 ∧ ∃ b_21 : Nat, eR E b_18 4 = some b_21 ∧ okO E b_21 6 ∧ w_X6_open E b_21 d_16 (fun r_25 d_24 => ∃ b_26 : Nat, eR E a0 0 = some b_26 ∧ okO E b_26 8 ∧ ∃ b_29 : Nat, eR E b_26 4 = some b_29 ∧ okO E b_29 6 ∧ w_X6_set E b_29 r_25 0 p1 d_24 (fun d_32 => ∃ b_34 : Nat, eR E a0 0 = some b_34 ∧ okO E b_34 8 ∧ ∃ b_37 : Nat, eR E b_34 4 = some b_37 ∧ okO E b_37 6 ∧ w_X6_set E b_37 r_25 1 p2 d_32 (fun d_40 => ∃ b_42 : Nat, eR E a0 0 = some b_42 ∧ okO E b_42 8 ∧ ∃ b_45 : Nat, eR E b_42 4 = some b_45 ∧ okO E b_45 6 ∧ ∃ b_48 : Nat, eR E a0 0 = some b_48 ∧ okO E b_48 8 ∧ w_X6_set E b_45 r_25 2 (gI d_40 b_48 0) d_40 (fun d_51 => ∃ b_53 : Nat, eR E a0 0 = some b_53 ∧ okO E b_53 8 ∧ ∃ b_56 : Nat, eR E b_53 4 = some b_56 ∧ okO E b_56 6 ∧ w_X6_size E b_56 d_51 (fun r_60 d_59 => K r_60 d_59)))))) X) ∧ (¬ r_8 ≤ v3 → ∃ b_61 : Nat, eR E a0 0 = some b_61 ∧ okO E b_61 8 ∧ ∃ b_64 : Nat, eR E b_61 4 = some b_64 ∧ okO E b_64 6 ∧ w_X6_get E b_64 v3 0 d_7 (fun r_68 d_67 => ((r_68 = p1 → w_X10_need E 0 d_67 (fun _ => False) X) ∧ (¬ r_68 = p1 → k11 (v3 + 1) d_67))))))
def l_X10_waits_11 (E : En) (a0 : Nat) (p1 : Int32) (p2 : Int32) (K : Int32 → Dy → Prop) (X : String → Dy → Prop) : Nat → Int32 → Dy → Prop
  | 0 => fun _ _ => False
  | n + 1 => b_X10_waits_11 E a0 p1 p2 K X (l_X10_waits_11 E a0 p1 p2 K X n)
def w_X10_waits (E : En) (a0 : Nat) (p1 : Int32) (p2 : Int32) (d : Dy) (K : Int32 → Dy → Prop) (X : String → Dy → Prop) : Prop := okO E a0 10 ∧ w_X10_needPerson E a0 p1 d (fun d_72 => w_X10_needYear E p2 d_72 (fun d_74 => (∃ n_76 : Nat, l_X10_waits_11 E a0 p1 p2 K X n_76 0 d_74)) X) X
abbrev rm_X10_waits : Room := { frames := 8, cells := 4, slots := 24, locals := 142 }
set_option maxRecDepth 100000 in
set_option maxHeartbeats 4000000 in
theorem m_X10_waits (l : Launch) (hst : l.stackTraces = false) (D : va_G) (cs : Nat → ClassId) (E : En) (d : Dy) (sz : Nat) (a0 : Nat) (p1 : Int32) (p2 : Int32) (K : Int32 → Dy → Prop) (X : String → Dy → Prop) : XI l yX10_waits (.code yX10_waits cX10_waits 4 (some .int) :: wsL_law) rm_X10_waits D cs E d sz [.ref a0, .int p1, .int p2] (w_X10_waits E a0 p1 p2 d K X) K X := by
  refine e_ofX (cc := cX10_waits) (maxL := 4) (ret := (some .int)) (own := RX10) (by decide) rfl rfl (Nat.le_of_ble_eq_true rfl) ?_
  intro p e s m below meth c S hr hlocks hsz hT H locs hw h ls hl
  have hl : lv_has ls 4 [(0, .ref a0), (1, .int p1), (2, .int p2)] := hl
  unfold w_X10_waits at h
  obtain ⟨ha0, h⟩ := h
  have tl11 : ∀ (n : Nat) (v3 : Int32) (d : Dy) (H : Heap) (locs : List Loc) (ls : Array Slot), l_X10_waits_11 E a0 p1 p2 K X n v3 d → Wd D cs (AW E sz) s.heap s E d H locs → lv_has ls 4 [(0, .ref a0), (1, .int p1), (2, .int p2), (3, .int v3)] → W p l e rm_X10_waits s m ([.ref a0, .int p1, .int p2] : List Value).toArray below meth c H locs 2 12 (vx_MQ below (va_Qi K (OutW D cs E (AW E sz)) (AW E sz)) (XX D cs E sz X) ([.ref a0, .int p1, .int p2] : List Value).toArray s rm_X10_waits.cells rm_X10_waits.slots (AW E sz)) (F0 m 11 ls []) := by
    intro n11
    induction n11 with
    | zero => intro v3 d H locs ls h; exact absurd h id
    | succ n11 ih11 =>
      intro v3 d H locs ls h hw hl
      have h : b_X10_waits_11 E a0 p1 p2 K X (l_X10_waits_11 E a0 p1 p2 K X n11) v3 d := h
      unfold b_X10_waits_11 at h
      refine lv_iload_n S.1 S.2.1 (dd_at ddX10_waits 7 rfl) rfl (lv_at hl 3 rfl) ?_
      refine lv_aload_n S.1 S.2.1 (dd_at ddX10_waits 8 rfl) rfl (lv_at hl 0 rfl) ?_
      obtain ⟨b_1, hb_2, ho_3, h⟩ := h
      refine r_getR S hw 10 0 rfl inG10 (by decide) (List.mem_cons_of_mem _ wg16) (by decide) ha0 hb_2 (dd_at ddX10_waits 9 rfl) ?_
      obtain ⟨b_4, hb_5, ho_6, h⟩ := h
      refine r_getRN S hw 8 4 rfl inG8 (by decide) nx12 (by decide) ho_3 hb_5 (dd_at ddX10_waits 10 rfl) ?_
      refine r_callI hw (r_runV (As := []) (rest := [.int v3]) S hw (m_X6_size l D cs E d H.size b_4 _) (cwV 0 S.2.2.2.2 (gV wg578 wg372 wg373 wg51 wg374) rfl rfl rfl (by decide +kernel) ⟨Nat.le_of_ble_eq_true rfl, Nat.le_of_ble_eq_true rfl⟩) (ci := 6) rfl ho_6 h rfl hl.1 rfl (Nat.le_of_ble_eq_true rfl) (dd_at ddX10_waits 11 rfl) ⟨Nat.le_of_ble_eq_true rfl, Nat.le_of_ble_eq_true rfl⟩) (fun r_8 d_7 H locs h hw => ?_)
      refine lv_icmp_ge (tgt := 55) S.1 S.2.1 (dd_at ddX10_waits 12 rfl) (by decide) (fun hc_9 => ?_) (fun hc_9 => ?_)
      · have h := h.1 hc_9
        refine lv_aload_n S.1 S.2.1 (dd_at ddX10_waits 27 rfl) rfl (lv_at hl 0 rfl) ?_
        obtain ⟨b_10, hb_11, ho_12, h⟩ := h
        refine r_getR S hw 10 0 rfl inG10 (by decide) (List.mem_cons_of_mem _ wg16) (by decide) ha0 hb_11 (dd_at ddX10_waits 28 rfl) ?_
        obtain ⟨b_13, hb_14, ho_15, h⟩ := h
        refine r_getRN S hw 8 4 rfl inG8 (by decide) nx12 (by decide) ho_12 hb_14 (dd_at ddX10_waits 29 rfl) ?_
        refine r_xcallV hT hlocks hw (r_xrunS (As := [.ref b_13]) (rest := []) S hw (m_X10_needRoom l hst D cs E d_7 H.size b_13 _ _) (va_cwS 1 S.2.2.2.2 (gS wg540 wg541 wg2 wg542) rfl rfl rfl (by decide +kernel) ⟨Nat.le_of_ble_eq_true rfl, Nat.le_of_ble_eq_true rfl⟩) h rfl hl.1 rfl (Nat.le_of_ble_eq_true rfl) (dd_at ddX10_waits 30 rfl) ⟨Nat.le_of_ble_eq_true rfl, Nat.le_of_ble_eq_true rfl⟩) (Nat.le_of_ble_eq_true rfl) (Nat.le_of_ble_eq_true rfl) (fun d_16 H locs h hw => ?_)
        refine lv_aload_n S.1 S.2.1 (dd_at ddX10_waits 31 rfl) rfl (lv_at hl 0 rfl) ?_
        obtain ⟨b_18, hb_19, ho_20, h⟩ := h
        refine r_getR S hw 10 0 rfl inG10 (by decide) (List.mem_cons_of_mem _ wg16) (by decide) ha0 hb_19 (dd_at ddX10_waits 32 rfl) ?_
        obtain ⟨b_21, hb_22, ho_23, h⟩ := h
        refine r_getRN S hw 8 4 rfl inG8 (by decide) nx12 (by decide) ho_20 hb_22 (dd_at ddX10_waits 33 rfl) ?_
        refine r_callI hw (r_runV (As := []) (rest := []) S hw (m_X6_open l D cs E d_16 H.size b_21 _) (cwV 0 S.2.2.2.2 (gV wg549 wg310 wg311 wg51 wg312) rfl rfl rfl (by decide +kernel) ⟨Nat.le_of_ble_eq_true rfl, Nat.le_of_ble_eq_true rfl⟩) (ci := 6) rfl ho_23 h rfl hl.1 rfl (Nat.le_of_ble_eq_true rfl) (dd_at ddX10_waits 34 rfl) ⟨Nat.le_of_ble_eq_true rfl, Nat.le_of_ble_eq_true rfl⟩) (fun r_25 d_24 H locs h hw => ?_)
        refine lv_istore_n (lv' := [(3, .int r_25), (0, .ref a0), (1, .int p1), (2, .int p2)]) S.1 S.2.1 (dd_at ddX10_waits 35 rfl) rfl hl (by decide) rfl (fun ls hl => ?_)
        refine lv_aload_n S.1 S.2.1 (dd_at ddX10_waits 36 rfl) rfl (lv_at hl 1 rfl) ?_
        obtain ⟨b_26, hb_27, ho_28, h⟩ := h
        refine r_getR S hw 10 0 rfl inG10 (by decide) (List.mem_cons_of_mem _ wg16) (by decide) ha0 hb_27 (dd_at ddX10_waits 37 rfl) ?_
        obtain ⟨b_29, hb_30, ho_31, h⟩ := h
        refine r_getRN S hw 8 4 rfl inG8 (by decide) nx12 (by decide) ho_28 hb_30 (dd_at ddX10_waits 38 rfl) ?_
        refine lv_iload_n S.1 S.2.1 (dd_at ddX10_waits 39 rfl) rfl (lv_at hl 0 rfl) ?_
        refine lv_iconst (v := 0) S.1 S.2.1 (dd_at ddX10_waits 40 rfl) (by decide) ?_
        refine lv_iload_n S.1 S.2.1 (dd_at ddX10_waits 41 rfl) rfl (lv_at hl 2 rfl) ?_
        refine r_callV hw (r_runV (As := [.int r_25, .int 0, .int p1]) (rest := []) S hw (m_X6_set l D cs E d_24 H.size b_29 r_25 0 p1 _) (cwV 3 S.2.2.2.2 (gV wg550 wg318 wg319 wg51 wg320) rfl rfl rfl (by decide +kernel) ⟨Nat.le_of_ble_eq_true rfl, Nat.le_of_ble_eq_true rfl⟩) (ci := 6) rfl ho_31 h rfl hl.1 rfl (Nat.le_of_ble_eq_true rfl) (dd_at ddX10_waits 42 rfl) ⟨Nat.le_of_ble_eq_true rfl, Nat.le_of_ble_eq_true rfl⟩) (fun d_32 H locs h hw => ?_)
        refine lv_aload_n S.1 S.2.1 (dd_at ddX10_waits 43 rfl) rfl (lv_at hl 1 rfl) ?_
        obtain ⟨b_34, hb_35, ho_36, h⟩ := h
        refine r_getR S hw 10 0 rfl inG10 (by decide) (List.mem_cons_of_mem _ wg16) (by decide) ha0 hb_35 (dd_at ddX10_waits 44 rfl) ?_
        obtain ⟨b_37, hb_38, ho_39, h⟩ := h
        refine r_getRN S hw 8 4 rfl inG8 (by decide) nx12 (by decide) ho_36 hb_38 (dd_at ddX10_waits 45 rfl) ?_
        refine lv_iload_n S.1 S.2.1 (dd_at ddX10_waits 46 rfl) rfl (lv_at hl 0 rfl) ?_
        refine lv_iconst (v := 1) S.1 S.2.1 (dd_at ddX10_waits 47 rfl) (by decide) ?_
        refine lv_iload_n S.1 S.2.1 (dd_at ddX10_waits 48 rfl) rfl (lv_at hl 3 rfl) ?_
        refine r_callV hw (r_runV (As := [.int r_25, .int 1, .int p2]) (rest := []) S hw (m_X6_set l D cs E d_32 H.size b_37 r_25 1 p2 _) (cwV 3 S.2.2.2.2 (gV wg550 wg318 wg319 wg51 wg320) rfl rfl rfl (by decide +kernel) ⟨Nat.le_of_ble_eq_true rfl, Nat.le_of_ble_eq_true rfl⟩) (ci := 6) rfl ho_39 h rfl hl.1 rfl (Nat.le_of_ble_eq_true rfl) (dd_at ddX10_waits 49 rfl) ⟨Nat.le_of_ble_eq_true rfl, Nat.le_of_ble_eq_true rfl⟩) (fun d_40 H locs h hw => ?_)
        refine lv_aload_n S.1 S.2.1 (dd_at ddX10_waits 50 rfl) rfl (lv_at hl 1 rfl) ?_
        obtain ⟨b_42, hb_43, ho_44, h⟩ := h
        refine r_getR S hw 10 0 rfl inG10 (by decide) (List.mem_cons_of_mem _ wg16) (by decide) ha0 hb_43 (dd_at ddX10_waits 51 rfl) ?_
        obtain ⟨b_45, hb_46, ho_47, h⟩ := h
        refine r_getRN S hw 8 4 rfl inG8 (by decide) nx12 (by decide) ho_44 hb_46 (dd_at ddX10_waits 52 rfl) ?_
        refine lv_iload_n S.1 S.2.1 (dd_at ddX10_waits 53 rfl) rfl (lv_at hl 0 rfl) ?_
        refine lv_iconst (v := 2) S.1 S.2.1 (dd_at ddX10_waits 54 rfl) (by decide) ?_
        refine lv_aload_n S.1 S.2.1 (dd_at ddX10_waits 55 rfl) rfl (lv_at hl 1 rfl) ?_
        obtain ⟨b_48, hb_49, ho_50, h⟩ := h
        refine r_getR S hw 10 0 rfl inG10 (by decide) (List.mem_cons_of_mem _ wg16) (by decide) ha0 hb_49 (dd_at ddX10_waits 56 rfl) ?_
        refine r_getIN S hw 8 0 rfl inG8 (by decide) nx0 (by decide) ho_50 (dd_at ddX10_waits 57 rfl) ?_
        refine r_callV hw (r_runV (As := [.int r_25, .int 2, .int (gI d_40 b_48 0)]) (rest := []) S hw (m_X6_set l D cs E d_40 H.size b_45 r_25 2 (gI d_40 b_48 0) _) (cwV 3 S.2.2.2.2 (gV wg550 wg318 wg319 wg51 wg320) rfl rfl rfl (by decide +kernel) ⟨Nat.le_of_ble_eq_true rfl, Nat.le_of_ble_eq_true rfl⟩) (ci := 6) rfl ho_47 h rfl hl.1 rfl (Nat.le_of_ble_eq_true rfl) (dd_at ddX10_waits 58 rfl) ⟨Nat.le_of_ble_eq_true rfl, Nat.le_of_ble_eq_true rfl⟩) (fun d_51 H locs h hw => ?_)
        refine lv_aload_n S.1 S.2.1 (dd_at ddX10_waits 59 rfl) rfl (lv_at hl 1 rfl) ?_
        obtain ⟨b_53, hb_54, ho_55, h⟩ := h
        refine r_getR S hw 10 0 rfl inG10 (by decide) (List.mem_cons_of_mem _ wg16) (by decide) ha0 hb_54 (dd_at ddX10_waits 60 rfl) ?_
        obtain ⟨b_56, hb_57, ho_58, h⟩ := h
        refine r_getRN S hw 8 4 rfl inG8 (by decide) nx12 (by decide) ho_55 hb_57 (dd_at ddX10_waits 61 rfl) ?_
        refine r_callI hw (r_runV (As := []) (rest := []) S hw (m_X6_size l D cs E d_51 H.size b_56 _) (cwV 0 S.2.2.2.2 (gV wg578 wg372 wg373 wg51 wg374) rfl rfl rfl (by decide +kernel) ⟨Nat.le_of_ble_eq_true rfl, Nat.le_of_ble_eq_true rfl⟩) (ci := 6) rfl ho_58 h rfl hl.1 rfl (Nat.le_of_ble_eq_true rfl) (dd_at ddX10_waits 62 rfl) ⟨Nat.le_of_ble_eq_true rfl, Nat.le_of_ble_eq_true rfl⟩) (fun r_60 d_59 H locs h hw => ?_)
        refine W.widen (k := 4) (n := 24) (Nat.le_of_ble_eq_true rfl) (Nat.le_of_ble_eq_true rfl) ?_
        exact vx_ret (e_I S hr hlocks hw h (dd_at ddX10_waits 63 rfl))
      · have h := h.2 hc_9
        refine lv_aload_n S.1 S.2.1 (dd_at ddX10_waits 13 rfl) rfl (lv_at hl 0 rfl) ?_
        obtain ⟨b_61, hb_62, ho_63, h⟩ := h
        refine r_getR S hw 10 0 rfl inG10 (by decide) (List.mem_cons_of_mem _ wg16) (by decide) ha0 hb_62 (dd_at ddX10_waits 14 rfl) ?_
        obtain ⟨b_64, hb_65, ho_66, h⟩ := h
        refine r_getRN S hw 8 4 rfl inG8 (by decide) nx12 (by decide) ho_63 hb_65 (dd_at ddX10_waits 15 rfl) ?_
        refine lv_iload_n S.1 S.2.1 (dd_at ddX10_waits 16 rfl) rfl (lv_at hl 3 rfl) ?_
        refine lv_iconst (v := 0) S.1 S.2.1 (dd_at ddX10_waits 17 rfl) (by decide) ?_
        refine r_callI hw (r_runV (As := [.int v3, .int 0]) (rest := []) S hw (m_X6_get l D cs E d_7 H.size b_64 v3 0 _) (cwV 2 S.2.2.2.2 (gV wg997 wg623 wg624 wg51 wg625) rfl rfl rfl (by decide +kernel) ⟨Nat.le_of_ble_eq_true rfl, Nat.le_of_ble_eq_true rfl⟩) (ci := 6) rfl ho_66 h rfl hl.1 rfl (Nat.le_of_ble_eq_true rfl) (dd_at ddX10_waits 18 rfl) ⟨Nat.le_of_ble_eq_true rfl, Nat.le_of_ble_eq_true rfl⟩) (fun r_68 d_67 H locs h hw => ?_)
        refine lv_iload_n S.1 S.2.1 (dd_at ddX10_waits 19 rfl) rfl (lv_at hl 1 rfl) ?_
        refine lv_icmp_eq (tgt := 45) S.1 S.2.1 (dd_at ddX10_waits 20 rfl) (by decide) (fun hc_69 => ?_) (fun hc_69 => ?_)
        · have h := h.1 hc_69
          refine lv_iconst (v := 0) S.1 S.2.1 (dd_at ddX10_waits 23 rfl) (by decide) ?_
          refine r_xcallV hT hlocks hw (r_xrunS (As := [.int 0]) (rest := []) S hw (m_X10_need l hst D cs E d_67 H.size 0 _ _) (va_cwS 1 S.2.2.2.2 (gS wg361 wg362 wg2 wg363) rfl rfl rfl (by decide +kernel) ⟨Nat.le_of_ble_eq_true rfl, Nat.le_of_ble_eq_true rfl⟩) h rfl hl.1 rfl (Nat.le_of_ble_eq_true rfl) (dd_at ddX10_waits 24 rfl) ⟨Nat.le_of_ble_eq_true rfl, Nat.le_of_ble_eq_true rfl⟩) (Nat.le_of_ble_eq_true rfl) (Nat.le_of_ble_eq_true rfl) (fun _ _ _ h _ => absurd h id)
        · have h := h.2 hc_69
          refine lv_iconst (v := 1) S.1 S.2.1 (dd_at ddX10_waits 21 rfl) (by decide) ?_
          refine lv_goto (tgt := 46) S.1 S.2.1 (dd_at ddX10_waits 22 rfl) (by decide) ?_
          refine r_callV hw (r_runS (As := [.int 1]) (rest := []) S hw (m_X10_need1 l D cs E d_67 H.size (fun z => z = d_67)) (va_cwS 1 S.2.2.2.2 (gS wg361 wg362 wg2 wg363) rfl rfl rfl (by decide +kernel) ⟨Nat.le_of_ble_eq_true rfl, Nat.le_of_ble_eq_true rfl⟩) rfl rfl hl.1 rfl (Nat.le_of_ble_eq_true rfl) (dd_at ddX10_waits 24 rfl) ⟨Nat.le_of_ble_eq_true rfl, Nat.le_of_ble_eq_true rfl⟩) (fun d_71 H locs h9 hw => ?_)
          rw [h9] at hw
          refine lv_iinc (v := v3 + 1) (lv' := [(3, .int (v3 + 1)), (0, .ref a0), (1, .int p1), (2, .int p2)]) S.1 S.2.1 (dd_at ddX10_waits 25 rfl) hl (k := 3) rfl rfl (by decide) rfl (fun ls hl => ?_)
          refine lv_goto (tgt := 11) S.1 S.2.1 (dd_at ddX10_waits 26 rfl) (by decide) ?_
          exact ih11 (v3 + 1) d_67 H locs ls h hw (lv_sub hl [1, 2, 3, 0] rfl)
  refine lv_aload_n S.1 S.2.1 (dd_at ddX10_waits 0 rfl) rfl (lv_at hl 0 rfl) ?_
  refine lv_iload_n S.1 S.2.1 (dd_at ddX10_waits 1 rfl) rfl (lv_at hl 1 rfl) ?_
  refine r_xcallV hT hlocks hw (r_xrunV (As := [.int p1]) (rest := []) S hw (m_X10_needPerson l hst D cs E d H.size a0 p1 _ _) (cwV 1 S.2.2.2.2 (gV wg574 wg575 wg576 wg2 wg577) rfl rfl rfl (by decide +kernel) ⟨Nat.le_of_ble_eq_true rfl, Nat.le_of_ble_eq_true rfl⟩) (ci := 10) rfl ha0 h rfl hl.1 rfl (Nat.le_of_ble_eq_true rfl) (dd_at ddX10_waits 2 rfl) ⟨Nat.le_of_ble_eq_true rfl, Nat.le_of_ble_eq_true rfl⟩) (Nat.le_of_ble_eq_true rfl) (Nat.le_of_ble_eq_true rfl) (fun d_72 H locs h hw => ?_)
  refine lv_iload_n S.1 S.2.1 (dd_at ddX10_waits 3 rfl) rfl (lv_at hl 2 rfl) ?_
  refine r_xcallV hT hlocks hw (r_xrunS (As := [.int p2]) (rest := []) S hw (m_X10_needYear l hst D cs E d_72 H.size p2 _ _) (va_cwS 1 S.2.2.2.2 (gS wg607 wg608 wg2 wg609) rfl rfl rfl (by decide +kernel) ⟨Nat.le_of_ble_eq_true rfl, Nat.le_of_ble_eq_true rfl⟩) h rfl hl.1 rfl (Nat.le_of_ble_eq_true rfl) (dd_at ddX10_waits 4 rfl) ⟨Nat.le_of_ble_eq_true rfl, Nat.le_of_ble_eq_true rfl⟩) (Nat.le_of_ble_eq_true rfl) (Nat.le_of_ble_eq_true rfl) (fun d_74 H locs h hw => ?_)
  refine lv_iconst (v := 0) S.1 S.2.1 (dd_at ddX10_waits 5 rfl) (by decide) ?_
  refine lv_istore_n (lv' := [(3, .int 0), (0, .ref a0), (1, .int p1), (2, .int p2)]) S.1 S.2.1 (dd_at ddX10_waits 6 rfl) rfl hl (by decide) rfl (fun ls hl => ?_)
  obtain ⟨n_76, h⟩ := h
  exact tl11 n_76 0 d_74 H locs ls h hw (lv_sub hl [1, 2, 3, 0] rfl)

def w_X10_order (E : En) (a0 : Nat) (p1 : Int32) (p2 : Int32) (p3 : Int32) (d : Dy) (K : Int32 → Dy → Prop) (X : String → Dy → Prop) : Prop := okO E a0 10 ∧ w_X10_needYear E p2 d (fun d_1 => w_X10_needYear E p3 d_1 (fun d_3 => ∃ b_5 : Nat, eR E a0 5 = some b_5 ∧ okO E b_5 3 ∧ w_X3_begin E b_5 p3 d_3 (fun d_8 => ∃ b_10 : Nat, eR E a0 5 = some b_10 ∧ okO E b_10 3 ∧ w_X3_goTo E b_10 p2 d_8 (fun d_13 => ∃ b_15 : Nat, eR E a0 7 = some b_15 ∧ okO E b_15 1 ∧ w_X1_lineUp E b_15 d_13 (fun d_18 => ((1 ≤ p1 → ∃ b_21 : Nat, eR E a0 7 = some b_21 ∧ okO E b_21 1 ∧ w_X1_personAt E b_21 (p1 - 1) d_18 (fun r_25 d_24 => K r_25 d_24)) ∧ (¬ 1 ≤ p1 → K (-1) d_18)))))) X) X
abbrev rm_X10_order : Room := { frames := 7, cells := 2, slots := 12, locals := 165 }
set_option maxRecDepth 100000 in
set_option maxHeartbeats 4000000 in
theorem m_X10_order (l : Launch) (hst : l.stackTraces = false) (D : va_G) (cs : Nat → ClassId) (E : En) (d : Dy) (sz : Nat) (a0 : Nat) (p1 : Int32) (p2 : Int32) (p3 : Int32) (K : Int32 → Dy → Prop) (X : String → Dy → Prop) : XI l yX10_order (.code yX10_order cX10_order 4 (some .int) :: wsL_law) rm_X10_order D cs E d sz [.ref a0, .int p1, .int p2, .int p3] (w_X10_order E a0 p1 p2 p3 d K X) K X := by
  refine e_ofX (cc := cX10_order) (maxL := 4) (ret := (some .int)) (own := RX10) (by decide) rfl rfl (Nat.le_of_ble_eq_true rfl) ?_
  intro p e s m below meth c S hr hlocks hsz hT H locs hw h ls hl
  have hl : lv_has ls 4 [(0, .ref a0), (1, .int p1), (2, .int p2), (3, .int p3)] := hl
  unfold w_X10_order at h
  obtain ⟨ha0, h⟩ := h
  refine lv_iload_n S.1 S.2.1 (dd_at ddX10_order 0 rfl) rfl (lv_at hl 2 rfl) ?_
  refine r_xcallV hT hlocks hw (r_xrunS (As := [.int p2]) (rest := []) S hw (m_X10_needYear l hst D cs E d H.size p2 _ _) (va_cwS 1 S.2.2.2.2 (gS wg607 wg608 wg2 wg609) rfl rfl rfl (by decide +kernel) ⟨Nat.le_of_ble_eq_true rfl, Nat.le_of_ble_eq_true rfl⟩) h rfl hl.1 rfl (Nat.le_of_ble_eq_true rfl) (dd_at ddX10_order 1 rfl) ⟨Nat.le_of_ble_eq_true rfl, Nat.le_of_ble_eq_true rfl⟩) (Nat.le_of_ble_eq_true rfl) (Nat.le_of_ble_eq_true rfl) (fun d_1 H locs h hw => ?_)
  refine lv_iload_n S.1 S.2.1 (dd_at ddX10_order 2 rfl) rfl (lv_at hl 3 rfl) ?_
  refine r_xcallV hT hlocks hw (r_xrunS (As := [.int p3]) (rest := []) S hw (m_X10_needYear l hst D cs E d_1 H.size p3 _ _) (va_cwS 1 S.2.2.2.2 (gS wg607 wg608 wg2 wg609) rfl rfl rfl (by decide +kernel) ⟨Nat.le_of_ble_eq_true rfl, Nat.le_of_ble_eq_true rfl⟩) h rfl hl.1 rfl (Nat.le_of_ble_eq_true rfl) (dd_at ddX10_order 3 rfl) ⟨Nat.le_of_ble_eq_true rfl, Nat.le_of_ble_eq_true rfl⟩) (Nat.le_of_ble_eq_true rfl) (Nat.le_of_ble_eq_true rfl) (fun d_3 H locs h hw => ?_)
  refine lv_aload_n S.1 S.2.1 (dd_at ddX10_order 4 rfl) rfl (lv_at hl 0 rfl) ?_
  obtain ⟨b_5, hb_6, ho_7, h⟩ := h
  refine r_getR S hw 10 5 rfl inG10 (by decide) (List.mem_cons_of_mem _ wg26) (by decide) ha0 hb_6 (dd_at ddX10_order 5 rfl) ?_
  refine lv_iload_n S.1 S.2.1 (dd_at ddX10_order 6 rfl) rfl (lv_at hl 3 rfl) ?_
  refine r_callV hw (r_runV (As := [.int p3]) (rest := []) S hw (m_X3_begin l D cs E d_3 H.size b_5 p3 _) (cwV 1 S.2.2.2.2 (gV wg661 wg662 wg663 wg25 wg664) rfl rfl rfl (by decide +kernel) ⟨Nat.le_of_ble_eq_true rfl, Nat.le_of_ble_eq_true rfl⟩) (ci := 3) rfl ho_7 h rfl hl.1 rfl (Nat.le_of_ble_eq_true rfl) (dd_at ddX10_order 7 rfl) ⟨Nat.le_of_ble_eq_true rfl, Nat.le_of_ble_eq_true rfl⟩) (fun d_8 H locs h hw => ?_)
  refine lv_aload_n S.1 S.2.1 (dd_at ddX10_order 8 rfl) rfl (lv_at hl 0 rfl) ?_
  obtain ⟨b_10, hb_11, ho_12, h⟩ := h
  refine r_getR S hw 10 5 rfl inG10 (by decide) (List.mem_cons_of_mem _ wg26) (by decide) ha0 hb_11 (dd_at ddX10_order 9 rfl) ?_
  refine lv_iload_n S.1 S.2.1 (dd_at ddX10_order 10 rfl) rfl (lv_at hl 2 rfl) ?_
  refine r_callV hw (r_runV (As := [.int p2]) (rest := []) S hw (m_X3_goTo l D cs E d_8 H.size b_10 p2 _) (cwV 1 S.2.2.2.2 (gV wg678 wg679 wg680 wg25 wg681) rfl rfl rfl (by decide +kernel) ⟨Nat.le_of_ble_eq_true rfl, Nat.le_of_ble_eq_true rfl⟩) (ci := 3) rfl ho_12 h rfl hl.1 rfl (Nat.le_of_ble_eq_true rfl) (dd_at ddX10_order 11 rfl) ⟨Nat.le_of_ble_eq_true rfl, Nat.le_of_ble_eq_true rfl⟩) (fun d_13 H locs h hw => ?_)
  refine lv_aload_n S.1 S.2.1 (dd_at ddX10_order 12 rfl) rfl (lv_at hl 0 rfl) ?_
  obtain ⟨b_15, hb_16, ho_17, h⟩ := h
  refine r_getR S hw 10 7 rfl inG10 (by decide) (List.mem_cons_of_mem _ wg31) (by decide) ha0 hb_16 (dd_at ddX10_order 13 rfl) ?_
  refine r_callV hw (r_runV (As := []) (rest := []) S hw (m_X1_lineUp l D cs E d_13 H.size b_15 _) (cwV 0 S.2.2.2.2 (gV wg1013 wg1014 wg1015 wg30 wg1016) rfl rfl rfl (by decide +kernel) ⟨Nat.le_of_ble_eq_true rfl, Nat.le_of_ble_eq_true rfl⟩) (ci := 1) rfl ho_17 h rfl hl.1 rfl (Nat.le_of_ble_eq_true rfl) (dd_at ddX10_order 14 rfl) ⟨Nat.le_of_ble_eq_true rfl, Nat.le_of_ble_eq_true rfl⟩) (fun d_18 H locs h hw => ?_)
  refine lv_iload_n S.1 S.2.1 (dd_at ddX10_order 15 rfl) rfl (lv_at hl 1 rfl) ?_
  refine lv_iconst (v := 1) S.1 S.2.1 (dd_at ddX10_order 16 rfl) (by decide) ?_
  refine lv_icmp_ge (tgt := 40) S.1 S.2.1 (dd_at ddX10_order 17 rfl) (by decide) (fun hc_20 => ?_) (fun hc_20 => ?_)
  · have h := h.1 hc_20
    refine lv_aload_n S.1 S.2.1 (dd_at ddX10_order 20 rfl) rfl (lv_at hl 0 rfl) ?_
    obtain ⟨b_21, hb_22, ho_23, h⟩ := h
    refine r_getR S hw 10 7 rfl inG10 (by decide) (List.mem_cons_of_mem _ wg31) (by decide) ha0 hb_22 (dd_at ddX10_order 21 rfl) ?_
    refine lv_iload_n S.1 S.2.1 (dd_at ddX10_order 22 rfl) rfl (lv_at hl 1 rfl) ?_
    refine lv_iconst (v := 1) S.1 S.2.1 (dd_at ddX10_order 23 rfl) (by decide) ?_
    refine lv_isub S.1 S.2.1 (dd_at ddX10_order 24 rfl) ?_
    refine r_callI hw (r_runV (As := [.int (p1 - 1)]) (rest := []) S hw (m_X1_personAt l D cs E d_18 H.size b_21 (p1 - 1) _) (cwV 1 S.2.2.2.2 (gV wg1073 wg1074 wg1075 wg30 wg1076) rfl rfl rfl (by decide +kernel) ⟨Nat.le_of_ble_eq_true rfl, Nat.le_of_ble_eq_true rfl⟩) (ci := 1) rfl ho_23 h rfl hl.1 rfl (Nat.le_of_ble_eq_true rfl) (dd_at ddX10_order 25 rfl) ⟨Nat.le_of_ble_eq_true rfl, Nat.le_of_ble_eq_true rfl⟩) (fun r_25 d_24 H locs h hw => ?_)
    exact vx_ret (e_I S hr hlocks hw h (dd_at ddX10_order 26 rfl))
  · have h := h.2 hc_20
    refine lv_iconst (v := -1) S.1 S.2.1 (dd_at ddX10_order 18 rfl) (by decide) ?_
    refine lv_goto (tgt := 50) S.1 S.2.1 (dd_at ddX10_order 19 rfl) (by decide) ?_
    exact vx_ret (e_I S hr hlocks hw h (dd_at ddX10_order 26 rfl))

def w_X10_freed (E : En) (a0 : Nat) (p1 : Int32) (d : Dy) (K : Int32 → Dy → Prop) (X : String → Dy → Prop) : Prop := okO E a0 10 ∧ w_X10_needBetween E p1 0 9 d (fun d_1 => ∃ b_3 : Nat, eR E a0 0 = some b_3 ∧ okO E b_3 8 ∧ ∃ b_6 : Nat, eR E b_3 5 = some b_6 ∧ okO E b_6 6 ∧ w_X10_needRoom E b_6 d_1 (fun d_9 => ∃ b_11 : Nat, eR E a0 0 = some b_11 ∧ okO E b_11 8 ∧ ∃ b_14 : Nat, eR E b_11 5 = some b_14 ∧ okO E b_14 6 ∧ ∃ b_17 : Nat, eR E a0 0 = some b_17 ∧ okO E b_17 8 ∧ ∃ b_20 : Nat, eR E b_17 5 = some b_20 ∧ okO E b_20 6 ∧ w_X6_open E b_20 d_9 (fun r_24 d_23 => w_X6_set E b_14 r_24 0 p1 d_23 (fun d_25 => ∃ b_27 : Nat, eR E a0 0 = some b_27 ∧ okO E b_27 8 ∧ ∃ b_30 : Nat, eR E b_27 5 = some b_30 ∧ okO E b_30 6 ∧ w_X6_size E b_30 d_25 (fun r_34 d_33 => K r_34 d_33)))) X) X
abbrev rm_X10_freed : Room := { frames := 8, cells := 2, slots := 12, locals := 142 }
set_option maxRecDepth 100000 in
set_option maxHeartbeats 4000000 in
theorem m_X10_freed (l : Launch) (hst : l.stackTraces = false) (D : va_G) (cs : Nat → ClassId) (E : En) (d : Dy) (sz : Nat) (a0 : Nat) (p1 : Int32) (K : Int32 → Dy → Prop) (X : String → Dy → Prop) : XI l yX10_freed (.code yX10_freed cX10_freed 2 (some .int) :: wsL_law) rm_X10_freed D cs E d sz [.ref a0, .int p1] (w_X10_freed E a0 p1 d K X) K X := by
  refine e_ofX (cc := cX10_freed) (maxL := 2) (ret := (some .int)) (own := RX10) (by decide) rfl rfl (Nat.le_of_ble_eq_true rfl) ?_
  intro p e s m below meth c S hr hlocks hsz hT H locs hw h ls hl
  have hl : lv_has ls 2 [(0, .ref a0), (1, .int p1)] := hl
  unfold w_X10_freed at h
  obtain ⟨ha0, h⟩ := h
  refine lv_iload_n S.1 S.2.1 (dd_at ddX10_freed 0 rfl) rfl (lv_at hl 1 rfl) ?_
  refine lv_iconst (v := 0) S.1 S.2.1 (dd_at ddX10_freed 1 rfl) (by decide) ?_
  refine lv_bipush (v := 9) S.1 S.2.1 (dd_at ddX10_freed 2 rfl) (by decide) ?_
  refine r_xcallV hT hlocks hw (r_xrunS (As := [.int p1, .int 0, .int 9]) (rest := []) S hw (m_X10_needBetween l hst D cs E d H.size p1 0 9 _ _) (va_cwS 3 S.2.2.2.2 (gS wg525 wg526 wg2 wg527) rfl rfl rfl (by decide +kernel) ⟨Nat.le_of_ble_eq_true rfl, Nat.le_of_ble_eq_true rfl⟩) h rfl hl.1 rfl (Nat.le_of_ble_eq_true rfl) (dd_at ddX10_freed 3 rfl) ⟨Nat.le_of_ble_eq_true rfl, Nat.le_of_ble_eq_true rfl⟩) (Nat.le_of_ble_eq_true rfl) (Nat.le_of_ble_eq_true rfl) (fun d_1 H locs h hw => ?_)
  refine lv_aload_n S.1 S.2.1 (dd_at ddX10_freed 4 rfl) rfl (lv_at hl 0 rfl) ?_
  obtain ⟨b_3, hb_4, ho_5, h⟩ := h
  refine r_getR S hw 10 0 rfl inG10 (by decide) (List.mem_cons_of_mem _ wg16) (by decide) ha0 hb_4 (dd_at ddX10_freed 5 rfl) ?_
  obtain ⟨b_6, hb_7, ho_8, h⟩ := h
  refine r_getRN S hw 8 5 rfl inG8 (by decide) nx13 (by decide) ho_5 hb_7 (dd_at ddX10_freed 6 rfl) ?_
  refine r_xcallV hT hlocks hw (r_xrunS (As := [.ref b_6]) (rest := []) S hw (m_X10_needRoom l hst D cs E d_1 H.size b_6 _ _) (va_cwS 1 S.2.2.2.2 (gS wg540 wg541 wg2 wg542) rfl rfl rfl (by decide +kernel) ⟨Nat.le_of_ble_eq_true rfl, Nat.le_of_ble_eq_true rfl⟩) h rfl hl.1 rfl (Nat.le_of_ble_eq_true rfl) (dd_at ddX10_freed 7 rfl) ⟨Nat.le_of_ble_eq_true rfl, Nat.le_of_ble_eq_true rfl⟩) (Nat.le_of_ble_eq_true rfl) (Nat.le_of_ble_eq_true rfl) (fun d_9 H locs h hw => ?_)
  refine lv_aload_n S.1 S.2.1 (dd_at ddX10_freed 8 rfl) rfl (lv_at hl 0 rfl) ?_
  obtain ⟨b_11, hb_12, ho_13, h⟩ := h
  refine r_getR S hw 10 0 rfl inG10 (by decide) (List.mem_cons_of_mem _ wg16) (by decide) ha0 hb_12 (dd_at ddX10_freed 9 rfl) ?_
  obtain ⟨b_14, hb_15, ho_16, h⟩ := h
  refine r_getRN S hw 8 5 rfl inG8 (by decide) nx13 (by decide) ho_13 hb_15 (dd_at ddX10_freed 10 rfl) ?_
  refine lv_aload_n S.1 S.2.1 (dd_at ddX10_freed 11 rfl) rfl (lv_at hl 0 rfl) ?_
  obtain ⟨b_17, hb_18, ho_19, h⟩ := h
  refine r_getR S hw 10 0 rfl inG10 (by decide) (List.mem_cons_of_mem _ wg16) (by decide) ha0 hb_18 (dd_at ddX10_freed 12 rfl) ?_
  obtain ⟨b_20, hb_21, ho_22, h⟩ := h
  refine r_getRN S hw 8 5 rfl inG8 (by decide) nx13 (by decide) ho_19 hb_21 (dd_at ddX10_freed 13 rfl) ?_
  refine r_callI hw (r_runV (As := []) (rest := [.ref b_14]) S hw (m_X6_open l D cs E d_9 H.size b_20 _) (cwV 0 S.2.2.2.2 (gV wg549 wg310 wg311 wg51 wg312) rfl rfl rfl (by decide +kernel) ⟨Nat.le_of_ble_eq_true rfl, Nat.le_of_ble_eq_true rfl⟩) (ci := 6) rfl ho_22 h rfl hl.1 rfl (Nat.le_of_ble_eq_true rfl) (dd_at ddX10_freed 14 rfl) ⟨Nat.le_of_ble_eq_true rfl, Nat.le_of_ble_eq_true rfl⟩) (fun r_24 d_23 H locs h hw => ?_)
  refine lv_iconst (v := 0) S.1 S.2.1 (dd_at ddX10_freed 15 rfl) (by decide) ?_
  refine lv_iload_n S.1 S.2.1 (dd_at ddX10_freed 16 rfl) rfl (lv_at hl 1 rfl) ?_
  refine r_callV hw (r_runV (As := [.int r_24, .int 0, .int p1]) (rest := []) S hw (m_X6_set l D cs E d_23 H.size b_14 r_24 0 p1 _) (cwV 3 S.2.2.2.2 (gV wg550 wg318 wg319 wg51 wg320) rfl rfl rfl (by decide +kernel) ⟨Nat.le_of_ble_eq_true rfl, Nat.le_of_ble_eq_true rfl⟩) (ci := 6) rfl ho_16 h rfl hl.1 rfl (Nat.le_of_ble_eq_true rfl) (dd_at ddX10_freed 17 rfl) ⟨Nat.le_of_ble_eq_true rfl, Nat.le_of_ble_eq_true rfl⟩) (fun d_25 H locs h hw => ?_)
  refine lv_aload_n S.1 S.2.1 (dd_at ddX10_freed 18 rfl) rfl (lv_at hl 0 rfl) ?_
  obtain ⟨b_27, hb_28, ho_29, h⟩ := h
  refine r_getR S hw 10 0 rfl inG10 (by decide) (List.mem_cons_of_mem _ wg16) (by decide) ha0 hb_28 (dd_at ddX10_freed 19 rfl) ?_
  obtain ⟨b_30, hb_31, ho_32, h⟩ := h
  refine r_getRN S hw 8 5 rfl inG8 (by decide) nx13 (by decide) ho_29 hb_31 (dd_at ddX10_freed 20 rfl) ?_
  refine r_callI hw (r_runV (As := []) (rest := []) S hw (m_X6_size l D cs E d_25 H.size b_30 _) (cwV 0 S.2.2.2.2 (gV wg578 wg372 wg373 wg51 wg374) rfl rfl rfl (by decide +kernel) ⟨Nat.le_of_ble_eq_true rfl, Nat.le_of_ble_eq_true rfl⟩) (ci := 6) rfl ho_32 h rfl hl.1 rfl (Nat.le_of_ble_eq_true rfl) (dd_at ddX10_freed 21 rfl) ⟨Nat.le_of_ble_eq_true rfl, Nat.le_of_ble_eq_true rfl⟩) (fun r_34 d_33 H locs h hw => ?_)
  exact vx_ret (e_I S hr hlocks hw h (dd_at ddX10_freed 22 rfl))

def b_X10_howLong_23 (E : En) (a0 : Nat) (p1 : Int32) (p2 : Int32) (K : Int32 → Dy → Prop) (X : String → Dy → Prop) (k23 : Int32 → Int32 → Dy → Prop) (v3 : Int32) (v4 : Int32) (d : Dy) : Prop := ∃ b_1 : Nat, eR E a0 0 = some b_1 ∧ okO E b_1 8 ∧ ∃ b_4 : Nat, eR E b_1 5 = some b_4 ∧ okO E b_4 6 ∧ w_X6_size E b_4 d (fun r_8 d_7 => ((r_8 ≤ v4 → ((1 ≤ v3 → ¬ v3 = 0 ∧ K (((p1 + v3) - 1) / v3) d_7) ∧ (¬ 1 ≤ v3 → K (-1) d_7))) ∧ (¬ r_8 ≤ v4 → ∃ b_12 : Nat, eR E a0 0 = some b_12 ∧ okO E b_12 8 ∧ ∃ b_15 : Nat, eR E b_12 5 = some b_15 ∧ okO E b_15 6 ∧ w_X6_get E b_15 v4 0 d_7 (fun r_19 d_18 => ((p2 = 0 → k23 (if v3 < r_19 then r_19 else v3) (v4 + 1) d_18) ∧ (¬ p2 = 0 → k23 (if r_19 < v3 then r_19 else v3) (v4 + 1) d_18))))))
def l_X10_howLong_23 (E : En) (a0 : Nat) (p1 : Int32) (p2 : Int32) (K : Int32 → Dy → Prop) (X : String → Dy → Prop) : Nat → Int32 → Int32 → Dy → Prop
  | 0 => fun _ _ _ => False
  | n + 1 => b_X10_howLong_23 E a0 p1 p2 K X (l_X10_howLong_23 E a0 p1 p2 K X n)
def w_X10_howLong (E : En) (a0 : Nat) (p1 : Int32) (p2 : Int32) (d : Dy) (K : Int32 → Dy → Prop) (X : String → Dy → Prop) : Prop := okO E a0 10 ∧ w_X10_needBetween E p1 1 10 d (fun d_21 => ∃ b_23 : Nat, eR E a0 0 = some b_23 ∧ okO E b_23 8 ∧ ∃ b_26 : Nat, eR E b_23 5 = some b_26 ∧ okO E b_26 6 ∧ w_X6_get E b_26 0 0 d_21 (fun r_30 d_29 => (∃ n_31 : Nat, l_X10_howLong_23 E a0 p1 p2 K X n_31 r_30 1 d_29))) X
abbrev rm_X10_howLong : Room := { frames := 8, cells := 1, slots := 6, locals := 142 }
set_option maxRecDepth 100000 in
set_option maxHeartbeats 4000000 in
theorem m_X10_howLong (l : Launch) (hst : l.stackTraces = false) (D : va_G) (cs : Nat → ClassId) (E : En) (d : Dy) (sz : Nat) (a0 : Nat) (p1 : Int32) (p2 : Int32) (K : Int32 → Dy → Prop) (X : String → Dy → Prop) : XI l yX10_howLong (.code yX10_howLong cX10_howLong 6 (some .int) :: wsL_law) rm_X10_howLong D cs E d sz [.ref a0, .int p1, .int p2] (w_X10_howLong E a0 p1 p2 d K X) K X := by
  refine e_ofX (cc := cX10_howLong) (maxL := 6) (ret := (some .int)) (own := RX10) (by decide) rfl rfl (Nat.le_of_ble_eq_true rfl) ?_
  intro p e s m below meth c S hr hlocks hsz hT H locs hw h ls hl
  have hl : lv_has ls 6 [(0, .ref a0), (1, .int p1), (2, .int p2)] := hl
  unfold w_X10_howLong at h
  obtain ⟨ha0, h⟩ := h
  have tl23 : ∀ (n : Nat) (v3 : Int32) (v4 : Int32) (d : Dy) (H : Heap) (locs : List Loc) (ls : Array Slot), l_X10_howLong_23 E a0 p1 p2 K X n v3 v4 d → Wd D cs (AW E sz) s.heap s E d H locs → lv_has ls 6 [(0, .ref a0), (1, .int p1), (2, .int p2), (3, .int v3), (4, .int v4)] → W p l e rm_X10_howLong s m ([.ref a0, .int p1, .int p2] : List Value).toArray below meth c H locs 1 6 (vx_MQ below (va_Qi K (OutW D cs E (AW E sz)) (AW E sz)) (XX D cs E sz X) ([.ref a0, .int p1, .int p2] : List Value).toArray s rm_X10_howLong.cells rm_X10_howLong.slots (AW E sz)) (F0 m 23 ls []) := by
    intro n23
    induction n23 with
    | zero => intro v3 v4 d H locs ls h; exact absurd h id
    | succ n23 ih23 =>
      intro v3 v4 d H locs ls h hw hl
      have h : b_X10_howLong_23 E a0 p1 p2 K X (l_X10_howLong_23 E a0 p1 p2 K X n23) v3 v4 d := h
      unfold b_X10_howLong_23 at h
      refine lv_iload S.1 S.2.1 (dd_at ddX10_howLong 13 rfl) (lv_at hl 4 rfl) ?_
      refine lv_aload_n S.1 S.2.1 (dd_at ddX10_howLong 14 rfl) rfl (lv_at hl 0 rfl) ?_
      obtain ⟨b_1, hb_2, ho_3, h⟩ := h
      refine r_getR S hw 10 0 rfl inG10 (by decide) (List.mem_cons_of_mem _ wg16) (by decide) ha0 hb_2 (dd_at ddX10_howLong 15 rfl) ?_
      obtain ⟨b_4, hb_5, ho_6, h⟩ := h
      refine r_getRN S hw 8 5 rfl inG8 (by decide) nx13 (by decide) ho_3 hb_5 (dd_at ddX10_howLong 16 rfl) ?_
      refine r_callI hw (r_runV (As := []) (rest := [.int v4]) S hw (m_X6_size l D cs E d H.size b_4 _) (cwV 0 S.2.2.2.2 (gV wg578 wg372 wg373 wg51 wg374) rfl rfl rfl (by decide +kernel) ⟨Nat.le_of_ble_eq_true rfl, Nat.le_of_ble_eq_true rfl⟩) (ci := 6) rfl ho_6 h rfl hl.1 rfl (Nat.le_of_ble_eq_true rfl) (dd_at ddX10_howLong 17 rfl) ⟨Nat.le_of_ble_eq_true rfl, Nat.le_of_ble_eq_true rfl⟩) (fun r_8 d_7 H locs h hw => ?_)
      refine lv_icmp_ge (tgt := 79) S.1 S.2.1 (dd_at ddX10_howLong 18 rfl) (by decide) (fun hc_9 => ?_) (fun hc_9 => ?_)
      · have h := h.1 hc_9
        refine lv_iload_n S.1 S.2.1 (dd_at ddX10_howLong 38 rfl) rfl (lv_at hl 3 rfl) ?_
        refine lv_iconst (v := 1) S.1 S.2.1 (dd_at ddX10_howLong 39 rfl) (by decide) ?_
        refine lv_icmp_ge (tgt := 88) S.1 S.2.1 (dd_at ddX10_howLong 40 rfl) (by decide) (fun hc_10 => ?_) (fun hc_10 => ?_)
        · have h := h.1 hc_10
          refine lv_iload_n S.1 S.2.1 (dd_at ddX10_howLong 43 rfl) rfl (lv_at hl 1 rfl) ?_
          refine lv_iload_n S.1 S.2.1 (dd_at ddX10_howLong 44 rfl) rfl (lv_at hl 3 rfl) ?_
          refine lv_iadd S.1 S.2.1 (dd_at ddX10_howLong 45 rfl) ?_
          refine lv_iconst (v := 1) S.1 S.2.1 (dd_at ddX10_howLong 46 rfl) (by decide) ?_
          refine lv_isub S.1 S.2.1 (dd_at ddX10_howLong 47 rfl) ?_
          refine lv_iload_n S.1 S.2.1 (dd_at ddX10_howLong 48 rfl) rfl (lv_at hl 3 rfl) ?_
          obtain ⟨hz_11, h⟩ := h
          refine lv_idiv S.1 S.2.1 (dd_at ddX10_howLong 49 rfl) hz_11 ?_
          exact vx_ret (e_I S hr hlocks hw h (dd_at ddX10_howLong 50 rfl))
        · have h := h.2 hc_10
          refine lv_iconst (v := -1) S.1 S.2.1 (dd_at ddX10_howLong 41 rfl) (by decide) ?_
          refine lv_goto (tgt := 95) S.1 S.2.1 (dd_at ddX10_howLong 42 rfl) (by decide) ?_
          exact vx_ret (e_I S hr hlocks hw h (dd_at ddX10_howLong 50 rfl))
      · have h := h.2 hc_9
        refine lv_aload_n S.1 S.2.1 (dd_at ddX10_howLong 19 rfl) rfl (lv_at hl 0 rfl) ?_
        obtain ⟨b_12, hb_13, ho_14, h⟩ := h
        refine r_getR S hw 10 0 rfl inG10 (by decide) (List.mem_cons_of_mem _ wg16) (by decide) ha0 hb_13 (dd_at ddX10_howLong 20 rfl) ?_
        obtain ⟨b_15, hb_16, ho_17, h⟩ := h
        refine r_getRN S hw 8 5 rfl inG8 (by decide) nx13 (by decide) ho_14 hb_16 (dd_at ddX10_howLong 21 rfl) ?_
        refine lv_iload S.1 S.2.1 (dd_at ddX10_howLong 22 rfl) (lv_at hl 4 rfl) ?_
        refine lv_iconst (v := 0) S.1 S.2.1 (dd_at ddX10_howLong 23 rfl) (by decide) ?_
        refine r_callI hw (r_runV (As := [.int v4, .int 0]) (rest := []) S hw (m_X6_get l D cs E d_7 H.size b_15 v4 0 _) (cwV 2 S.2.2.2.2 (gV wg997 wg623 wg624 wg51 wg625) rfl rfl rfl (by decide +kernel) ⟨Nat.le_of_ble_eq_true rfl, Nat.le_of_ble_eq_true rfl⟩) (ci := 6) rfl ho_17 h rfl hl.1 rfl (Nat.le_of_ble_eq_true rfl) (dd_at ddX10_howLong 24 rfl) ⟨Nat.le_of_ble_eq_true rfl, Nat.le_of_ble_eq_true rfl⟩) (fun r_19 d_18 H locs h hw => ?_)
        refine lv_istore (lv' := [(5, .int r_19), (0, .ref a0), (1, .int p1), (2, .int p2), (3, .int v3), (4, .int v4)]) S.1 S.2.1 (dd_at ddX10_howLong 25 rfl) hl (by decide) rfl (fun ls hl => ?_)
        refine lv_iload_n S.1 S.2.1 (dd_at ddX10_howLong 26 rfl) rfl (lv_at hl 3 rfl) ?_
        refine lv_if_eq (tgt := 66) S.1 S.2.1 (dd_at ddX10_howLong 27 rfl) (by decide) (fun hc_20 => ?_) (fun hc_20 => ?_)
        · have h := h.1 hc_20
          refine lv_iload_n S.1 S.2.1 (dd_at ddX10_howLong 32 rfl) rfl (lv_at hl 4 rfl) ?_
          refine lv_iload S.1 S.2.1 (dd_at ddX10_howLong 33 rfl) (lv_at hl 0 rfl) ?_
          refine va_mmax S.1 S.2.1 (by rw [hl.1]; exact S.2.2.1) S.2.2.2.1 (S.2.2.2.2 _ (List.mem_cons_of_mem _ wg1100)) (S.2.2.2.2 _ (List.mem_cons_of_mem _ wg69)) (S.2.2.2.2 _ (List.mem_cons_of_mem _ wg70)) (S.2.2.2.2 _ (List.mem_cons_of_mem _ wg71)) (Nat.le_of_ble_eq_true rfl) (Nat.le_of_ble_eq_true rfl) (Nat.le_of_ble_eq_true rfl) (Nat.le_of_ble_eq_true rfl) (dd_at ddX10_howLong 34 rfl) ?_
          refine lv_istore_n (lv' := [(3, .int (if v3 < r_19 then r_19 else v3)), (5, .int r_19), (0, .ref a0), (1, .int p1), (2, .int p2), (4, .int v4)]) S.1 S.2.1 (dd_at ddX10_howLong 35 rfl) rfl hl (by decide) rfl (fun ls hl => ?_)
          refine lv_iinc (v := v4 + 1) (lv' := [(4, .int (v4 + 1)), (3, .int (if v3 < r_19 then r_19 else v3)), (5, .int r_19), (0, .ref a0), (1, .int p1), (2, .int p2)]) S.1 S.2.1 (dd_at ddX10_howLong 36 rfl) hl (k := 5) rfl rfl (by decide) rfl (fun ls hl => ?_)
          refine lv_goto (tgt := 23) S.1 S.2.1 (dd_at ddX10_howLong 37 rfl) (by decide) ?_
          exact ih23 (if v3 < r_19 then r_19 else v3) (v4 + 1) d_18 H locs ls h hw (lv_sub hl [3, 4, 5, 1, 0] rfl)
        · have h := h.2 hc_20
          refine lv_iload_n S.1 S.2.1 (dd_at ddX10_howLong 28 rfl) rfl (lv_at hl 4 rfl) ?_
          refine lv_iload S.1 S.2.1 (dd_at ddX10_howLong 29 rfl) (lv_at hl 0 rfl) ?_
          refine va_mmin S.1 S.2.1 (by rw [hl.1]; exact S.2.2.1) S.2.2.2.1 (S.2.2.2.2 _ (List.mem_cons_of_mem _ wg1099)) (S.2.2.2.2 _ (List.mem_cons_of_mem _ wg212)) (S.2.2.2.2 _ (List.mem_cons_of_mem _ wg70)) (S.2.2.2.2 _ (List.mem_cons_of_mem _ wg213)) (Nat.le_of_ble_eq_true rfl) (Nat.le_of_ble_eq_true rfl) (Nat.le_of_ble_eq_true rfl) (Nat.le_of_ble_eq_true rfl) (dd_at ddX10_howLong 30 rfl) ?_
          refine lv_goto (tgt := 72) S.1 S.2.1 (dd_at ddX10_howLong 31 rfl) (by decide) ?_
          refine lv_istore_n (lv' := [(3, .int (if r_19 < v3 then r_19 else v3)), (5, .int r_19), (0, .ref a0), (1, .int p1), (2, .int p2), (4, .int v4)]) S.1 S.2.1 (dd_at ddX10_howLong 35 rfl) rfl hl (by decide) rfl (fun ls hl => ?_)
          refine lv_iinc (v := v4 + 1) (lv' := [(4, .int (v4 + 1)), (3, .int (if r_19 < v3 then r_19 else v3)), (5, .int r_19), (0, .ref a0), (1, .int p1), (2, .int p2)]) S.1 S.2.1 (dd_at ddX10_howLong 36 rfl) hl (k := 5) rfl rfl (by decide) rfl (fun ls hl => ?_)
          refine lv_goto (tgt := 23) S.1 S.2.1 (dd_at ddX10_howLong 37 rfl) (by decide) ?_
          exact ih23 (if r_19 < v3 then r_19 else v3) (v4 + 1) d_18 H locs ls h hw (lv_sub hl [3, 4, 5, 1, 0] rfl)
  refine lv_iload_n S.1 S.2.1 (dd_at ddX10_howLong 0 rfl) rfl (lv_at hl 1 rfl) ?_
  refine lv_iconst (v := 1) S.1 S.2.1 (dd_at ddX10_howLong 1 rfl) (by decide) ?_
  refine lv_bipush (v := 10) S.1 S.2.1 (dd_at ddX10_howLong 2 rfl) (by decide) ?_
  refine r_xcallV hT hlocks hw (r_xrunS (As := [.int p1, .int 1, .int 10]) (rest := []) S hw (m_X10_needBetween l hst D cs E d H.size p1 1 10 _ _) (va_cwS 3 S.2.2.2.2 (gS wg525 wg526 wg2 wg527) rfl rfl rfl (by decide +kernel) ⟨Nat.le_of_ble_eq_true rfl, Nat.le_of_ble_eq_true rfl⟩) h rfl hl.1 rfl (Nat.le_of_ble_eq_true rfl) (dd_at ddX10_howLong 3 rfl) ⟨Nat.le_of_ble_eq_true rfl, Nat.le_of_ble_eq_true rfl⟩) (Nat.le_of_ble_eq_true rfl) (Nat.le_of_ble_eq_true rfl) (fun d_21 H locs h hw => ?_)
  refine lv_aload_n S.1 S.2.1 (dd_at ddX10_howLong 4 rfl) rfl (lv_at hl 0 rfl) ?_
  obtain ⟨b_23, hb_24, ho_25, h⟩ := h
  refine r_getR S hw 10 0 rfl inG10 (by decide) (List.mem_cons_of_mem _ wg16) (by decide) ha0 hb_24 (dd_at ddX10_howLong 5 rfl) ?_
  obtain ⟨b_26, hb_27, ho_28, h⟩ := h
  refine r_getRN S hw 8 5 rfl inG8 (by decide) nx13 (by decide) ho_25 hb_27 (dd_at ddX10_howLong 6 rfl) ?_
  refine lv_iconst (v := 0) S.1 S.2.1 (dd_at ddX10_howLong 7 rfl) (by decide) ?_
  refine lv_iconst (v := 0) S.1 S.2.1 (dd_at ddX10_howLong 8 rfl) (by decide) ?_
  refine r_callI hw (r_runV (As := [.int 0, .int 0]) (rest := []) S hw (m_X6_get l D cs E d_21 H.size b_26 0 0 _) (cwV 2 S.2.2.2.2 (gV wg997 wg623 wg624 wg51 wg625) rfl rfl rfl (by decide +kernel) ⟨Nat.le_of_ble_eq_true rfl, Nat.le_of_ble_eq_true rfl⟩) (ci := 6) rfl ho_28 h rfl hl.1 rfl (Nat.le_of_ble_eq_true rfl) (dd_at ddX10_howLong 9 rfl) ⟨Nat.le_of_ble_eq_true rfl, Nat.le_of_ble_eq_true rfl⟩) (fun r_30 d_29 H locs h hw => ?_)
  refine lv_istore_n (lv' := [(3, .int r_30), (0, .ref a0), (1, .int p1), (2, .int p2)]) S.1 S.2.1 (dd_at ddX10_howLong 10 rfl) rfl hl (by decide) rfl (fun ls hl => ?_)
  refine lv_iconst (v := 1) S.1 S.2.1 (dd_at ddX10_howLong 11 rfl) (by decide) ?_
  refine lv_istore (lv' := [(4, .int 1), (3, .int r_30), (0, .ref a0), (1, .int p1), (2, .int p2)]) S.1 S.2.1 (dd_at ddX10_howLong 12 rfl) hl (by decide) rfl (fun ls hl => ?_)
  obtain ⟨n_31, h⟩ := h
  exact tl23 n_31 r_30 1 d_29 H locs ls h hw (lv_sub hl [2, 3, 4, 1, 0] rfl)

def b_X10_toll_30 (E : En) (a0 : Nat) (p1 : Int32) (p2 : Int32) (K : Int32 → Dy → Prop) (X : String → Dy → Prop) (k30 : Int32 → Int32 → Dy → Prop) (v3 : Int32) (v4 : Int32) (d : Dy) : Prop := ∃ b_1 : Nat, eR E a0 0 = some b_1 ∧ okO E b_1 8 ∧ ∃ b_4 : Nat, eR E b_1 3 = some b_4 ∧ okO E b_4 6 ∧ w_X6_size E b_4 d (fun r_8 d_7 => ((r_8 ≤ v4 → K v3 d_7) ∧ (¬ r_8 ≤ v4 → ∃ b_10 : Nat, eR E a0 0 = some b_10 ∧ okO E b_10 8 ∧ ∃ b_13 : Nat, eR E b_10 3 = some b_13 ∧ okO E b_13 6 ∧ w_X6_get E b_13 v4 0 d_7 (fun r_17 d_16 => ((¬ r_17 = p1 → ∃ b_19 : Nat, eR E a0 5 = some b_19 ∧ okO E b_19 3 ∧ w_X3_step E b_19 d_16 (fun d_22 => k30 v3 (v4 + 1) d_22)) ∧ (r_17 = p1 → ∃ b_24 : Nat, eR E a0 5 = some b_24 ∧ okO E b_24 3 ∧ w_X3_sells E b_24 v4 d_16 (fun r_28 d_27 => ((r_28 = 0 → ∃ b_30 : Nat, eR E a0 5 = some b_30 ∧ okO E b_30 3 ∧ w_X3_step E b_30 d_27 (fun d_33 => k30 v3 (v4 + 1) d_33)) ∧ (¬ r_28 = 0 → ∃ b_35 : Nat, eR E a0 0 = some b_35 ∧ okO E b_35 8 ∧ ∃ b_38 : Nat, eR E b_35 3 = some b_38 ∧ okO E b_38 6 ∧ w_X6_get E b_38 v4 5 d_27 (fun r_42 d_41 => ∃ b_44 : Nat, eR E a0 5 = some b_44 ∧ okO E b_44 3 ∧ w_X3_step E b_44 d_41 (fun d_47 => k30 (v3 + ((r_42 * p2) / 100)) (v4 + 1) d_47)))))))))))
def l_X10_toll_30 (E : En) (a0 : Nat) (p1 : Int32) (p2 : Int32) (K : Int32 → Dy → Prop) (X : String → Dy → Prop) : Nat → Int32 → Int32 → Dy → Prop
  | 0 => fun _ _ _ => False
  | n + 1 => b_X10_toll_30 E a0 p1 p2 K X (l_X10_toll_30 E a0 p1 p2 K X n)
def w_X10_toll (E : En) (a0 : Nat) (p1 : Int32) (p2 : Int32) (d : Dy) (K : Int32 → Dy → Prop) (X : String → Dy → Prop) : Prop := okO E a0 10 ∧ w_X10_needYear E p1 d (fun d_49 => w_X10_needBetween E p2 0 100 d_49 (fun d_51 => ∃ b_53 : Nat, eR E a0 5 = some b_53 ∧ okO E b_53 3 ∧ ∃ b_56 : Nat, eR E a0 0 = some b_56 ∧ okO E b_56 8 ∧ w_X3_begin E b_53 (gI d_51 b_56 0) d_51 (fun d_59 => (∃ n_61 : Nat, l_X10_toll_30 E a0 p1 p2 K X n_61 0 0 d_59))) X) X
abbrev rm_X10_toll : Room := { frames := 8, cells := 2, slots := 12, locals := 143 }
set_option maxRecDepth 100000 in
set_option maxHeartbeats 4000000 in
theorem m_X10_toll (l : Launch) (hst : l.stackTraces = false) (D : va_G) (cs : Nat → ClassId) (E : En) (d : Dy) (sz : Nat) (a0 : Nat) (p1 : Int32) (p2 : Int32) (K : Int32 → Dy → Prop) (X : String → Dy → Prop) : XI l yX10_toll (.code yX10_toll cX10_toll 5 (some .int) :: wsL_law) rm_X10_toll D cs E d sz [.ref a0, .int p1, .int p2] (w_X10_toll E a0 p1 p2 d K X) K X := by
  refine e_ofX (cc := cX10_toll) (maxL := 5) (ret := (some .int)) (own := RX10) (by decide) rfl rfl (Nat.le_of_ble_eq_true rfl) ?_
  intro p e s m below meth c S hr hlocks hsz hT H locs hw h ls hl
  have hl : lv_has ls 5 [(0, .ref a0), (1, .int p1), (2, .int p2)] := hl
  unfold w_X10_toll at h
  obtain ⟨ha0, h⟩ := h
  have tl30 : ∀ (n : Nat) (v3 : Int32) (v4 : Int32) (d : Dy) (H : Heap) (locs : List Loc) (ls : Array Slot), l_X10_toll_30 E a0 p1 p2 K X n v3 v4 d → Wd D cs (AW E sz) s.heap s E d H locs → lv_has ls 5 [(0, .ref a0), (1, .int p1), (2, .int p2), (3, .int v3), (4, .int v4)] → W p l e rm_X10_toll s m ([.ref a0, .int p1, .int p2] : List Value).toArray below meth c H locs 2 12 (vx_MQ below (va_Qi K (OutW D cs E (AW E sz)) (AW E sz)) (XX D cs E sz X) ([.ref a0, .int p1, .int p2] : List Value).toArray s rm_X10_toll.cells rm_X10_toll.slots (AW E sz)) (F0 m 30 ls []) := by
    intro n30
    induction n30 with
    | zero => intro v3 v4 d H locs ls h; exact absurd h id
    | succ n30 ih30 =>
      intro v3 v4 d H locs ls h hw hl
      have h : b_X10_toll_30 E a0 p1 p2 K X (l_X10_toll_30 E a0 p1 p2 K X n30) v3 v4 d := h
      unfold b_X10_toll_30 at h
      refine lv_iload S.1 S.2.1 (dd_at ddX10_toll 16 rfl) (lv_at hl 4 rfl) ?_
      refine lv_aload_n S.1 S.2.1 (dd_at ddX10_toll 17 rfl) rfl (lv_at hl 0 rfl) ?_
      obtain ⟨b_1, hb_2, ho_3, h⟩ := h
      refine r_getR S hw 10 0 rfl inG10 (by decide) (List.mem_cons_of_mem _ wg16) (by decide) ha0 hb_2 (dd_at ddX10_toll 18 rfl) ?_
      obtain ⟨b_4, hb_5, ho_6, h⟩ := h
      refine r_getRN S hw 8 3 rfl inG8 (by decide) nx9 (by decide) ho_3 hb_5 (dd_at ddX10_toll 19 rfl) ?_
      refine r_callI hw (r_runV (As := []) (rest := [.int v4]) S hw (m_X6_size l D cs E d H.size b_4 _) (cwV 0 S.2.2.2.2 (gV wg578 wg372 wg373 wg51 wg374) rfl rfl rfl (by decide +kernel) ⟨Nat.le_of_ble_eq_true rfl, Nat.le_of_ble_eq_true rfl⟩) (ci := 6) rfl ho_6 h rfl hl.1 rfl (Nat.le_of_ble_eq_true rfl) (dd_at ddX10_toll 20 rfl) ⟨Nat.le_of_ble_eq_true rfl, Nat.le_of_ble_eq_true rfl⟩) (fun r_8 d_7 H locs h hw => ?_)
      refine lv_icmp_ge (tgt := 108) S.1 S.2.1 (dd_at ddX10_toll 21 rfl) (by decide) (fun hc_9 => ?_) (fun hc_9 => ?_)
      · have h := h.1 hc_9
        refine lv_iload_n S.1 S.2.1 (dd_at ddX10_toll 53 rfl) rfl (lv_at hl 3 rfl) ?_
        exact vx_ret (e_I S hr hlocks hw h (dd_at ddX10_toll 54 rfl))
      · have h := h.2 hc_9
        refine lv_aload_n S.1 S.2.1 (dd_at ddX10_toll 22 rfl) rfl (lv_at hl 0 rfl) ?_
        obtain ⟨b_10, hb_11, ho_12, h⟩ := h
        refine r_getR S hw 10 0 rfl inG10 (by decide) (List.mem_cons_of_mem _ wg16) (by decide) ha0 hb_11 (dd_at ddX10_toll 23 rfl) ?_
        obtain ⟨b_13, hb_14, ho_15, h⟩ := h
        refine r_getRN S hw 8 3 rfl inG8 (by decide) nx9 (by decide) ho_12 hb_14 (dd_at ddX10_toll 24 rfl) ?_
        refine lv_iload S.1 S.2.1 (dd_at ddX10_toll 25 rfl) (lv_at hl 4 rfl) ?_
        refine lv_iconst (v := 0) S.1 S.2.1 (dd_at ddX10_toll 26 rfl) (by decide) ?_
        refine r_callI hw (r_runV (As := [.int v4, .int 0]) (rest := []) S hw (m_X6_get l D cs E d_7 H.size b_13 v4 0 _) (cwV 2 S.2.2.2.2 (gV wg997 wg623 wg624 wg51 wg625) rfl rfl rfl (by decide +kernel) ⟨Nat.le_of_ble_eq_true rfl, Nat.le_of_ble_eq_true rfl⟩) (ci := 6) rfl ho_15 h rfl hl.1 rfl (Nat.le_of_ble_eq_true rfl) (dd_at ddX10_toll 27 rfl) ⟨Nat.le_of_ble_eq_true rfl, Nat.le_of_ble_eq_true rfl⟩) (fun r_17 d_16 H locs h hw => ?_)
        refine lv_iload_n S.1 S.2.1 (dd_at ddX10_toll 28 rfl) rfl (lv_at hl 1 rfl) ?_
        refine lv_icmp_ne (tgt := 95) S.1 S.2.1 (dd_at ddX10_toll 29 rfl) (by decide) (fun hc_18 => ?_) (fun hc_18 => ?_)
        · have h := h.1 hc_18
          refine lv_aload_n S.1 S.2.1 (dd_at ddX10_toll 48 rfl) rfl (lv_at hl 0 rfl) ?_
          obtain ⟨b_19, hb_20, ho_21, h⟩ := h
          refine r_getR S hw 10 5 rfl inG10 (by decide) (List.mem_cons_of_mem _ wg26) (by decide) ha0 hb_20 (dd_at ddX10_toll 49 rfl) ?_
          refine r_callV hw (r_runV (As := []) (rest := []) S hw (m_X3_step l D cs E d_16 H.size b_19 _) (cwV 0 S.2.2.2.2 (gV wg1114 wg683 wg684 wg25 wg685) rfl rfl rfl (by decide +kernel) ⟨Nat.le_of_ble_eq_true rfl, Nat.le_of_ble_eq_true rfl⟩) (ci := 3) rfl ho_21 h rfl hl.1 rfl (Nat.le_of_ble_eq_true rfl) (dd_at ddX10_toll 50 rfl) ⟨Nat.le_of_ble_eq_true rfl, Nat.le_of_ble_eq_true rfl⟩) (fun d_22 H locs h hw => ?_)
          refine lv_iinc (v := v4 + 1) (lv' := [(4, .int (v4 + 1)), (0, .ref a0), (1, .int p1), (2, .int p2), (3, .int v3)]) S.1 S.2.1 (dd_at ddX10_toll 51 rfl) hl (k := 4) rfl rfl (by decide) rfl (fun ls hl => ?_)
          refine lv_goto (tgt := 30) S.1 S.2.1 (dd_at ddX10_toll 52 rfl) (by decide) ?_
          exact ih30 v3 (v4 + 1) d_22 H locs ls h hw (lv_sub hl [1, 2, 3, 4, 0] rfl)
        · have h := h.2 hc_18
          refine lv_aload_n S.1 S.2.1 (dd_at ddX10_toll 30 rfl) rfl (lv_at hl 0 rfl) ?_
          obtain ⟨b_24, hb_25, ho_26, h⟩ := h
          refine r_getR S hw 10 5 rfl inG10 (by decide) (List.mem_cons_of_mem _ wg26) (by decide) ha0 hb_25 (dd_at ddX10_toll 31 rfl) ?_
          refine lv_iload S.1 S.2.1 (dd_at ddX10_toll 32 rfl) (lv_at hl 4 rfl) ?_
          refine r_callI hw (r_runV (As := [.int v4]) (rest := []) S hw (m_X3_sells l D cs E d_16 H.size b_24 v4 _) (cwV 1 S.2.2.2.2 (gV wg1113 wg794 wg795 wg25 wg796) rfl rfl rfl (by decide +kernel) ⟨Nat.le_of_ble_eq_true rfl, Nat.le_of_ble_eq_true rfl⟩) (ci := 3) rfl ho_26 h rfl hl.1 rfl (Nat.le_of_ble_eq_true rfl) (dd_at ddX10_toll 33 rfl) ⟨Nat.le_of_ble_eq_true rfl, Nat.le_of_ble_eq_true rfl⟩) (fun r_28 d_27 H locs h hw => ?_)
          refine lv_if_eq (tgt := 95) S.1 S.2.1 (dd_at ddX10_toll 34 rfl) (by decide) (fun hc_29 => ?_) (fun hc_29 => ?_)
          · have h := h.1 hc_29
            refine lv_aload_n S.1 S.2.1 (dd_at ddX10_toll 48 rfl) rfl (lv_at hl 0 rfl) ?_
            obtain ⟨b_30, hb_31, ho_32, h⟩ := h
            refine r_getR S hw 10 5 rfl inG10 (by decide) (List.mem_cons_of_mem _ wg26) (by decide) ha0 hb_31 (dd_at ddX10_toll 49 rfl) ?_
            refine r_callV hw (r_runV (As := []) (rest := []) S hw (m_X3_step l D cs E d_27 H.size b_30 _) (cwV 0 S.2.2.2.2 (gV wg1114 wg683 wg684 wg25 wg685) rfl rfl rfl (by decide +kernel) ⟨Nat.le_of_ble_eq_true rfl, Nat.le_of_ble_eq_true rfl⟩) (ci := 3) rfl ho_32 h rfl hl.1 rfl (Nat.le_of_ble_eq_true rfl) (dd_at ddX10_toll 50 rfl) ⟨Nat.le_of_ble_eq_true rfl, Nat.le_of_ble_eq_true rfl⟩) (fun d_33 H locs h hw => ?_)
            refine lv_iinc (v := v4 + 1) (lv' := [(4, .int (v4 + 1)), (0, .ref a0), (1, .int p1), (2, .int p2), (3, .int v3)]) S.1 S.2.1 (dd_at ddX10_toll 51 rfl) hl (k := 4) rfl rfl (by decide) rfl (fun ls hl => ?_)
            refine lv_goto (tgt := 30) S.1 S.2.1 (dd_at ddX10_toll 52 rfl) (by decide) ?_
            exact ih30 v3 (v4 + 1) d_33 H locs ls h hw (lv_sub hl [1, 2, 3, 4, 0] rfl)
          · have h := h.2 hc_29
            refine lv_iload_n S.1 S.2.1 (dd_at ddX10_toll 35 rfl) rfl (lv_at hl 3 rfl) ?_
            refine lv_aload_n S.1 S.2.1 (dd_at ddX10_toll 36 rfl) rfl (lv_at hl 0 rfl) ?_
            obtain ⟨b_35, hb_36, ho_37, h⟩ := h
            refine r_getR S hw 10 0 rfl inG10 (by decide) (List.mem_cons_of_mem _ wg16) (by decide) ha0 hb_36 (dd_at ddX10_toll 37 rfl) ?_
            obtain ⟨b_38, hb_39, ho_40, h⟩ := h
            refine r_getRN S hw 8 3 rfl inG8 (by decide) nx9 (by decide) ho_37 hb_39 (dd_at ddX10_toll 38 rfl) ?_
            refine lv_iload S.1 S.2.1 (dd_at ddX10_toll 39 rfl) (lv_at hl 4 rfl) ?_
            refine lv_iconst (v := 5) S.1 S.2.1 (dd_at ddX10_toll 40 rfl) (by decide) ?_
            refine r_callI hw (r_runV (As := [.int v4, .int 5]) (rest := [.int v3]) S hw (m_X6_get l D cs E d_27 H.size b_38 v4 5 _) (cwV 2 S.2.2.2.2 (gV wg997 wg623 wg624 wg51 wg625) rfl rfl rfl (by decide +kernel) ⟨Nat.le_of_ble_eq_true rfl, Nat.le_of_ble_eq_true rfl⟩) (ci := 6) rfl ho_40 h rfl hl.1 rfl (Nat.le_of_ble_eq_true rfl) (dd_at ddX10_toll 41 rfl) ⟨Nat.le_of_ble_eq_true rfl, Nat.le_of_ble_eq_true rfl⟩) (fun r_42 d_41 H locs h hw => ?_)
            refine lv_iload_n S.1 S.2.1 (dd_at ddX10_toll 42 rfl) rfl (lv_at hl 2 rfl) ?_
            refine lv_imul S.1 S.2.1 (dd_at ddX10_toll 43 rfl) ?_
            refine lv_bipush (v := 100) S.1 S.2.1 (dd_at ddX10_toll 44 rfl) (by decide) ?_
            refine lv_idiv S.1 S.2.1 (dd_at ddX10_toll 45 rfl) (by decide) ?_
            refine lv_iadd S.1 S.2.1 (dd_at ddX10_toll 46 rfl) ?_
            refine lv_istore_n (lv' := [(3, .int (v3 + ((r_42 * p2) / 100))), (0, .ref a0), (1, .int p1), (2, .int p2), (4, .int v4)]) S.1 S.2.1 (dd_at ddX10_toll 47 rfl) rfl hl (by decide) rfl (fun ls hl => ?_)
            refine lv_aload_n S.1 S.2.1 (dd_at ddX10_toll 48 rfl) rfl (lv_at hl 1 rfl) ?_
            obtain ⟨b_44, hb_45, ho_46, h⟩ := h
            refine r_getR S hw 10 5 rfl inG10 (by decide) (List.mem_cons_of_mem _ wg26) (by decide) ha0 hb_45 (dd_at ddX10_toll 49 rfl) ?_
            refine r_callV hw (r_runV (As := []) (rest := []) S hw (m_X3_step l D cs E d_41 H.size b_44 _) (cwV 0 S.2.2.2.2 (gV wg1114 wg683 wg684 wg25 wg685) rfl rfl rfl (by decide +kernel) ⟨Nat.le_of_ble_eq_true rfl, Nat.le_of_ble_eq_true rfl⟩) (ci := 3) rfl ho_46 h rfl hl.1 rfl (Nat.le_of_ble_eq_true rfl) (dd_at ddX10_toll 50 rfl) ⟨Nat.le_of_ble_eq_true rfl, Nat.le_of_ble_eq_true rfl⟩) (fun d_47 H locs h hw => ?_)
            refine lv_iinc (v := v4 + 1) (lv' := [(4, .int (v4 + 1)), (3, .int (v3 + ((r_42 * p2) / 100))), (0, .ref a0), (1, .int p1), (2, .int p2)]) S.1 S.2.1 (dd_at ddX10_toll 51 rfl) hl (k := 4) rfl rfl (by decide) rfl (fun ls hl => ?_)
            refine lv_goto (tgt := 30) S.1 S.2.1 (dd_at ddX10_toll 52 rfl) (by decide) ?_
            exact ih30 (v3 + ((r_42 * p2) / 100)) (v4 + 1) d_47 H locs ls h hw (lv_sub hl [2, 3, 4, 1, 0] rfl)
  refine lv_iload_n S.1 S.2.1 (dd_at ddX10_toll 0 rfl) rfl (lv_at hl 1 rfl) ?_
  refine r_xcallV hT hlocks hw (r_xrunS (As := [.int p1]) (rest := []) S hw (m_X10_needYear l hst D cs E d H.size p1 _ _) (va_cwS 1 S.2.2.2.2 (gS wg607 wg608 wg2 wg609) rfl rfl rfl (by decide +kernel) ⟨Nat.le_of_ble_eq_true rfl, Nat.le_of_ble_eq_true rfl⟩) h rfl hl.1 rfl (Nat.le_of_ble_eq_true rfl) (dd_at ddX10_toll 1 rfl) ⟨Nat.le_of_ble_eq_true rfl, Nat.le_of_ble_eq_true rfl⟩) (Nat.le_of_ble_eq_true rfl) (Nat.le_of_ble_eq_true rfl) (fun d_49 H locs h hw => ?_)
  refine lv_iload_n S.1 S.2.1 (dd_at ddX10_toll 2 rfl) rfl (lv_at hl 2 rfl) ?_
  refine lv_iconst (v := 0) S.1 S.2.1 (dd_at ddX10_toll 3 rfl) (by decide) ?_
  refine lv_bipush (v := 100) S.1 S.2.1 (dd_at ddX10_toll 4 rfl) (by decide) ?_
  refine r_xcallV hT hlocks hw (r_xrunS (As := [.int p2, .int 0, .int 100]) (rest := []) S hw (m_X10_needBetween l hst D cs E d_49 H.size p2 0 100 _ _) (va_cwS 3 S.2.2.2.2 (gS wg525 wg526 wg2 wg527) rfl rfl rfl (by decide +kernel) ⟨Nat.le_of_ble_eq_true rfl, Nat.le_of_ble_eq_true rfl⟩) h rfl hl.1 rfl (Nat.le_of_ble_eq_true rfl) (dd_at ddX10_toll 5 rfl) ⟨Nat.le_of_ble_eq_true rfl, Nat.le_of_ble_eq_true rfl⟩) (Nat.le_of_ble_eq_true rfl) (Nat.le_of_ble_eq_true rfl) (fun d_51 H locs h hw => ?_)
  refine lv_iconst (v := 0) S.1 S.2.1 (dd_at ddX10_toll 6 rfl) (by decide) ?_
  refine lv_istore_n (lv' := [(3, .int 0), (0, .ref a0), (1, .int p1), (2, .int p2)]) S.1 S.2.1 (dd_at ddX10_toll 7 rfl) rfl hl (by decide) rfl (fun ls hl => ?_)
  refine lv_aload_n S.1 S.2.1 (dd_at ddX10_toll 8 rfl) rfl (lv_at hl 1 rfl) ?_
  obtain ⟨b_53, hb_54, ho_55, h⟩ := h
  refine r_getR S hw 10 5 rfl inG10 (by decide) (List.mem_cons_of_mem _ wg26) (by decide) ha0 hb_54 (dd_at ddX10_toll 9 rfl) ?_
  refine lv_aload_n S.1 S.2.1 (dd_at ddX10_toll 10 rfl) rfl (lv_at hl 1 rfl) ?_
  obtain ⟨b_56, hb_57, ho_58, h⟩ := h
  refine r_getR S hw 10 0 rfl inG10 (by decide) (List.mem_cons_of_mem _ wg16) (by decide) ha0 hb_57 (dd_at ddX10_toll 11 rfl) ?_
  refine r_getIN S hw 8 0 rfl inG8 (by decide) nx0 (by decide) ho_58 (dd_at ddX10_toll 12 rfl) ?_
  refine r_callV hw (r_runV (As := [.int (gI d_51 b_56 0)]) (rest := []) S hw (m_X3_begin l D cs E d_51 H.size b_53 (gI d_51 b_56 0) _) (cwV 1 S.2.2.2.2 (gV wg661 wg662 wg663 wg25 wg664) rfl rfl rfl (by decide +kernel) ⟨Nat.le_of_ble_eq_true rfl, Nat.le_of_ble_eq_true rfl⟩) (ci := 3) rfl ho_55 h rfl hl.1 rfl (Nat.le_of_ble_eq_true rfl) (dd_at ddX10_toll 13 rfl) ⟨Nat.le_of_ble_eq_true rfl, Nat.le_of_ble_eq_true rfl⟩) (fun d_59 H locs h hw => ?_)
  refine lv_iconst (v := 0) S.1 S.2.1 (dd_at ddX10_toll 14 rfl) (by decide) ?_
  refine lv_istore (lv' := [(4, .int 0), (3, .int 0), (0, .ref a0), (1, .int p1), (2, .int p2)]) S.1 S.2.1 (dd_at ddX10_toll 15 rfl) hl (by decide) rfl (fun ls hl => ?_)
  obtain ⟨n_61, h⟩ := h
  exact tl30 n_61 0 0 d_59 H locs ls h hw (lv_sub hl [2, 3, 4, 1, 0] rfl)

def b_X10_isCheap_52 (E : En) (a0 : Nat) (p1 : Int32) (p2 : Int32) (K : Int32 → Dy → Prop) (s0 : Int64) (d : Dy) : Prop := ∃ b_1 : Nat, eR E a0 0 = some b_1 ∧ okO E b_1 8 ∧ ∃ b_4 : Nat, eR E b_1 3 = some b_4 ∧ okO E b_4 6 ∧ w_X6_get E b_4 p1 5 d (fun r_8 d_7 => ((0 ≤ (lg_cmp r_8.toInt64 (s0 * p2.toInt64)) → K 0 d_7) ∧ (¬ 0 ≤ (lg_cmp r_8.toInt64 (s0 * p2.toInt64)) → K 1 d_7)))
def b_X10_isCheap_23 (E : En) (a0 : Nat) (p1 : Int32) (p2 : Int32) (K : Int32 → Dy → Prop) (s0 : Int32) (d : Dy) : Prop := ((s0 = 0 → b_X10_isCheap_52 E a0 p1 p2 K 0 d) ∧ (¬ s0 = 0 → ∃ b_11 : Nat, eR E a0 6 = some b_11 ∧ okO E b_11 3 ∧ ∃ b_14 : Nat, eR E a0 0 = some b_14 ∧ okO E b_14 8 ∧ ∃ b_17 : Nat, eR E b_14 3 = some b_17 ∧ okO E b_17 6 ∧ w_X6_get E b_17 p1 3 d (fun r_21 d_20 => w_X3_rentOf E b_11 r_21 d_20 (fun r_23 d_22 => b_X10_isCheap_52 E a0 p1 p2 K r_23.toInt64 d_22))))
def w_X10_isCheap (E : En) (a0 : Nat) (p1 : Int32) (p2 : Int32) (d : Dy) (K : Int32 → Dy → Prop) : Prop := okO E a0 10 ∧ ∃ b_24 : Nat, eR E a0 0 = some b_24 ∧ okO E b_24 8 ∧ ∃ b_27 : Nat, eR E b_24 3 = some b_27 ∧ okO E b_27 6 ∧ w_X6_get E b_27 p1 0 d (fun r_31 d_30 => ((r_31 ≤ 1900 → b_X10_isCheap_23 E a0 p1 p2 K 0 d_30) ∧ (¬ r_31 ≤ 1900 → b_X10_isCheap_23 E a0 p1 p2 K 1 d_30)))
abbrev rm_X10_isCheap : Room := { frames := 5, cells := 0, slots := 0, locals := 115 }
set_option maxRecDepth 100000 in
set_option maxHeartbeats 4000000 in
theorem m_X10_isCheap (l : Launch) (D : va_G) (cs : Nat → ClassId) (E : En) (d : Dy) (sz : Nat) (a0 : Nat) (p1 : Int32) (p2 : Int32) (K : Int32 → Dy → Prop) : CI l yX10_isCheap (.code yX10_isCheap cX10_isCheap 6 (some .boolean) :: wsL_law) rm_X10_isCheap D cs E d sz [.ref a0, .int p1, .int p2] (w_X10_isCheap E a0 p1 p2 d K) K := by
  refine e_of (cc := cX10_isCheap) (maxL := 6) (ret := (some .boolean)) (own := RX10) (by decide) rfl rfl (Nat.le_of_ble_eq_true rfl) ?_
  intro p e s m below meth c S hr hlocks hsz H locs hw h ls hl
  have hl : lv_has ls 6 [(0, .ref a0), (1, .int p1), (2, .int p2)] := hl
  unfold w_X10_isCheap at h
  obtain ⟨ha0, h⟩ := h
  have tb52 : ∀ (s0 : Int64) (d : Dy) (H : Heap) (locs : List Loc) (ls : Array Slot), b_X10_isCheap_52 E a0 p1 p2 K s0 d → Wd D cs (AW E sz) s.heap s E d H locs → lv_has ls 6 [(0, .ref a0), (1, .int p1), (2, .int p2)] → W p l e rm_X10_isCheap s m ([.ref a0, .int p1, .int p2] : List Value).toArray below meth c H locs 0 0 (MQ below (va_Qi K (OutW D cs E (AW E sz)) (AW E sz)) ([.ref a0, .int p1, .int p2] : List Value).toArray s rm_X10_isCheap.cells rm_X10_isCheap.slots (AW E sz)) (F0 m 52 ls [.long s0]) := by
    intro s0 d H locs ls h hw hl
    unfold b_X10_isCheap_52 at h
    refine lv_lstore (lv' := [(4, .long s0), (0, .ref a0), (1, .int p1), (2, .int p2)]) S.1 S.2.1 (dd_at ddX10_isCheap 26 rfl) hl (by decide) rfl (fun ls hl => ?_)
    refine lv_aload_n S.1 S.2.1 (dd_at ddX10_isCheap 27 rfl) rfl (lv_at hl 1 rfl) ?_
    obtain ⟨b_1, hb_2, ho_3, h⟩ := h
    refine r_getR S hw 10 0 rfl inG10 (by decide) (List.mem_cons_of_mem _ wg16) (by decide) ha0 hb_2 (dd_at ddX10_isCheap 28 rfl) ?_
    obtain ⟨b_4, hb_5, ho_6, h⟩ := h
    refine r_getRN S hw 8 3 rfl inG8 (by decide) nx9 (by decide) ho_3 hb_5 (dd_at ddX10_isCheap 29 rfl) ?_
    refine lv_iload_n S.1 S.2.1 (dd_at ddX10_isCheap 30 rfl) rfl (lv_at hl 2 rfl) ?_
    refine lv_iconst (v := 5) S.1 S.2.1 (dd_at ddX10_isCheap 31 rfl) (by decide) ?_
    refine r_callI hw (r_runV (As := [.int p1, .int 5]) (rest := []) S hw (m_X6_get l D cs E d H.size b_4 p1 5 _) (cwV 2 S.2.2.2.2 (gV wg997 wg623 wg624 wg51 wg625) rfl rfl rfl (by decide +kernel) ⟨Nat.le_of_ble_eq_true rfl, Nat.le_of_ble_eq_true rfl⟩) (ci := 6) rfl ho_6 h rfl hl.1 rfl (Nat.le_of_ble_eq_true rfl) (dd_at ddX10_isCheap 32 rfl) ⟨Nat.le_of_ble_eq_true rfl, Nat.le_of_ble_eq_true rfl⟩) (fun r_8 d_7 H locs h hw => ?_)
    refine lv_i2l S.1 S.2.1 (dd_at ddX10_isCheap 33 rfl) rfl ?_
    refine lv_lload S.1 S.2.1 (dd_at ddX10_isCheap 34 rfl) (lv_at hl 0 rfl) ?_
    refine lv_iload_n S.1 S.2.1 (dd_at ddX10_isCheap 35 rfl) rfl (lv_at hl 3 rfl) ?_
    refine lv_i2l S.1 S.2.1 (dd_at ddX10_isCheap 36 rfl) rfl ?_
    refine lv_lmul S.1 S.2.1 (dd_at ddX10_isCheap 37 rfl) ?_
    refine W.lcmp S.1 S.2.1 (dd_at ddX10_isCheap 38 rfl) ?_
    refine lv_if_ge (tgt := 80) S.1 S.2.1 (dd_at ddX10_isCheap 39 rfl) (by decide) (fun hc_9 => ?_) (fun hc_9 => ?_)
    · have h := h.1 hc_9
      refine lv_iconst (v := 0) S.1 S.2.1 (dd_at ddX10_isCheap 42 rfl) (by decide) ?_
      exact e_Z S hr hlocks hw (Or.inl rfl) h (dd_at ddX10_isCheap 43 rfl)
    · have h := h.2 hc_9
      refine lv_iconst (v := 1) S.1 S.2.1 (dd_at ddX10_isCheap 40 rfl) (by decide) ?_
      refine lv_goto (tgt := 81) S.1 S.2.1 (dd_at ddX10_isCheap 41 rfl) (by decide) ?_
      exact e_Z S hr hlocks hw (Or.inr rfl) h (dd_at ddX10_isCheap 43 rfl)
  have tb23 : ∀ (s0 : Int32) (d : Dy) (H : Heap) (locs : List Loc) (ls : Array Slot), b_X10_isCheap_23 E a0 p1 p2 K s0 d → Wd D cs (AW E sz) s.heap s E d H locs → lv_has ls 6 [(0, .ref a0), (1, .int p1), (2, .int p2)] → W p l e rm_X10_isCheap s m ([.ref a0, .int p1, .int p2] : List Value).toArray below meth c H locs 0 0 (MQ below (va_Qi K (OutW D cs E (AW E sz)) (AW E sz)) ([.ref a0, .int p1, .int p2] : List Value).toArray s rm_X10_isCheap.cells rm_X10_isCheap.slots (AW E sz)) (F0 m 23 ls [.int s0]) := by
    intro s0 d H locs ls h hw hl
    unfold b_X10_isCheap_23 at h
    refine lv_istore_n (lv' := [(3, .int s0), (0, .ref a0), (1, .int p1), (2, .int p2)]) S.1 S.2.1 (dd_at ddX10_isCheap 11 rfl) rfl hl (by decide) rfl (fun ls hl => ?_)
    refine lv_iload_n S.1 S.2.1 (dd_at ddX10_isCheap 12 rfl) rfl (lv_at hl 0 rfl) ?_
    refine lv_if_eq (tgt := 51) S.1 S.2.1 (dd_at ddX10_isCheap 13 rfl) (by decide) (fun hc_10 => ?_) (fun hc_10 => ?_)
    · have h := h.1 hc_10
      refine lv_lconst (v := 0) S.1 S.2.1 (dd_at ddX10_isCheap 25 rfl) (by decide) ?_
      exact tb52 0 d H locs ls h hw (lv_sub hl [1, 2, 3] rfl)
    · have h := h.2 hc_10
      refine lv_aload_n S.1 S.2.1 (dd_at ddX10_isCheap 14 rfl) rfl (lv_at hl 1 rfl) ?_
      obtain ⟨b_11, hb_12, ho_13, h⟩ := h
      refine r_getR S hw 10 6 rfl inG10 (by decide) (List.mem_cons_of_mem _ wg27) (by decide) ha0 hb_12 (dd_at ddX10_isCheap 15 rfl) ?_
      refine lv_aload_n S.1 S.2.1 (dd_at ddX10_isCheap 16 rfl) rfl (lv_at hl 1 rfl) ?_
      obtain ⟨b_14, hb_15, ho_16, h⟩ := h
      refine r_getR S hw 10 0 rfl inG10 (by decide) (List.mem_cons_of_mem _ wg16) (by decide) ha0 hb_15 (dd_at ddX10_isCheap 17 rfl) ?_
      obtain ⟨b_17, hb_18, ho_19, h⟩ := h
      refine r_getRN S hw 8 3 rfl inG8 (by decide) nx9 (by decide) ho_16 hb_18 (dd_at ddX10_isCheap 18 rfl) ?_
      refine lv_iload_n S.1 S.2.1 (dd_at ddX10_isCheap 19 rfl) rfl (lv_at hl 2 rfl) ?_
      refine lv_iconst (v := 3) S.1 S.2.1 (dd_at ddX10_isCheap 20 rfl) (by decide) ?_
      refine r_callI hw (r_runV (As := [.int p1, .int 3]) (rest := [.ref b_11]) S hw (m_X6_get l D cs E d H.size b_17 p1 3 _) (cwV 2 S.2.2.2.2 (gV wg997 wg623 wg624 wg51 wg625) rfl rfl rfl (by decide +kernel) ⟨Nat.le_of_ble_eq_true rfl, Nat.le_of_ble_eq_true rfl⟩) (ci := 6) rfl ho_19 h rfl hl.1 rfl (Nat.le_of_ble_eq_true rfl) (dd_at ddX10_isCheap 21 rfl) ⟨Nat.le_of_ble_eq_true rfl, Nat.le_of_ble_eq_true rfl⟩) (fun r_21 d_20 H locs h hw => ?_)
      refine r_callI hw (r_runV (As := [.int r_21]) (rest := []) S hw (m_X3_rentOf l D cs E d_20 H.size b_11 r_21 _) (cwV 1 S.2.2.2.2 (gV wg960 wg961 wg962 wg25 wg963) rfl rfl rfl (by decide +kernel) ⟨Nat.le_of_ble_eq_true rfl, Nat.le_of_ble_eq_true rfl⟩) (ci := 3) rfl ho_13 h rfl hl.1 rfl (Nat.le_of_ble_eq_true rfl) (dd_at ddX10_isCheap 22 rfl) ⟨Nat.le_of_ble_eq_true rfl, Nat.le_of_ble_eq_true rfl⟩) (fun r_23 d_22 H locs h hw => ?_)
      refine lv_i2l S.1 S.2.1 (dd_at ddX10_isCheap 23 rfl) rfl ?_
      refine lv_goto (tgt := 52) S.1 S.2.1 (dd_at ddX10_isCheap 24 rfl) (by decide) ?_
      exact tb52 r_23.toInt64 d_22 H locs ls h hw (lv_sub hl [1, 2, 3] rfl)
  refine lv_aload_n S.1 S.2.1 (dd_at ddX10_isCheap 0 rfl) rfl (lv_at hl 0 rfl) ?_
  obtain ⟨b_24, hb_25, ho_26, h⟩ := h
  refine r_getR S hw 10 0 rfl inG10 (by decide) (List.mem_cons_of_mem _ wg16) (by decide) ha0 hb_25 (dd_at ddX10_isCheap 1 rfl) ?_
  obtain ⟨b_27, hb_28, ho_29, h⟩ := h
  refine r_getRN S hw 8 3 rfl inG8 (by decide) nx9 (by decide) ho_26 hb_28 (dd_at ddX10_isCheap 2 rfl) ?_
  refine lv_iload_n S.1 S.2.1 (dd_at ddX10_isCheap 3 rfl) rfl (lv_at hl 1 rfl) ?_
  refine lv_iconst (v := 0) S.1 S.2.1 (dd_at ddX10_isCheap 4 rfl) (by decide) ?_
  refine r_callI hw (r_runV (As := [.int p1, .int 0]) (rest := []) S hw (m_X6_get l D cs E d H.size b_27 p1 0 _) (cwV 2 S.2.2.2.2 (gV wg997 wg623 wg624 wg51 wg625) rfl rfl rfl (by decide +kernel) ⟨Nat.le_of_ble_eq_true rfl, Nat.le_of_ble_eq_true rfl⟩) (ci := 6) rfl ho_29 h rfl hl.1 rfl (Nat.le_of_ble_eq_true rfl) (dd_at ddX10_isCheap 5 rfl) ⟨Nat.le_of_ble_eq_true rfl, Nat.le_of_ble_eq_true rfl⟩) (fun r_31 d_30 H locs h hw => ?_)
  refine lv_sipush (v := 1900) S.1 S.2.1 (dd_at ddX10_isCheap 6 rfl) (by decide) ?_
  refine lv_icmp_le (tgt := 22) S.1 S.2.1 (dd_at ddX10_isCheap 7 rfl) (by decide) (fun hc_32 => ?_) (fun hc_32 => ?_)
  · have h := h.1 hc_32
    refine lv_iconst (v := 0) S.1 S.2.1 (dd_at ddX10_isCheap 10 rfl) (by decide) ?_
    exact tb23 0 d_30 H locs ls h hw (lv_sub hl [0, 1, 2] rfl)
  · have h := h.2 hc_32
    refine lv_iconst (v := 1) S.1 S.2.1 (dd_at ddX10_isCheap 8 rfl) (by decide) ?_
    refine lv_goto (tgt := 23) S.1 S.2.1 (dd_at ddX10_isCheap 9 rfl) (by decide) ?_
    exact tb23 1 d_30 H locs ls h hw (lv_sub hl [0, 1, 2] rfl)

def b_X10_dodged_39 (E : En) (a0 : Nat) (p1 : Int32) (K : Int32 → Dy → Prop) (X : String → Dy → Prop) (k39 : Int32 → Int32 → Dy → Prop) (v2 : Int32) (v3 : Int32) (d : Dy) : Prop := ∃ b_1 : Nat, eR E a0 0 = some b_1 ∧ okO E b_1 8 ∧ ∃ b_4 : Nat, eR E b_1 3 = some b_4 ∧ okO E b_4 6 ∧ w_X6_size E b_4 d (fun r_8 d_7 => ((r_8 ≤ v3 → K v2 d_7) ∧ (¬ r_8 ≤ v3 → ∃ b_10 : Nat, eR E a0 6 = some b_10 ∧ okO E b_10 3 ∧ ∃ b_13 : Nat, eR E a0 0 = some b_13 ∧ okO E b_13 8 ∧ ∃ b_16 : Nat, eR E b_13 3 = some b_16 ∧ okO E b_16 6 ∧ w_X6_get E b_16 v3 0 d_7 (fun r_20 d_19 => w_X3_goTo E b_10 (r_20 - 1) d_19 (fun d_21 => ∃ b_23 : Nat, eR E a0 5 = some b_23 ∧ okO E b_23 3 ∧ w_X3_sells E b_23 v3 d_21 (fun r_27 d_26 => ((r_27 = 0 → ∃ b_29 : Nat, eR E a0 5 = some b_29 ∧ okO E b_29 3 ∧ w_X3_step E b_29 d_26 (fun d_32 => k39 v2 (v3 + 1) d_32)) ∧ (¬ r_27 = 0 → ∃ b_34 : Nat, eR E a0 5 = some b_34 ∧ okO E b_34 3 ∧ w_X3_sellsToKin E b_34 v3 d_26 (fun r_38 d_37 => ((¬ r_38 = 0 → ∃ b_40 : Nat, eR E a0 5 = some b_40 ∧ okO E b_40 3 ∧ w_X3_step E b_40 d_37 (fun d_43 => k39 v2 (v3 + 1) d_43)) ∧ (r_38 = 0 → w_X10_isCheap E a0 v3 p1 d_37 (fun r_46 d_45 => ((r_46 = 0 → ∃ b_48 : Nat, eR E a0 5 = some b_48 ∧ okO E b_48 3 ∧ w_X3_step E b_48 d_45 (fun d_51 => k39 v2 (v3 + 1) d_51)) ∧ (¬ r_46 = 0 → ∃ b_53 : Nat, eR E a0 5 = some b_53 ∧ okO E b_53 3 ∧ w_X3_step E b_53 d_45 (fun d_56 => k39 (v2 + 1) (v3 + 1) d_56)))))))))))))))
def l_X10_dodged_39 (E : En) (a0 : Nat) (p1 : Int32) (K : Int32 → Dy → Prop) (X : String → Dy → Prop) : Nat → Int32 → Int32 → Dy → Prop
  | 0 => fun _ _ _ => False
  | n + 1 => b_X10_dodged_39 E a0 p1 K X (l_X10_dodged_39 E a0 p1 K X n)
def w_X10_dodged (E : En) (a0 : Nat) (p1 : Int32) (d : Dy) (K : Int32 → Dy → Prop) (X : String → Dy → Prop) : Prop := okO E a0 10 ∧ w_X10_needBetween E p1 1 99 d (fun d_58 => ∃ b_60 : Nat, eR E a0 5 = some b_60 ∧ okO E b_60 3 ∧ ∃ b_63 : Nat, eR E a0 0 = some b_63 ∧ okO E b_63 8 ∧ w_X3_begin E b_60 (gI d_58 b_63 0) d_58 (fun d_66 => ∃ b_68 : Nat, eR E a0 6 = some b_68 ∧ okO E b_68 3 ∧ ∃ b_71 : Nat, eR E a0 0 = some b_71 ∧ okO E b_71 8 ∧ w_X3_begin E b_68 (gI d_66 b_71 0) d_66 (fun d_74 => (∃ n_76 : Nat, l_X10_dodged_39 E a0 p1 K X n_76 0 0 d_74)))) X
abbrev rm_X10_dodged : Room := { frames := 8, cells := 1, slots := 6, locals := 165 }
set_option maxRecDepth 100000 in
set_option maxHeartbeats 4000000 in
theorem m_X10_dodged (l : Launch) (hst : l.stackTraces = false) (D : va_G) (cs : Nat → ClassId) (E : En) (d : Dy) (sz : Nat) (a0 : Nat) (p1 : Int32) (K : Int32 → Dy → Prop) (X : String → Dy → Prop) : XI l yX10_dodged (.code yX10_dodged cX10_dodged 4 (some .int) :: wsL_law) rm_X10_dodged D cs E d sz [.ref a0, .int p1] (w_X10_dodged E a0 p1 d K X) K X := by
  refine e_ofX (cc := cX10_dodged) (maxL := 4) (ret := (some .int)) (own := RX10) (by decide) rfl rfl (Nat.le_of_ble_eq_true rfl) ?_
  intro p e s m below meth c S hr hlocks hsz hT H locs hw h ls hl
  have hl : lv_has ls 4 [(0, .ref a0), (1, .int p1)] := hl
  unfold w_X10_dodged at h
  obtain ⟨ha0, h⟩ := h
  have tl39 : ∀ (n : Nat) (v2 : Int32) (v3 : Int32) (d : Dy) (H : Heap) (locs : List Loc) (ls : Array Slot), l_X10_dodged_39 E a0 p1 K X n v2 v3 d → Wd D cs (AW E sz) s.heap s E d H locs → lv_has ls 4 [(0, .ref a0), (1, .int p1), (2, .int v2), (3, .int v3)] → W p l e rm_X10_dodged s m ([.ref a0, .int p1] : List Value).toArray below meth c H locs 1 6 (vx_MQ below (va_Qi K (OutW D cs E (AW E sz)) (AW E sz)) (XX D cs E sz X) ([.ref a0, .int p1] : List Value).toArray s rm_X10_dodged.cells rm_X10_dodged.slots (AW E sz)) (F0 m 39 ls []) := by
    intro n39
    induction n39 with
    | zero => intro v2 v3 d H locs ls h; exact absurd h id
    | succ n39 ih39 =>
      intro v2 v3 d H locs ls h hw hl
      have h : b_X10_dodged_39 E a0 p1 K X (l_X10_dodged_39 E a0 p1 K X n39) v2 v3 d := h
      unfold b_X10_dodged_39 at h
      refine lv_iload_n S.1 S.2.1 (dd_at ddX10_dodged 20 rfl) rfl (lv_at hl 3 rfl) ?_
      refine lv_aload_n S.1 S.2.1 (dd_at ddX10_dodged 21 rfl) rfl (lv_at hl 0 rfl) ?_
      obtain ⟨b_1, hb_2, ho_3, h⟩ := h
      refine r_getR S hw 10 0 rfl inG10 (by decide) (List.mem_cons_of_mem _ wg16) (by decide) ha0 hb_2 (dd_at ddX10_dodged 22 rfl) ?_
      obtain ⟨b_4, hb_5, ho_6, h⟩ := h
      refine r_getRN S hw 8 3 rfl inG8 (by decide) nx9 (by decide) ho_3 hb_5 (dd_at ddX10_dodged 23 rfl) ?_
      refine r_callI hw (r_runV (As := []) (rest := [.int v3]) S hw (m_X6_size l D cs E d H.size b_4 _) (cwV 0 S.2.2.2.2 (gV wg578 wg372 wg373 wg51 wg374) rfl rfl rfl (by decide +kernel) ⟨Nat.le_of_ble_eq_true rfl, Nat.le_of_ble_eq_true rfl⟩) (ci := 6) rfl ho_6 h rfl hl.1 rfl (Nat.le_of_ble_eq_true rfl) (dd_at ddX10_dodged 24 rfl) ⟨Nat.le_of_ble_eq_true rfl, Nat.le_of_ble_eq_true rfl⟩) (fun r_8 d_7 H locs h hw => ?_)
      refine lv_icmp_ge (tgt := 121) S.1 S.2.1 (dd_at ddX10_dodged 25 rfl) (by decide) (fun hc_9 => ?_) (fun hc_9 => ?_)
      · have h := h.1 hc_9
        refine lv_iload_n S.1 S.2.1 (dd_at ddX10_dodged 58 rfl) rfl (lv_at hl 2 rfl) ?_
        exact vx_ret (e_I S hr hlocks hw h (dd_at ddX10_dodged 59 rfl))
      · have h := h.2 hc_9
        refine lv_aload_n S.1 S.2.1 (dd_at ddX10_dodged 26 rfl) rfl (lv_at hl 0 rfl) ?_
        obtain ⟨b_10, hb_11, ho_12, h⟩ := h
        refine r_getR S hw 10 6 rfl inG10 (by decide) (List.mem_cons_of_mem _ wg27) (by decide) ha0 hb_11 (dd_at ddX10_dodged 27 rfl) ?_
        refine lv_aload_n S.1 S.2.1 (dd_at ddX10_dodged 28 rfl) rfl (lv_at hl 0 rfl) ?_
        obtain ⟨b_13, hb_14, ho_15, h⟩ := h
        refine r_getR S hw 10 0 rfl inG10 (by decide) (List.mem_cons_of_mem _ wg16) (by decide) ha0 hb_14 (dd_at ddX10_dodged 29 rfl) ?_
        obtain ⟨b_16, hb_17, ho_18, h⟩ := h
        refine r_getRN S hw 8 3 rfl inG8 (by decide) nx9 (by decide) ho_15 hb_17 (dd_at ddX10_dodged 30 rfl) ?_
        refine lv_iload_n S.1 S.2.1 (dd_at ddX10_dodged 31 rfl) rfl (lv_at hl 3 rfl) ?_
        refine lv_iconst (v := 0) S.1 S.2.1 (dd_at ddX10_dodged 32 rfl) (by decide) ?_
        refine r_callI hw (r_runV (As := [.int v3, .int 0]) (rest := [.ref b_10]) S hw (m_X6_get l D cs E d_7 H.size b_16 v3 0 _) (cwV 2 S.2.2.2.2 (gV wg997 wg623 wg624 wg51 wg625) rfl rfl rfl (by decide +kernel) ⟨Nat.le_of_ble_eq_true rfl, Nat.le_of_ble_eq_true rfl⟩) (ci := 6) rfl ho_18 h rfl hl.1 rfl (Nat.le_of_ble_eq_true rfl) (dd_at ddX10_dodged 33 rfl) ⟨Nat.le_of_ble_eq_true rfl, Nat.le_of_ble_eq_true rfl⟩) (fun r_20 d_19 H locs h hw => ?_)
        refine lv_iconst (v := 1) S.1 S.2.1 (dd_at ddX10_dodged 34 rfl) (by decide) ?_
        refine lv_isub S.1 S.2.1 (dd_at ddX10_dodged 35 rfl) ?_
        refine r_callV hw (r_runV (As := [.int (r_20 - 1)]) (rest := []) S hw (m_X3_goTo l D cs E d_19 H.size b_10 (r_20 - 1) _) (cwV 1 S.2.2.2.2 (gV wg678 wg679 wg680 wg25 wg681) rfl rfl rfl (by decide +kernel) ⟨Nat.le_of_ble_eq_true rfl, Nat.le_of_ble_eq_true rfl⟩) (ci := 3) rfl ho_12 h rfl hl.1 rfl (Nat.le_of_ble_eq_true rfl) (dd_at ddX10_dodged 36 rfl) ⟨Nat.le_of_ble_eq_true rfl, Nat.le_of_ble_eq_true rfl⟩) (fun d_21 H locs h hw => ?_)
        refine lv_aload_n S.1 S.2.1 (dd_at ddX10_dodged 37 rfl) rfl (lv_at hl 0 rfl) ?_
        obtain ⟨b_23, hb_24, ho_25, h⟩ := h
        refine r_getR S hw 10 5 rfl inG10 (by decide) (List.mem_cons_of_mem _ wg26) (by decide) ha0 hb_24 (dd_at ddX10_dodged 38 rfl) ?_
        refine lv_iload_n S.1 S.2.1 (dd_at ddX10_dodged 39 rfl) rfl (lv_at hl 3 rfl) ?_
        refine r_callI hw (r_runV (As := [.int v3]) (rest := []) S hw (m_X3_sells l D cs E d_21 H.size b_23 v3 _) (cwV 1 S.2.2.2.2 (gV wg1113 wg794 wg795 wg25 wg796) rfl rfl rfl (by decide +kernel) ⟨Nat.le_of_ble_eq_true rfl, Nat.le_of_ble_eq_true rfl⟩) (ci := 3) rfl ho_25 h rfl hl.1 rfl (Nat.le_of_ble_eq_true rfl) (dd_at ddX10_dodged 40 rfl) ⟨Nat.le_of_ble_eq_true rfl, Nat.le_of_ble_eq_true rfl⟩) (fun r_27 d_26 H locs h hw => ?_)
        refine lv_if_eq (tgt := 108) S.1 S.2.1 (dd_at ddX10_dodged 41 rfl) (by decide) (fun hc_28 => ?_) (fun hc_28 => ?_)
        · have h := h.1 hc_28
          refine lv_aload_n S.1 S.2.1 (dd_at ddX10_dodged 53 rfl) rfl (lv_at hl 0 rfl) ?_
          obtain ⟨b_29, hb_30, ho_31, h⟩ := h
          refine r_getR S hw 10 5 rfl inG10 (by decide) (List.mem_cons_of_mem _ wg26) (by decide) ha0 hb_30 (dd_at ddX10_dodged 54 rfl) ?_
          refine r_callV hw (r_runV (As := []) (rest := []) S hw (m_X3_step l D cs E d_26 H.size b_29 _) (cwV 0 S.2.2.2.2 (gV wg1114 wg683 wg684 wg25 wg685) rfl rfl rfl (by decide +kernel) ⟨Nat.le_of_ble_eq_true rfl, Nat.le_of_ble_eq_true rfl⟩) (ci := 3) rfl ho_31 h rfl hl.1 rfl (Nat.le_of_ble_eq_true rfl) (dd_at ddX10_dodged 55 rfl) ⟨Nat.le_of_ble_eq_true rfl, Nat.le_of_ble_eq_true rfl⟩) (fun d_32 H locs h hw => ?_)
          refine lv_iinc (v := v3 + 1) (lv' := [(3, .int (v3 + 1)), (0, .ref a0), (1, .int p1), (2, .int v2)]) S.1 S.2.1 (dd_at ddX10_dodged 56 rfl) hl (k := 3) rfl rfl (by decide) rfl (fun ls hl => ?_)
          refine lv_goto (tgt := 39) S.1 S.2.1 (dd_at ddX10_dodged 57 rfl) (by decide) ?_
          exact ih39 v2 (v3 + 1) d_32 H locs ls h hw (lv_sub hl [1, 2, 3, 0] rfl)
        · have h := h.2 hc_28
          refine lv_aload_n S.1 S.2.1 (dd_at ddX10_dodged 42 rfl) rfl (lv_at hl 0 rfl) ?_
          obtain ⟨b_34, hb_35, ho_36, h⟩ := h
          refine r_getR S hw 10 5 rfl inG10 (by decide) (List.mem_cons_of_mem _ wg26) (by decide) ha0 hb_35 (dd_at ddX10_dodged 43 rfl) ?_
          refine lv_iload_n S.1 S.2.1 (dd_at ddX10_dodged 44 rfl) rfl (lv_at hl 3 rfl) ?_
          refine r_callI hw (r_runV (As := [.int v3]) (rest := []) S hw (m_X3_sellsToKin l D cs E d_26 H.size b_34 v3 _) (cwV 1 S.2.2.2.2 (gV wg1126 wg1127 wg1128 wg25 wg1129) rfl rfl rfl (by decide +kernel) ⟨Nat.le_of_ble_eq_true rfl, Nat.le_of_ble_eq_true rfl⟩) (ci := 3) rfl ho_36 h rfl hl.1 rfl (Nat.le_of_ble_eq_true rfl) (dd_at ddX10_dodged 45 rfl) ⟨Nat.le_of_ble_eq_true rfl, Nat.le_of_ble_eq_true rfl⟩) (fun r_38 d_37 H locs h hw => ?_)
          refine lv_if_ne (tgt := 108) S.1 S.2.1 (dd_at ddX10_dodged 46 rfl) (by decide) (fun hc_39 => ?_) (fun hc_39 => ?_)
          · have h := h.1 hc_39
            refine lv_aload_n S.1 S.2.1 (dd_at ddX10_dodged 53 rfl) rfl (lv_at hl 0 rfl) ?_
            obtain ⟨b_40, hb_41, ho_42, h⟩ := h
            refine r_getR S hw 10 5 rfl inG10 (by decide) (List.mem_cons_of_mem _ wg26) (by decide) ha0 hb_41 (dd_at ddX10_dodged 54 rfl) ?_
            refine r_callV hw (r_runV (As := []) (rest := []) S hw (m_X3_step l D cs E d_37 H.size b_40 _) (cwV 0 S.2.2.2.2 (gV wg1114 wg683 wg684 wg25 wg685) rfl rfl rfl (by decide +kernel) ⟨Nat.le_of_ble_eq_true rfl, Nat.le_of_ble_eq_true rfl⟩) (ci := 3) rfl ho_42 h rfl hl.1 rfl (Nat.le_of_ble_eq_true rfl) (dd_at ddX10_dodged 55 rfl) ⟨Nat.le_of_ble_eq_true rfl, Nat.le_of_ble_eq_true rfl⟩) (fun d_43 H locs h hw => ?_)
            refine lv_iinc (v := v3 + 1) (lv' := [(3, .int (v3 + 1)), (0, .ref a0), (1, .int p1), (2, .int v2)]) S.1 S.2.1 (dd_at ddX10_dodged 56 rfl) hl (k := 3) rfl rfl (by decide) rfl (fun ls hl => ?_)
            refine lv_goto (tgt := 39) S.1 S.2.1 (dd_at ddX10_dodged 57 rfl) (by decide) ?_
            exact ih39 v2 (v3 + 1) d_43 H locs ls h hw (lv_sub hl [1, 2, 3, 0] rfl)
          · have h := h.2 hc_39
            refine lv_aload_n S.1 S.2.1 (dd_at ddX10_dodged 47 rfl) rfl (lv_at hl 0 rfl) ?_
            refine lv_iload_n S.1 S.2.1 (dd_at ddX10_dodged 48 rfl) rfl (lv_at hl 3 rfl) ?_
            refine lv_iload_n S.1 S.2.1 (dd_at ddX10_dodged 49 rfl) rfl (lv_at hl 1 rfl) ?_
            refine r_callI hw (r_runV (As := [.int v3, .int p1]) (rest := []) S hw (m_X10_isCheap l D cs E d_37 H.size a0 v3 p1 _) (cwV 2 S.2.2.2.2 (gV wg1130 wg1131 wg1132 wg2 wg1133) rfl rfl rfl (by decide +kernel) ⟨Nat.le_of_ble_eq_true rfl, Nat.le_of_ble_eq_true rfl⟩) (ci := 10) rfl ha0 h rfl hl.1 rfl (Nat.le_of_ble_eq_true rfl) (dd_at ddX10_dodged 50 rfl) ⟨Nat.le_of_ble_eq_true rfl, Nat.le_of_ble_eq_true rfl⟩) (fun r_46 d_45 H locs h hw => ?_)
            refine lv_if_eq (tgt := 108) S.1 S.2.1 (dd_at ddX10_dodged 51 rfl) (by decide) (fun hc_47 => ?_) (fun hc_47 => ?_)
            · have h := h.1 hc_47
              refine lv_aload_n S.1 S.2.1 (dd_at ddX10_dodged 53 rfl) rfl (lv_at hl 0 rfl) ?_
              obtain ⟨b_48, hb_49, ho_50, h⟩ := h
              refine r_getR S hw 10 5 rfl inG10 (by decide) (List.mem_cons_of_mem _ wg26) (by decide) ha0 hb_49 (dd_at ddX10_dodged 54 rfl) ?_
              refine r_callV hw (r_runV (As := []) (rest := []) S hw (m_X3_step l D cs E d_45 H.size b_48 _) (cwV 0 S.2.2.2.2 (gV wg1114 wg683 wg684 wg25 wg685) rfl rfl rfl (by decide +kernel) ⟨Nat.le_of_ble_eq_true rfl, Nat.le_of_ble_eq_true rfl⟩) (ci := 3) rfl ho_50 h rfl hl.1 rfl (Nat.le_of_ble_eq_true rfl) (dd_at ddX10_dodged 55 rfl) ⟨Nat.le_of_ble_eq_true rfl, Nat.le_of_ble_eq_true rfl⟩) (fun d_51 H locs h hw => ?_)
              refine lv_iinc (v := v3 + 1) (lv' := [(3, .int (v3 + 1)), (0, .ref a0), (1, .int p1), (2, .int v2)]) S.1 S.2.1 (dd_at ddX10_dodged 56 rfl) hl (k := 3) rfl rfl (by decide) rfl (fun ls hl => ?_)
              refine lv_goto (tgt := 39) S.1 S.2.1 (dd_at ddX10_dodged 57 rfl) (by decide) ?_
              exact ih39 v2 (v3 + 1) d_51 H locs ls h hw (lv_sub hl [1, 2, 3, 0] rfl)
            · have h := h.2 hc_47
              refine lv_iinc (v := v2 + 1) (lv' := [(2, .int (v2 + 1)), (0, .ref a0), (1, .int p1), (3, .int v3)]) S.1 S.2.1 (dd_at ddX10_dodged 52 rfl) hl (k := 2) rfl rfl (by decide) rfl (fun ls hl => ?_)
              refine lv_aload_n S.1 S.2.1 (dd_at ddX10_dodged 53 rfl) rfl (lv_at hl 1 rfl) ?_
              obtain ⟨b_53, hb_54, ho_55, h⟩ := h
              refine r_getR S hw 10 5 rfl inG10 (by decide) (List.mem_cons_of_mem _ wg26) (by decide) ha0 hb_54 (dd_at ddX10_dodged 54 rfl) ?_
              refine r_callV hw (r_runV (As := []) (rest := []) S hw (m_X3_step l D cs E d_45 H.size b_53 _) (cwV 0 S.2.2.2.2 (gV wg1114 wg683 wg684 wg25 wg685) rfl rfl rfl (by decide +kernel) ⟨Nat.le_of_ble_eq_true rfl, Nat.le_of_ble_eq_true rfl⟩) (ci := 3) rfl ho_55 h rfl hl.1 rfl (Nat.le_of_ble_eq_true rfl) (dd_at ddX10_dodged 55 rfl) ⟨Nat.le_of_ble_eq_true rfl, Nat.le_of_ble_eq_true rfl⟩) (fun d_56 H locs h hw => ?_)
              refine lv_iinc (v := v3 + 1) (lv' := [(3, .int (v3 + 1)), (2, .int (v2 + 1)), (0, .ref a0), (1, .int p1)]) S.1 S.2.1 (dd_at ddX10_dodged 56 rfl) hl (k := 3) rfl rfl (by decide) rfl (fun ls hl => ?_)
              refine lv_goto (tgt := 39) S.1 S.2.1 (dd_at ddX10_dodged 57 rfl) (by decide) ?_
              exact ih39 (v2 + 1) (v3 + 1) d_56 H locs ls h hw (lv_sub hl [2, 3, 1, 0] rfl)
  refine lv_iload_n S.1 S.2.1 (dd_at ddX10_dodged 0 rfl) rfl (lv_at hl 1 rfl) ?_
  refine lv_iconst (v := 1) S.1 S.2.1 (dd_at ddX10_dodged 1 rfl) (by decide) ?_
  refine lv_bipush (v := 99) S.1 S.2.1 (dd_at ddX10_dodged 2 rfl) (by decide) ?_
  refine r_xcallV hT hlocks hw (r_xrunS (As := [.int p1, .int 1, .int 99]) (rest := []) S hw (m_X10_needBetween l hst D cs E d H.size p1 1 99 _ _) (va_cwS 3 S.2.2.2.2 (gS wg525 wg526 wg2 wg527) rfl rfl rfl (by decide +kernel) ⟨Nat.le_of_ble_eq_true rfl, Nat.le_of_ble_eq_true rfl⟩) h rfl hl.1 rfl (Nat.le_of_ble_eq_true rfl) (dd_at ddX10_dodged 3 rfl) ⟨Nat.le_of_ble_eq_true rfl, Nat.le_of_ble_eq_true rfl⟩) (Nat.le_of_ble_eq_true rfl) (Nat.le_of_ble_eq_true rfl) (fun d_58 H locs h hw => ?_)
  refine lv_iconst (v := 0) S.1 S.2.1 (dd_at ddX10_dodged 4 rfl) (by decide) ?_
  refine lv_istore_n (lv' := [(2, .int 0), (0, .ref a0), (1, .int p1)]) S.1 S.2.1 (dd_at ddX10_dodged 5 rfl) rfl hl (by decide) rfl (fun ls hl => ?_)
  refine lv_aload_n S.1 S.2.1 (dd_at ddX10_dodged 6 rfl) rfl (lv_at hl 1 rfl) ?_
  obtain ⟨b_60, hb_61, ho_62, h⟩ := h
  refine r_getR S hw 10 5 rfl inG10 (by decide) (List.mem_cons_of_mem _ wg26) (by decide) ha0 hb_61 (dd_at ddX10_dodged 7 rfl) ?_
  refine lv_aload_n S.1 S.2.1 (dd_at ddX10_dodged 8 rfl) rfl (lv_at hl 1 rfl) ?_
  obtain ⟨b_63, hb_64, ho_65, h⟩ := h
  refine r_getR S hw 10 0 rfl inG10 (by decide) (List.mem_cons_of_mem _ wg16) (by decide) ha0 hb_64 (dd_at ddX10_dodged 9 rfl) ?_
  refine r_getIN S hw 8 0 rfl inG8 (by decide) nx0 (by decide) ho_65 (dd_at ddX10_dodged 10 rfl) ?_
  refine r_callV hw (r_runV (As := [.int (gI d_58 b_63 0)]) (rest := []) S hw (m_X3_begin l D cs E d_58 H.size b_60 (gI d_58 b_63 0) _) (cwV 1 S.2.2.2.2 (gV wg661 wg662 wg663 wg25 wg664) rfl rfl rfl (by decide +kernel) ⟨Nat.le_of_ble_eq_true rfl, Nat.le_of_ble_eq_true rfl⟩) (ci := 3) rfl ho_62 h rfl hl.1 rfl (Nat.le_of_ble_eq_true rfl) (dd_at ddX10_dodged 11 rfl) ⟨Nat.le_of_ble_eq_true rfl, Nat.le_of_ble_eq_true rfl⟩) (fun d_66 H locs h hw => ?_)
  refine lv_aload_n S.1 S.2.1 (dd_at ddX10_dodged 12 rfl) rfl (lv_at hl 1 rfl) ?_
  obtain ⟨b_68, hb_69, ho_70, h⟩ := h
  refine r_getR S hw 10 6 rfl inG10 (by decide) (List.mem_cons_of_mem _ wg27) (by decide) ha0 hb_69 (dd_at ddX10_dodged 13 rfl) ?_
  refine lv_aload_n S.1 S.2.1 (dd_at ddX10_dodged 14 rfl) rfl (lv_at hl 1 rfl) ?_
  obtain ⟨b_71, hb_72, ho_73, h⟩ := h
  refine r_getR S hw 10 0 rfl inG10 (by decide) (List.mem_cons_of_mem _ wg16) (by decide) ha0 hb_72 (dd_at ddX10_dodged 15 rfl) ?_
  refine r_getIN S hw 8 0 rfl inG8 (by decide) nx0 (by decide) ho_73 (dd_at ddX10_dodged 16 rfl) ?_
  refine r_callV hw (r_runV (As := [.int (gI d_66 b_71 0)]) (rest := []) S hw (m_X3_begin l D cs E d_66 H.size b_68 (gI d_66 b_71 0) _) (cwV 1 S.2.2.2.2 (gV wg661 wg662 wg663 wg25 wg664) rfl rfl rfl (by decide +kernel) ⟨Nat.le_of_ble_eq_true rfl, Nat.le_of_ble_eq_true rfl⟩) (ci := 3) rfl ho_70 h rfl hl.1 rfl (Nat.le_of_ble_eq_true rfl) (dd_at ddX10_dodged 17 rfl) ⟨Nat.le_of_ble_eq_true rfl, Nat.le_of_ble_eq_true rfl⟩) (fun d_74 H locs h hw => ?_)
  refine lv_iconst (v := 0) S.1 S.2.1 (dd_at ddX10_dodged 18 rfl) (by decide) ?_
  refine lv_istore_n (lv' := [(3, .int 0), (2, .int 0), (0, .ref a0), (1, .int p1)]) S.1 S.2.1 (dd_at ddX10_dodged 19 rfl) rfl hl (by decide) rfl (fun ls hl => ?_)
  obtain ⟨n_76, h⟩ := h
  exact tl39 n_76 0 0 d_74 H locs ls h hw (lv_sub hl [2, 3, 1, 0] rfl)

def b_X10_lift_150 (E : En) (a0 : Nat) (p1 : Int32) (p2 : Int32) (p3 : Int32) (p4 : Int32) (K : Int32 → Dy → Prop) (X : String → Dy → Prop) (k92 : Int32 → Int32 → Dy → Prop) (v5 : Int32) (v6 : Int32) (v7 : Int32) (s0 : Int32) (d : Dy) : Prop := ∃ b_1 : Nat, eR E a0 8 = some b_1 ∧ okO E b_1 9 ∧ ∃ b_4 : Nat, eR E a0 0 = some b_4 ∧ okO E b_4 8 ∧ ∃ b_7 : Nat, eR E b_4 2 = some b_7 ∧ okO E b_7 6 ∧ w_X6_get E b_7 v7 0 d (fun r_11 d_10 => w_X9_bring E b_1 v7 r_11 s0 d_10 (fun d_12 => k92 v5 (v6 + 1) d_12))
def b_X10_lift_92 (E : En) (a0 : Nat) (p1 : Int32) (p2 : Int32) (p3 : Int32) (p4 : Int32) (K : Int32 → Dy → Prop) (X : String → Dy → Prop) (k92 : Int32 → Int32 → Dy → Prop) (v5 : Int32) (v6 : Int32) (d : Dy) : Prop := ∃ b_14 : Nat, eR E a0 0 = some b_14 ∧ okO E b_14 8 ∧ ∃ b_17 : Nat, eR E b_14 2 = some b_17 ∧ okO E b_17 6 ∧ w_X6_size E b_17 d (fun r_21 d_20 => ((r_21 ≤ v6 → ∃ b_23 : Nat, eR E a0 8 = some b_23 ∧ okO E b_23 9 ∧ w_X9_search E b_23 d_20 (fun d_26 => ((¬ p4 = (-1) → ∃ b_29 : Nat, eR E a0 8 = some b_29 ∧ okO E b_29 9 ∧ w_X9_pileOf E b_29 p4 d_26 (fun r_33 d_32 => K r_33 d_32)) ∧ (p4 = (-1) → ∃ b_34 : Nat, eR E a0 8 = some b_34 ∧ okO E b_34 9 ∧ w_X9_least E b_34 d_26 (fun r_38 d_37 => K r_38 d_37))))) ∧ (¬ r_21 ≤ v6 → ∃ b_39 : Nat, eR E a0 5 = some b_39 ∧ okO E b_39 3 ∧ w_X3_hutAt E b_39 v6 d_20 (fun r_43 d_42 => ((((v5 >>> (r_43 &&& 31)) &&& 1) = 0 → k92 v5 (v6 + 1) d_42) ∧ (¬ ((v5 >>> (r_43 &&& 31)) &&& 1) = 0 → ((¬ p3 = 0 → ((¬ p3 = 1 → b_X10_lift_150 E a0 p1 p2 p3 p4 K X k92 v5 v6 r_43 r_43 d_42) ∧ (p3 = 1 → b_X10_lift_150 E a0 p1 p2 p3 p4 K X k92 v5 v6 r_43 (-v6) d_42))) ∧ (p3 = 0 → b_X10_lift_150 E a0 p1 p2 p3 p4 K X k92 v5 v6 r_43 v6 d_42))))))))
def l_X10_lift_92 (E : En) (a0 : Nat) (p1 : Int32) (p2 : Int32) (p3 : Int32) (p4 : Int32) (K : Int32 → Dy → Prop) (X : String → Dy → Prop) : Nat → Int32 → Int32 → Dy → Prop
  | 0 => fun _ _ _ => False
  | n + 1 => b_X10_lift_92 E a0 p1 p2 p3 p4 K X (l_X10_lift_92 E a0 p1 p2 p3 p4 K X n)
def b_X10_lift_50 (E : En) (a0 : Nat) (p1 : Int32) (p2 : Int32) (p3 : Int32) (p4 : Int32) (K : Int32 → Dy → Prop) (X : String → Dy → Prop) (v5 : Int32) (s0 : Int32) (d : Dy) : Prop := w_X10_need E s0 d (fun d_47 => ∃ b_49 : Nat, eR E a0 5 = some b_49 ∧ okO E b_49 3 ∧ ∃ b_52 : Nat, eR E a0 0 = some b_52 ∧ okO E b_52 8 ∧ w_X3_begin E b_49 (gI d_47 b_52 0) d_47 (fun d_55 => ∃ b_57 : Nat, eR E a0 5 = some b_57 ∧ okO E b_57 3 ∧ ∃ b_60 : Nat, eR E a0 0 = some b_60 ∧ okO E b_60 8 ∧ w_X3_goTo E b_57 (gI d_55 b_60 0) d_55 (fun d_63 => ∃ b_65 : Nat, eR E a0 8 = some b_65 ∧ okO E b_65 9 ∧ w_X9_clear E b_65 p2 d_63 (fun d_68 => (∃ n_70 : Nat, l_X10_lift_92 E a0 p1 p2 p3 p4 K X n_70 v5 0 d_68))))) X
def b_X10_lift_12 (E : En) (a0 : Nat) (p1 : Int32) (p2 : Int32) (p3 : Int32) (p4 : Int32) (K : Int32 → Dy → Prop) (X : String → Dy → Prop) (d : Dy) : Prop := w_X10_needBetween E p2 1 4 d (fun d_71 => w_X10_needBetween E p3 0 2 d_71 (fun d_73 => ∃ b_75 : Nat, eR E a0 0 = some b_75 ∧ okO E b_75 8 ∧ w_X8_hutBits E b_75 d_73 (fun r_79 d_78 => w_J6_bitCount_0f7a4 E (p1 &&& r_79) d_78 (fun r_81 d_80 => ((7 < r_81 → b_X10_lift_50 E a0 p1 p2 p3 p4 K X (p1 &&& r_79) 0 d_80) ∧ (¬ 7 < r_81 → b_X10_lift_50 E a0 p1 p2 p3 p4 K X (p1 &&& r_79) 1 d_80))))) X) X
def w_X10_lift (E : En) (a0 : Nat) (p1 : Int32) (p2 : Int32) (p3 : Int32) (p4 : Int32) (d : Dy) (K : Int32 → Dy → Prop) (X : String → Dy → Prop) : Prop := okO E a0 10 ∧ ((p4 = (-1) → b_X10_lift_12 E a0 p1 p2 p3 p4 K X d) ∧ (¬ p4 = (-1) → w_X10_needHut E a0 p4 d (fun d_84 => b_X10_lift_12 E a0 p1 p2 p3 p4 K X d_84) X))
abbrev rm_X10_lift : Room := { frames := 64, cells := 4, slots := 24, locals := 1797 }
set_option maxRecDepth 100000 in
set_option maxHeartbeats 4000000 in
theorem m_X10_lift (l : Launch) (hst : l.stackTraces = false) (D : va_G) (cs : Nat → ClassId) (E : En) (d : Dy) (sz : Nat) (a0 : Nat) (p1 : Int32) (p2 : Int32) (p3 : Int32) (p4 : Int32) (K : Int32 → Dy → Prop) (X : String → Dy → Prop) : XI l yX10_lift (.code yX10_lift cX10_lift 9 (some .int) :: wsL_law) rm_X10_lift D cs E d sz [.ref a0, .int p1, .int p2, .int p3, .int p4] (w_X10_lift E a0 p1 p2 p3 p4 d K X) K X := by
  refine e_ofX (cc := cX10_lift) (maxL := 9) (ret := (some .int)) (own := RX10) (by decide) rfl rfl (Nat.le_of_ble_eq_true rfl) ?_
  intro p e s m below meth c S hr hlocks hsz hT H locs hw h ls hl
  have hl : lv_has ls 9 [(0, .ref a0), (1, .int p1), (2, .int p2), (3, .int p3), (4, .int p4)] := hl
  unfold w_X10_lift at h
  obtain ⟨ha0, h⟩ := h
  have tl92 : ∀ (n : Nat) (v5 : Int32) (v6 : Int32) (d : Dy) (H : Heap) (locs : List Loc) (ls : Array Slot), l_X10_lift_92 E a0 p1 p2 p3 p4 K X n v5 v6 d → Wd D cs (AW E sz) s.heap s E d H locs → lv_has ls 9 [(0, .ref a0), (3, .int p3), (4, .int p4), (5, .int v5), (6, .int v6)] → W p l e rm_X10_lift s m ([.ref a0, .int p1, .int p2, .int p3, .int p4] : List Value).toArray below meth c H locs 4 24 (vx_MQ below (va_Qi K (OutW D cs E (AW E sz)) (AW E sz)) (XX D cs E sz X) ([.ref a0, .int p1, .int p2, .int p3, .int p4] : List Value).toArray s rm_X10_lift.cells rm_X10_lift.slots (AW E sz)) (F0 m 92 ls []) := by
    intro n92
    induction n92 with
    | zero => intro v5 v6 d H locs ls h; exact absurd h id
    | succ n92 ih92 =>
      have tb150 : ∀ (v5 : Int32) (v6 : Int32) (v7 : Int32) (s0 : Int32) (d : Dy) (H : Heap) (locs : List Loc) (ls : Array Slot), b_X10_lift_150 E a0 p1 p2 p3 p4 K X (l_X10_lift_92 E a0 p1 p2 p3 p4 K X n92) v5 v6 v7 s0 d → Wd D cs (AW E sz) s.heap s E d H locs → lv_has ls 9 [(0, .ref a0), (3, .int p3), (4, .int p4), (5, .int v5), (6, .int v6), (7, .int v7)] → W p l e rm_X10_lift s m ([.ref a0, .int p1, .int p2, .int p3, .int p4] : List Value).toArray below meth c H locs 4 24 (vx_MQ below (va_Qi K (OutW D cs E (AW E sz)) (AW E sz)) (XX D cs E sz X) ([.ref a0, .int p1, .int p2, .int p3, .int p4] : List Value).toArray s rm_X10_lift.cells rm_X10_lift.slots (AW E sz)) (F0 m 150 ls [.int s0]) := by
        intro v5 v6 v7 s0 d H locs ls h hw hl
        unfold b_X10_lift_150 at h
        refine lv_istore (lv' := [(8, .int s0), (0, .ref a0), (3, .int p3), (4, .int p4), (5, .int v5), (6, .int v6), (7, .int v7)]) S.1 S.2.1 (dd_at ddX10_lift 74 rfl) hl (by decide) rfl (fun ls hl => ?_)
        refine lv_aload_n S.1 S.2.1 (dd_at ddX10_lift 75 rfl) rfl (lv_at hl 1 rfl) ?_
        obtain ⟨b_1, hb_2, ho_3, h⟩ := h
        refine r_getR S hw 10 8 rfl inG10 (by decide) (List.mem_cons_of_mem _ wg35) (by decide) ha0 hb_2 (dd_at ddX10_lift 76 rfl) ?_
        refine lv_iload S.1 S.2.1 (dd_at ddX10_lift 77 rfl) (lv_at hl 6 rfl) ?_
        refine lv_aload_n S.1 S.2.1 (dd_at ddX10_lift 78 rfl) rfl (lv_at hl 1 rfl) ?_
        obtain ⟨b_4, hb_5, ho_6, h⟩ := h
        refine r_getR S hw 10 0 rfl inG10 (by decide) (List.mem_cons_of_mem _ wg16) (by decide) ha0 hb_5 (dd_at ddX10_lift 79 rfl) ?_
        obtain ⟨b_7, hb_8, ho_9, h⟩ := h
        refine r_getRN S hw 8 2 rfl inG8 (by decide) nx7 (by decide) ho_6 hb_8 (dd_at ddX10_lift 80 rfl) ?_
        refine lv_iload S.1 S.2.1 (dd_at ddX10_lift 81 rfl) (lv_at hl 6 rfl) ?_
        refine lv_iconst (v := 0) S.1 S.2.1 (dd_at ddX10_lift 82 rfl) (by decide) ?_
        refine r_callI hw (r_runV (As := [.int v7, .int 0]) (rest := [.int v7, .ref b_1]) S hw (m_X6_get l D cs E d H.size b_7 v7 0 _) (cwV 2 S.2.2.2.2 (gV wg997 wg623 wg624 wg51 wg625) rfl rfl rfl (by decide +kernel) ⟨Nat.le_of_ble_eq_true rfl, Nat.le_of_ble_eq_true rfl⟩) (ci := 6) rfl ho_9 h rfl hl.1 rfl (Nat.le_of_ble_eq_true rfl) (dd_at ddX10_lift 83 rfl) ⟨Nat.le_of_ble_eq_true rfl, Nat.le_of_ble_eq_true rfl⟩) (fun r_11 d_10 H locs h hw => ?_)
        refine lv_iload S.1 S.2.1 (dd_at ddX10_lift 84 rfl) (lv_at hl 0 rfl) ?_
        refine r_callV hw (r_runV (As := [.int v7, .int r_11, .int s0]) (rest := []) S hw (m_X9_bring l D cs E d_10 H.size b_1 v7 r_11 s0 _) (cwV 3 S.2.2.2.2 (gV wg1163 wg1164 wg1165 wg34 wg1166) rfl rfl rfl (by decide +kernel) ⟨Nat.le_of_ble_eq_true rfl, Nat.le_of_ble_eq_true rfl⟩) (ci := 9) rfl ho_3 h rfl hl.1 rfl (Nat.le_of_ble_eq_true rfl) (dd_at ddX10_lift 85 rfl) ⟨Nat.le_of_ble_eq_true rfl, Nat.le_of_ble_eq_true rfl⟩) (fun d_12 H locs h hw => ?_)
        refine lv_iinc (v := v6 + 1) (lv' := [(6, .int (v6 + 1)), (8, .int s0), (0, .ref a0), (3, .int p3), (4, .int p4), (5, .int v5), (7, .int v7)]) S.1 S.2.1 (dd_at ddX10_lift 86 rfl) hl (k := 5) rfl rfl (by decide) rfl (fun ls hl => ?_)
        refine lv_goto (tgt := 92) S.1 S.2.1 (dd_at ddX10_lift 87 rfl) (by decide) ?_
        exact ih92 v5 (v6 + 1) d_12 H locs ls h hw (lv_sub hl [2, 3, 4, 5, 0] rfl)
      intro v5 v6 d H locs ls h hw hl
      have h : b_X10_lift_92 E a0 p1 p2 p3 p4 K X (l_X10_lift_92 E a0 p1 p2 p3 p4 K X n92) v5 v6 d := h
      unfold b_X10_lift_92 at h
      refine lv_iload S.1 S.2.1 (dd_at ddX10_lift 46 rfl) (lv_at hl 4 rfl) ?_
      refine lv_aload_n S.1 S.2.1 (dd_at ddX10_lift 47 rfl) rfl (lv_at hl 0 rfl) ?_
      obtain ⟨b_14, hb_15, ho_16, h⟩ := h
      refine r_getR S hw 10 0 rfl inG10 (by decide) (List.mem_cons_of_mem _ wg16) (by decide) ha0 hb_15 (dd_at ddX10_lift 48 rfl) ?_
      obtain ⟨b_17, hb_18, ho_19, h⟩ := h
      refine r_getRN S hw 8 2 rfl inG8 (by decide) nx7 (by decide) ho_16 hb_18 (dd_at ddX10_lift 49 rfl) ?_
      refine r_callI hw (r_runV (As := []) (rest := [.int v6]) S hw (m_X6_size l D cs E d H.size b_17 _) (cwV 0 S.2.2.2.2 (gV wg578 wg372 wg373 wg51 wg374) rfl rfl rfl (by decide +kernel) ⟨Nat.le_of_ble_eq_true rfl, Nat.le_of_ble_eq_true rfl⟩) (ci := 6) rfl ho_19 h rfl hl.1 rfl (Nat.le_of_ble_eq_true rfl) (dd_at ddX10_lift 50 rfl) ⟨Nat.le_of_ble_eq_true rfl, Nat.le_of_ble_eq_true rfl⟩) (fun r_21 d_20 H locs h hw => ?_)
      refine lv_icmp_ge (tgt := 182) S.1 S.2.1 (dd_at ddX10_lift 51 rfl) (by decide) (fun hc_22 => ?_) (fun hc_22 => ?_)
      · have h := h.1 hc_22
        refine lv_aload_n S.1 S.2.1 (dd_at ddX10_lift 88 rfl) rfl (lv_at hl 0 rfl) ?_
        obtain ⟨b_23, hb_24, ho_25, h⟩ := h
        refine r_getR S hw 10 8 rfl inG10 (by decide) (List.mem_cons_of_mem _ wg35) (by decide) ha0 hb_24 (dd_at ddX10_lift 89 rfl) ?_
        refine r_callV hw (r_runV (As := []) (rest := []) S hw (m_X9_search l D cs E d_20 H.size b_23 _) (cwV 0 S.2.2.2.2 (gV wg1167 wg1168 wg1169 wg34 wg1170) rfl rfl rfl (by decide +kernel) ⟨Nat.le_of_ble_eq_true rfl, Nat.le_of_ble_eq_true rfl⟩) (ci := 9) rfl ho_25 h rfl hl.1 rfl (Nat.le_of_ble_eq_true rfl) (dd_at ddX10_lift 90 rfl) ⟨Nat.le_of_ble_eq_true rfl, Nat.le_of_ble_eq_true rfl⟩) (fun d_26 H locs h hw => ?_)
        refine lv_iload S.1 S.2.1 (dd_at ddX10_lift 91 rfl) (lv_at hl 2 rfl) ?_
        refine lv_iconst (v := -1) S.1 S.2.1 (dd_at ddX10_lift 92 rfl) (by decide) ?_
        refine lv_icmp_ne (tgt := 205) S.1 S.2.1 (dd_at ddX10_lift 93 rfl) (by decide) (fun hc_28 => ?_) (fun hc_28 => ?_)
        · have h := h.1 hc_28
          refine lv_aload_n S.1 S.2.1 (dd_at ddX10_lift 98 rfl) rfl (lv_at hl 0 rfl) ?_
          obtain ⟨b_29, hb_30, ho_31, h⟩ := h
          refine r_getR S hw 10 8 rfl inG10 (by decide) (List.mem_cons_of_mem _ wg35) (by decide) ha0 hb_30 (dd_at ddX10_lift 99 rfl) ?_
          refine lv_iload S.1 S.2.1 (dd_at ddX10_lift 100 rfl) (lv_at hl 2 rfl) ?_
          refine r_callI hw (r_runV (As := [.int p4]) (rest := []) S hw (m_X9_pileOf l D cs E d_26 H.size b_29 p4 _) (cwV 1 S.2.2.2.2 (gV wg1182 wg1183 wg1184 wg34 wg1185) rfl rfl rfl (by decide +kernel) ⟨Nat.le_of_ble_eq_true rfl, Nat.le_of_ble_eq_true rfl⟩) (ci := 9) rfl ho_31 h rfl hl.1 rfl (Nat.le_of_ble_eq_true rfl) (dd_at ddX10_lift 101 rfl) ⟨Nat.le_of_ble_eq_true rfl, Nat.le_of_ble_eq_true rfl⟩) (fun r_33 d_32 H locs h hw => ?_)
          exact vx_ret (e_I S hr hlocks hw h (dd_at ddX10_lift 102 rfl))
        · have h := h.2 hc_28
          refine lv_aload_n S.1 S.2.1 (dd_at ddX10_lift 94 rfl) rfl (lv_at hl 0 rfl) ?_
          obtain ⟨b_34, hb_35, ho_36, h⟩ := h
          refine r_getR S hw 10 8 rfl inG10 (by decide) (List.mem_cons_of_mem _ wg35) (by decide) ha0 hb_35 (dd_at ddX10_lift 95 rfl) ?_
          refine r_callI hw (r_runV (As := []) (rest := []) S hw (m_X9_least l D cs E d_26 H.size b_34 _) (cwV 0 S.2.2.2.2 (gV wg1178 wg1179 wg1180 wg34 wg1181) rfl rfl rfl (by decide +kernel) ⟨Nat.le_of_ble_eq_true rfl, Nat.le_of_ble_eq_true rfl⟩) (ci := 9) rfl ho_36 h rfl hl.1 rfl (Nat.le_of_ble_eq_true rfl) (dd_at ddX10_lift 96 rfl) ⟨Nat.le_of_ble_eq_true rfl, Nat.le_of_ble_eq_true rfl⟩) (fun r_38 d_37 H locs h hw => ?_)
          refine lv_goto (tgt := 214) S.1 S.2.1 (dd_at ddX10_lift 97 rfl) (by decide) ?_
          exact vx_ret (e_I S hr hlocks hw h (dd_at ddX10_lift 102 rfl))
      · have h := h.2 hc_22
        refine lv_aload_n S.1 S.2.1 (dd_at ddX10_lift 52 rfl) rfl (lv_at hl 0 rfl) ?_
        obtain ⟨b_39, hb_40, ho_41, h⟩ := h
        refine r_getR S hw 10 5 rfl inG10 (by decide) (List.mem_cons_of_mem _ wg26) (by decide) ha0 hb_40 (dd_at ddX10_lift 53 rfl) ?_
        refine lv_iload S.1 S.2.1 (dd_at ddX10_lift 54 rfl) (lv_at hl 4 rfl) ?_
        refine r_callI hw (r_runV (As := [.int v6]) (rest := []) S hw (m_X3_hutAt l D cs E d_20 H.size b_39 v6 _) (cwV 1 S.2.2.2.2 (gV wg1159 wg1160 wg1161 wg25 wg1162) rfl rfl rfl (by decide +kernel) ⟨Nat.le_of_ble_eq_true rfl, Nat.le_of_ble_eq_true rfl⟩) (ci := 3) rfl ho_41 h rfl hl.1 rfl (Nat.le_of_ble_eq_true rfl) (dd_at ddX10_lift 55 rfl) ⟨Nat.le_of_ble_eq_true rfl, Nat.le_of_ble_eq_true rfl⟩) (fun r_43 d_42 H locs h hw => ?_)
        refine lv_istore (lv' := [(7, .int r_43), (0, .ref a0), (3, .int p3), (4, .int p4), (5, .int v5), (6, .int v6)]) S.1 S.2.1 (dd_at ddX10_lift 56 rfl) hl (by decide) rfl (fun ls hl => ?_)
        refine lv_iload S.1 S.2.1 (dd_at ddX10_lift 57 rfl) (lv_at hl 4 rfl) ?_
        refine lv_iload S.1 S.2.1 (dd_at ddX10_lift 58 rfl) (lv_at hl 0 rfl) ?_
        refine lv_ishr S.1 S.2.1 (dd_at ddX10_lift 59 rfl) ?_
        refine lv_iconst (v := 1) S.1 S.2.1 (dd_at ddX10_lift 60 rfl) (by decide) ?_
        refine lv_iand S.1 S.2.1 (dd_at ddX10_lift 61 rfl) ?_
        refine lv_if_eq (tgt := 176) S.1 S.2.1 (dd_at ddX10_lift 62 rfl) (by decide) (fun hc_44 => ?_) (fun hc_44 => ?_)
        · have h := h.1 hc_44
          refine lv_iinc (v := v6 + 1) (lv' := [(6, .int (v6 + 1)), (7, .int r_43), (0, .ref a0), (3, .int p3), (4, .int p4), (5, .int v5)]) S.1 S.2.1 (dd_at ddX10_lift 86 rfl) hl (k := 5) rfl rfl (by decide) rfl (fun ls hl => ?_)
          refine lv_goto (tgt := 92) S.1 S.2.1 (dd_at ddX10_lift 87 rfl) (by decide) ?_
          exact ih92 v5 (v6 + 1) d_42 H locs ls h hw (lv_sub hl [2, 3, 4, 5, 0] rfl)
        · have h := h.2 hc_44
          refine lv_iload_n S.1 S.2.1 (dd_at ddX10_lift 63 rfl) rfl (lv_at hl 2 rfl) ?_
          refine lv_if_ne (tgt := 137) S.1 S.2.1 (dd_at ddX10_lift 64 rfl) (by decide) (fun hc_45 => ?_) (fun hc_45 => ?_)
          · have h := h.1 hc_45
            refine lv_iload_n S.1 S.2.1 (dd_at ddX10_lift 67 rfl) rfl (lv_at hl 2 rfl) ?_
            refine lv_iconst (v := 1) S.1 S.2.1 (dd_at ddX10_lift 68 rfl) (by decide) ?_
            refine lv_icmp_ne (tgt := 148) S.1 S.2.1 (dd_at ddX10_lift 69 rfl) (by decide) (fun hc_46 => ?_) (fun hc_46 => ?_)
            · have h := h.1 hc_46
              refine lv_iload S.1 S.2.1 (dd_at ddX10_lift 73 rfl) (lv_at hl 0 rfl) ?_
              exact tb150 v5 v6 r_43 r_43 d_42 H locs ls h hw (lv_sub hl [1, 2, 3, 4, 5, 0] rfl)
            · have h := h.2 hc_46
              refine lv_iload S.1 S.2.1 (dd_at ddX10_lift 70 rfl) (lv_at hl 5 rfl) ?_
              refine lv_ineg S.1 S.2.1 (dd_at ddX10_lift 71 rfl) ?_
              refine lv_goto (tgt := 150) S.1 S.2.1 (dd_at ddX10_lift 72 rfl) (by decide) ?_
              exact tb150 v5 v6 r_43 (-v6) d_42 H locs ls h hw (lv_sub hl [1, 2, 3, 4, 5, 0] rfl)
          · have h := h.2 hc_45
            refine lv_iload S.1 S.2.1 (dd_at ddX10_lift 65 rfl) (lv_at hl 5 rfl) ?_
            refine lv_goto (tgt := 150) S.1 S.2.1 (dd_at ddX10_lift 66 rfl) (by decide) ?_
            exact tb150 v5 v6 r_43 v6 d_42 H locs ls h hw (lv_sub hl [1, 2, 3, 4, 5, 0] rfl)
  have tb50 : ∀ (v5 : Int32) (s0 : Int32) (d : Dy) (H : Heap) (locs : List Loc) (ls : Array Slot), b_X10_lift_50 E a0 p1 p2 p3 p4 K X v5 s0 d → Wd D cs (AW E sz) s.heap s E d H locs → lv_has ls 9 [(0, .ref a0), (2, .int p2), (3, .int p3), (4, .int p4), (5, .int v5)] → W p l e rm_X10_lift s m ([.ref a0, .int p1, .int p2, .int p3, .int p4] : List Value).toArray below meth c H locs 3 18 (vx_MQ below (va_Qi K (OutW D cs E (AW E sz)) (AW E sz)) (XX D cs E sz X) ([.ref a0, .int p1, .int p2, .int p3, .int p4] : List Value).toArray s rm_X10_lift.cells rm_X10_lift.slots (AW E sz)) (F0 m 50 ls [.int s0]) := by
    intro v5 s0 d H locs ls h hw hl
    unfold b_X10_lift_50 at h
    refine r_xcallV hT hlocks hw (r_xrunS (As := [.int s0]) (rest := []) S hw (m_X10_need l hst D cs E d H.size s0 _ _) (va_cwS 1 S.2.2.2.2 (gS wg361 wg362 wg2 wg363) rfl rfl rfl (by decide +kernel) ⟨Nat.le_of_ble_eq_true rfl, Nat.le_of_ble_eq_true rfl⟩) h rfl hl.1 rfl (Nat.le_of_ble_eq_true rfl) (dd_at ddX10_lift 27 rfl) ⟨Nat.le_of_ble_eq_true rfl, Nat.le_of_ble_eq_true rfl⟩) (Nat.le_of_ble_eq_true rfl) (Nat.le_of_ble_eq_true rfl) (fun d_47 H locs h hw => ?_)
    refine lv_aload_n S.1 S.2.1 (dd_at ddX10_lift 28 rfl) rfl (lv_at hl 0 rfl) ?_
    obtain ⟨b_49, hb_50, ho_51, h⟩ := h
    refine r_getR S hw 10 5 rfl inG10 (by decide) (List.mem_cons_of_mem _ wg26) (by decide) ha0 hb_50 (dd_at ddX10_lift 29 rfl) ?_
    refine lv_aload_n S.1 S.2.1 (dd_at ddX10_lift 30 rfl) rfl (lv_at hl 0 rfl) ?_
    obtain ⟨b_52, hb_53, ho_54, h⟩ := h
    refine r_getR S hw 10 0 rfl inG10 (by decide) (List.mem_cons_of_mem _ wg16) (by decide) ha0 hb_53 (dd_at ddX10_lift 31 rfl) ?_
    refine r_getIN S hw 8 0 rfl inG8 (by decide) nx0 (by decide) ho_54 (dd_at ddX10_lift 32 rfl) ?_
    refine r_callV hw (r_runV (As := [.int (gI d_47 b_52 0)]) (rest := []) S hw (m_X3_begin l D cs E d_47 H.size b_49 (gI d_47 b_52 0) _) (cwV 1 S.2.2.2.2 (gV wg661 wg662 wg663 wg25 wg664) rfl rfl rfl (by decide +kernel) ⟨Nat.le_of_ble_eq_true rfl, Nat.le_of_ble_eq_true rfl⟩) (ci := 3) rfl ho_51 h rfl hl.1 rfl (Nat.le_of_ble_eq_true rfl) (dd_at ddX10_lift 33 rfl) ⟨Nat.le_of_ble_eq_true rfl, Nat.le_of_ble_eq_true rfl⟩) (fun d_55 H locs h hw => ?_)
    refine lv_aload_n S.1 S.2.1 (dd_at ddX10_lift 34 rfl) rfl (lv_at hl 0 rfl) ?_
    obtain ⟨b_57, hb_58, ho_59, h⟩ := h
    refine r_getR S hw 10 5 rfl inG10 (by decide) (List.mem_cons_of_mem _ wg26) (by decide) ha0 hb_58 (dd_at ddX10_lift 35 rfl) ?_
    refine lv_aload_n S.1 S.2.1 (dd_at ddX10_lift 36 rfl) rfl (lv_at hl 0 rfl) ?_
    obtain ⟨b_60, hb_61, ho_62, h⟩ := h
    refine r_getR S hw 10 0 rfl inG10 (by decide) (List.mem_cons_of_mem _ wg16) (by decide) ha0 hb_61 (dd_at ddX10_lift 37 rfl) ?_
    refine r_getIN S hw 8 0 rfl inG8 (by decide) nx0 (by decide) ho_62 (dd_at ddX10_lift 38 rfl) ?_
    refine r_callV hw (r_runV (As := [.int (gI d_55 b_60 0)]) (rest := []) S hw (m_X3_goTo l D cs E d_55 H.size b_57 (gI d_55 b_60 0) _) (cwV 1 S.2.2.2.2 (gV wg678 wg679 wg680 wg25 wg681) rfl rfl rfl (by decide +kernel) ⟨Nat.le_of_ble_eq_true rfl, Nat.le_of_ble_eq_true rfl⟩) (ci := 3) rfl ho_59 h rfl hl.1 rfl (Nat.le_of_ble_eq_true rfl) (dd_at ddX10_lift 39 rfl) ⟨Nat.le_of_ble_eq_true rfl, Nat.le_of_ble_eq_true rfl⟩) (fun d_63 H locs h hw => ?_)
    refine lv_aload_n S.1 S.2.1 (dd_at ddX10_lift 40 rfl) rfl (lv_at hl 0 rfl) ?_
    obtain ⟨b_65, hb_66, ho_67, h⟩ := h
    refine r_getR S hw 10 8 rfl inG10 (by decide) (List.mem_cons_of_mem _ wg35) (by decide) ha0 hb_66 (dd_at ddX10_lift 41 rfl) ?_
    refine lv_iload_n S.1 S.2.1 (dd_at ddX10_lift 42 rfl) rfl (lv_at hl 1 rfl) ?_
    refine r_callV hw (r_runV (As := [.int p2]) (rest := []) S hw (m_X9_clear l D cs E d_63 H.size b_65 p2 _) (cwV 1 S.2.2.2.2 (gV wg1150 wg1151 wg1152 wg34 wg1153) rfl rfl rfl (by decide +kernel) ⟨Nat.le_of_ble_eq_true rfl, Nat.le_of_ble_eq_true rfl⟩) (ci := 9) rfl ho_67 h rfl hl.1 rfl (Nat.le_of_ble_eq_true rfl) (dd_at ddX10_lift 43 rfl) ⟨Nat.le_of_ble_eq_true rfl, Nat.le_of_ble_eq_true rfl⟩) (fun d_68 H locs h hw => ?_)
    refine lv_iconst (v := 0) S.1 S.2.1 (dd_at ddX10_lift 44 rfl) (by decide) ?_
    refine lv_istore (lv' := [(6, .int 0), (0, .ref a0), (2, .int p2), (3, .int p3), (4, .int p4), (5, .int v5)]) S.1 S.2.1 (dd_at ddX10_lift 45 rfl) hl (by decide) rfl (fun ls hl => ?_)
    obtain ⟨n_70, h⟩ := h
    exact tl92 n_70 v5 0 d_68 H locs ls h hw (lv_sub hl [1, 3, 4, 5, 0] rfl)
  have tb12 : ∀ (d : Dy) (H : Heap) (locs : List Loc) (ls : Array Slot), b_X10_lift_12 E a0 p1 p2 p3 p4 K X d → Wd D cs (AW E sz) s.heap s E d H locs → lv_has ls 9 [(0, .ref a0), (1, .int p1), (2, .int p2), (3, .int p3), (4, .int p4)] → W p l e rm_X10_lift s m ([.ref a0, .int p1, .int p2, .int p3, .int p4] : List Value).toArray below meth c H locs 1 6 (vx_MQ below (va_Qi K (OutW D cs E (AW E sz)) (AW E sz)) (XX D cs E sz X) ([.ref a0, .int p1, .int p2, .int p3, .int p4] : List Value).toArray s rm_X10_lift.cells rm_X10_lift.slots (AW E sz)) (F0 m 12 ls []) := by
    intro d H locs ls h hw hl
    unfold b_X10_lift_12 at h
    refine lv_iload_n S.1 S.2.1 (dd_at ddX10_lift 6 rfl) rfl (lv_at hl 2 rfl) ?_
    refine lv_iconst (v := 1) S.1 S.2.1 (dd_at ddX10_lift 7 rfl) (by decide) ?_
    refine lv_iconst (v := 4) S.1 S.2.1 (dd_at ddX10_lift 8 rfl) (by decide) ?_
    refine r_xcallV hT hlocks hw (r_xrunS (As := [.int p2, .int 1, .int 4]) (rest := []) S hw (m_X10_needBetween l hst D cs E d H.size p2 1 4 _ _) (va_cwS 3 S.2.2.2.2 (gS wg525 wg526 wg2 wg527) rfl rfl rfl (by decide +kernel) ⟨Nat.le_of_ble_eq_true rfl, Nat.le_of_ble_eq_true rfl⟩) h rfl hl.1 rfl (Nat.le_of_ble_eq_true rfl) (dd_at ddX10_lift 9 rfl) ⟨Nat.le_of_ble_eq_true rfl, Nat.le_of_ble_eq_true rfl⟩) (Nat.le_of_ble_eq_true rfl) (Nat.le_of_ble_eq_true rfl) (fun d_71 H locs h hw => ?_)
    refine lv_iload_n S.1 S.2.1 (dd_at ddX10_lift 10 rfl) rfl (lv_at hl 3 rfl) ?_
    refine lv_iconst (v := 0) S.1 S.2.1 (dd_at ddX10_lift 11 rfl) (by decide) ?_
    refine lv_iconst (v := 2) S.1 S.2.1 (dd_at ddX10_lift 12 rfl) (by decide) ?_
    refine r_xcallV hT hlocks hw (r_xrunS (As := [.int p3, .int 0, .int 2]) (rest := []) S hw (m_X10_needBetween l hst D cs E d_71 H.size p3 0 2 _ _) (va_cwS 3 S.2.2.2.2 (gS wg525 wg526 wg2 wg527) rfl rfl rfl (by decide +kernel) ⟨Nat.le_of_ble_eq_true rfl, Nat.le_of_ble_eq_true rfl⟩) h rfl hl.1 rfl (Nat.le_of_ble_eq_true rfl) (dd_at ddX10_lift 13 rfl) ⟨Nat.le_of_ble_eq_true rfl, Nat.le_of_ble_eq_true rfl⟩) (Nat.le_of_ble_eq_true rfl) (Nat.le_of_ble_eq_true rfl) (fun d_73 H locs h hw => ?_)
    refine lv_iload_n S.1 S.2.1 (dd_at ddX10_lift 14 rfl) rfl (lv_at hl 1 rfl) ?_
    refine lv_aload_n S.1 S.2.1 (dd_at ddX10_lift 15 rfl) rfl (lv_at hl 0 rfl) ?_
    obtain ⟨b_75, hb_76, ho_77, h⟩ := h
    refine r_getR S hw 10 0 rfl inG10 (by decide) (List.mem_cons_of_mem _ wg16) (by decide) ha0 hb_76 (dd_at ddX10_lift 16 rfl) ?_
    refine r_callI hw (r_runV (As := []) (rest := [.int p1]) S hw (m_X8_hutBits l D cs E d_73 H.size b_75 _) (cwV 0 S.2.2.2.2 (gV wg1145 wg1146 wg1147 wg15 wg1148) rfl rfl rfl (by decide +kernel) ⟨Nat.le_of_ble_eq_true rfl, Nat.le_of_ble_eq_true rfl⟩) (ci := 8) rfl ho_77 h rfl hl.1 rfl (Nat.le_of_ble_eq_true rfl) (dd_at ddX10_lift 17 rfl) ⟨Nat.le_of_ble_eq_true rfl, Nat.le_of_ble_eq_true rfl⟩) (fun r_79 d_78 H locs h hw => ?_)
    refine lv_iand S.1 S.2.1 (dd_at ddX10_lift 18 rfl) ?_
    refine lv_istore (lv' := [(5, .int (p1 &&& r_79)), (0, .ref a0), (1, .int p1), (2, .int p2), (3, .int p3), (4, .int p4)]) S.1 S.2.1 (dd_at ddX10_lift 19 rfl) hl (by decide) rfl (fun ls hl => ?_)
    refine lv_iload S.1 S.2.1 (dd_at ddX10_lift 20 rfl) (lv_at hl 0 rfl) ?_
    refine r_callI hw (r_runS (As := [.int (p1 &&& r_79)]) (rest := []) S hw (m_J6_bitCount_0f7a4 l D cs E d_78 H.size (p1 &&& r_79) _) (va_cwS 1 S.2.2.2.2 (gS wg941 wg724 wg725 wg726) rfl rfl rfl (by decide +kernel) ⟨Nat.le_of_ble_eq_true rfl, Nat.le_of_ble_eq_true rfl⟩) h rfl hl.1 rfl (Nat.le_of_ble_eq_true rfl) (dd_at ddX10_lift 21 rfl) ⟨Nat.le_of_ble_eq_true rfl, Nat.le_of_ble_eq_true rfl⟩) (fun r_81 d_80 H locs h hw => ?_)
    refine lv_bipush (v := 7) S.1 S.2.1 (dd_at ddX10_lift 22 rfl) (by decide) ?_
    refine lv_icmp_gt (tgt := 49) S.1 S.2.1 (dd_at ddX10_lift 23 rfl) (by decide) (fun hc_82 => ?_) (fun hc_82 => ?_)
    · have h := h.1 hc_82
      refine lv_iconst (v := 0) S.1 S.2.1 (dd_at ddX10_lift 26 rfl) (by decide) ?_
      exact tb50 (p1 &&& r_79) 0 d_80 H locs ls h hw (lv_sub hl [1, 3, 4, 5, 0] rfl)
    · have h := h.2 hc_82
      refine lv_iconst (v := 1) S.1 S.2.1 (dd_at ddX10_lift 24 rfl) (by decide) ?_
      refine lv_goto (tgt := 50) S.1 S.2.1 (dd_at ddX10_lift 25 rfl) (by decide) ?_
      exact tb50 (p1 &&& r_79) 1 d_80 H locs ls h hw (lv_sub hl [1, 3, 4, 5, 0] rfl)
  refine lv_iload S.1 S.2.1 (dd_at ddX10_lift 0 rfl) (lv_at hl 4 rfl) ?_
  refine lv_iconst (v := -1) S.1 S.2.1 (dd_at ddX10_lift 1 rfl) (by decide) ?_
  refine lv_icmp_eq (tgt := 12) S.1 S.2.1 (dd_at ddX10_lift 2 rfl) (by decide) (fun hc_83 => ?_) (fun hc_83 => ?_)
  · have h := h.1 hc_83
    refine W.widen (k := 1) (n := 6) (Nat.le_of_ble_eq_true rfl) (Nat.le_of_ble_eq_true rfl) ?_
    exact tb12 d H locs ls h hw (lv_sub hl [0, 1, 2, 3, 4] rfl)
  · have h := h.2 hc_83
    refine lv_aload_n S.1 S.2.1 (dd_at ddX10_lift 3 rfl) rfl (lv_at hl 0 rfl) ?_
    refine lv_iload S.1 S.2.1 (dd_at ddX10_lift 4 rfl) (lv_at hl 4 rfl) ?_
    refine r_xcallV hT hlocks hw (r_xrunV (As := [.int p4]) (rest := []) S hw (m_X10_needHut l hst D cs E d H.size a0 p4 _ _) (cwV 1 S.2.2.2.2 (gV wg610 wg611 wg612 wg2 wg613) rfl rfl rfl (by decide +kernel) ⟨Nat.le_of_ble_eq_true rfl, Nat.le_of_ble_eq_true rfl⟩) (ci := 10) rfl ha0 h rfl hl.1 rfl (Nat.le_of_ble_eq_true rfl) (dd_at ddX10_lift 5 rfl) ⟨Nat.le_of_ble_eq_true rfl, Nat.le_of_ble_eq_true rfl⟩) (Nat.le_of_ble_eq_true rfl) (Nat.le_of_ble_eq_true rfl) (fun d_84 H locs h hw => ?_)
    exact tb12 d_84 H locs ls h hw (lv_sub hl [0, 1, 2, 3, 4] rfl)

def w_X10_wind (E : En) (a0 : Nat) (p1 : Int32) (p2 : Int32) (d : Dy) (K : Dy → Prop) (X : String → Dy → Prop) : Prop := okO E a0 10 ∧ w_X10_needIndex E p1 60 d (fun d_1 => w_X10_needBetween E p2 0 9 d_1 (fun d_3 => ∃ b_5 : Nat, eR E a0 0 = some b_5 ∧ okO E b_5 8 ∧ ∃ b_8 : Nat, eR E b_5 6 = some b_8 ∧ okO E b_8 6 ∧ w_X6_set E b_8 p1 0 p2 d_3 (fun d_11 => K d_11)) X) X
abbrev rm_X10_wind : Room := { frames := 8, cells := 2, slots := 12, locals := 142 }
set_option maxRecDepth 100000 in
set_option maxHeartbeats 4000000 in
theorem m_X10_wind (l : Launch) (hst : l.stackTraces = false) (D : va_G) (cs : Nat → ClassId) (E : En) (d : Dy) (sz : Nat) (a0 : Nat) (p1 : Int32) (p2 : Int32) (K : Dy → Prop) (X : String → Dy → Prop) : XV l yX10_wind (.code yX10_wind cX10_wind 3 none :: wsL_law) rm_X10_wind D cs E d sz [.ref a0, .int p1, .int p2] (w_X10_wind E a0 p1 p2 d K X) K X := by
  refine e_ofX (cc := cX10_wind) (maxL := 3) (ret := none) (own := RX10) (by decide) rfl rfl (Nat.le_of_ble_eq_true rfl) ?_
  intro p e s m below meth c S hr hlocks hsz hT H locs hw h ls hl
  have hl : lv_has ls 3 [(0, .ref a0), (1, .int p1), (2, .int p2)] := hl
  unfold w_X10_wind at h
  obtain ⟨ha0, h⟩ := h
  refine lv_iload_n S.1 S.2.1 (dd_at ddX10_wind 0 rfl) rfl (lv_at hl 1 rfl) ?_
  refine lv_bipush (v := 60) S.1 S.2.1 (dd_at ddX10_wind 1 rfl) (by decide) ?_
  refine r_xcallV hT hlocks hw (r_xrunS (As := [.int p1, .int 60]) (rest := []) S hw (m_X10_needIndex l hst D cs E d H.size p1 60 _ _) (va_cwS 2 S.2.2.2.2 (gS wg579 wg580 wg2 wg581) rfl rfl rfl (by decide +kernel) ⟨Nat.le_of_ble_eq_true rfl, Nat.le_of_ble_eq_true rfl⟩) h rfl hl.1 rfl (Nat.le_of_ble_eq_true rfl) (dd_at ddX10_wind 2 rfl) ⟨Nat.le_of_ble_eq_true rfl, Nat.le_of_ble_eq_true rfl⟩) (Nat.le_of_ble_eq_true rfl) (Nat.le_of_ble_eq_true rfl) (fun d_1 H locs h hw => ?_)
  refine lv_iload_n S.1 S.2.1 (dd_at ddX10_wind 3 rfl) rfl (lv_at hl 2 rfl) ?_
  refine lv_iconst (v := 0) S.1 S.2.1 (dd_at ddX10_wind 4 rfl) (by decide) ?_
  refine lv_bipush (v := 9) S.1 S.2.1 (dd_at ddX10_wind 5 rfl) (by decide) ?_
  refine r_xcallV hT hlocks hw (r_xrunS (As := [.int p2, .int 0, .int 9]) (rest := []) S hw (m_X10_needBetween l hst D cs E d_1 H.size p2 0 9 _ _) (va_cwS 3 S.2.2.2.2 (gS wg525 wg526 wg2 wg527) rfl rfl rfl (by decide +kernel) ⟨Nat.le_of_ble_eq_true rfl, Nat.le_of_ble_eq_true rfl⟩) h rfl hl.1 rfl (Nat.le_of_ble_eq_true rfl) (dd_at ddX10_wind 6 rfl) ⟨Nat.le_of_ble_eq_true rfl, Nat.le_of_ble_eq_true rfl⟩) (Nat.le_of_ble_eq_true rfl) (Nat.le_of_ble_eq_true rfl) (fun d_3 H locs h hw => ?_)
  refine lv_aload_n S.1 S.2.1 (dd_at ddX10_wind 7 rfl) rfl (lv_at hl 0 rfl) ?_
  obtain ⟨b_5, hb_6, ho_7, h⟩ := h
  refine r_getR S hw 10 0 rfl inG10 (by decide) (List.mem_cons_of_mem _ wg16) (by decide) ha0 hb_6 (dd_at ddX10_wind 8 rfl) ?_
  obtain ⟨b_8, hb_9, ho_10, h⟩ := h
  refine r_getRN S hw 8 6 rfl inG8 (by decide) nx14 (by decide) ho_7 hb_9 (dd_at ddX10_wind 9 rfl) ?_
  refine lv_iload_n S.1 S.2.1 (dd_at ddX10_wind 10 rfl) rfl (lv_at hl 1 rfl) ?_
  refine lv_iconst (v := 0) S.1 S.2.1 (dd_at ddX10_wind 11 rfl) (by decide) ?_
  refine lv_iload_n S.1 S.2.1 (dd_at ddX10_wind 12 rfl) rfl (lv_at hl 2 rfl) ?_
  refine r_callV hw (r_runV (As := [.int p1, .int 0, .int p2]) (rest := []) S hw (m_X6_set l D cs E d_3 H.size b_8 p1 0 p2 _) (cwV 3 S.2.2.2.2 (gV wg550 wg318 wg319 wg51 wg320) rfl rfl rfl (by decide +kernel) ⟨Nat.le_of_ble_eq_true rfl, Nat.le_of_ble_eq_true rfl⟩) (ci := 6) rfl ho_10 h rfl hl.1 rfl (Nat.le_of_ble_eq_true rfl) (dd_at ddX10_wind 13 rfl) ⟨Nat.le_of_ble_eq_true rfl, Nat.le_of_ble_eq_true rfl⟩) (fun d_11 H locs h hw => ?_)
  exact vx_ret (e_V S hr hlocks hw h (dd_at ddX10_wind 14 rfl))

def w_X10_firstWithin (E : En) (a0 : Nat) (p1 : Int32) (p2 : Int32) (d : Dy) (K : Int32 → Dy → Prop) : Prop := okO E a0 10 ∧ w_J6_numberOfTrailingZeros_0f7a4 E p1 d (fun r_2 d_1 => ∃ b_3 : Nat, eR E a0 0 = some b_3 ∧ okO E b_3 8 ∧ ∃ b_6 : Nat, eR E b_3 2 = some b_6 ∧ okO E b_6 6 ∧ w_X6_get E b_6 r_2 0 d_1 (fun r_10 d_9 => ((p2 < r_10 → K (-1) d_9) ∧ (¬ p2 < r_10 → K r_2 d_9))))
abbrev rm_X10_firstWithin : Room := { frames := 1, cells := 0, slots := 0, locals := 23 }
set_option maxRecDepth 100000 in
set_option maxHeartbeats 4000000 in
theorem m_X10_firstWithin (l : Launch) (D : va_G) (cs : Nat → ClassId) (E : En) (d : Dy) (sz : Nat) (a0 : Nat) (p1 : Int32) (p2 : Int32) (K : Int32 → Dy → Prop) : CI l yX10_firstWithin (.code yX10_firstWithin cX10_firstWithin 4 (some .int) :: wsL_law) rm_X10_firstWithin D cs E d sz [.ref a0, .int p1, .int p2] (w_X10_firstWithin E a0 p1 p2 d K) K := by
  refine e_of (cc := cX10_firstWithin) (maxL := 4) (ret := (some .int)) (own := RX10) (by decide) rfl rfl (Nat.le_of_ble_eq_true rfl) ?_
  intro p e s m below meth c S hr hlocks hsz H locs hw h ls hl
  have hl : lv_has ls 4 [(0, .ref a0), (1, .int p1), (2, .int p2)] := hl
  unfold w_X10_firstWithin at h
  obtain ⟨ha0, h⟩ := h
  refine lv_iload_n S.1 S.2.1 (dd_at ddX10_firstWithin 0 rfl) rfl (lv_at hl 1 rfl) ?_
  refine r_callI hw (r_runS (As := [.int p1]) (rest := []) S hw (m_J6_numberOfTrailingZeros_0f7a4 l D cs E d H.size p1 _) (va_cwS 1 S.2.2.2.2 (gS wg1229 wg782 wg725 wg783) rfl rfl rfl (by decide +kernel) ⟨Nat.le_of_ble_eq_true rfl, Nat.le_of_ble_eq_true rfl⟩) h rfl hl.1 rfl (Nat.le_of_ble_eq_true rfl) (dd_at ddX10_firstWithin 1 rfl) ⟨Nat.le_of_ble_eq_true rfl, Nat.le_of_ble_eq_true rfl⟩) (fun r_2 d_1 H locs h hw => ?_)
  refine lv_istore_n (lv' := [(3, .int r_2), (0, .ref a0), (1, .int p1), (2, .int p2)]) S.1 S.2.1 (dd_at ddX10_firstWithin 2 rfl) rfl hl (by decide) rfl (fun ls hl => ?_)
  refine lv_aload_n S.1 S.2.1 (dd_at ddX10_firstWithin 3 rfl) rfl (lv_at hl 1 rfl) ?_
  obtain ⟨b_3, hb_4, ho_5, h⟩ := h
  refine r_getR S hw 10 0 rfl inG10 (by decide) (List.mem_cons_of_mem _ wg16) (by decide) ha0 hb_4 (dd_at ddX10_firstWithin 4 rfl) ?_
  obtain ⟨b_6, hb_7, ho_8, h⟩ := h
  refine r_getRN S hw 8 2 rfl inG8 (by decide) nx7 (by decide) ho_5 hb_7 (dd_at ddX10_firstWithin 5 rfl) ?_
  refine lv_iload_n S.1 S.2.1 (dd_at ddX10_firstWithin 6 rfl) rfl (lv_at hl 0 rfl) ?_
  refine lv_iconst (v := 0) S.1 S.2.1 (dd_at ddX10_firstWithin 7 rfl) (by decide) ?_
  refine r_callI hw (r_runV (As := [.int r_2, .int 0]) (rest := []) S hw (m_X6_get l D cs E d_1 H.size b_6 r_2 0 _) (cwV 2 S.2.2.2.2 (gV wg997 wg623 wg624 wg51 wg625) rfl rfl rfl (by decide +kernel) ⟨Nat.le_of_ble_eq_true rfl, Nat.le_of_ble_eq_true rfl⟩) (ci := 6) rfl ho_8 h rfl hl.1 rfl (Nat.le_of_ble_eq_true rfl) (dd_at ddX10_firstWithin 8 rfl) ⟨Nat.le_of_ble_eq_true rfl, Nat.le_of_ble_eq_true rfl⟩) (fun r_10 d_9 H locs h hw => ?_)
  refine lv_iload_n S.1 S.2.1 (dd_at ddX10_firstWithin 9 rfl) rfl (lv_at hl 3 rfl) ?_
  refine lv_icmp_gt (tgt := 25) S.1 S.2.1 (dd_at ddX10_firstWithin 10 rfl) (by decide) (fun hc_11 => ?_) (fun hc_11 => ?_)
  · have h := h.1 hc_11
    refine lv_iconst (v := -1) S.1 S.2.1 (dd_at ddX10_firstWithin 13 rfl) (by decide) ?_
    exact e_I S hr hlocks hw h (dd_at ddX10_firstWithin 14 rfl)
  · have h := h.2 hc_11
    refine lv_iload_n S.1 S.2.1 (dd_at ddX10_firstWithin 11 rfl) rfl (lv_at hl 0 rfl) ?_
    refine lv_goto (tgt := 26) S.1 S.2.1 (dd_at ddX10_firstWithin 12 rfl) (by decide) ?_
    exact e_I S hr hlocks hw h (dd_at ddX10_firstWithin 14 rfl)

def b_X10_largestWithin_55 (E : En) (a0 : Nat) (p1 : Int32) (p2 : Int32) (K : Int32 → Dy → Prop) (k5 : Int32 → Int32 → Dy → Prop) (v3 : Int32) (v4 : Int32) (v5 : Int32) (s0 : Int32) (d : Dy) : Prop := ((s0 = 0 → k5 v3 (v4 + 1) d) ∧ (¬ s0 = 0 → ((v3 = (-1) → k5 v4 (v4 + 1) d) ∧ (¬ v3 = (-1) → ∃ b_3 : Nat, eR E a0 0 = some b_3 ∧ okO E b_3 8 ∧ ∃ b_6 : Nat, eR E b_3 2 = some b_6 ∧ okO E b_6 6 ∧ w_X6_get E b_6 v3 0 d (fun r_10 d_9 => ((v5 ≤ r_10 → k5 v3 (v4 + 1) d_9) ∧ (¬ v5 ≤ r_10 → k5 v4 (v4 + 1) d_9)))))))
def b_X10_largestWithin_54 (E : En) (a0 : Nat) (p1 : Int32) (p2 : Int32) (K : Int32 → Dy → Prop) (k5 : Int32 → Int32 → Dy → Prop) (v3 : Int32) (v4 : Int32) (v5 : Int32) (d : Dy) : Prop := b_X10_largestWithin_55 E a0 p1 p2 K k5 v3 v4 v5 0 d
def b_X10_largestWithin_5 (E : En) (a0 : Nat) (p1 : Int32) (p2 : Int32) (K : Int32 → Dy → Prop) (k5 : Int32 → Int32 → Dy → Prop) (v3 : Int32) (v4 : Int32) (d : Dy) : Prop := ∃ b_12 : Nat, eR E a0 0 = some b_12 ∧ okO E b_12 8 ∧ ∃ b_15 : Nat, eR E b_12 2 = some b_15 ∧ okO E b_15 6 ∧ w_X6_size E b_15 d (fun r_19 d_18 => ((r_19 ≤ v4 → K v3 d_18) ∧ (¬ r_19 ≤ v4 → ∃ b_21 : Nat, eR E a0 0 = some b_21 ∧ okO E b_21 8 ∧ ∃ b_24 : Nat, eR E b_21 2 = some b_24 ∧ okO E b_24 6 ∧ w_X6_get E b_24 v4 0 d_18 (fun r_28 d_27 => ((((p1 >>> (v4 &&& 31)) &&& 1) = 0 → b_X10_largestWithin_54 E a0 p1 p2 K k5 v3 v4 r_28 d_27) ∧ (¬ ((p1 >>> (v4 &&& 31)) &&& 1) = 0 → ((p2 < r_28 → b_X10_largestWithin_54 E a0 p1 p2 K k5 v3 v4 r_28 d_27) ∧ (¬ p2 < r_28 → b_X10_largestWithin_55 E a0 p1 p2 K k5 v3 v4 r_28 1 d_27))))))))
def l_X10_largestWithin_5 (E : En) (a0 : Nat) (p1 : Int32) (p2 : Int32) (K : Int32 → Dy → Prop) : Nat → Int32 → Int32 → Dy → Prop
  | 0 => fun _ _ _ => False
  | n + 1 => b_X10_largestWithin_5 E a0 p1 p2 K (l_X10_largestWithin_5 E a0 p1 p2 K n)
def w_X10_largestWithin (E : En) (a0 : Nat) (p1 : Int32) (p2 : Int32) (d : Dy) (K : Int32 → Dy → Prop) : Prop := okO E a0 10 ∧ (∃ n_31 : Nat, l_X10_largestWithin_5 E a0 p1 p2 K n_31 (-1) 0 d)
abbrev rm_X10_largestWithin : Room := { frames := 1, cells := 0, slots := 0, locals := 23 }
set_option maxRecDepth 100000 in
set_option maxHeartbeats 4000000 in
theorem m_X10_largestWithin (l : Launch) (D : va_G) (cs : Nat → ClassId) (E : En) (d : Dy) (sz : Nat) (a0 : Nat) (p1 : Int32) (p2 : Int32) (K : Int32 → Dy → Prop) : CI l yX10_largestWithin (.code yX10_largestWithin cX10_largestWithin 7 (some .int) :: wsL_law) rm_X10_largestWithin D cs E d sz [.ref a0, .int p1, .int p2] (w_X10_largestWithin E a0 p1 p2 d K) K := by
  refine e_of (cc := cX10_largestWithin) (maxL := 7) (ret := (some .int)) (own := RX10) (by decide) rfl rfl (Nat.le_of_ble_eq_true rfl) ?_
  intro p e s m below meth c S hr hlocks hsz H locs hw h ls hl
  have hl : lv_has ls 7 [(0, .ref a0), (1, .int p1), (2, .int p2)] := hl
  unfold w_X10_largestWithin at h
  obtain ⟨ha0, h⟩ := h
  have tl5 : ∀ (n : Nat) (v3 : Int32) (v4 : Int32) (d : Dy) (H : Heap) (locs : List Loc) (ls : Array Slot), l_X10_largestWithin_5 E a0 p1 p2 K n v3 v4 d → Wd D cs (AW E sz) s.heap s E d H locs → lv_has ls 7 [(0, .ref a0), (1, .int p1), (2, .int p2), (3, .int v3), (4, .int v4)] → W p l e rm_X10_largestWithin s m ([.ref a0, .int p1, .int p2] : List Value).toArray below meth c H locs 0 0 (MQ below (va_Qi K (OutW D cs E (AW E sz)) (AW E sz)) ([.ref a0, .int p1, .int p2] : List Value).toArray s rm_X10_largestWithin.cells rm_X10_largestWithin.slots (AW E sz)) (F0 m 5 ls []) := by
    intro n5
    induction n5 with
    | zero => intro v3 v4 d H locs ls h; exact absurd h id
    | succ n5 ih5 =>
      have tb55 : ∀ (v3 : Int32) (v4 : Int32) (v5 : Int32) (s0 : Int32) (d : Dy) (H : Heap) (locs : List Loc) (ls : Array Slot), b_X10_largestWithin_55 E a0 p1 p2 K (l_X10_largestWithin_5 E a0 p1 p2 K n5) v3 v4 v5 s0 d → Wd D cs (AW E sz) s.heap s E d H locs → lv_has ls 7 [(0, .ref a0), (1, .int p1), (2, .int p2), (3, .int v3), (4, .int v4), (5, .int v5)] → W p l e rm_X10_largestWithin s m ([.ref a0, .int p1, .int p2] : List Value).toArray below meth c H locs 0 0 (MQ below (va_Qi K (OutW D cs E (AW E sz)) (AW E sz)) ([.ref a0, .int p1, .int p2] : List Value).toArray s rm_X10_largestWithin.cells rm_X10_largestWithin.slots (AW E sz)) (F0 m 55 ls [.int s0]) := by
        intro v3 v4 v5 s0 d H locs ls h hw hl
        unfold b_X10_largestWithin_55 at h
        refine lv_istore (lv' := [(6, .int s0), (0, .ref a0), (1, .int p1), (2, .int p2), (3, .int v3), (4, .int v4), (5, .int v5)]) S.1 S.2.1 (dd_at ddX10_largestWithin 29 rfl) hl (by decide) rfl (fun ls hl => ?_)
        refine lv_iload S.1 S.2.1 (dd_at ddX10_largestWithin 30 rfl) (lv_at hl 0 rfl) ?_
        refine lv_if_eq (tgt := 87) S.1 S.2.1 (dd_at ddX10_largestWithin 31 rfl) (by decide) (fun hc_1 => ?_) (fun hc_1 => ?_)
        · have h := h.1 hc_1
          refine lv_iinc (v := v4 + 1) (lv' := [(4, .int (v4 + 1)), (6, .int s0), (0, .ref a0), (1, .int p1), (2, .int p2), (3, .int v3), (5, .int v5)]) S.1 S.2.1 (dd_at ddX10_largestWithin 45 rfl) hl (k := 5) rfl rfl (by decide) rfl (fun ls hl => ?_)
          refine lv_goto (tgt := 5) S.1 S.2.1 (dd_at ddX10_largestWithin 46 rfl) (by decide) ?_
          exact ih5 v3 (v4 + 1) d H locs ls h hw (lv_sub hl [2, 3, 4, 5, 0] rfl)
        · have h := h.2 hc_1
          refine lv_iload_n S.1 S.2.1 (dd_at ddX10_largestWithin 32 rfl) rfl (lv_at hl 4 rfl) ?_
          refine lv_iconst (v := -1) S.1 S.2.1 (dd_at ddX10_largestWithin 33 rfl) (by decide) ?_
          refine lv_icmp_eq (tgt := 84) S.1 S.2.1 (dd_at ddX10_largestWithin 34 rfl) (by decide) (fun hc_2 => ?_) (fun hc_2 => ?_)
          · have h := h.1 hc_2
            refine lv_iload S.1 S.2.1 (dd_at ddX10_largestWithin 43 rfl) (lv_at hl 5 rfl) ?_
            refine lv_istore_n (lv' := [(3, .int v4), (6, .int s0), (0, .ref a0), (1, .int p1), (2, .int p2), (4, .int v4), (5, .int v5)]) S.1 S.2.1 (dd_at ddX10_largestWithin 44 rfl) rfl hl (by decide) rfl (fun ls hl => ?_)
            refine lv_iinc (v := v4 + 1) (lv' := [(4, .int (v4 + 1)), (3, .int v4), (6, .int s0), (0, .ref a0), (1, .int p1), (2, .int p2), (5, .int v5)]) S.1 S.2.1 (dd_at ddX10_largestWithin 45 rfl) hl (k := 5) rfl rfl (by decide) rfl (fun ls hl => ?_)
            refine lv_goto (tgt := 5) S.1 S.2.1 (dd_at ddX10_largestWithin 46 rfl) (by decide) ?_
            exact ih5 v4 (v4 + 1) d H locs ls h hw (lv_sub hl [3, 4, 5, 1, 0] rfl)
          · have h := h.2 hc_2
            refine lv_iload S.1 S.2.1 (dd_at ddX10_largestWithin 35 rfl) (lv_at hl 6 rfl) ?_
            refine lv_aload_n S.1 S.2.1 (dd_at ddX10_largestWithin 36 rfl) rfl (lv_at hl 1 rfl) ?_
            obtain ⟨b_3, hb_4, ho_5, h⟩ := h
            refine r_getR S hw 10 0 rfl inG10 (by decide) (List.mem_cons_of_mem _ wg16) (by decide) ha0 hb_4 (dd_at ddX10_largestWithin 37 rfl) ?_
            obtain ⟨b_6, hb_7, ho_8, h⟩ := h
            refine r_getRN S hw 8 2 rfl inG8 (by decide) nx7 (by decide) ho_5 hb_7 (dd_at ddX10_largestWithin 38 rfl) ?_
            refine lv_iload_n S.1 S.2.1 (dd_at ddX10_largestWithin 39 rfl) rfl (lv_at hl 4 rfl) ?_
            refine lv_iconst (v := 0) S.1 S.2.1 (dd_at ddX10_largestWithin 40 rfl) (by decide) ?_
            refine r_callI hw (r_runV (As := [.int v3, .int 0]) (rest := [.int v5]) S hw (m_X6_get l D cs E d H.size b_6 v3 0 _) (cwV 2 S.2.2.2.2 (gV wg997 wg623 wg624 wg51 wg625) rfl rfl rfl (by decide +kernel) ⟨Nat.le_of_ble_eq_true rfl, Nat.le_of_ble_eq_true rfl⟩) (ci := 6) rfl ho_8 h rfl hl.1 rfl (Nat.le_of_ble_eq_true rfl) (dd_at ddX10_largestWithin 41 rfl) ⟨Nat.le_of_ble_eq_true rfl, Nat.le_of_ble_eq_true rfl⟩) (fun r_10 d_9 H locs h hw => ?_)
            refine lv_icmp_le (tgt := 87) S.1 S.2.1 (dd_at ddX10_largestWithin 42 rfl) (by decide) (fun hc_11 => ?_) (fun hc_11 => ?_)
            · have h := h.1 hc_11
              refine lv_iinc (v := v4 + 1) (lv' := [(4, .int (v4 + 1)), (6, .int s0), (0, .ref a0), (1, .int p1), (2, .int p2), (3, .int v3), (5, .int v5)]) S.1 S.2.1 (dd_at ddX10_largestWithin 45 rfl) hl (k := 5) rfl rfl (by decide) rfl (fun ls hl => ?_)
              refine lv_goto (tgt := 5) S.1 S.2.1 (dd_at ddX10_largestWithin 46 rfl) (by decide) ?_
              exact ih5 v3 (v4 + 1) d_9 H locs ls h hw (lv_sub hl [2, 3, 4, 5, 0] rfl)
            · have h := h.2 hc_11
              refine lv_iload S.1 S.2.1 (dd_at ddX10_largestWithin 43 rfl) (lv_at hl 5 rfl) ?_
              refine lv_istore_n (lv' := [(3, .int v4), (6, .int s0), (0, .ref a0), (1, .int p1), (2, .int p2), (4, .int v4), (5, .int v5)]) S.1 S.2.1 (dd_at ddX10_largestWithin 44 rfl) rfl hl (by decide) rfl (fun ls hl => ?_)
              refine lv_iinc (v := v4 + 1) (lv' := [(4, .int (v4 + 1)), (3, .int v4), (6, .int s0), (0, .ref a0), (1, .int p1), (2, .int p2), (5, .int v5)]) S.1 S.2.1 (dd_at ddX10_largestWithin 45 rfl) hl (k := 5) rfl rfl (by decide) rfl (fun ls hl => ?_)
              refine lv_goto (tgt := 5) S.1 S.2.1 (dd_at ddX10_largestWithin 46 rfl) (by decide) ?_
              exact ih5 v4 (v4 + 1) d_9 H locs ls h hw (lv_sub hl [3, 4, 5, 1, 0] rfl)
      have tb54 : ∀ (v3 : Int32) (v4 : Int32) (v5 : Int32) (d : Dy) (H : Heap) (locs : List Loc) (ls : Array Slot), b_X10_largestWithin_54 E a0 p1 p2 K (l_X10_largestWithin_5 E a0 p1 p2 K n5) v3 v4 v5 d → Wd D cs (AW E sz) s.heap s E d H locs → lv_has ls 7 [(0, .ref a0), (1, .int p1), (2, .int p2), (3, .int v3), (4, .int v4), (5, .int v5)] → W p l e rm_X10_largestWithin s m ([.ref a0, .int p1, .int p2] : List Value).toArray below meth c H locs 0 0 (MQ below (va_Qi K (OutW D cs E (AW E sz)) (AW E sz)) ([.ref a0, .int p1, .int p2] : List Value).toArray s rm_X10_largestWithin.cells rm_X10_largestWithin.slots (AW E sz)) (F0 m 54 ls []) := by
        intro v3 v4 v5 d H locs ls h hw hl
        unfold b_X10_largestWithin_54 at h
        refine lv_iconst (v := 0) S.1 S.2.1 (dd_at ddX10_largestWithin 28 rfl) (by decide) ?_
        exact tb55 v3 v4 v5 0 d H locs ls h hw (lv_sub hl [0, 1, 2, 3, 4, 5] rfl)
      intro v3 v4 d H locs ls h hw hl
      have h : b_X10_largestWithin_5 E a0 p1 p2 K (l_X10_largestWithin_5 E a0 p1 p2 K n5) v3 v4 d := h
      unfold b_X10_largestWithin_5 at h
      refine lv_iload S.1 S.2.1 (dd_at ddX10_largestWithin 4 rfl) (lv_at hl 4 rfl) ?_
      refine lv_aload_n S.1 S.2.1 (dd_at ddX10_largestWithin 5 rfl) rfl (lv_at hl 0 rfl) ?_
      obtain ⟨b_12, hb_13, ho_14, h⟩ := h
      refine r_getR S hw 10 0 rfl inG10 (by decide) (List.mem_cons_of_mem _ wg16) (by decide) ha0 hb_13 (dd_at ddX10_largestWithin 6 rfl) ?_
      obtain ⟨b_15, hb_16, ho_17, h⟩ := h
      refine r_getRN S hw 8 2 rfl inG8 (by decide) nx7 (by decide) ho_14 hb_16 (dd_at ddX10_largestWithin 7 rfl) ?_
      refine r_callI hw (r_runV (As := []) (rest := [.int v4]) S hw (m_X6_size l D cs E d H.size b_15 _) (cwV 0 S.2.2.2.2 (gV wg578 wg372 wg373 wg51 wg374) rfl rfl rfl (by decide +kernel) ⟨Nat.le_of_ble_eq_true rfl, Nat.le_of_ble_eq_true rfl⟩) (ci := 6) rfl ho_17 h rfl hl.1 rfl (Nat.le_of_ble_eq_true rfl) (dd_at ddX10_largestWithin 8 rfl) ⟨Nat.le_of_ble_eq_true rfl, Nat.le_of_ble_eq_true rfl⟩) (fun r_19 d_18 H locs h hw => ?_)
      refine lv_icmp_ge (tgt := 93) S.1 S.2.1 (dd_at ddX10_largestWithin 9 rfl) (by decide) (fun hc_20 => ?_) (fun hc_20 => ?_)
      · have h := h.1 hc_20
        refine lv_iload_n S.1 S.2.1 (dd_at ddX10_largestWithin 47 rfl) rfl (lv_at hl 3 rfl) ?_
        exact e_I S hr hlocks hw h (dd_at ddX10_largestWithin 48 rfl)
      · have h := h.2 hc_20
        refine lv_aload_n S.1 S.2.1 (dd_at ddX10_largestWithin 10 rfl) rfl (lv_at hl 0 rfl) ?_
        obtain ⟨b_21, hb_22, ho_23, h⟩ := h
        refine r_getR S hw 10 0 rfl inG10 (by decide) (List.mem_cons_of_mem _ wg16) (by decide) ha0 hb_22 (dd_at ddX10_largestWithin 11 rfl) ?_
        obtain ⟨b_24, hb_25, ho_26, h⟩ := h
        refine r_getRN S hw 8 2 rfl inG8 (by decide) nx7 (by decide) ho_23 hb_25 (dd_at ddX10_largestWithin 12 rfl) ?_
        refine lv_iload S.1 S.2.1 (dd_at ddX10_largestWithin 13 rfl) (lv_at hl 4 rfl) ?_
        refine lv_iconst (v := 0) S.1 S.2.1 (dd_at ddX10_largestWithin 14 rfl) (by decide) ?_
        refine r_callI hw (r_runV (As := [.int v4, .int 0]) (rest := []) S hw (m_X6_get l D cs E d_18 H.size b_24 v4 0 _) (cwV 2 S.2.2.2.2 (gV wg997 wg623 wg624 wg51 wg625) rfl rfl rfl (by decide +kernel) ⟨Nat.le_of_ble_eq_true rfl, Nat.le_of_ble_eq_true rfl⟩) (ci := 6) rfl ho_26 h rfl hl.1 rfl (Nat.le_of_ble_eq_true rfl) (dd_at ddX10_largestWithin 15 rfl) ⟨Nat.le_of_ble_eq_true rfl, Nat.le_of_ble_eq_true rfl⟩) (fun r_28 d_27 H locs h hw => ?_)
        refine lv_istore (lv' := [(5, .int r_28), (0, .ref a0), (1, .int p1), (2, .int p2), (3, .int v3), (4, .int v4)]) S.1 S.2.1 (dd_at ddX10_largestWithin 16 rfl) hl (by decide) rfl (fun ls hl => ?_)
        refine lv_iload_n S.1 S.2.1 (dd_at ddX10_largestWithin 17 rfl) rfl (lv_at hl 2 rfl) ?_
        refine lv_iload S.1 S.2.1 (dd_at ddX10_largestWithin 18 rfl) (lv_at hl 5 rfl) ?_
        refine lv_ishr S.1 S.2.1 (dd_at ddX10_largestWithin 19 rfl) ?_
        refine lv_iconst (v := 1) S.1 S.2.1 (dd_at ddX10_largestWithin 20 rfl) (by decide) ?_
        refine lv_iand S.1 S.2.1 (dd_at ddX10_largestWithin 21 rfl) ?_
        refine lv_if_eq (tgt := 54) S.1 S.2.1 (dd_at ddX10_largestWithin 22 rfl) (by decide) (fun hc_29 => ?_) (fun hc_29 => ?_)
        · have h := h.1 hc_29
          exact tb54 v3 v4 r_28 d_27 H locs ls h hw (lv_sub hl [1, 2, 3, 4, 5, 0] rfl)
        · have h := h.2 hc_29
          refine lv_iload S.1 S.2.1 (dd_at ddX10_largestWithin 23 rfl) (lv_at hl 0 rfl) ?_
          refine lv_iload_n S.1 S.2.1 (dd_at ddX10_largestWithin 24 rfl) rfl (lv_at hl 3 rfl) ?_
          refine lv_icmp_gt (tgt := 54) S.1 S.2.1 (dd_at ddX10_largestWithin 25 rfl) (by decide) (fun hc_30 => ?_) (fun hc_30 => ?_)
          · have h := h.1 hc_30
            exact tb54 v3 v4 r_28 d_27 H locs ls h hw (lv_sub hl [1, 2, 3, 4, 5, 0] rfl)
          · have h := h.2 hc_30
            refine lv_iconst (v := 1) S.1 S.2.1 (dd_at ddX10_largestWithin 26 rfl) (by decide) ?_
            refine lv_goto (tgt := 55) S.1 S.2.1 (dd_at ddX10_largestWithin 27 rfl) (by decide) ?_
            exact tb55 v3 v4 r_28 1 d_27 H locs ls h hw (lv_sub hl [1, 2, 3, 4, 5, 0] rfl)
  refine lv_iconst (v := -1) S.1 S.2.1 (dd_at ddX10_largestWithin 0 rfl) (by decide) ?_
  refine lv_istore_n (lv' := [(3, .int (-1)), (0, .ref a0), (1, .int p1), (2, .int p2)]) S.1 S.2.1 (dd_at ddX10_largestWithin 1 rfl) rfl hl (by decide) rfl (fun ls hl => ?_)
  refine lv_iconst (v := 0) S.1 S.2.1 (dd_at ddX10_largestWithin 2 rfl) (by decide) ?_
  refine lv_istore (lv' := [(4, .int 0), (3, .int (-1)), (0, .ref a0), (1, .int p1), (2, .int p2)]) S.1 S.2.1 (dd_at ddX10_largestWithin 3 rfl) hl (by decide) rfl (fun ls hl => ?_)
  obtain ⟨n_31, h⟩ := h
  exact tl5 n_31 (-1) 0 d H locs ls h hw (lv_sub hl [2, 3, 4, 1, 0] rfl)
