

def b_X2_readLine_91 (E : En) (a0 : Nat) (K : Int32 → Dy → Prop) (v1 : Int32) (v2 : Int32) (d : Dy) : Prop := ∃ b_1 : Nat, eR E a0 7 = some b_1 ∧ okO E b_1 6 ∧ w_X6_set E b_1 v1 4 (gI d a0 9) d (fun d_4 => (v2 = 0 ∨ v2 = 1) ∧ K v2 d_4)
def b_X2_readLine_67 (E : En) (a0 : Nat) (K : Int32 → Dy → Prop) (v1 : Int32) (s0 : Int32) (d : Dy) : Prop := ((s0 = 0 → b_X2_readLine_91 E a0 K v1 s0 d) ∧ (¬ s0 = 0 → ((¬ (gI d a0 5) = 14 → b_X2_readLine_91 E a0 K v1 s0 d) ∧ ((gI d a0 5) = 14 → w_X2_next E a0 d (fun d_8 => w_X2_readCondition E a0 0 d_8 (fun r_11 d_10 => b_X2_readLine_91 E a0 K v1 r_11 d_10))))))
def w_X2_readLine (E : En) (a0 : Nat) (d : Dy) (K : Int32 → Dy → Prop) : Prop := okO E a0 2 ∧ ∃ b_12 : Nat, eR E a0 7 = some b_12 ∧ okO E b_12 6 ∧ w_X6_open E b_12 d (fun r_16 d_15 => ∃ b_17 : Nat, eR E a0 7 = some b_17 ∧ okO E b_17 6 ∧ w_X6_set E b_17 r_16 2 (-1) d_15 (fun d_20 => ∃ b_22 : Nat, eR E a0 7 = some b_22 ∧ okO E b_22 6 ∧ w_X6_set E b_22 r_16 3 (gI d_20 a0 9) d_20 (fun d_25 => ((¬ (gI d_25 a0 2) = 0 → ((¬ (gI d_25 a0 2) = 3 → w_X2_readAmount E a0 r_16 d_25 (fun r_30 d_29 => b_X2_readLine_67 E a0 K r_16 r_30 d_29)) ∧ ((gI d_25 a0 2) = 3 → w_X2_readColour E a0 r_16 d_25 (fun r_32 d_31 => b_X2_readLine_67 E a0 K r_16 r_32 d_31)))) ∧ ((gI d_25 a0 2) = 0 → w_X2_readRight E a0 r_16 d_25 (fun r_34 d_33 => b_X2_readLine_67 E a0 K r_16 r_34 d_33))))))
abbrev rm_X2_readLine : Room := { frames := 69, cells := 0, slots := 0, locals := 1652 }
set_option maxRecDepth 100000 in
set_option maxHeartbeats 4000000 in
theorem m_X2_readLine (l : Launch) (D : va_G) (cs : Nat → ClassId) (E : En) (d : Dy) (sz : Nat) (a0 : Nat) (K : Int32 → Dy → Prop) : CI l yX2_readLine (.code yX2_readLine cX2_readLine 3 (some .boolean) :: wsL_law) rm_X2_readLine D cs E d sz [.ref a0] (w_X2_readLine E a0 d K) K := by
  refine e_of (cc := cX2_readLine) (maxL := 3) (ret := (some .boolean)) (own := RX2) (by decide) rfl rfl (Nat.le_of_ble_eq_true rfl) ?_
  intro p e s m below meth c S hr hlocks hsz H locs hw h ls hl
  have hl : lv_has ls 3 [(0, .ref a0)] := hl
  unfold w_X2_readLine at h
  obtain ⟨ha0, h⟩ := h
  have tb91 : ∀ (v1 : Int32) (v2 : Int32) (d : Dy) (H : Heap) (locs : List Loc) (ls : Array Slot), b_X2_readLine_91 E a0 K v1 v2 d → Wd D cs (AW E sz) s.heap s E d H locs → lv_has ls 3 [(0, .ref a0), (1, .int v1), (2, .int v2)] → W p l e rm_X2_readLine s m ([.ref a0] : List Value).toArray below meth c H locs 0 0 (MQ below (va_Qi K (OutW D cs E (AW E sz)) (AW E sz)) ([.ref a0] : List Value).toArray s rm_X2_readLine.cells rm_X2_readLine.slots (AW E sz)) (F0 m 91 ls []) := by
    intro v1 v2 d H locs ls h hw hl
    unfold b_X2_readLine_91 at h
    refine lv_aload_n S.1 S.2.1 (dd_at ddX2_readLine 48 rfl) rfl (lv_at hl 0 rfl) ?_
    obtain ⟨b_1, hb_2, ho_3, h⟩ := h
    refine r_getR S hw 2 7 rfl inG2 (by decide) (List.mem_cons_of_mem _ wg90) (by decide) ha0 hb_2 (dd_at ddX2_readLine 49 rfl) ?_
    refine lv_iload_n S.1 S.2.1 (dd_at ddX2_readLine 50 rfl) rfl (lv_at hl 1 rfl) ?_
    refine lv_iconst (v := 4) S.1 S.2.1 (dd_at ddX2_readLine 51 rfl) (by decide) ?_
    refine lv_aload_n S.1 S.2.1 (dd_at ddX2_readLine 52 rfl) rfl (lv_at hl 0 rfl) ?_
    refine r_getI S hw 2 9 rfl inG2 (by decide) (List.mem_cons_of_mem _ wg235) (by decide) ha0 (dd_at ddX2_readLine 53 rfl) ?_
    refine r_callV hw (r_runV (As := [.int v1, .int 4, .int (gI d a0 9)]) (rest := []) S hw (m_X6_set l D cs E d H.size b_1 v1 4 (gI d a0 9) _) (cwV 3 S.2.2.2.2 (gV wg317 wg318 wg319 wg51 wg320) rfl rfl rfl (by decide +kernel) ⟨Nat.le_of_ble_eq_true rfl, Nat.le_of_ble_eq_true rfl⟩) (ci := 6) rfl ho_3 h rfl hl.1 rfl (Nat.le_of_ble_eq_true rfl) (dd_at ddX2_readLine 54 rfl) ⟨Nat.le_of_ble_eq_true rfl, Nat.le_of_ble_eq_true rfl⟩) (fun d_4 H locs h hw => ?_)
    refine lv_iload_n S.1 S.2.1 (dd_at ddX2_readLine 55 rfl) rfl (lv_at hl 2 rfl) ?_
    exact e_Z S hr hlocks hw h.1 h.2 (dd_at ddX2_readLine 56 rfl)
  have tb67 : ∀ (v1 : Int32) (s0 : Int32) (d : Dy) (H : Heap) (locs : List Loc) (ls : Array Slot), b_X2_readLine_67 E a0 K v1 s0 d → Wd D cs (AW E sz) s.heap s E d H locs → lv_has ls 3 [(0, .ref a0), (1, .int v1)] → W p l e rm_X2_readLine s m ([.ref a0] : List Value).toArray below meth c H locs 0 0 (MQ below (va_Qi K (OutW D cs E (AW E sz)) (AW E sz)) ([.ref a0] : List Value).toArray s rm_X2_readLine.cells rm_X2_readLine.slots (AW E sz)) (F0 m 67 ls [.int s0]) := by
    intro v1 s0 d H locs ls h hw hl
    unfold b_X2_readLine_67 at h
    refine lv_istore_n (lv' := [(2, .int s0), (0, .ref a0), (1, .int v1)]) S.1 S.2.1 (dd_at ddX2_readLine 35 rfl) rfl hl (by decide) rfl (fun ls hl => ?_)
    refine lv_iload_n S.1 S.2.1 (dd_at ddX2_readLine 36 rfl) rfl (lv_at hl 0 rfl) ?_
    refine lv_if_eq (tgt := 91) S.1 S.2.1 (dd_at ddX2_readLine 37 rfl) (by decide) (fun hc_6 => ?_) (fun hc_6 => ?_)
    · have h := h.1 hc_6
      exact tb91 v1 s0 d H locs ls h hw (lv_sub hl [1, 2, 0] rfl)
    · have h := h.2 hc_6
      refine lv_aload_n S.1 S.2.1 (dd_at ddX2_readLine 38 rfl) rfl (lv_at hl 1 rfl) ?_
      refine r_getI S hw 2 5 rfl inG2 (by decide) (List.mem_cons_of_mem _ wg237) (by decide) ha0 (dd_at ddX2_readLine 39 rfl) ?_
      refine lv_bipush (v := 14) S.1 S.2.1 (dd_at ddX2_readLine 40 rfl) (by decide) ?_
      refine lv_icmp_ne (tgt := 91) S.1 S.2.1 (dd_at ddX2_readLine 41 rfl) (by decide) (fun hc_7 => ?_) (fun hc_7 => ?_)
      · have h := h.1 hc_7
        exact tb91 v1 s0 d H locs ls h hw (lv_sub hl [1, 2, 0] rfl)
      · have h := h.2 hc_7
        refine lv_aload_n S.1 S.2.1 (dd_at ddX2_readLine 42 rfl) rfl (lv_at hl 1 rfl) ?_
        refine r_callV hw (r_runV (As := []) (rest := []) S hw (m_X2_next l D cs E d H.size a0 _) (cwV 0 S.2.2.2.2 (gV wg242 wg243 wg244 wg20 wg245) rfl rfl rfl (by decide +kernel) ⟨Nat.le_of_ble_eq_true rfl, Nat.le_of_ble_eq_true rfl⟩) (ci := 2) rfl ha0 h rfl hl.1 rfl (Nat.le_of_ble_eq_true rfl) (dd_at ddX2_readLine 43 rfl) ⟨Nat.le_of_ble_eq_true rfl, Nat.le_of_ble_eq_true rfl⟩) (fun d_8 H locs h hw => ?_)
        refine lv_aload_n S.1 S.2.1 (dd_at ddX2_readLine 44 rfl) rfl (lv_at hl 1 rfl) ?_
        refine lv_iconst (v := 0) S.1 S.2.1 (dd_at ddX2_readLine 45 rfl) (by decide) ?_
        refine r_callI hw (r_runV (As := [.int 0]) (rest := []) S hw (m_X2_readCondition l D cs E d_8 H.size a0 0 _) (cwV 1 S.2.2.2.2 (gV wg337 wg338 wg339 wg20 wg340) rfl rfl rfl (by decide +kernel) ⟨Nat.le_of_ble_eq_true rfl, Nat.le_of_ble_eq_true rfl⟩) (ci := 2) rfl ha0 h rfl hl.1 rfl (Nat.le_of_ble_eq_true rfl) (dd_at ddX2_readLine 46 rfl) ⟨Nat.le_of_ble_eq_true rfl, Nat.le_of_ble_eq_true rfl⟩) (fun r_11 d_10 H locs h hw => ?_)
        refine lv_istore_n (lv' := [(2, .int r_11), (0, .ref a0), (1, .int v1)]) S.1 S.2.1 (dd_at ddX2_readLine 47 rfl) rfl hl (by decide) rfl (fun ls hl => ?_)
        exact tb91 v1 r_11 d_10 H locs ls h hw (lv_sub hl [1, 2, 0] rfl)
  refine lv_aload_n S.1 S.2.1 (dd_at ddX2_readLine 0 rfl) rfl (lv_at hl 0 rfl) ?_
  obtain ⟨b_12, hb_13, ho_14, h⟩ := h
  refine r_getR S hw 2 7 rfl inG2 (by decide) (List.mem_cons_of_mem _ wg90) (by decide) ha0 hb_13 (dd_at ddX2_readLine 1 rfl) ?_
  refine r_callI hw (r_runV (As := []) (rest := []) S hw (m_X6_open l D cs E d H.size b_12 _) (cwV 0 S.2.2.2.2 (gV wg309 wg310 wg311 wg51 wg312) rfl rfl rfl (by decide +kernel) ⟨Nat.le_of_ble_eq_true rfl, Nat.le_of_ble_eq_true rfl⟩) (ci := 6) rfl ho_14 h rfl hl.1 rfl (Nat.le_of_ble_eq_true rfl) (dd_at ddX2_readLine 2 rfl) ⟨Nat.le_of_ble_eq_true rfl, Nat.le_of_ble_eq_true rfl⟩) (fun r_16 d_15 H locs h hw => ?_)
  refine lv_istore_n (lv' := [(1, .int r_16), (0, .ref a0)]) S.1 S.2.1 (dd_at ddX2_readLine 3 rfl) rfl hl (by decide) rfl (fun ls hl => ?_)
  refine lv_aload_n S.1 S.2.1 (dd_at ddX2_readLine 4 rfl) rfl (lv_at hl 1 rfl) ?_
  obtain ⟨b_17, hb_18, ho_19, h⟩ := h
  refine r_getR S hw 2 7 rfl inG2 (by decide) (List.mem_cons_of_mem _ wg90) (by decide) ha0 hb_18 (dd_at ddX2_readLine 5 rfl) ?_
  refine lv_iload_n S.1 S.2.1 (dd_at ddX2_readLine 6 rfl) rfl (lv_at hl 0 rfl) ?_
  refine lv_iconst (v := 2) S.1 S.2.1 (dd_at ddX2_readLine 7 rfl) (by decide) ?_
  refine lv_iconst (v := -1) S.1 S.2.1 (dd_at ddX2_readLine 8 rfl) (by decide) ?_
  refine r_callV hw (r_runV (As := [.int r_16, .int 2, .int (-1)]) (rest := []) S hw (m_X6_set l D cs E d_15 H.size b_17 r_16 2 (-1) _) (cwV 3 S.2.2.2.2 (gV wg317 wg318 wg319 wg51 wg320) rfl rfl rfl (by decide +kernel) ⟨Nat.le_of_ble_eq_true rfl, Nat.le_of_ble_eq_true rfl⟩) (ci := 6) rfl ho_19 h rfl hl.1 rfl (Nat.le_of_ble_eq_true rfl) (dd_at ddX2_readLine 9 rfl) ⟨Nat.le_of_ble_eq_true rfl, Nat.le_of_ble_eq_true rfl⟩) (fun d_20 H locs h hw => ?_)
  refine lv_aload_n S.1 S.2.1 (dd_at ddX2_readLine 10 rfl) rfl (lv_at hl 1 rfl) ?_
  obtain ⟨b_22, hb_23, ho_24, h⟩ := h
  refine r_getR S hw 2 7 rfl inG2 (by decide) (List.mem_cons_of_mem _ wg90) (by decide) ha0 hb_23 (dd_at ddX2_readLine 11 rfl) ?_
  refine lv_iload_n S.1 S.2.1 (dd_at ddX2_readLine 12 rfl) rfl (lv_at hl 0 rfl) ?_
  refine lv_iconst (v := 3) S.1 S.2.1 (dd_at ddX2_readLine 13 rfl) (by decide) ?_
  refine lv_aload_n S.1 S.2.1 (dd_at ddX2_readLine 14 rfl) rfl (lv_at hl 1 rfl) ?_
  refine r_getI S hw 2 9 rfl inG2 (by decide) (List.mem_cons_of_mem _ wg235) (by decide) ha0 (dd_at ddX2_readLine 15 rfl) ?_
  refine r_callV hw (r_runV (As := [.int r_16, .int 3, .int (gI d_20 a0 9)]) (rest := []) S hw (m_X6_set l D cs E d_20 H.size b_22 r_16 3 (gI d_20 a0 9) _) (cwV 3 S.2.2.2.2 (gV wg317 wg318 wg319 wg51 wg320) rfl rfl rfl (by decide +kernel) ⟨Nat.le_of_ble_eq_true rfl, Nat.le_of_ble_eq_true rfl⟩) (ci := 6) rfl ho_24 h rfl hl.1 rfl (Nat.le_of_ble_eq_true rfl) (dd_at ddX2_readLine 16 rfl) ⟨Nat.le_of_ble_eq_true rfl, Nat.le_of_ble_eq_true rfl⟩) (fun d_25 H locs h hw => ?_)
  refine lv_aload_n S.1 S.2.1 (dd_at ddX2_readLine 17 rfl) rfl (lv_at hl 1 rfl) ?_
  refine r_getI S hw 2 2 rfl inG2 (by decide) (List.mem_cons_of_mem _ wg234) (by decide) ha0 (dd_at ddX2_readLine 18 rfl) ?_
  refine lv_if_ne (tgt := 46) S.1 S.2.1 (dd_at ddX2_readLine 19 rfl) (by decide) (fun hc_27 => ?_) (fun hc_27 => ?_)
  · have h := h.1 hc_27
    refine lv_aload_n S.1 S.2.1 (dd_at ddX2_readLine 24 rfl) rfl (lv_at hl 1 rfl) ?_
    refine r_getI S hw 2 2 rfl inG2 (by decide) (List.mem_cons_of_mem _ wg234) (by decide) ha0 (dd_at ddX2_readLine 25 rfl) ?_
    refine lv_iconst (v := 3) S.1 S.2.1 (dd_at ddX2_readLine 26 rfl) (by decide) ?_
    refine lv_icmp_ne (tgt := 62) S.1 S.2.1 (dd_at ddX2_readLine 27 rfl) (by decide) (fun hc_28 => ?_) (fun hc_28 => ?_)
    · have h := h.1 hc_28
      refine lv_aload_n S.1 S.2.1 (dd_at ddX2_readLine 32 rfl) rfl (lv_at hl 1 rfl) ?_
      refine lv_iload_n S.1 S.2.1 (dd_at ddX2_readLine 33 rfl) rfl (lv_at hl 0 rfl) ?_
      refine r_callI hw (r_runV (As := [.int r_16]) (rest := []) S hw (m_X2_readAmount l D cs E d_25 H.size a0 r_16 _) (cwV 1 S.2.2.2.2 (gV wg329 wg330 wg331 wg20 wg332) rfl rfl rfl (by decide +kernel) ⟨Nat.le_of_ble_eq_true rfl, Nat.le_of_ble_eq_true rfl⟩) (ci := 2) rfl ha0 h rfl hl.1 rfl (Nat.le_of_ble_eq_true rfl) (dd_at ddX2_readLine 34 rfl) ⟨Nat.le_of_ble_eq_true rfl, Nat.le_of_ble_eq_true rfl⟩) (fun r_30 d_29 H locs h hw => ?_)
      exact tb67 r_16 r_30 d_29 H locs ls h hw (lv_sub hl [1, 0] rfl)
    · have h := h.2 hc_28
      refine lv_aload_n S.1 S.2.1 (dd_at ddX2_readLine 28 rfl) rfl (lv_at hl 1 rfl) ?_
      refine lv_iload_n S.1 S.2.1 (dd_at ddX2_readLine 29 rfl) rfl (lv_at hl 0 rfl) ?_
      refine r_callI hw (r_runV (As := [.int r_16]) (rest := []) S hw (m_X2_readColour l D cs E d_25 H.size a0 r_16 _) (cwV 1 S.2.2.2.2 (gV wg325 wg326 wg327 wg20 wg328) rfl rfl rfl (by decide +kernel) ⟨Nat.le_of_ble_eq_true rfl, Nat.le_of_ble_eq_true rfl⟩) (ci := 2) rfl ha0 h rfl hl.1 rfl (Nat.le_of_ble_eq_true rfl) (dd_at ddX2_readLine 30 rfl) ⟨Nat.le_of_ble_eq_true rfl, Nat.le_of_ble_eq_true rfl⟩) (fun r_32 d_31 H locs h hw => ?_)
      refine lv_goto (tgt := 67) S.1 S.2.1 (dd_at ddX2_readLine 31 rfl) (by decide) ?_
      exact tb67 r_16 r_32 d_31 H locs ls h hw (lv_sub hl [1, 0] rfl)
  · have h := h.2 hc_27
    refine lv_aload_n S.1 S.2.1 (dd_at ddX2_readLine 20 rfl) rfl (lv_at hl 1 rfl) ?_
    refine lv_iload_n S.1 S.2.1 (dd_at ddX2_readLine 21 rfl) rfl (lv_at hl 0 rfl) ?_
    refine r_callI hw (r_runV (As := [.int r_16]) (rest := []) S hw (m_X2_readRight l D cs E d_25 H.size a0 r_16 _) (cwV 1 S.2.2.2.2 (gV wg321 wg322 wg323 wg20 wg324) rfl rfl rfl (by decide +kernel) ⟨Nat.le_of_ble_eq_true rfl, Nat.le_of_ble_eq_true rfl⟩) (ci := 2) rfl ha0 h rfl hl.1 rfl (Nat.le_of_ble_eq_true rfl) (dd_at ddX2_readLine 22 rfl) ⟨Nat.le_of_ble_eq_true rfl, Nat.le_of_ble_eq_true rfl⟩) (fun r_34 d_33 H locs h hw => ?_)
    refine lv_goto (tgt := 67) S.1 S.2.1 (dd_at ddX2_readLine 23 rfl) (by decide) ?_
    exact tb67 r_16 r_34 d_33 H locs ls h hw (lv_sub hl [1, 0] rfl)

def b_X2_reads_39 (E : En) (a0 : Nat) (p1 : Int32) (K : Int32 → Dy → Prop) (k39 : Int32 → Dy → Prop) (v2 : Int32) (d : Dy) : Prop := ((10 ≤ v2 → K 0 d) ∧ (¬ 10 ≤ v2 → w_X2_readLine E a0 d (fun r_3 d_2 => ((¬ r_3 = 0 → ((¬ (gI d_2 a0 5) = 31 → (((gI d_2 a0 5) = 59 → w_X2_next E a0 d_2 (fun d_7 => k39 (v2 + 1) d_7)) ∧ (¬ (gI d_2 a0 5) = 59 → K 0 d_2))) ∧ ((gI d_2 a0 5) = 31 → K 1 d_2))) ∧ (r_3 = 0 → K 0 d_2)))))
def l_X2_reads_39 (E : En) (a0 : Nat) (p1 : Int32) (K : Int32 → Dy → Prop) : Nat → Int32 → Dy → Prop
  | 0 => fun _ _ => False
  | n + 1 => b_X2_reads_39 E a0 p1 K (l_X2_reads_39 E a0 p1 K n)
def w_X2_reads (E : En) (a0 : Nat) (p1 : Int32) (d : Dy) (K : Int32 → Dy → Prop) : Prop := okO E a0 2 ∧ ∃ b_9 : Nat, eR E a0 7 = some b_9 ∧ okO E b_9 6 ∧ w_X6_clear E b_9 (pI d a0 2 p1) (fun d_12 => w_X2_next E a0 (pI (pI d_12 a0 9 0) a0 4 0) (fun d_14 => ((¬ (gI d_14 a0 5) = 31 → (∃ n_17 : Nat, l_X2_reads_39 E a0 p1 K n_17 0 d_14)) ∧ ((gI d_14 a0 5) = 31 → K 1 d_14))))
abbrev rm_X2_reads : Room := { frames := 70, cells := 0, slots := 0, locals := 1674 }
set_option maxRecDepth 100000 in
set_option maxHeartbeats 4000000 in
theorem m_X2_reads (l : Launch) (D : va_G) (cs : Nat → ClassId) (E : En) (d : Dy) (sz : Nat) (a0 : Nat) (p1 : Int32) (K : Int32 → Dy → Prop) : CI l yX2_reads (.code yX2_reads cX2_reads 3 (some .boolean) :: wsL_law) rm_X2_reads D cs E d sz [.ref a0, .int p1] (w_X2_reads E a0 p1 d K) K := by
  refine e_of (cc := cX2_reads) (maxL := 3) (ret := (some .boolean)) (own := RX2) (by decide) rfl rfl (Nat.le_of_ble_eq_true rfl) ?_
  intro p e s m below meth c S hr hlocks hsz H locs hw h ls hl
  have hl : lv_has ls 3 [(0, .ref a0), (1, .int p1)] := hl
  unfold w_X2_reads at h
  obtain ⟨ha0, h⟩ := h
  have tl39 : ∀ (n : Nat) (v2 : Int32) (d : Dy) (H : Heap) (locs : List Loc) (ls : Array Slot), l_X2_reads_39 E a0 p1 K n v2 d → Wd D cs (AW E sz) s.heap s E d H locs → lv_has ls 3 [(0, .ref a0), (2, .int v2)] → W p l e rm_X2_reads s m ([.ref a0, .int p1] : List Value).toArray below meth c H locs 0 0 (MQ below (va_Qi K (OutW D cs E (AW E sz)) (AW E sz)) ([.ref a0, .int p1] : List Value).toArray s rm_X2_reads.cells rm_X2_reads.slots (AW E sz)) (F0 m 39 ls []) := by
    intro n39
    induction n39 with
    | zero => intro v2 d H locs ls h; exact absurd h id
    | succ n39 ih39 =>
      intro v2 d H locs ls h hw hl
      have h : b_X2_reads_39 E a0 p1 K (l_X2_reads_39 E a0 p1 K n39) v2 d := h
      unfold b_X2_reads_39 at h
      refine lv_iload_n S.1 S.2.1 (dd_at ddX2_reads 22 rfl) rfl (lv_at hl 1 rfl) ?_
      refine lv_bipush (v := 10) S.1 S.2.1 (dd_at ddX2_reads 23 rfl) (by decide) ?_
      refine lv_icmp_ge (tgt := 86) S.1 S.2.1 (dd_at ddX2_reads 24 rfl) (by decide) (fun hc_1 => ?_) (fun hc_1 => ?_)
      · have h := h.1 hc_1
        refine lv_iconst (v := 0) S.1 S.2.1 (dd_at ddX2_reads 46 rfl) (by decide) ?_
        exact e_Z S hr hlocks hw (Or.inl rfl) h (dd_at ddX2_reads 47 rfl)
      · have h := h.2 hc_1
        refine lv_aload_n S.1 S.2.1 (dd_at ddX2_reads 25 rfl) rfl (lv_at hl 0 rfl) ?_
        refine r_callI hw (r_runV (As := []) (rest := []) S hw (m_X2_readLine l D cs E d H.size a0 _) (cwV 0 S.2.2.2.2 (gV wg305 wg306 wg307 wg20 wg308) rfl rfl rfl (by decide +kernel) ⟨Nat.le_of_ble_eq_true rfl, Nat.le_of_ble_eq_true rfl⟩) (ci := 2) rfl ha0 h rfl hl.1 rfl (Nat.le_of_ble_eq_true rfl) (dd_at ddX2_reads 26 rfl) ⟨Nat.le_of_ble_eq_true rfl, Nat.le_of_ble_eq_true rfl⟩) (fun r_3 d_2 H locs h hw => ?_)
        refine lv_if_ne (tgt := 54) S.1 S.2.1 (dd_at ddX2_reads 27 rfl) (by decide) (fun hc_4 => ?_) (fun hc_4 => ?_)
        · have h := h.1 hc_4
          refine lv_aload_n S.1 S.2.1 (dd_at ddX2_reads 30 rfl) rfl (lv_at hl 0 rfl) ?_
          refine r_getI S hw 2 5 rfl inG2 (by decide) (List.mem_cons_of_mem _ wg237) (by decide) ha0 (dd_at ddX2_reads 31 rfl) ?_
          refine lv_bipush (v := 31) S.1 S.2.1 (dd_at ddX2_reads 32 rfl) (by decide) ?_
          refine lv_icmp_ne (tgt := 65) S.1 S.2.1 (dd_at ddX2_reads 33 rfl) (by decide) (fun hc_5 => ?_) (fun hc_5 => ?_)
          · have h := h.1 hc_5
            refine lv_aload_n S.1 S.2.1 (dd_at ddX2_reads 36 rfl) rfl (lv_at hl 0 rfl) ?_
            refine r_getI S hw 2 5 rfl inG2 (by decide) (List.mem_cons_of_mem _ wg237) (by decide) ha0 (dd_at ddX2_reads 37 rfl) ?_
            refine lv_bipush (v := 59) S.1 S.2.1 (dd_at ddX2_reads 38 rfl) (by decide) ?_
            refine lv_icmp_eq (tgt := 76) S.1 S.2.1 (dd_at ddX2_reads 39 rfl) (by decide) (fun hc_6 => ?_) (fun hc_6 => ?_)
            · have h := h.1 hc_6
              refine lv_aload_n S.1 S.2.1 (dd_at ddX2_reads 42 rfl) rfl (lv_at hl 0 rfl) ?_
              refine r_callV hw (r_runV (As := []) (rest := []) S hw (m_X2_next l D cs E d_2 H.size a0 _) (cwV 0 S.2.2.2.2 (gV wg242 wg243 wg244 wg20 wg245) rfl rfl rfl (by decide +kernel) ⟨Nat.le_of_ble_eq_true rfl, Nat.le_of_ble_eq_true rfl⟩) (ci := 2) rfl ha0 h rfl hl.1 rfl (Nat.le_of_ble_eq_true rfl) (dd_at ddX2_reads 43 rfl) ⟨Nat.le_of_ble_eq_true rfl, Nat.le_of_ble_eq_true rfl⟩) (fun d_7 H locs h hw => ?_)
              refine lv_iinc (v := v2 + 1) (lv' := [(2, .int (v2 + 1)), (0, .ref a0)]) S.1 S.2.1 (dd_at ddX2_reads 44 rfl) hl (k := 1) rfl rfl (by decide) rfl (fun ls hl => ?_)
              refine lv_goto (tgt := 39) S.1 S.2.1 (dd_at ddX2_reads 45 rfl) (by decide) ?_
              exact ih39 (v2 + 1) d_7 H locs ls h hw (lv_sub hl [1, 0] rfl)
            · have h := h.2 hc_6
              refine lv_iconst (v := 0) S.1 S.2.1 (dd_at ddX2_reads 40 rfl) (by decide) ?_
              exact e_Z S hr hlocks hw (Or.inl rfl) h (dd_at ddX2_reads 41 rfl)
          · have h := h.2 hc_5
            refine lv_iconst (v := 1) S.1 S.2.1 (dd_at ddX2_reads 34 rfl) (by decide) ?_
            exact e_Z S hr hlocks hw (Or.inr rfl) h (dd_at ddX2_reads 35 rfl)
        · have h := h.2 hc_4
          refine lv_iconst (v := 0) S.1 S.2.1 (dd_at ddX2_reads 28 rfl) (by decide) ?_
          exact e_Z S hr hlocks hw (Or.inl rfl) h (dd_at ddX2_reads 29 rfl)
  refine lv_aload_n S.1 S.2.1 (dd_at ddX2_reads 0 rfl) rfl (lv_at hl 0 rfl) ?_
  refine lv_iload_n S.1 S.2.1 (dd_at ddX2_reads 1 rfl) rfl (lv_at hl 1 rfl) ?_
  refine r_putI S hw 2 2 (ty := .int) (v := p1) rfl inG2 tyX2 tyX2_ok nmX2 (by decide) (List.mem_cons_of_mem _ wg234) (by decide) rfl (by decide +kernel) rfl rfl ha0 (dd_at ddX2_reads 2 rfl) (fun H locs hw => ?_)
  refine lv_aload_n S.1 S.2.1 (dd_at ddX2_reads 3 rfl) rfl (lv_at hl 0 rfl) ?_
  obtain ⟨b_9, hb_10, ho_11, h⟩ := h
  refine r_getR S hw 2 7 rfl inG2 (by decide) (List.mem_cons_of_mem _ wg90) (by decide) ha0 hb_10 (dd_at ddX2_reads 4 rfl) ?_
  refine r_callV hw (r_runV (As := []) (rest := []) S hw (m_X6_clear l D cs E (pI d a0 2 p1) H.size b_9 _) (cwV 0 S.2.2.2.2 (gV wg238 wg239 wg240 wg51 wg241) rfl rfl rfl (by decide +kernel) ⟨Nat.le_of_ble_eq_true rfl, Nat.le_of_ble_eq_true rfl⟩) (ci := 6) rfl ho_11 h rfl hl.1 rfl (Nat.le_of_ble_eq_true rfl) (dd_at ddX2_reads 5 rfl) ⟨Nat.le_of_ble_eq_true rfl, Nat.le_of_ble_eq_true rfl⟩) (fun d_12 H locs h hw => ?_)
  refine lv_aload_n S.1 S.2.1 (dd_at ddX2_reads 6 rfl) rfl (lv_at hl 0 rfl) ?_
  refine lv_iconst (v := 0) S.1 S.2.1 (dd_at ddX2_reads 7 rfl) (by decide) ?_
  refine r_putI S hw 2 9 (ty := .int) (v := 0) rfl inG2 tyX2 tyX2_ok nmX2 (by decide) (List.mem_cons_of_mem _ wg235) (by decide) rfl (by decide +kernel) rfl rfl ha0 (dd_at ddX2_reads 8 rfl) (fun H locs hw => ?_)
  refine lv_aload_n S.1 S.2.1 (dd_at ddX2_reads 9 rfl) rfl (lv_at hl 0 rfl) ?_
  refine lv_iconst (v := 0) S.1 S.2.1 (dd_at ddX2_reads 10 rfl) (by decide) ?_
  refine r_putI S hw 2 4 (ty := .int) (v := 0) rfl inG2 tyX2 tyX2_ok nmX2 (by decide) (List.mem_cons_of_mem _ wg236) (by decide) rfl (by decide +kernel) rfl rfl ha0 (dd_at ddX2_reads 11 rfl) (fun H locs hw => ?_)
  refine lv_aload_n S.1 S.2.1 (dd_at ddX2_reads 12 rfl) rfl (lv_at hl 0 rfl) ?_
  refine r_callV hw (r_runV (As := []) (rest := []) S hw (m_X2_next l D cs E (pI (pI d_12 a0 9 0) a0 4 0) H.size a0 _) (cwV 0 S.2.2.2.2 (gV wg242 wg243 wg244 wg20 wg245) rfl rfl rfl (by decide +kernel) ⟨Nat.le_of_ble_eq_true rfl, Nat.le_of_ble_eq_true rfl⟩) (ci := 2) rfl ha0 h rfl hl.1 rfl (Nat.le_of_ble_eq_true rfl) (dd_at ddX2_reads 13 rfl) ⟨Nat.le_of_ble_eq_true rfl, Nat.le_of_ble_eq_true rfl⟩) (fun d_14 H locs h hw => ?_)
  refine lv_aload_n S.1 S.2.1 (dd_at ddX2_reads 14 rfl) rfl (lv_at hl 0 rfl) ?_
  refine r_getI S hw 2 5 rfl inG2 (by decide) (List.mem_cons_of_mem _ wg237) (by decide) ha0 (dd_at ddX2_reads 15 rfl) ?_
  refine lv_bipush (v := 31) S.1 S.2.1 (dd_at ddX2_reads 16 rfl) (by decide) ?_
  refine lv_icmp_ne (tgt := 37) S.1 S.2.1 (dd_at ddX2_reads 17 rfl) (by decide) (fun hc_16 => ?_) (fun hc_16 => ?_)
  · have h := h.1 hc_16
    refine lv_iconst (v := 0) S.1 S.2.1 (dd_at ddX2_reads 20 rfl) (by decide) ?_
    refine lv_istore_n (lv' := [(2, .int 0), (0, .ref a0), (1, .int p1)]) S.1 S.2.1 (dd_at ddX2_reads 21 rfl) rfl hl (by decide) rfl (fun ls hl => ?_)
    obtain ⟨n_17, h⟩ := h
    exact tl39 n_17 0 d_14 H locs ls h hw (lv_sub hl [1, 0] rfl)
  · have h := h.2 hc_16
    refine lv_iconst (v := 1) S.1 S.2.1 (dd_at ddX2_reads 18 rfl) (by decide) ?_
    exact e_Z S hr hlocks hw (Or.inr rfl) h (dd_at ddX2_reads 19 rfl)
