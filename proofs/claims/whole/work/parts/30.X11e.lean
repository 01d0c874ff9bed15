def w_X11_noTimes (E : En) (a0 : Nat) (p1 : Int32) (p2 : Int32) (d : Dy) (K : Int32 → Dy → Prop) : Prop := okO E a0 11 ∧ w_X11_noYear E p1 d (fun r_2 d_1 => ((¬ r_2 = 0 → K 1 d_1) ∧ (r_2 = 0 → w_X11_noYear E p2 d_1 (fun r_5 d_4 => ((r_5 = 0 → K 0 d_4) ∧ (¬ r_5 = 0 → K 1 d_4))))))
abbrev rm_X11_noTimes : Room := { frames := 2, cells := 0, slots := 0, locals := 42 }
set_option maxRecDepth 100000 in
set_option maxHeartbeats 4000000 in
theorem m_X11_noTimes (l : Launch) (D : va_G) (cs : Nat → ClassId) (E : En) (d : Dy) (sz : Nat) (a0 : Nat) (p1 : Int32) (p2 : Int32) (K : Int32 → Dy → Prop) : CI l yX11_noTimes (.code yX11_noTimes cX11_noTimes 3 (some .boolean) :: wsL_law) rm_X11_noTimes D cs E d sz [.ref a0, .int p1, .int p2] (w_X11_noTimes E a0 p1 p2 d K) K := by
  refine e_of (cc := cX11_noTimes) (maxL := 3) (ret := (some .boolean)) (own := RX11) (by decide) rfl rfl (Nat.le_of_ble_eq_true rfl) ?_
  intro p e s m below meth c S hr hlocks hsz H locs hw h ls hl
  have hl : lv_has ls 3 [(0, .ref a0), (1, .int p1), (2, .int p2)] := hl
  unfold w_X11_noTimes at h
  obtain ⟨ha0, h⟩ := h
  refine lv_iload_n S.1 S.2.1 (dd_at ddX11_noTimes 0 rfl) rfl (lv_at hl 1 rfl) ?_
  refine r_callI hw (r_runS (As := [.int p1]) (rest := []) S hw (m_X11_noYear l D cs E d H.size p1 _) (va_cwS 1 S.2.2.2.2 (gS wg555 wg556 wg5 wg557) rfl rfl rfl (by decide +kernel) ⟨Nat.le_of_ble_eq_true rfl, Nat.le_of_ble_eq_true rfl⟩) h rfl hl.1 rfl (Nat.le_of_ble_eq_true rfl) (dd_at ddX11_noTimes 1 rfl) ⟨Nat.le_of_ble_eq_true rfl, Nat.le_of_ble_eq_true rfl⟩) (fun r_2 d_1 H locs h hw => ?_)
  refine lv_if_ne (tgt := 14) S.1 S.2.1 (dd_at ddX11_noTimes 2 rfl) (by decide) (fun hc_3 => ?_) (fun hc_3 => ?_)
  · have h := h.1 hc_3
    refine lv_iconst (v := 1) S.1 S.2.1 (dd_at ddX11_noTimes 6 rfl) (by decide) ?_
    refine lv_goto (tgt := 19) S.1 S.2.1 (dd_at ddX11_noTimes 7 rfl) (by decide) ?_
    exact e_Z S hr hlocks hw (Or.inr rfl) h (dd_at ddX11_noTimes 9 rfl)
  · have h := h.2 hc_3
    refine lv_iload_n S.1 S.2.1 (dd_at ddX11_noTimes 3 rfl) rfl (lv_at hl 2 rfl) ?_
    refine r_callI hw (r_runS (As := [.int p2]) (rest := []) S hw (m_X11_noYear l D cs E d_1 H.size p2 _) (va_cwS 1 S.2.2.2.2 (gS wg555 wg556 wg5 wg557) rfl rfl rfl (by decide +kernel) ⟨Nat.le_of_ble_eq_true rfl, Nat.le_of_ble_eq_true rfl⟩) h rfl hl.1 rfl (Nat.le_of_ble_eq_true rfl) (dd_at ddX11_noTimes 4 rfl) ⟨Nat.le_of_ble_eq_true rfl, Nat.le_of_ble_eq_true rfl⟩) (fun r_5 d_4 H locs h hw => ?_)
    refine lv_if_eq (tgt := 18) S.1 S.2.1 (dd_at ddX11_noTimes 5 rfl) (by decide) (fun hc_6 => ?_) (fun hc_6 => ?_)
    · have h := h.1 hc_6
      refine lv_iconst (v := 0) S.1 S.2.1 (dd_at ddX11_noTimes 8 rfl) (by decide) ?_
      exact e_Z S hr hlocks hw (Or.inl rfl) h (dd_at ddX11_noTimes 9 rfl)
    · have h := h.2 hc_6
      refine lv_iconst (v := 1) S.1 S.2.1 (dd_at ddX11_noTimes 6 rfl) (by decide) ?_
      refine lv_goto (tgt := 19) S.1 S.2.1 (dd_at ddX11_noTimes 7 rfl) (by decide) ?_
      exact e_Z S hr hlocks hw (Or.inr rfl) h (dd_at ddX11_noTimes 9 rfl)

def b_X11_holder_28 (E : En) (a0 : Nat) (p1 : Int32) (p2 : Int32) (p3 : Int32) (K : Int32 → Dy → Prop) (s0 : Nat) (s1 : Int32) (d : Dy) : Prop := okO E s0 11 ∧ w_X11_throwsIf E s0 s1 1 d (fun r_2 d_1 => ((r_2 = 0 → w_X11_goes E a0 p2 p3 d_1 (fun d_4 => ∃ b_6 : Nat, eR E a0 21 = some b_6 ∧ okA E b_6 13 ∧ vp_in p1 (eN E b_6) ∧ K (gA d_4 b_6 (p1).toNatClampNeg) d_4)) ∧ (¬ r_2 = 0 → K 0 d_1)))
def b_X11_holder_23 (E : En) (a0 : Nat) (p1 : Int32) (p2 : Int32) (p3 : Int32) (K : Int32 → Dy → Prop) (s0 : Nat) (d : Dy) : Prop := okO E s0 11 ∧ b_X11_holder_28 E a0 p1 p2 p3 K s0 1 d
def w_X11_holder (E : En) (a0 : Nat) (p1 : Int32) (p2 : Int32) (p3 : Int32) (d : Dy) (K : Int32 → Dy → Prop) : Prop := okO E a0 11 ∧ w_X11_noHut E a0 p1 (pI d a0 0 0) (fun r_11 d_10 => ((¬ r_11 = 0 → b_X11_holder_23 E a0 p1 p2 p3 K a0 d_10) ∧ (r_11 = 0 → w_X11_noTimes E a0 p2 p3 d_10 (fun r_14 d_13 => ((r_14 = 0 → b_X11_holder_28 E a0 p1 p2 p3 K a0 0 d_13) ∧ (¬ r_14 = 0 → b_X11_holder_23 E a0 p1 p2 p3 K a0 d_13))))))
abbrev rm_X11_holder : Room := { frames := 7, cells := 0, slots := 0, locals := 167 }
set_option maxRecDepth 100000 in
set_option maxHeartbeats 4000000 in
theorem m_X11_holder (l : Launch) (D : va_G) (cs : Nat → ClassId) (E : En) (d : Dy) (sz : Nat) (a0 : Nat) (p1 : Int32) (p2 : Int32) (p3 : Int32) (K : Int32 → Dy → Prop) : CI l yX11_holder (.code yX11_holder cX11_holder 4 (some .int) :: wsL_law) rm_X11_holder D cs E d sz [.ref a0, .int p1, .int p2, .int p3] (w_X11_holder E a0 p1 p2 p3 d K) K := by
  refine e_of (cc := cX11_holder) (maxL := 4) (ret := (some .int)) (own := RX11) (by decide) rfl rfl (Nat.le_of_ble_eq_true rfl) ?_
  intro p e s m below meth c S hr hlocks hsz H locs hw h ls hl
  have hl : lv_has ls 4 [(0, .ref a0), (1, .int p1), (2, .int p2), (3, .int p3)] := hl
  unfold w_X11_holder at h
  obtain ⟨ha0, h⟩ := h
  have tb28 : ∀ (s0 : Nat) (s1 : Int32) (d : Dy) (H : Heap) (locs : List Loc) (ls : Array Slot), b_X11_holder_28 E a0 p1 p2 p3 K s0 s1 d → Wd D cs (AW E sz) s.heap s E d H locs → lv_has ls 4 [(0, .ref a0), (1, .int p1), (2, .int p2), (3, .int p3)] → W p l e rm_X11_holder s m ([.ref a0, .int p1, .int p2, .int p3] : List Value).toArray below meth c H locs 0 0 (MQ below (va_Qi K (OutW D cs E (AW E sz)) (AW E sz)) ([.ref a0, .int p1, .int p2, .int p3] : List Value).toArray s rm_X11_holder.cells rm_X11_holder.slots (AW E sz)) (F0 m 28 ls [.int s1, .ref s0]) := by
    intro s0 s1 d H locs ls h hw hl
    unfold b_X11_holder_28 at h
    obtain ⟨hos0, h⟩ := h
    refine lv_iconst (v := 1) S.1 S.2.1 (dd_at ddX11_holder 16 rfl) (by decide) ?_
    refine r_callI hw (r_runV (As := [.int s1, .int 1]) (rest := []) S hw (m_X11_throwsIf l D cs E d H.size s0 s1 1 _) (cwV 2 S.2.2.2.2 (gV wg421 wg422 wg423 wg5 wg424) rfl rfl rfl (by decide +kernel) ⟨Nat.le_of_ble_eq_true rfl, Nat.le_of_ble_eq_true rfl⟩) (ci := 11) rfl hos0 h rfl hl.1 rfl (Nat.le_of_ble_eq_true rfl) (dd_at ddX11_holder 17 rfl) ⟨Nat.le_of_ble_eq_true rfl, Nat.le_of_ble_eq_true rfl⟩) (fun r_2 d_1 H locs h hw => ?_)
    refine lv_if_eq (tgt := 37) S.1 S.2.1 (dd_at ddX11_holder 18 rfl) (by decide) (fun hc_3 => ?_) (fun hc_3 => ?_)
    · have h := h.1 hc_3
      refine lv_aload_n S.1 S.2.1 (dd_at ddX11_holder 21 rfl) rfl (lv_at hl 0 rfl) ?_
      refine lv_iload_n S.1 S.2.1 (dd_at ddX11_holder 22 rfl) rfl (lv_at hl 2 rfl) ?_
      refine lv_iload_n S.1 S.2.1 (dd_at ddX11_holder 23 rfl) rfl (lv_at hl 3 rfl) ?_
      refine r_callV hw (r_runV (As := [.int p2, .int p3]) (rest := []) S hw (m_X11_goes l D cs E d_1 H.size a0 p2 p3 _) (cwV 2 S.2.2.2.2 (gV wg814 wg815 wg816 wg5 wg817) rfl rfl rfl (by decide +kernel) ⟨Nat.le_of_ble_eq_true rfl, Nat.le_of_ble_eq_true rfl⟩) (ci := 11) rfl ha0 h rfl hl.1 rfl (Nat.le_of_ble_eq_true rfl) (dd_at ddX11_holder 24 rfl) ⟨Nat.le_of_ble_eq_true rfl, Nat.le_of_ble_eq_true rfl⟩) (fun d_4 H locs h hw => ?_)
      refine lv_aload_n S.1 S.2.1 (dd_at ddX11_holder 25 rfl) rfl (lv_at hl 0 rfl) ?_
      obtain ⟨b_6, hb_7, ho_8, h⟩ := h
      refine r_getR S hw 11 21 rfl inG11 (by decide) (List.mem_cons_of_mem _ wg163) (by decide) ha0 hb_7 (dd_at ddX11_holder 26 rfl) ?_
      refine lv_iload_n S.1 S.2.1 (dd_at ddX11_holder 27 rfl) rfl (lv_at hl 1 rfl) ?_
      obtain ⟨hx_9, h⟩ := h
      refine r_iald S hw ho_8 hx_9 (dd_at ddX11_holder 28 rfl) ?_
      exact e_I S hr hlocks hw h (dd_at ddX11_holder 29 rfl)
    · have h := h.2 hc_3
      refine lv_iconst (v := 0) S.1 S.2.1 (dd_at ddX11_holder 19 rfl) (by decide) ?_
      exact e_I S hr hlocks hw h (dd_at ddX11_holder 20 rfl)
  have tb23 : ∀ (s0 : Nat) (d : Dy) (H : Heap) (locs : List Loc) (ls : Array Slot), b_X11_holder_23 E a0 p1 p2 p3 K s0 d → Wd D cs (AW E sz) s.heap s E d H locs → lv_has ls 4 [(0, .ref a0), (1, .int p1), (2, .int p2), (3, .int p3)] → W p l e rm_X11_holder s m ([.ref a0, .int p1, .int p2, .int p3] : List Value).toArray below meth c H locs 0 0 (MQ below (va_Qi K (OutW D cs E (AW E sz)) (AW E sz)) ([.ref a0, .int p1, .int p2, .int p3] : List Value).toArray s rm_X11_holder.cells rm_X11_holder.slots (AW E sz)) (F0 m 23 ls [.ref s0]) := by
    intro s0 d H locs ls h hw hl
    unfold b_X11_holder_23 at h
    obtain ⟨hos0, h⟩ := h
    refine lv_iconst (v := 1) S.1 S.2.1 (dd_at ddX11_holder 13 rfl) (by decide) ?_
    refine lv_goto (tgt := 28) S.1 S.2.1 (dd_at ddX11_holder 14 rfl) (by decide) ?_
    exact tb28 s0 1 d H locs ls h hw (lv_sub hl [0, 1, 2, 3] rfl)
  refine lv_aload_n S.1 S.2.1 (dd_at ddX11_holder 0 rfl) rfl (lv_at hl 0 rfl) ?_
  refine lv_iconst (v := 0) S.1 S.2.1 (dd_at ddX11_holder 1 rfl) (by decide) ?_
  refine r_putI S hw 11 0 (ty := .int) (v := 0) rfl inG11 tyX11 tyX11_ok nmX11 (by decide) (List.mem_cons_of_mem _ wg201) (by decide) rfl (by decide +kernel) rfl rfl ha0 (dd_at ddX11_holder 2 rfl) (fun H locs hw => ?_)
  refine lv_aload_n S.1 S.2.1 (dd_at ddX11_holder 3 rfl) rfl (lv_at hl 0 rfl) ?_
  refine lv_aload_n S.1 S.2.1 (dd_at ddX11_holder 4 rfl) rfl (lv_at hl 0 rfl) ?_
  refine lv_iload_n S.1 S.2.1 (dd_at ddX11_holder 5 rfl) rfl (lv_at hl 1 rfl) ?_
  refine r_callI hw (r_runV (As := [.int p1]) (rest := [.ref a0]) S hw (m_X11_noHut l D cs E (pI d a0 0 0) H.size a0 p1 _) (cwV 1 S.2.2.2.2 (gV wg631 wg632 wg633 wg5 wg634) rfl rfl rfl (by decide +kernel) ⟨Nat.le_of_ble_eq_true rfl, Nat.le_of_ble_eq_true rfl⟩) (ci := 11) rfl ha0 h rfl hl.1 rfl (Nat.le_of_ble_eq_true rfl) (dd_at ddX11_holder 6 rfl) ⟨Nat.le_of_ble_eq_true rfl, Nat.le_of_ble_eq_true rfl⟩) (fun r_11 d_10 H locs h hw => ?_)
  refine lv_if_ne (tgt := 23) S.1 S.2.1 (dd_at ddX11_holder 7 rfl) (by decide) (fun hc_12 => ?_) (fun hc_12 => ?_)
  · have h := h.1 hc_12
    exact tb23 a0 d_10 H locs ls h hw (lv_sub hl [0, 1, 2, 3] rfl)
  · have h := h.2 hc_12
    refine lv_aload_n S.1 S.2.1 (dd_at ddX11_holder 8 rfl) rfl (lv_at hl 0 rfl) ?_
    refine lv_iload_n S.1 S.2.1 (dd_at ddX11_holder 9 rfl) rfl (lv_at hl 2 rfl) ?_
    refine lv_iload_n S.1 S.2.1 (dd_at ddX11_holder 10 rfl) rfl (lv_at hl 3 rfl) ?_
    refine r_callI hw (r_runV (As := [.int p2, .int p3]) (rest := [.ref a0]) S hw (m_X11_noTimes l D cs E d_10 H.size a0 p2 p3 _) (cwV 2 S.2.2.2.2 (gV wg810 wg811 wg812 wg5 wg813) rfl rfl rfl (by decide +kernel) ⟨Nat.le_of_ble_eq_true rfl, Nat.le_of_ble_eq_true rfl⟩) (ci := 11) rfl ha0 h rfl hl.1 rfl (Nat.le_of_ble_eq_true rfl) (dd_at ddX11_holder 11 rfl) ⟨Nat.le_of_ble_eq_true rfl, Nat.le_of_ble_eq_true rfl⟩) (fun r_14 d_13 H locs h hw => ?_)
    refine lv_if_eq (tgt := 27) S.1 S.2.1 (dd_at ddX11_holder 12 rfl) (by decide) (fun hc_15 => ?_) (fun hc_15 => ?_)
    · have h := h.1 hc_15
      refine lv_iconst (v := 0) S.1 S.2.1 (dd_at ddX11_holder 15 rfl) (by decide) ?_
      exact tb28 a0 0 d_13 H locs ls h hw (lv_sub hl [0, 1, 2, 3] rfl)
    · have h := h.2 hc_15
      exact tb23 a0 d_13 H locs ls h hw (lv_sub hl [0, 1, 2, 3] rfl)

def b_X11_since_28 (E : En) (a0 : Nat) (p1 : Int32) (p2 : Int32) (p3 : Int32) (K : Int32 → Dy → Prop) (s0 : Nat) (s1 : Int32) (d : Dy) : Prop := okO E s0 11 ∧ w_X11_throwsIf E s0 s1 1 d (fun r_2 d_1 => ((r_2 = 0 → w_X11_goes E a0 p2 p3 d_1 (fun d_4 => ∃ b_6 : Nat, eR E a0 21 = some b_6 ∧ okA E b_6 13 ∧ vp_in p1 (eN E b_6) ∧ ((0 ≤ (gA d_4 b_6 (p1).toNatClampNeg) → ∃ b_11 : Nat, eR E a0 22 = some b_11 ∧ okA E b_11 13 ∧ vp_in p1 (eN E b_11) ∧ K (gA d_4 b_11 (p1).toNatClampNeg) d_4) ∧ (¬ 0 ≤ (gA d_4 b_6 (p1).toNatClampNeg) → K (-1) d_4)))) ∧ (¬ r_2 = 0 → K 0 d_1)))
def b_X11_since_23 (E : En) (a0 : Nat) (p1 : Int32) (p2 : Int32) (p3 : Int32) (K : Int32 → Dy → Prop) (s0 : Nat) (d : Dy) : Prop := okO E s0 11 ∧ b_X11_since_28 E a0 p1 p2 p3 K s0 1 d
def w_X11_since (E : En) (a0 : Nat) (p1 : Int32) (p2 : Int32) (p3 : Int32) (d : Dy) (K : Int32 → Dy → Prop) : Prop := okO E a0 11 ∧ w_X11_noHut E a0 p1 (pI d a0 0 0) (fun r_16 d_15 => ((¬ r_16 = 0 → b_X11_since_23 E a0 p1 p2 p3 K a0 d_15) ∧ (r_16 = 0 → w_X11_noTimes E a0 p2 p3 d_15 (fun r_19 d_18 => ((r_19 = 0 → b_X11_since_28 E a0 p1 p2 p3 K a0 0 d_18) ∧ (¬ r_19 = 0 → b_X11_since_23 E a0 p1 p2 p3 K a0 d_18))))))
abbrev rm_X11_since : Room := { frames := 7, cells := 0, slots := 0, locals := 167 }
set_option maxRecDepth 100000 in
set_option maxHeartbeats 4000000 in
theorem m_X11_since (l : Launch) (D : va_G) (cs : Nat → ClassId) (E : En) (d : Dy) (sz : Nat) (a0 : Nat) (p1 : Int32) (p2 : Int32) (p3 : Int32) (K : Int32 → Dy → Prop) : CI l yX11_since (.code yX11_since cX11_since 4 (some .int) :: wsL_law) rm_X11_since D cs E d sz [.ref a0, .int p1, .int p2, .int p3] (w_X11_since E a0 p1 p2 p3 d K) K := by
  refine e_of (cc := cX11_since) (maxL := 4) (ret := (some .int)) (own := RX11) (by decide) rfl rfl (Nat.le_of_ble_eq_true rfl) ?_
  intro p e s m below meth c S hr hlocks hsz H locs hw h ls hl
  have hl : lv_has ls 4 [(0, .ref a0), (1, .int p1), (2, .int p2), (3, .int p3)] := hl
  unfold w_X11_since at h
  obtain ⟨ha0, h⟩ := h
  have tb28 : ∀ (s0 : Nat) (s1 : Int32) (d : Dy) (H : Heap) (locs : List Loc) (ls : Array Slot), b_X11_since_28 E a0 p1 p2 p3 K s0 s1 d → Wd D cs (AW E sz) s.heap s E d H locs → lv_has ls 4 [(0, .ref a0), (1, .int p1), (2, .int p2), (3, .int p3)] → W p l e rm_X11_since s m ([.ref a0, .int p1, .int p2, .int p3] : List Value).toArray below meth c H locs 0 0 (MQ below (va_Qi K (OutW D cs E (AW E sz)) (AW E sz)) ([.ref a0, .int p1, .int p2, .int p3] : List Value).toArray s rm_X11_since.cells rm_X11_since.slots (AW E sz)) (F0 m 28 ls [.int s1, .ref s0]) := by
    intro s0 s1 d H locs ls h hw hl
    unfold b_X11_since_28 at h
    obtain ⟨hos0, h⟩ := h
    refine lv_iconst (v := 1) S.1 S.2.1 (dd_at ddX11_since 16 rfl) (by decide) ?_
    refine r_callI hw (r_runV (As := [.int s1, .int 1]) (rest := []) S hw (m_X11_throwsIf l D cs E d H.size s0 s1 1 _) (cwV 2 S.2.2.2.2 (gV wg421 wg422 wg423 wg5 wg424) rfl rfl rfl (by decide +kernel) ⟨Nat.le_of_ble_eq_true rfl, Nat.le_of_ble_eq_true rfl⟩) (ci := 11) rfl hos0 h rfl hl.1 rfl (Nat.le_of_ble_eq_true rfl) (dd_at ddX11_since 17 rfl) ⟨Nat.le_of_ble_eq_true rfl, Nat.le_of_ble_eq_true rfl⟩) (fun r_2 d_1 H locs h hw => ?_)
    refine lv_if_eq (tgt := 37) S.1 S.2.1 (dd_at ddX11_since 18 rfl) (by decide) (fun hc_3 => ?_) (fun hc_3 => ?_)
    · have h := h.1 hc_3
      refine lv_aload_n S.1 S.2.1 (dd_at ddX11_since 21 rfl) rfl (lv_at hl 0 rfl) ?_
      refine lv_iload_n S.1 S.2.1 (dd_at ddX11_since 22 rfl) rfl (lv_at hl 2 rfl) ?_
      refine lv_iload_n S.1 S.2.1 (dd_at ddX11_since 23 rfl) rfl (lv_at hl 3 rfl) ?_
      refine r_callV hw (r_runV (As := [.int p2, .int p3]) (rest := []) S hw (m_X11_goes l D cs E d_1 H.size a0 p2 p3 _) (cwV 2 S.2.2.2.2 (gV wg814 wg815 wg816 wg5 wg817) rfl rfl rfl (by decide +kernel) ⟨Nat.le_of_ble_eq_true rfl, Nat.le_of_ble_eq_true rfl⟩) (ci := 11) rfl ha0 h rfl hl.1 rfl (Nat.le_of_ble_eq_true rfl) (dd_at ddX11_since 24 rfl) ⟨Nat.le_of_ble_eq_true rfl, Nat.le_of_ble_eq_true rfl⟩) (fun d_4 H locs h hw => ?_)
      refine lv_aload_n S.1 S.2.1 (dd_at ddX11_since 25 rfl) rfl (lv_at hl 0 rfl) ?_
      obtain ⟨b_6, hb_7, ho_8, h⟩ := h
      refine r_getR S hw 11 21 rfl inG11 (by decide) (List.mem_cons_of_mem _ wg163) (by decide) ha0 hb_7 (dd_at ddX11_since 26 rfl) ?_
      refine lv_iload_n S.1 S.2.1 (dd_at ddX11_since 27 rfl) rfl (lv_at hl 1 rfl) ?_
      obtain ⟨hx_9, h⟩ := h
      refine r_iald S hw ho_8 hx_9 (dd_at ddX11_since 28 rfl) ?_
      refine lv_if_ge (tgt := 56) S.1 S.2.1 (dd_at ddX11_since 29 rfl) (by decide) (fun hc_10 => ?_) (fun hc_10 => ?_)
      · have h := h.1 hc_10
        refine lv_aload_n S.1 S.2.1 (dd_at ddX11_since 32 rfl) rfl (lv_at hl 0 rfl) ?_
        obtain ⟨b_11, hb_12, ho_13, h⟩ := h
        refine r_getR S hw 11 22 rfl inG11 (by decide) (List.mem_cons_of_mem _ wg164) (by decide) ha0 hb_12 (dd_at ddX11_since 33 rfl) ?_
        refine lv_iload_n S.1 S.2.1 (dd_at ddX11_since 34 rfl) rfl (lv_at hl 1 rfl) ?_
        obtain ⟨hx_14, h⟩ := h
        refine r_iald S hw ho_13 hx_14 (dd_at ddX11_since 35 rfl) ?_
        exact e_I S hr hlocks hw h (dd_at ddX11_since 36 rfl)
      · have h := h.2 hc_10
        refine lv_iconst (v := -1) S.1 S.2.1 (dd_at ddX11_since 30 rfl) (by decide) ?_
        refine lv_goto (tgt := 62) S.1 S.2.1 (dd_at ddX11_since 31 rfl) (by decide) ?_
        exact e_I S hr hlocks hw h (dd_at ddX11_since 36 rfl)
    · have h := h.2 hc_3
      refine lv_iconst (v := 0) S.1 S.2.1 (dd_at ddX11_since 19 rfl) (by decide) ?_
      exact e_I S hr hlocks hw h (dd_at ddX11_since 20 rfl)
  have tb23 : ∀ (s0 : Nat) (d : Dy) (H : Heap) (locs : List Loc) (ls : Array Slot), b_X11_since_23 E a0 p1 p2 p3 K s0 d → Wd D cs (AW E sz) s.heap s E d H locs → lv_has ls 4 [(0, .ref a0), (1, .int p1), (2, .int p2), (3, .int p3)] → W p l e rm_X11_since s m ([.ref a0, .int p1, .int p2, .int p3] : List Value).toArray below meth c H locs 0 0 (MQ below (va_Qi K (OutW D cs E (AW E sz)) (AW E sz)) ([.ref a0, .int p1, .int p2, .int p3] : List Value).toArray s rm_X11_since.cells rm_X11_since.slots (AW E sz)) (F0 m 23 ls [.ref s0]) := by
    intro s0 d H locs ls h hw hl
    unfold b_X11_since_23 at h
    obtain ⟨hos0, h⟩ := h
    refine lv_iconst (v := 1) S.1 S.2.1 (dd_at ddX11_since 13 rfl) (by decide) ?_
    refine lv_goto (tgt := 28) S.1 S.2.1 (dd_at ddX11_since 14 rfl) (by decide) ?_
    exact tb28 s0 1 d H locs ls h hw (lv_sub hl [0, 1, 2, 3] rfl)
  refine lv_aload_n S.1 S.2.1 (dd_at ddX11_since 0 rfl) rfl (lv_at hl 0 rfl) ?_
  refine lv_iconst (v := 0) S.1 S.2.1 (dd_at ddX11_since 1 rfl) (by decide) ?_
  refine r_putI S hw 11 0 (ty := .int) (v := 0) rfl inG11 tyX11 tyX11_ok nmX11 (by decide) (List.mem_cons_of_mem _ wg201) (by decide) rfl (by decide +kernel) rfl rfl ha0 (dd_at ddX11_since 2 rfl) (fun H locs hw => ?_)
  refine lv_aload_n S.1 S.2.1 (dd_at ddX11_since 3 rfl) rfl (lv_at hl 0 rfl) ?_
  refine lv_aload_n S.1 S.2.1 (dd_at ddX11_since 4 rfl) rfl (lv_at hl 0 rfl) ?_
  refine lv_iload_n S.1 S.2.1 (dd_at ddX11_since 5 rfl) rfl (lv_at hl 1 rfl) ?_
  refine r_callI hw (r_runV (As := [.int p1]) (rest := [.ref a0]) S hw (m_X11_noHut l D cs E (pI d a0 0 0) H.size a0 p1 _) (cwV 1 S.2.2.2.2 (gV wg631 wg632 wg633 wg5 wg634) rfl rfl rfl (by decide +kernel) ⟨Nat.le_of_ble_eq_true rfl, Nat.le_of_ble_eq_true rfl⟩) (ci := 11) rfl ha0 h rfl hl.1 rfl (Nat.le_of_ble_eq_true rfl) (dd_at ddX11_since 6 rfl) ⟨Nat.le_of_ble_eq_true rfl, Nat.le_of_ble_eq_true rfl⟩) (fun r_16 d_15 H locs h hw => ?_)
  refine lv_if_ne (tgt := 23) S.1 S.2.1 (dd_at ddX11_since 7 rfl) (by decide) (fun hc_17 => ?_) (fun hc_17 => ?_)
  · have h := h.1 hc_17
    exact tb23 a0 d_15 H locs ls h hw (lv_sub hl [0, 1, 2, 3] rfl)
  · have h := h.2 hc_17
    refine lv_aload_n S.1 S.2.1 (dd_at ddX11_since 8 rfl) rfl (lv_at hl 0 rfl) ?_
    refine lv_iload_n S.1 S.2.1 (dd_at ddX11_since 9 rfl) rfl (lv_at hl 2 rfl) ?_
    refine lv_iload_n S.1 S.2.1 (dd_at ddX11_since 10 rfl) rfl (lv_at hl 3 rfl) ?_
    refine r_callI hw (r_runV (As := [.int p2, .int p3]) (rest := [.ref a0]) S hw (m_X11_noTimes l D cs E d_15 H.size a0 p2 p3 _) (cwV 2 S.2.2.2.2 (gV wg810 wg811 wg812 wg5 wg813) rfl rfl rfl (by decide +kernel) ⟨Nat.le_of_ble_eq_true rfl, Nat.le_of_ble_eq_true rfl⟩) (ci := 11) rfl ha0 h rfl hl.1 rfl (Nat.le_of_ble_eq_true rfl) (dd_at ddX11_since 11 rfl) ⟨Nat.le_of_ble_eq_true rfl, Nat.le_of_ble_eq_true rfl⟩) (fun r_19 d_18 H locs h hw => ?_)
    refine lv_if_eq (tgt := 27) S.1 S.2.1 (dd_at ddX11_since 12 rfl) (by decide) (fun hc_20 => ?_) (fun hc_20 => ?_)
    · have h := h.1 hc_20
      refine lv_iconst (v := 0) S.1 S.2.1 (dd_at ddX11_since 15 rfl) (by decide) ?_
      exact tb28 a0 0 d_18 H locs ls h hw (lv_sub hl [0, 1, 2, 3] rfl)
    · have h := h.2 hc_20
      exact tb23 a0 d_18 H locs ls h hw (lv_sub hl [0, 1, 2, 3] rfl)

def b_X11_place_28 (E : En) (a0 : Nat) (p1 : Int32) (p2 : Int32) (p3 : Int32) (K : Int32 → Dy → Prop) (s0 : Nat) (s1 : Int32) (d : Dy) : Prop := okO E s0 11 ∧ w_X11_throwsIf E s0 s1 1 d (fun r_2 d_1 => ((r_2 = 0 → w_X11_goes E a0 p2 p3 d_1 (fun d_4 => w_X11_rowPlace E a0 p1 d_4 (fun r_7 d_6 => K r_7 d_6))) ∧ (¬ r_2 = 0 → K 0 d_1)))
def b_X11_place_23 (E : En) (a0 : Nat) (p1 : Int32) (p2 : Int32) (p3 : Int32) (K : Int32 → Dy → Prop) (s0 : Nat) (d : Dy) : Prop := okO E s0 11 ∧ b_X11_place_28 E a0 p1 p2 p3 K s0 1 d
def w_X11_place (E : En) (a0 : Nat) (p1 : Int32) (p2 : Int32) (p3 : Int32) (d : Dy) (K : Int32 → Dy → Prop) : Prop := okO E a0 11 ∧ w_X11_noHut E a0 p1 (pI d a0 0 0) (fun r_9 d_8 => ((¬ r_9 = 0 → b_X11_place_23 E a0 p1 p2 p3 K a0 d_8) ∧ (r_9 = 0 → w_X11_noTimes E a0 p2 p3 d_8 (fun r_12 d_11 => ((r_12 = 0 → b_X11_place_28 E a0 p1 p2 p3 K a0 0 d_11) ∧ (¬ r_12 = 0 → b_X11_place_23 E a0 p1 p2 p3 K a0 d_11))))))
abbrev rm_X11_place : Room := { frames := 7, cells := 0, slots := 0, locals := 167 }
set_option maxRecDepth 100000 in
set_option maxHeartbeats 4000000 in
theorem m_X11_place (l : Launch) (D : va_G) (cs : Nat → ClassId) (E : En) (d : Dy) (sz : Nat) (a0 : Nat) (p1 : Int32) (p2 : Int32) (p3 : Int32) (K : Int32 → Dy → Prop) : CI l yX11_place (.code yX11_place cX11_place 4 (some .int) :: wsL_law) rm_X11_place D cs E d sz [.ref a0, .int p1, .int p2, .int p3] (w_X11_place E a0 p1 p2 p3 d K) K := by
  refine e_of (cc := cX11_place) (maxL := 4) (ret := (some .int)) (own := RX11) (by decide) rfl rfl (Nat.le_of_ble_eq_true rfl) ?_
  intro p e s m below meth c S hr hlocks hsz H locs hw h ls hl
  have hl : lv_has ls 4 [(0, .ref a0), (1, .int p1), (2, .int p2), (3, .int p3)] := hl
  unfold w_X11_place at h
  obtain ⟨ha0, h⟩ := h
  have tb28 : ∀ (s0 : Nat) (s1 : Int32) (d : Dy) (H : Heap) (locs : List Loc) (ls : Array Slot), b_X11_place_28 E a0 p1 p2 p3 K s0 s1 d → Wd D cs (AW E sz) s.heap s E d H locs → lv_has ls 4 [(0, .ref a0), (1, .int p1), (2, .int p2), (3, .int p3)] → W p l e rm_X11_place s m ([.ref a0, .int p1, .int p2, .int p3] : List Value).toArray below meth c H locs 0 0 (MQ below (va_Qi K (OutW D cs E (AW E sz)) (AW E sz)) ([.ref a0, .int p1, .int p2, .int p3] : List Value).toArray s rm_X11_place.cells rm_X11_place.slots (AW E sz)) (F0 m 28 ls [.int s1, .ref s0]) := by
    intro s0 s1 d H locs ls h hw hl
    unfold b_X11_place_28 at h
    obtain ⟨hos0, h⟩ := h
    refine lv_iconst (v := 1) S.1 S.2.1 (dd_at ddX11_place 16 rfl) (by decide) ?_
    refine r_callI hw (r_runV (As := [.int s1, .int 1]) (rest := []) S hw (m_X11_throwsIf l D cs E d H.size s0 s1 1 _) (cwV 2 S.2.2.2.2 (gV wg421 wg422 wg423 wg5 wg424) rfl rfl rfl (by decide +kernel) ⟨Nat.le_of_ble_eq_true rfl, Nat.le_of_ble_eq_true rfl⟩) (ci := 11) rfl hos0 h rfl hl.1 rfl (Nat.le_of_ble_eq_true rfl) (dd_at ddX11_place 17 rfl) ⟨Nat.le_of_ble_eq_true rfl, Nat.le_of_ble_eq_true rfl⟩) (fun r_2 d_1 H locs h hw => ?_)
    refine lv_if_eq (tgt := 37) S.1 S.2.1 (dd_at ddX11_place 18 rfl) (by decide) (fun hc_3 => ?_) (fun hc_3 => ?_)
    · have h := h.1 hc_3
      refine lv_aload_n S.1 S.2.1 (dd_at ddX11_place 21 rfl) rfl (lv_at hl 0 rfl) ?_
      refine lv_iload_n S.1 S.2.1 (dd_at ddX11_place 22 rfl) rfl (lv_at hl 2 rfl) ?_
      refine lv_iload_n S.1 S.2.1 (dd_at ddX11_place 23 rfl) rfl (lv_at hl 3 rfl) ?_
      refine r_callV hw (r_runV (As := [.int p2, .int p3]) (rest := []) S hw (m_X11_goes l D cs E d_1 H.size a0 p2 p3 _) (cwV 2 S.2.2.2.2 (gV wg814 wg815 wg816 wg5 wg817) rfl rfl rfl (by decide +kernel) ⟨Nat.le_of_ble_eq_true rfl, Nat.le_of_ble_eq_true rfl⟩) (ci := 11) rfl ha0 h rfl hl.1 rfl (Nat.le_of_ble_eq_true rfl) (dd_at ddX11_place 24 rfl) ⟨Nat.le_of_ble_eq_true rfl, Nat.le_of_ble_eq_true rfl⟩) (fun d_4 H locs h hw => ?_)
      refine lv_aload_n S.1 S.2.1 (dd_at ddX11_place 25 rfl) rfl (lv_at hl 0 rfl) ?_
      refine lv_iload_n S.1 S.2.1 (dd_at ddX11_place 26 rfl) rfl (lv_at hl 1 rfl) ?_
      refine r_callI hw (r_runV (As := [.int p1]) (rest := []) S hw (m_X11_rowPlace l D cs E d_4 H.size a0 p1 _) (cwV 1 S.2.2.2.2 (gV wg900 wg901 wg902 wg5 wg903) rfl rfl rfl (by decide +kernel) ⟨Nat.le_of_ble_eq_true rfl, Nat.le_of_ble_eq_true rfl⟩) (ci := 11) rfl ha0 h rfl hl.1 rfl (Nat.le_of_ble_eq_true rfl) (dd_at ddX11_place 27 rfl) ⟨Nat.le_of_ble_eq_true rfl, Nat.le_of_ble_eq_true rfl⟩) (fun r_7 d_6 H locs h hw => ?_)
      exact e_I S hr hlocks hw h (dd_at ddX11_place 28 rfl)
    · have h := h.2 hc_3
      refine lv_iconst (v := 0) S.1 S.2.1 (dd_at ddX11_place 19 rfl) (by decide) ?_
      exact e_I S hr hlocks hw h (dd_at ddX11_place 20 rfl)
  have tb23 : ∀ (s0 : Nat) (d : Dy) (H : Heap) (locs : List Loc) (ls : Array Slot), b_X11_place_23 E a0 p1 p2 p3 K s0 d → Wd D cs (AW E sz) s.heap s E d H locs → lv_has ls 4 [(0, .ref a0), (1, .int p1), (2, .int p2), (3, .int p3)] → W p l e rm_X11_place s m ([.ref a0, .int p1, .int p2, .int p3] : List Value).toArray below meth c H locs 0 0 (MQ below (va_Qi K (OutW D cs E (AW E sz)) (AW E sz)) ([.ref a0, .int p1, .int p2, .int p3] : List Value).toArray s rm_X11_place.cells rm_X11_place.slots (AW E sz)) (F0 m 23 ls [.ref s0]) := by
    intro s0 d H locs ls h hw hl
    unfold b_X11_place_23 at h
    obtain ⟨hos0, h⟩ := h
    refine lv_iconst (v := 1) S.1 S.2.1 (dd_at ddX11_place 13 rfl) (by decide) ?_
    refine lv_goto (tgt := 28) S.1 S.2.1 (dd_at ddX11_place 14 rfl) (by decide) ?_
    exact tb28 s0 1 d H locs ls h hw (lv_sub hl [0, 1, 2, 3] rfl)
  refine lv_aload_n S.1 S.2.1 (dd_at ddX11_place 0 rfl) rfl (lv_at hl 0 rfl) ?_
  refine lv_iconst (v := 0) S.1 S.2.1 (dd_at ddX11_place 1 rfl) (by decide) ?_
  refine r_putI S hw 11 0 (ty := .int) (v := 0) rfl inG11 tyX11 tyX11_ok nmX11 (by decide) (List.mem_cons_of_mem _ wg201) (by decide) rfl (by decide +kernel) rfl rfl ha0 (dd_at ddX11_place 2 rfl) (fun H locs hw => ?_)
  refine lv_aload_n S.1 S.2.1 (dd_at ddX11_place 3 rfl) rfl (lv_at hl 0 rfl) ?_
  refine lv_aload_n S.1 S.2.1 (dd_at ddX11_place 4 rfl) rfl (lv_at hl 0 rfl) ?_
  refine lv_iload_n S.1 S.2.1 (dd_at ddX11_place 5 rfl) rfl (lv_at hl 1 rfl) ?_
  refine r_callI hw (r_runV (As := [.int p1]) (rest := [.ref a0]) S hw (m_X11_noHut l D cs E (pI d a0 0 0) H.size a0 p1 _) (cwV 1 S.2.2.2.2 (gV wg631 wg632 wg633 wg5 wg634) rfl rfl rfl (by decide +kernel) ⟨Nat.le_of_ble_eq_true rfl, Nat.le_of_ble_eq_true rfl⟩) (ci := 11) rfl ha0 h rfl hl.1 rfl (Nat.le_of_ble_eq_true rfl) (dd_at ddX11_place 6 rfl) ⟨Nat.le_of_ble_eq_true rfl, Nat.le_of_ble_eq_true rfl⟩) (fun r_9 d_8 H locs h hw => ?_)
  refine lv_if_ne (tgt := 23) S.1 S.2.1 (dd_at ddX11_place 7 rfl) (by decide) (fun hc_10 => ?_) (fun hc_10 => ?_)
  · have h := h.1 hc_10
    exact tb23 a0 d_8 H locs ls h hw (lv_sub hl [0, 1, 2, 3] rfl)
  · have h := h.2 hc_10
    refine lv_aload_n S.1 S.2.1 (dd_at ddX11_place 8 rfl) rfl (lv_at hl 0 rfl) ?_
    refine lv_iload_n S.1 S.2.1 (dd_at ddX11_place 9 rfl) rfl (lv_at hl 2 rfl) ?_
    refine lv_iload_n S.1 S.2.1 (dd_at ddX11_place 10 rfl) rfl (lv_at hl 3 rfl) ?_
    refine r_callI hw (r_runV (As := [.int p2, .int p3]) (rest := [.ref a0]) S hw (m_X11_noTimes l D cs E d_8 H.size a0 p2 p3 _) (cwV 2 S.2.2.2.2 (gV wg810 wg811 wg812 wg5 wg813) rfl rfl rfl (by decide +kernel) ⟨Nat.le_of_ble_eq_true rfl, Nat.le_of_ble_eq_true rfl⟩) (ci := 11) rfl ha0 h rfl hl.1 rfl (Nat.le_of_ble_eq_true rfl) (dd_at ddX11_place 11 rfl) ⟨Nat.le_of_ble_eq_true rfl, Nat.le_of_ble_eq_true rfl⟩) (fun r_12 d_11 H locs h hw => ?_)
    refine lv_if_eq (tgt := 27) S.1 S.2.1 (dd_at ddX11_place 12 rfl) (by decide) (fun hc_13 => ?_) (fun hc_13 => ?_)
    · have h := h.1 hc_13
      refine lv_iconst (v := 0) S.1 S.2.1 (dd_at ddX11_place 15 rfl) (by decide) ?_
      exact tb28 a0 0 d_11 H locs ls h hw (lv_sub hl [0, 1, 2, 3] rfl)
    · have h := h.2 hc_13
      exact tb23 a0 d_11 H locs ls h hw (lv_sub hl [0, 1, 2, 3] rfl)

def b_X11_about_73 (E : En) (a0 : Nat) (p1 : Int32) (p2 : Int32) (p3 : Int32) (p4 : Int32) (K : Int32 → Dy → Prop) (k73 : Int32 → Int32 → Dy → Prop) (v5 : Int32) (v6 : Int32) (d : Dy) : Prop := w_X11_huts E a0 d (fun r_2 d_1 => ((r_2 ≤ v6 → ((p4 = 0 → ∃ b_5 : Nat, eR E a0 18 = some b_5 ∧ okA E b_5 15 ∧ vp_in p1 (eN E b_5) ∧ (((gA d_1 b_5 (p1).toNatClampNeg) = 0 → K 0 d_1) ∧ (¬ (gA d_1 b_5 (p1).toNatClampNeg) = 0 → K 1 d_1))) ∧ (p4 = 1 → w_X11_spouseOf E a0 p1 d_1 (fun r_12 d_11 => K r_12 d_11)) ∧ (p4 = 2 → w_X11_childrenOf E a0 p1 d_1 (fun r_15 d_14 => K r_15 d_14)) ∧ (p4 = 3 → w_X11_eldestOf E a0 p1 d_1 (fun r_18 d_17 => K r_18 d_17)) ∧ (p4 = 4 → w_X11_parentOf E a0 p1 d_1 (fun r_21 d_20 => K r_21 d_20)) ∧ (p4 = 5 → w_X11_brotherOf E a0 p1 d_1 (fun r_24 d_23 => K r_24 d_23)) ∧ (¬ p4 = 0 → ¬ p4 = 1 → ¬ p4 = 2 → ¬ p4 = 3 → ¬ p4 = 4 → ¬ p4 = 5 → K v5 d_1))) ∧ (¬ r_2 ≤ v6 → ∃ b_26 : Nat, eR E a0 21 = some b_26 ∧ okA E b_26 13 ∧ vp_in v6 (eN E b_26) ∧ ((¬ (gA d_1 b_26 (v6).toNatClampNeg) = p1 → k73 (v5 ||| 0) (v6 + 1) d_1) ∧ ((gA d_1 b_26 (v6).toNatClampNeg) = p1 → k73 (v5 ||| ((1 : Int32) <<< (v6 &&& 31))) (v6 + 1) d_1)))))
def l_X11_about_73 (E : En) (a0 : Nat) (p1 : Int32) (p2 : Int32) (p3 : Int32) (p4 : Int32) (K : Int32 → Dy → Prop) : Nat → Int32 → Int32 → Dy → Prop
  | 0 => fun _ _ _ => False
  | n + 1 => b_X11_about_73 E a0 p1 p2 p3 p4 K (l_X11_about_73 E a0 p1 p2 p3 p4 K n)
def b_X11_about_52 (E : En) (a0 : Nat) (p1 : Int32) (p2 : Int32) (p3 : Int32) (p4 : Int32) (K : Int32 → Dy → Prop) (s0 : Nat) (s1 : Int32) (d : Dy) : Prop := okO E s0 11 ∧ w_X11_throwsIf E s0 s1 2 d (fun r_32 d_31 => ((r_32 = 0 → w_X11_goes E a0 p2 p3 d_31 (fun d_34 => (∃ n_36 : Nat, l_X11_about_73 E a0 p1 p2 p3 p4 K n_36 0 0 d_34))) ∧ (¬ r_32 = 0 → K 0 d_31)))
def b_X11_about_28 (E : En) (a0 : Nat) (p1 : Int32) (p2 : Int32) (p3 : Int32) (p4 : Int32) (K : Int32 → Dy → Prop) (s0 : Nat) (s1 : Int32) (d : Dy) : Prop := okO E s0 11 ∧ w_X11_throwsIf E s0 s1 1 d (fun r_38 d_37 => ((¬ r_38 = 0 → K 0 d_37) ∧ (r_38 = 0 → w_X11_in E p4 0 6 d_37 (fun r_41 d_40 => ((¬ r_41 = 0 → b_X11_about_52 E a0 p1 p2 p3 p4 K a0 0 d_40) ∧ (r_41 = 0 → b_X11_about_52 E a0 p1 p2 p3 p4 K a0 1 d_40))))))
def b_X11_about_23 (E : En) (a0 : Nat) (p1 : Int32) (p2 : Int32) (p3 : Int32) (p4 : Int32) (K : Int32 → Dy → Prop) (s0 : Nat) (d : Dy) : Prop := okO E s0 11 ∧ b_X11_about_28 E a0 p1 p2 p3 p4 K s0 1 d
def w_X11_about (E : En) (a0 : Nat) (p1 : Int32) (p2 : Int32) (p3 : Int32) (p4 : Int32) (d : Dy) (K : Int32 → Dy → Prop) : Prop := okO E a0 11 ∧ w_X11_noPerson E a0 p1 (pI d a0 0 0) (fun r_44 d_43 => ((¬ r_44 = 0 → b_X11_about_23 E a0 p1 p2 p3 p4 K a0 d_43) ∧ (r_44 = 0 → w_X11_noTimes E a0 p2 p3 d_43 (fun r_47 d_46 => ((r_47 = 0 → b_X11_about_28 E a0 p1 p2 p3 p4 K a0 0 d_46) ∧ (¬ r_47 = 0 → b_X11_about_23 E a0 p1 p2 p3 p4 K a0 d_46))))))
abbrev rm_X11_about : Room := { frames := 7, cells := 0, slots := 0, locals := 167 }
set_option maxRecDepth 100000 in
set_option maxHeartbeats 4000000 in
theorem m_X11_about (l : Launch) (D : va_G) (cs : Nat → ClassId) (E : En) (d : Dy) (sz : Nat) (a0 : Nat) (p1 : Int32) (p2 : Int32) (p3 : Int32) (p4 : Int32) (K : Int32 → Dy → Prop) : CI l yX11_about (.code yX11_about cX11_about 7 (some .int) :: wsL_law) rm_X11_about D cs E d sz [.ref a0, .int p1, .int p2, .int p3, .int p4] (w_X11_about E a0 p1 p2 p3 p4 d K) K := by
  refine e_of (cc := cX11_about) (maxL := 7) (ret := (some .int)) (own := RX11) (by decide) rfl rfl (Nat.le_of_ble_eq_true rfl) ?_
  intro p e s m below meth c S hr hlocks hsz H locs hw h ls hl
  have hl : lv_has ls 7 [(0, .ref a0), (1, .int p1), (2, .int p2), (3, .int p3), (4, .int p4)] := hl
  unfold w_X11_about at h
  obtain ⟨ha0, h⟩ := h
  have tl73 : ∀ (n : Nat) (v5 : Int32) (v6 : Int32) (d : Dy) (H : Heap) (locs : List Loc) (ls : Array Slot), l_X11_about_73 E a0 p1 p2 p3 p4 K n v5 v6 d → Wd D cs (AW E sz) s.heap s E d H locs → lv_has ls 7 [(0, .ref a0), (1, .int p1), (4, .int p4), (5, .int v5), (6, .int v6)] → W p l e rm_X11_about s m ([.ref a0, .int p1, .int p2, .int p3, .int p4] : List Value).toArray below meth c H locs 0 0 (MQ below (va_Qi K (OutW D cs E (AW E sz)) (AW E sz)) ([.ref a0, .int p1, .int p2, .int p3, .int p4] : List Value).toArray s rm_X11_about.cells rm_X11_about.slots (AW E sz)) (F0 m 73 ls []) := by
    intro n73
    induction n73 with
    | zero => intro v5 v6 d H locs ls h; exact absurd h id
    | succ n73 ih73 =>
      intro v5 v6 d H locs ls h hw hl
      have h : b_X11_about_73 E a0 p1 p2 p3 p4 K (l_X11_about_73 E a0 p1 p2 p3 p4 K n73) v5 v6 d := h
      unfold b_X11_about_73 at h
      refine lv_iload S.1 S.2.1 (dd_at ddX11_about 41 rfl) (lv_at hl 4 rfl) ?_
      refine lv_aload_n S.1 S.2.1 (dd_at ddX11_about 42 rfl) rfl (lv_at hl 0 rfl) ?_
      refine r_callI hw (r_runV (As := []) (rest := [.int v6]) S hw (m_X11_huts l D cs E d H.size a0 _) (cwV 0 S.2.2.2.2 (gV wg596 wg597 wg598 wg5 wg599) rfl rfl rfl (by decide +kernel) ⟨Nat.le_of_ble_eq_true rfl, Nat.le_of_ble_eq_true rfl⟩) (ci := 11) rfl ha0 h rfl hl.1 rfl (Nat.le_of_ble_eq_true rfl) (dd_at ddX11_about 43 rfl) ⟨Nat.le_of_ble_eq_true rfl, Nat.le_of_ble_eq_true rfl⟩) (fun r_2 d_1 H locs h hw => ?_)
      refine lv_icmp_ge (tgt := 112) S.1 S.2.1 (dd_at ddX11_about 44 rfl) (by decide) (fun hc_3 => ?_) (fun hc_3 => ?_)
      · have h := h.1 hc_3
        refine lv_iload S.1 S.2.1 (dd_at ddX11_about 61 rfl) (lv_at hl 2 rfl) ?_
        by_cases hc_10 : p4 = 0
        · have h := h.1 hc_10
          refine lv_tableIn (off := 38) (tgt := 152) S.1 S.2.1 (dd_at ddX11_about 62 rfl) (by rw [hc_10]; decide) (by rw [hc_10]; decide) (by rw [hc_10]; rfl) (by decide) ?_
          refine lv_aload_n S.1 S.2.1 (dd_at ddX11_about 63 rfl) rfl (lv_at hl 0 rfl) ?_
          obtain ⟨b_5, hb_6, ho_7, h⟩ := h
          refine r_getR S hw 11 18 rfl inG11 (by decide) (List.mem_cons_of_mem _ wg160) (by decide) ha0 hb_6 (dd_at ddX11_about 64 rfl) ?_
          refine lv_iload_n S.1 S.2.1 (dd_at ddX11_about 65 rfl) rfl (lv_at hl 1 rfl) ?_
          obtain ⟨hx_8, h⟩ := h
          refine r_zald S hw ho_7 hx_8 (dd_at ddX11_about 66 rfl) ?_
          refine lv_if_eq (tgt := 165) S.1 S.2.1 (dd_at ddX11_about 67 rfl) (by decide) (fun hc_9 => ?_) (fun hc_9 => ?_)
          · have h := h.1 hc_9
            refine lv_iconst (v := 0) S.1 S.2.1 (dd_at ddX11_about 70 rfl) (by decide) ?_
            exact e_I S hr hlocks hw h (dd_at ddX11_about 71 rfl)
          · have h := h.2 hc_9
            refine lv_iconst (v := 1) S.1 S.2.1 (dd_at ddX11_about 68 rfl) (by decide) ?_
            refine lv_goto (tgt := 166) S.1 S.2.1 (dd_at ddX11_about 69 rfl) (by decide) ?_
            exact e_I S hr hlocks hw h (dd_at ddX11_about 71 rfl)
        · skip
          by_cases hc_13 : p4 = 1
          · have h := h.2.1 hc_13
            refine lv_tableIn (off := 53) (tgt := 167) S.1 S.2.1 (dd_at ddX11_about 62 rfl) (by rw [hc_13]; decide) (by rw [hc_13]; decide) (by rw [hc_13]; rfl) (by decide) ?_
            refine lv_aload_n S.1 S.2.1 (dd_at ddX11_about 72 rfl) rfl (lv_at hl 0 rfl) ?_
            refine lv_iload_n S.1 S.2.1 (dd_at ddX11_about 73 rfl) rfl (lv_at hl 1 rfl) ?_
            refine r_callI hw (r_runV (As := [.int p1]) (rest := []) S hw (m_X11_spouseOf l D cs E d_1 H.size a0 p1 _) (cwV 1 S.2.2.2.2 (gV wg864 wg865 wg866 wg5 wg867) rfl rfl rfl (by decide +kernel) ⟨Nat.le_of_ble_eq_true rfl, Nat.le_of_ble_eq_true rfl⟩) (ci := 11) rfl ha0 h rfl hl.1 rfl (Nat.le_of_ble_eq_true rfl) (dd_at ddX11_about 74 rfl) ⟨Nat.le_of_ble_eq_true rfl, Nat.le_of_ble_eq_true rfl⟩) (fun r_12 d_11 H locs h hw => ?_)
            exact e_I S hr hlocks hw h (dd_at ddX11_about 75 rfl)
          · skip
            by_cases hc_16 : p4 = 2
            · have h := h.2.2.1 hc_16
              refine lv_tableIn (off := 59) (tgt := 173) S.1 S.2.1 (dd_at ddX11_about 62 rfl) (by rw [hc_16]; decide) (by rw [hc_16]; decide) (by rw [hc_16]; rfl) (by decide) ?_
              refine lv_aload_n S.1 S.2.1 (dd_at ddX11_about 76 rfl) rfl (lv_at hl 0 rfl) ?_
              refine lv_iload_n S.1 S.2.1 (dd_at ddX11_about 77 rfl) rfl (lv_at hl 1 rfl) ?_
              refine r_callI hw (r_runV (As := [.int p1]) (rest := []) S hw (m_X11_childrenOf l D cs E d_1 H.size a0 p1 _) (cwV 1 S.2.2.2.2 (gV wg852 wg853 wg854 wg5 wg855) rfl rfl rfl (by decide +kernel) ⟨Nat.le_of_ble_eq_true rfl, Nat.le_of_ble_eq_true rfl⟩) (ci := 11) rfl ha0 h rfl hl.1 rfl (Nat.le_of_ble_eq_true rfl) (dd_at ddX11_about 78 rfl) ⟨Nat.le_of_ble_eq_true rfl, Nat.le_of_ble_eq_true rfl⟩) (fun r_15 d_14 H locs h hw => ?_)
              exact e_I S hr hlocks hw h (dd_at ddX11_about 79 rfl)
            · skip
              by_cases hc_19 : p4 = 3
              · have h := h.2.2.2.1 hc_19
                refine lv_tableIn (off := 65) (tgt := 179) S.1 S.2.1 (dd_at ddX11_about 62 rfl) (by rw [hc_19]; decide) (by rw [hc_19]; decide) (by rw [hc_19]; rfl) (by decide) ?_
                refine lv_aload_n S.1 S.2.1 (dd_at ddX11_about 80 rfl) rfl (lv_at hl 0 rfl) ?_
                refine lv_iload_n S.1 S.2.1 (dd_at ddX11_about 81 rfl) rfl (lv_at hl 1 rfl) ?_
                refine r_callI hw (r_runV (As := [.int p1]) (rest := []) S hw (m_X11_eldestOf l D cs E d_1 H.size a0 p1 _) (cwV 1 S.2.2.2.2 (gV wg868 wg869 wg870 wg5 wg871) rfl rfl rfl (by decide +kernel) ⟨Nat.le_of_ble_eq_true rfl, Nat.le_of_ble_eq_true rfl⟩) (ci := 11) rfl ha0 h rfl hl.1 rfl (Nat.le_of_ble_eq_true rfl) (dd_at ddX11_about 82 rfl) ⟨Nat.le_of_ble_eq_true rfl, Nat.le_of_ble_eq_true rfl⟩) (fun r_18 d_17 H locs h hw => ?_)
                exact e_I S hr hlocks hw h (dd_at ddX11_about 83 rfl)
              · skip
                by_cases hc_22 : p4 = 4
                · have h := h.2.2.2.2.1 hc_22
                  refine lv_tableIn (off := 71) (tgt := 185) S.1 S.2.1 (dd_at ddX11_about 62 rfl) (by rw [hc_22]; decide) (by rw [hc_22]; decide) (by rw [hc_22]; rfl) (by decide) ?_
                  refine lv_aload_n S.1 S.2.1 (dd_at ddX11_about 84 rfl) rfl (lv_at hl 0 rfl) ?_
                  refine lv_iload_n S.1 S.2.1 (dd_at ddX11_about 85 rfl) rfl (lv_at hl 1 rfl) ?_
                  refine r_callI hw (r_runV (As := [.int p1]) (rest := []) S hw (m_X11_parentOf l D cs E d_1 H.size a0 p1 _) (cwV 1 S.2.2.2.2 (gV wg876 wg877 wg878 wg5 wg879) rfl rfl rfl (by decide +kernel) ⟨Nat.le_of_ble_eq_true rfl, Nat.le_of_ble_eq_true rfl⟩) (ci := 11) rfl ha0 h rfl hl.1 rfl (Nat.le_of_ble_eq_true rfl) (dd_at ddX11_about 86 rfl) ⟨Nat.le_of_ble_eq_true rfl, Nat.le_of_ble_eq_true rfl⟩) (fun r_21 d_20 H locs h hw => ?_)
                  exact e_I S hr hlocks hw h (dd_at ddX11_about 87 rfl)
                · skip
                  by_cases hc_25 : p4 = 5
                  · have h := h.2.2.2.2.2.1 hc_25
                    refine lv_tableIn (off := 77) (tgt := 191) S.1 S.2.1 (dd_at ddX11_about 62 rfl) (by rw [hc_25]; decide) (by rw [hc_25]; decide) (by rw [hc_25]; rfl) (by decide) ?_
                    refine lv_aload_n S.1 S.2.1 (dd_at ddX11_about 88 rfl) rfl (lv_at hl 0 rfl) ?_
                    refine lv_iload_n S.1 S.2.1 (dd_at ddX11_about 89 rfl) rfl (lv_at hl 1 rfl) ?_
                    refine r_callI hw (r_runV (As := [.int p1]) (rest := []) S hw (m_X11_brotherOf l D cs E d_1 H.size a0 p1 _) (cwV 1 S.2.2.2.2 (gV wg880 wg881 wg882 wg5 wg883) rfl rfl rfl (by decide +kernel) ⟨Nat.le_of_ble_eq_true rfl, Nat.le_of_ble_eq_true rfl⟩) (ci := 11) rfl ha0 h rfl hl.1 rfl (Nat.le_of_ble_eq_true rfl) (dd_at ddX11_about 90 rfl) ⟨Nat.le_of_ble_eq_true rfl, Nat.le_of_ble_eq_true rfl⟩) (fun r_24 d_23 H locs h hw => ?_)
                    exact e_I S hr hlocks hw h (dd_at ddX11_about 91 rfl)
                  · skip
                    have h := h.2.2.2.2.2.2 hc_10 hc_13 hc_16 hc_19 hc_22 hc_25
                    have thc_10 := lv_neT (k := 0) (a := 0) hc_10 (by decide)
                    have thc_13 := lv_neT (k := 1) (a := 1) hc_13 (by decide)
                    have thc_16 := lv_neT (k := 2) (a := 2) hc_16 (by decide)
                    have thc_19 := lv_neT (k := 3) (a := 3) hc_19 (by decide)
                    have thc_22 := lv_neT (k := 4) (a := 4) hc_22 (by decide)
                    have thc_25 := lv_neT (k := 5) (a := 5) hc_25 (by decide)
                    refine lv_tableOut (tgt := 197) S.1 S.2.1 (dd_at ddX11_about 62 rfl) (by omega) (by decide) ?_
                    refine lv_iload S.1 S.2.1 (dd_at ddX11_about 92 rfl) (lv_at hl 3 rfl) ?_
                    exact e_I S hr hlocks hw h (dd_at ddX11_about 93 rfl)
      · have h := h.2 hc_3
        refine lv_iload S.1 S.2.1 (dd_at ddX11_about 45 rfl) (lv_at hl 3 rfl) ?_
        refine lv_aload_n S.1 S.2.1 (dd_at ddX11_about 46 rfl) rfl (lv_at hl 0 rfl) ?_
        obtain ⟨b_26, hb_27, ho_28, h⟩ := h
        refine r_getR S hw 11 21 rfl inG11 (by decide) (List.mem_cons_of_mem _ wg163) (by decide) ha0 hb_27 (dd_at ddX11_about 47 rfl) ?_
        refine lv_iload S.1 S.2.1 (dd_at ddX11_about 48 rfl) (lv_at hl 4 rfl) ?_
        obtain ⟨hx_29, h⟩ := h
        refine r_iald S hw ho_28 hx_29 (dd_at ddX11_about 49 rfl) ?_
        refine lv_iload_n S.1 S.2.1 (dd_at ddX11_about 50 rfl) rfl (lv_at hl 1 rfl) ?_
        refine lv_icmp_ne (tgt := 102) S.1 S.2.1 (dd_at ddX11_about 51 rfl) (by decide) (fun hc_30 => ?_) (fun hc_30 => ?_)
        · have h := h.1 hc_30
          refine lv_iconst (v := 0) S.1 S.2.1 (dd_at ddX11_about 56 rfl) (by decide) ?_
          refine lv_ior S.1 S.2.1 (dd_at ddX11_about 57 rfl) ?_
          refine lv_istore (lv' := [(5, .int (v5 ||| 0)), (0, .ref a0), (1, .int p1), (4, .int p4), (6, .int v6)]) S.1 S.2.1 (dd_at ddX11_about 58 rfl) hl (by decide) rfl (fun ls hl => ?_)
          refine lv_iinc (v := v6 + 1) (lv' := [(6, .int (v6 + 1)), (5, .int (v5 ||| 0)), (0, .ref a0), (1, .int p1), (4, .int p4)]) S.1 S.2.1 (dd_at ddX11_about 59 rfl) hl (k := 4) rfl rfl (by decide) rfl (fun ls hl => ?_)
          refine lv_goto (tgt := 73) S.1 S.2.1 (dd_at ddX11_about 60 rfl) (by decide) ?_
          exact ih73 (v5 ||| 0) (v6 + 1) d_1 H locs ls h hw (lv_sub hl [2, 3, 4, 1, 0] rfl)
        · have h := h.2 hc_30
          refine lv_iconst (v := 1) S.1 S.2.1 (dd_at ddX11_about 52 rfl) (by decide) ?_
          refine lv_iload S.1 S.2.1 (dd_at ddX11_about 53 rfl) (lv_at hl 4 rfl) ?_
          refine lv_ishl S.1 S.2.1 (dd_at ddX11_about 54 rfl) ?_
          refine lv_goto (tgt := 103) S.1 S.2.1 (dd_at ddX11_about 55 rfl) (by decide) ?_
          refine lv_ior S.1 S.2.1 (dd_at ddX11_about 57 rfl) ?_
          refine lv_istore (lv' := [(5, .int (v5 ||| ((1 : Int32) <<< (v6 &&& 31)))), (0, .ref a0), (1, .int p1), (4, .int p4), (6, .int v6)]) S.1 S.2.1 (dd_at ddX11_about 58 rfl) hl (by decide) rfl (fun ls hl => ?_)
          refine lv_iinc (v := v6 + 1) (lv' := [(6, .int (v6 + 1)), (5, .int (v5 ||| ((1 : Int32) <<< (v6 &&& 31)))), (0, .ref a0), (1, .int p1), (4, .int p4)]) S.1 S.2.1 (dd_at ddX11_about 59 rfl) hl (k := 4) rfl rfl (by decide) rfl (fun ls hl => ?_)
          refine lv_goto (tgt := 73) S.1 S.2.1 (dd_at ddX11_about 60 rfl) (by decide) ?_
          exact ih73 (v5 ||| ((1 : Int32) <<< (v6 &&& 31))) (v6 + 1) d_1 H locs ls h hw (lv_sub hl [2, 3, 4, 1, 0] rfl)
  have tb52 : ∀ (s0 : Nat) (s1 : Int32) (d : Dy) (H : Heap) (locs : List Loc) (ls : Array Slot), b_X11_about_52 E a0 p1 p2 p3 p4 K s0 s1 d → Wd D cs (AW E sz) s.heap s E d H locs → lv_has ls 7 [(0, .ref a0), (1, .int p1), (2, .int p2), (3, .int p3), (4, .int p4)] → W p l e rm_X11_about s m ([.ref a0, .int p1, .int p2, .int p3, .int p4] : List Value).toArray below meth c H locs 0 0 (MQ below (va_Qi K (OutW D cs E (AW E sz)) (AW E sz)) ([.ref a0, .int p1, .int p2, .int p3, .int p4] : List Value).toArray s rm_X11_about.cells rm_X11_about.slots (AW E sz)) (F0 m 52 ls [.int s1, .ref s0]) := by
    intro s0 s1 d H locs ls h hw hl
    unfold b_X11_about_52 at h
    obtain ⟨hos0, h⟩ := h
    refine lv_iconst (v := 2) S.1 S.2.1 (dd_at ddX11_about 28 rfl) (by decide) ?_
    refine r_callI hw (r_runV (As := [.int s1, .int 2]) (rest := []) S hw (m_X11_throwsIf l D cs E d H.size s0 s1 2 _) (cwV 2 S.2.2.2.2 (gV wg421 wg422 wg423 wg5 wg424) rfl rfl rfl (by decide +kernel) ⟨Nat.le_of_ble_eq_true rfl, Nat.le_of_ble_eq_true rfl⟩) (ci := 11) rfl hos0 h rfl hl.1 rfl (Nat.le_of_ble_eq_true rfl) (dd_at ddX11_about 29 rfl) ⟨Nat.le_of_ble_eq_true rfl, Nat.le_of_ble_eq_true rfl⟩) (fun r_32 d_31 H locs h hw => ?_)
    refine lv_if_eq (tgt := 61) S.1 S.2.1 (dd_at ddX11_about 30 rfl) (by decide) (fun hc_33 => ?_) (fun hc_33 => ?_)
    · have h := h.1 hc_33
      refine lv_aload_n S.1 S.2.1 (dd_at ddX11_about 33 rfl) rfl (lv_at hl 0 rfl) ?_
      refine lv_iload_n S.1 S.2.1 (dd_at ddX11_about 34 rfl) rfl (lv_at hl 2 rfl) ?_
      refine lv_iload_n S.1 S.2.1 (dd_at ddX11_about 35 rfl) rfl (lv_at hl 3 rfl) ?_
      refine r_callV hw (r_runV (As := [.int p2, .int p3]) (rest := []) S hw (m_X11_goes l D cs E d_31 H.size a0 p2 p3 _) (cwV 2 S.2.2.2.2 (gV wg814 wg815 wg816 wg5 wg817) rfl rfl rfl (by decide +kernel) ⟨Nat.le_of_ble_eq_true rfl, Nat.le_of_ble_eq_true rfl⟩) (ci := 11) rfl ha0 h rfl hl.1 rfl (Nat.le_of_ble_eq_true rfl) (dd_at ddX11_about 36 rfl) ⟨Nat.le_of_ble_eq_true rfl, Nat.le_of_ble_eq_true rfl⟩) (fun d_34 H locs h hw => ?_)
      refine lv_iconst (v := 0) S.1 S.2.1 (dd_at ddX11_about 37 rfl) (by decide) ?_
      refine lv_istore (lv' := [(5, .int 0), (0, .ref a0), (1, .int p1), (2, .int p2), (3, .int p3), (4, .int p4)]) S.1 S.2.1 (dd_at ddX11_about 38 rfl) hl (by decide) rfl (fun ls hl => ?_)
      refine lv_iconst (v := 0) S.1 S.2.1 (dd_at ddX11_about 39 rfl) (by decide) ?_
      refine lv_istore (lv' := [(6, .int 0), (5, .int 0), (0, .ref a0), (1, .int p1), (2, .int p2), (3, .int p3), (4, .int p4)]) S.1 S.2.1 (dd_at ddX11_about 40 rfl) hl (by decide) rfl (fun ls hl => ?_)
      obtain ⟨n_36, h⟩ := h
      exact tl73 n_36 0 0 d_34 H locs ls h hw (lv_sub hl [2, 3, 6, 1, 0] rfl)
    · have h := h.2 hc_33
      refine lv_iconst (v := 0) S.1 S.2.1 (dd_at ddX11_about 31 rfl) (by decide) ?_
      exact e_I S hr hlocks hw h (dd_at ddX11_about 32 rfl)
  have tb28 : ∀ (s0 : Nat) (s1 : Int32) (d : Dy) (H : Heap) (locs : List Loc) (ls : Array Slot), b_X11_about_28 E a0 p1 p2 p3 p4 K s0 s1 d → Wd D cs (AW E sz) s.heap s E d H locs → lv_has ls 7 [(0, .ref a0), (1, .int p1), (2, .int p2), (3, .int p3), (4, .int p4)] → W p l e rm_X11_about s m ([.ref a0, .int p1, .int p2, .int p3, .int p4] : List Value).toArray below meth c H locs 0 0 (MQ below (va_Qi K (OutW D cs E (AW E sz)) (AW E sz)) ([.ref a0, .int p1, .int p2, .int p3, .int p4] : List Value).toArray s rm_X11_about.cells rm_X11_about.slots (AW E sz)) (F0 m 28 ls [.int s1, .ref s0]) := by
    intro s0 s1 d H locs ls h hw hl
    unfold b_X11_about_28 at h
    obtain ⟨hos0, h⟩ := h
    refine lv_iconst (v := 1) S.1 S.2.1 (dd_at ddX11_about 16 rfl) (by decide) ?_
    refine r_callI hw (r_runV (As := [.int s1, .int 1]) (rest := []) S hw (m_X11_throwsIf l D cs E d H.size s0 s1 1 _) (cwV 2 S.2.2.2.2 (gV wg421 wg422 wg423 wg5 wg424) rfl rfl rfl (by decide +kernel) ⟨Nat.le_of_ble_eq_true rfl, Nat.le_of_ble_eq_true rfl⟩) (ci := 11) rfl hos0 h rfl hl.1 rfl (Nat.le_of_ble_eq_true rfl) (dd_at ddX11_about 17 rfl) ⟨Nat.le_of_ble_eq_true rfl, Nat.le_of_ble_eq_true rfl⟩) (fun r_38 d_37 H locs h hw => ?_)
    refine lv_if_ne (tgt := 59) S.1 S.2.1 (dd_at ddX11_about 18 rfl) (by decide) (fun hc_39 => ?_) (fun hc_39 => ?_)
    · have h := h.1 hc_39
      refine lv_iconst (v := 0) S.1 S.2.1 (dd_at ddX11_about 31 rfl) (by decide) ?_
      exact e_I S hr hlocks hw h (dd_at ddX11_about 32 rfl)
    · have h := h.2 hc_39
      refine lv_aload_n S.1 S.2.1 (dd_at ddX11_about 19 rfl) rfl (lv_at hl 0 rfl) ?_
      refine lv_iload S.1 S.2.1 (dd_at ddX11_about 20 rfl) (lv_at hl 4 rfl) ?_
      refine lv_iconst (v := 0) S.1 S.2.1 (dd_at ddX11_about 21 rfl) (by decide) ?_
      refine lv_bipush (v := 6) S.1 S.2.1 (dd_at ddX11_about 22 rfl) (by decide) ?_
      refine r_callI hw (r_runS (As := [.int p4, .int 0, .int 6]) (rest := [.ref a0]) S hw (m_X11_in l D cs E d_37 H.size p4 0 6 _) (va_cwS 3 S.2.2.2.2 (gS wg418 wg419 wg5 wg420) rfl rfl rfl (by decide +kernel) ⟨Nat.le_of_ble_eq_true rfl, Nat.le_of_ble_eq_true rfl⟩) h rfl hl.1 rfl (Nat.le_of_ble_eq_true rfl) (dd_at ddX11_about 23 rfl) ⟨Nat.le_of_ble_eq_true rfl, Nat.le_of_ble_eq_true rfl⟩) (fun r_41 d_40 H locs h hw => ?_)
      refine lv_if_ne (tgt := 51) S.1 S.2.1 (dd_at ddX11_about 24 rfl) (by decide) (fun hc_42 => ?_) (fun hc_42 => ?_)
      · have h := h.1 hc_42
        refine lv_iconst (v := 0) S.1 S.2.1 (dd_at ddX11_about 27 rfl) (by decide) ?_
        exact tb52 a0 0 d_40 H locs ls h hw (lv_sub hl [0, 1, 2, 3, 4] rfl)
      · have h := h.2 hc_42
        refine lv_iconst (v := 1) S.1 S.2.1 (dd_at ddX11_about 25 rfl) (by decide) ?_
        refine lv_goto (tgt := 52) S.1 S.2.1 (dd_at ddX11_about 26 rfl) (by decide) ?_
        exact tb52 a0 1 d_40 H locs ls h hw (lv_sub hl [0, 1, 2, 3, 4] rfl)
  have tb23 : ∀ (s0 : Nat) (d : Dy) (H : Heap) (locs : List Loc) (ls : Array Slot), b_X11_about_23 E a0 p1 p2 p3 p4 K s0 d → Wd D cs (AW E sz) s.heap s E d H locs → lv_has ls 7 [(0, .ref a0), (1, .int p1), (2, .int p2), (3, .int p3), (4, .int p4)] → W p l e rm_X11_about s m ([.ref a0, .int p1, .int p2, .int p3, .int p4] : List Value).toArray below meth c H locs 0 0 (MQ below (va_Qi K (OutW D cs E (AW E sz)) (AW E sz)) ([.ref a0, .int p1, .int p2, .int p3, .int p4] : List Value).toArray s rm_X11_about.cells rm_X11_about.slots (AW E sz)) (F0 m 23 ls [.ref s0]) := by
    intro s0 d H locs ls h hw hl
    unfold b_X11_about_23 at h
    obtain ⟨hos0, h⟩ := h
    refine lv_iconst (v := 1) S.1 S.2.1 (dd_at ddX11_about 13 rfl) (by decide) ?_
    refine lv_goto (tgt := 28) S.1 S.2.1 (dd_at ddX11_about 14 rfl) (by decide) ?_
    exact tb28 s0 1 d H locs ls h hw (lv_sub hl [0, 1, 2, 3, 4] rfl)
  refine lv_aload_n S.1 S.2.1 (dd_at ddX11_about 0 rfl) rfl (lv_at hl 0 rfl) ?_
  refine lv_iconst (v := 0) S.1 S.2.1 (dd_at ddX11_about 1 rfl) (by decide) ?_
  refine r_putI S hw 11 0 (ty := .int) (v := 0) rfl inG11 tyX11 tyX11_ok nmX11 (by decide) (List.mem_cons_of_mem _ wg201) (by decide) rfl (by decide +kernel) rfl rfl ha0 (dd_at ddX11_about 2 rfl) (fun H locs hw => ?_)
  refine lv_aload_n S.1 S.2.1 (dd_at ddX11_about 3 rfl) rfl (lv_at hl 0 rfl) ?_
  refine lv_aload_n S.1 S.2.1 (dd_at ddX11_about 4 rfl) rfl (lv_at hl 0 rfl) ?_
  refine lv_iload_n S.1 S.2.1 (dd_at ddX11_about 5 rfl) rfl (lv_at hl 1 rfl) ?_
  refine r_callI hw (r_runV (As := [.int p1]) (rest := [.ref a0]) S hw (m_X11_noPerson l D cs E (pI d a0 0 0) H.size a0 p1 _) (cwV 1 S.2.2.2.2 (gV wg588 wg589 wg590 wg5 wg591) rfl rfl rfl (by decide +kernel) ⟨Nat.le_of_ble_eq_true rfl, Nat.le_of_ble_eq_true rfl⟩) (ci := 11) rfl ha0 h rfl hl.1 rfl (Nat.le_of_ble_eq_true rfl) (dd_at ddX11_about 6 rfl) ⟨Nat.le_of_ble_eq_true rfl, Nat.le_of_ble_eq_true rfl⟩) (fun r_44 d_43 H locs h hw => ?_)
  refine lv_if_ne (tgt := 23) S.1 S.2.1 (dd_at ddX11_about 7 rfl) (by decide) (fun hc_45 => ?_) (fun hc_45 => ?_)
  · have h := h.1 hc_45
    exact tb23 a0 d_43 H locs ls h hw (lv_sub hl [0, 1, 2, 3, 4] rfl)
  · have h := h.2 hc_45
    refine lv_aload_n S.1 S.2.1 (dd_at ddX11_about 8 rfl) rfl (lv_at hl 0 rfl) ?_
    refine lv_iload_n S.1 S.2.1 (dd_at ddX11_about 9 rfl) rfl (lv_at hl 2 rfl) ?_
    refine lv_iload_n S.1 S.2.1 (dd_at ddX11_about 10 rfl) rfl (lv_at hl 3 rfl) ?_
    refine r_callI hw (r_runV (As := [.int p2, .int p3]) (rest := [.ref a0]) S hw (m_X11_noTimes l D cs E d_43 H.size a0 p2 p3 _) (cwV 2 S.2.2.2.2 (gV wg810 wg811 wg812 wg5 wg813) rfl rfl rfl (by decide +kernel) ⟨Nat.le_of_ble_eq_true rfl, Nat.le_of_ble_eq_true rfl⟩) (ci := 11) rfl ha0 h rfl hl.1 rfl (Nat.le_of_ble_eq_true rfl) (dd_at ddX11_about 11 rfl) ⟨Nat.le_of_ble_eq_true rfl, Nat.le_of_ble_eq_true rfl⟩) (fun r_47 d_46 H locs h hw => ?_)
    refine lv_if_eq (tgt := 27) S.1 S.2.1 (dd_at ddX11_about 12 rfl) (by decide) (fun hc_48 => ?_) (fun hc_48 => ?_)
    · have h := h.1 hc_48
      refine lv_iconst (v := 0) S.1 S.2.1 (dd_at ddX11_about 15 rfl) (by decide) ?_
      exact tb28 a0 0 d_46 H locs ls h hw (lv_sub hl [0, 1, 2, 3, 4] rfl)
    · have h := h.2 hc_48
      exact tb23 a0 d_46 H locs ls h hw (lv_sub hl [0, 1, 2, 3, 4] rfl)

def b_X11_rentOf_112 (E : En) (a0 : Nat) (p1 : Int32) (p2 : Int32) (K : Int32 → Dy → Prop) (s0 : Nat) (s1 : Int32) (s2 : Int32) (d : Dy) : Prop := okA E s0 13 ∧ vp_in s1 (eN E s0) ∧ w_X11_summed E a0 1 (pA d s0 (s1).toNatClampNeg s2) (fun r_3 d_2 => K (if 0 < r_3 then r_3 else 0) d_2)
def b_X11_rentOf_81 (E : En) (a0 : Nat) (p1 : Int32) (p2 : Int32) (K : Int32 → Dy → Prop) (s0 : Nat) (s1 : Int32) (s2 : Int32) (d : Dy) : Prop := okA E s0 13 ∧ vp_in s1 (eN E s0) ∧ ∃ b_5 : Nat, eR E a0 14 = some b_5 ∧ okA E b_5 13 ∧ ∃ b_8 : Nat, eR E a0 21 = some b_8 ∧ okA E b_8 13 ∧ vp_in p1 (eN E b_8) ∧ ((0 ≤ (gA (pA d s0 (s1).toNatClampNeg s2) b_8 (p1).toNatClampNeg) → ∃ b_13 : Nat, eR E a0 21 = some b_13 ∧ okA E b_13 13 ∧ vp_in p1 (eN E b_13) ∧ w_X11_ofPerson E a0 (gA (pA d s0 (s1).toNatClampNeg s2) b_13 (p1).toNatClampNeg) 2 (pA d s0 (s1).toNatClampNeg s2) (fun r_18 d_17 => b_X11_rentOf_112 E a0 p1 p2 K b_5 8 r_18 d_17)) ∧ (¬ 0 ≤ (gA (pA d s0 (s1).toNatClampNeg s2) b_8 (p1).toNatClampNeg) → b_X11_rentOf_112 E a0 p1 p2 K b_5 8 0 (pA d s0 (s1).toNatClampNeg s2)))
def w_X11_rentOf (E : En) (a0 : Nat) (p1 : Int32) (p2 : Int32) (d : Dy) (K : Int32 → Dy → Prop) : Prop := okO E a0 11 ∧ ∃ b_19 : Nat, eR E a0 1 = some b_19 ∧ okA E b_19 13 ∧ vp_in 11 (eN E b_19) ∧ ((¬ (gA d b_19 ((11 : Int32)).toNatClampNeg) = 0 → ∃ b_24 : Nat, eR E a0 14 = some b_24 ∧ okA E b_24 13 ∧ w_X11_ofHut E a0 p1 0 d (fun r_28 d_27 => vp_in 4 (eN E b_24) ∧ ∃ b_30 : Nat, eR E a0 14 = some b_30 ∧ okA E b_30 13 ∧ w_X11_rowPlace E a0 p1 (pA d_27 b_24 ((4 : Int32)).toNatClampNeg r_28) (fun r_34 d_33 => vp_in 5 (eN E b_30) ∧ ∃ b_36 : Nat, eR E a0 14 = some b_36 ∧ okA E b_36 13 ∧ vp_in 3 (eN E b_36) ∧ ∃ b_40 : Nat, eR E a0 14 = some b_40 ∧ okA E b_40 13 ∧ w_X11_ofHut E a0 p1 2 (pA (pA d_33 b_30 ((5 : Int32)).toNatClampNeg r_34) b_36 ((3 : Int32)).toNatClampNeg p2) (fun r_44 d_43 => vp_in 6 (eN E b_40) ∧ ∃ b_46 : Nat, eR E a0 14 = some b_46 ∧ okA E b_46 13 ∧ ∃ b_49 : Nat, eR E a0 21 = some b_49 ∧ okA E b_49 13 ∧ vp_in p1 (eN E b_49) ∧ ((0 ≤ (gA (pA d_43 b_40 ((6 : Int32)).toNatClampNeg r_44) b_49 (p1).toNatClampNeg) → ∃ b_54 : Nat, eR E a0 22 = some b_54 ∧ okA E b_54 13 ∧ vp_in p1 (eN E b_54) ∧ b_X11_rentOf_81 E a0 p1 p2 K b_46 0 (p2 - (gA (pA d_43 b_40 ((6 : Int32)).toNatClampNeg r_44) b_54 (p1).toNatClampNeg)) (pA d_43 b_40 ((6 : Int32)).toNatClampNeg r_44)) ∧ (¬ 0 ≤ (gA (pA d_43 b_40 ((6 : Int32)).toNatClampNeg r_44) b_49 (p1).toNatClampNeg) → b_X11_rentOf_81 E a0 p1 p2 K b_46 0 0 (pA d_43 b_40 ((6 : Int32)).toNatClampNeg r_44))))))) ∧ ((gA d b_19 ((11 : Int32)).toNatClampNeg) = 0 → K 0 d))
abbrev rm_X11_rentOf : Room := { frames := 4, cells := 0, slots := 0, locals := 95 }
set_option maxRecDepth 100000 in
set_option maxHeartbeats 4000000 in
theorem m_X11_rentOf (l : Launch) (D : va_G) (cs : Nat → ClassId) (E : En) (d : Dy) (sz : Nat) (a0 : Nat) (p1 : Int32) (p2 : Int32) (K : Int32 → Dy → Prop) : CI l yX11_rentOf (.code yX11_rentOf cX11_rentOf 3 (some .int) :: wsL_law) rm_X11_rentOf D cs E d sz [.ref a0, .int p1, .int p2] (w_X11_rentOf E a0 p1 p2 d K) K := by
  refine e_of (cc := cX11_rentOf) (maxL := 3) (ret := (some .int)) (own := RX11) (by decide) rfl rfl (Nat.le_of_ble_eq_true rfl) ?_
  intro p e s m below meth c S hr hlocks hsz H locs hw h ls hl
  have hl : lv_has ls 3 [(0, .ref a0), (1, .int p1), (2, .int p2)] := hl
  unfold w_X11_rentOf at h
  obtain ⟨ha0, h⟩ := h
  have tb112 : ∀ (s0 : Nat) (s1 : Int32) (s2 : Int32) (d : Dy) (H : Heap) (locs : List Loc) (ls : Array Slot), b_X11_rentOf_112 E a0 p1 p2 K s0 s1 s2 d → Wd D cs (AW E sz) s.heap s E d H locs → lv_has ls 3 [(0, .ref a0)] → W p l e rm_X11_rentOf s m ([.ref a0, .int p1, .int p2] : List Value).toArray below meth c H locs 0 0 (MQ below (va_Qi K (OutW D cs E (AW E sz)) (AW E sz)) ([.ref a0, .int p1, .int p2] : List Value).toArray s rm_X11_rentOf.cells rm_X11_rentOf.slots (AW E sz)) (F0 m 112 ls [.int s2, .int s1, .ref s0]) := by
    intro s0 s1 s2 d H locs ls h hw hl
    unfold b_X11_rentOf_112 at h
    obtain ⟨hos0, h⟩ := h
    obtain ⟨hx_1, h⟩ := h
    refine r_iast S hw hos0 hx_1 (dd_at ddX11_rentOf 69 rfl) (fun H locs hw => ?_)
    refine lv_iconst (v := 0) S.1 S.2.1 (dd_at ddX11_rentOf 70 rfl) (by decide) ?_
    refine lv_aload_n S.1 S.2.1 (dd_at ddX11_rentOf 71 rfl) rfl (lv_at hl 0 rfl) ?_
    refine lv_iconst (v := 1) S.1 S.2.1 (dd_at ddX11_rentOf 72 rfl) (by decide) ?_
    refine r_callI hw (r_runV (As := [.int 1]) (rest := [.int 0]) S hw (m_X11_summed l D cs E (pA d s0 (s1).toNatClampNeg s2) H.size a0 1 _) (cwV 1 S.2.2.2.2 (gV wg982 wg983 wg984 wg5 wg985) rfl rfl rfl (by decide +kernel) ⟨Nat.le_of_ble_eq_true rfl, Nat.le_of_ble_eq_true rfl⟩) (ci := 11) rfl ha0 h rfl hl.1 rfl (Nat.le_of_ble_eq_true rfl) (dd_at ddX11_rentOf 73 rfl) ⟨Nat.le_of_ble_eq_true rfl, Nat.le_of_ble_eq_true rfl⟩) (fun r_3 d_2 H locs h hw => ?_)
    refine va_mmax S.1 S.2.1 (by rw [hl.1]; exact S.2.2.1) S.2.2.2.1 (S.2.2.2.2 _ (List.mem_cons_of_mem _ wg847)) (S.2.2.2.2 _ (List.mem_cons_of_mem _ wg69)) (S.2.2.2.2 _ (List.mem_cons_of_mem _ wg70)) (S.2.2.2.2 _ (List.mem_cons_of_mem _ wg71)) (Nat.le_of_ble_eq_true rfl) (Nat.le_of_ble_eq_true rfl) (Nat.le_of_ble_eq_true rfl) (Nat.le_of_ble_eq_true rfl) (dd_at ddX11_rentOf 74 rfl) ?_
    exact e_I S hr hlocks hw h (dd_at ddX11_rentOf 75 rfl)
  have tb81 : ∀ (s0 : Nat) (s1 : Int32) (s2 : Int32) (d : Dy) (H : Heap) (locs : List Loc) (ls : Array Slot), b_X11_rentOf_81 E a0 p1 p2 K s0 s1 s2 d → Wd D cs (AW E sz) s.heap s E d H locs → lv_has ls 3 [(0, .ref a0), (1, .int p1)] → W p l e rm_X11_rentOf s m ([.ref a0, .int p1, .int p2] : List Value).toArray below meth c H locs 0 0 (MQ below (va_Qi K (OutW D cs E (AW E sz)) (AW E sz)) ([.ref a0, .int p1, .int p2] : List Value).toArray s rm_X11_rentOf.cells rm_X11_rentOf.slots (AW E sz)) (F0 m 81 ls [.int s2, .int s1, .ref s0]) := by
    intro s0 s1 s2 d H locs ls h hw hl
    unfold b_X11_rentOf_81 at h
    obtain ⟨hos0, h⟩ := h
    obtain ⟨hx_4, h⟩ := h
    refine r_iast S hw hos0 hx_4 (dd_at ddX11_rentOf 51 rfl) (fun H locs hw => ?_)
    refine lv_aload_n S.1 S.2.1 (dd_at ddX11_rentOf 52 rfl) rfl (lv_at hl 0 rfl) ?_
    obtain ⟨b_5, hb_6, ho_7, h⟩ := h
    refine r_getR S hw 11 14 rfl inG11 (by decide) (List.mem_cons_of_mem _ wg156) (by decide) ha0 hb_6 (dd_at ddX11_rentOf 53 rfl) ?_
    refine lv_bipush (v := 8) S.1 S.2.1 (dd_at ddX11_rentOf 54 rfl) (by decide) ?_
    refine lv_aload_n S.1 S.2.1 (dd_at ddX11_rentOf 55 rfl) rfl (lv_at hl 0 rfl) ?_
    obtain ⟨b_8, hb_9, ho_10, h⟩ := h
    refine r_getR S hw 11 21 rfl inG11 (by decide) (List.mem_cons_of_mem _ wg163) (by decide) ha0 hb_9 (dd_at ddX11_rentOf 56 rfl) ?_
    refine lv_iload_n S.1 S.2.1 (dd_at ddX11_rentOf 57 rfl) rfl (lv_at hl 1 rfl) ?_
    obtain ⟨hx_11, h⟩ := h
    refine r_iald S hw ho_10 hx_11 (dd_at ddX11_rentOf 58 rfl) ?_
    refine lv_if_ge (tgt := 101) S.1 S.2.1 (dd_at ddX11_rentOf 59 rfl) (by decide) (fun hc_12 => ?_) (fun hc_12 => ?_)
    · have h := h.1 hc_12
      refine lv_aload_n S.1 S.2.1 (dd_at ddX11_rentOf 62 rfl) rfl (lv_at hl 0 rfl) ?_
      refine lv_aload_n S.1 S.2.1 (dd_at ddX11_rentOf 63 rfl) rfl (lv_at hl 0 rfl) ?_
      obtain ⟨b_13, hb_14, ho_15, h⟩ := h
      refine r_getR S hw 11 21 rfl inG11 (by decide) (List.mem_cons_of_mem _ wg163) (by decide) ha0 hb_14 (dd_at ddX11_rentOf 64 rfl) ?_
      refine lv_iload_n S.1 S.2.1 (dd_at ddX11_rentOf 65 rfl) rfl (lv_at hl 1 rfl) ?_
      obtain ⟨hx_16, h⟩ := h
      refine r_iald S hw ho_15 hx_16 (dd_at ddX11_rentOf 66 rfl) ?_
      refine lv_iconst (v := 2) S.1 S.2.1 (dd_at ddX11_rentOf 67 rfl) (by decide) ?_
      refine r_callI hw (r_runV (As := [.int (gA (pA d s0 (s1).toNatClampNeg s2) b_13 (p1).toNatClampNeg), .int 2]) (rest := [.int 8, .ref b_5]) S hw (m_X11_ofPerson l D cs E (pA d s0 (s1).toNatClampNeg s2) H.size a0 (gA (pA d s0 (s1).toNatClampNeg s2) b_13 (p1).toNatClampNeg) 2 _) (cwV 2 S.2.2.2.2 (gV wg848 wg849 wg850 wg5 wg851) rfl rfl rfl (by decide +kernel) ⟨Nat.le_of_ble_eq_true rfl, Nat.le_of_ble_eq_true rfl⟩) (ci := 11) rfl ha0 h rfl hl.1 rfl (Nat.le_of_ble_eq_true rfl) (dd_at ddX11_rentOf 68 rfl) ⟨Nat.le_of_ble_eq_true rfl, Nat.le_of_ble_eq_true rfl⟩) (fun r_18 d_17 H locs h hw => ?_)
      exact tb112 b_5 8 r_18 d_17 H locs ls h hw (lv_sub hl [0] rfl)
    · have h := h.2 hc_12
      refine lv_iconst (v := 0) S.1 S.2.1 (dd_at ddX11_rentOf 60 rfl) (by decide) ?_
      refine lv_goto (tgt := 112) S.1 S.2.1 (dd_at ddX11_rentOf 61 rfl) (by decide) ?_
      exact tb112 b_5 8 0 (pA d s0 (s1).toNatClampNeg s2) H locs ls h hw (lv_sub hl [0] rfl)
  refine lv_aload_n S.1 S.2.1 (dd_at ddX11_rentOf 0 rfl) rfl (lv_at hl 0 rfl) ?_
  obtain ⟨b_19, hb_20, ho_21, h⟩ := h
  refine r_getR S hw 11 1 rfl inG11 (by decide) (List.mem_cons_of_mem _ wg150) (by decide) ha0 hb_20 (dd_at ddX11_rentOf 1 rfl) ?_
  refine lv_bipush (v := 11) S.1 S.2.1 (dd_at ddX11_rentOf 2 rfl) (by decide) ?_
  obtain ⟨hx_22, h⟩ := h
  refine r_iald S hw ho_21 hx_22 (dd_at ddX11_rentOf 3 rfl) ?_
  refine lv_if_ne (tgt := 12) S.1 S.2.1 (dd_at ddX11_rentOf 4 rfl) (by decide) (fun hc_23 => ?_) (fun hc_23 => ?_)
  · have h := h.1 hc_23
    refine lv_aload_n S.1 S.2.1 (dd_at ddX11_rentOf 7 rfl) rfl (lv_at hl 0 rfl) ?_
    obtain ⟨b_24, hb_25, ho_26, h⟩ := h
    refine r_getR S hw 11 14 rfl inG11 (by decide) (List.mem_cons_of_mem _ wg156) (by decide) ha0 hb_25 (dd_at ddX11_rentOf 8 rfl) ?_
    refine lv_iconst (v := 4) S.1 S.2.1 (dd_at ddX11_rentOf 9 rfl) (by decide) ?_
    refine lv_aload_n S.1 S.2.1 (dd_at ddX11_rentOf 10 rfl) rfl (lv_at hl 0 rfl) ?_
    refine lv_iload_n S.1 S.2.1 (dd_at ddX11_rentOf 11 rfl) rfl (lv_at hl 1 rfl) ?_
    refine lv_iconst (v := 0) S.1 S.2.1 (dd_at ddX11_rentOf 12 rfl) (by decide) ?_
    refine r_callI hw (r_runV (As := [.int p1, .int 0]) (rest := [.int 4, .ref b_24]) S hw (m_X11_ofHut l D cs E d H.size a0 p1 0 _) (cwV 2 S.2.2.2.2 (gV wg827 wg828 wg829 wg5 wg830) rfl rfl rfl (by decide +kernel) ⟨Nat.le_of_ble_eq_true rfl, Nat.le_of_ble_eq_true rfl⟩) (ci := 11) rfl ha0 h rfl hl.1 rfl (Nat.le_of_ble_eq_true rfl) (dd_at ddX11_rentOf 13 rfl) ⟨Nat.le_of_ble_eq_true rfl, Nat.le_of_ble_eq_true rfl⟩) (fun r_28 d_27 H locs h hw => ?_)
    obtain ⟨hx_29, h⟩ := h
    refine r_iast S hw ho_26 hx_29 (dd_at ddX11_rentOf 14 rfl) (fun H locs hw => ?_)
    refine lv_aload_n S.1 S.2.1 (dd_at ddX11_rentOf 15 rfl) rfl (lv_at hl 0 rfl) ?_
    obtain ⟨b_30, hb_31, ho_32, h⟩ := h
    refine r_getR S hw 11 14 rfl inG11 (by decide) (List.mem_cons_of_mem _ wg156) (by decide) ha0 hb_31 (dd_at ddX11_rentOf 16 rfl) ?_
    refine lv_iconst (v := 5) S.1 S.2.1 (dd_at ddX11_rentOf 17 rfl) (by decide) ?_
    refine lv_aload_n S.1 S.2.1 (dd_at ddX11_rentOf 18 rfl) rfl (lv_at hl 0 rfl) ?_
    refine lv_iload_n S.1 S.2.1 (dd_at ddX11_rentOf 19 rfl) rfl (lv_at hl 1 rfl) ?_
    refine r_callI hw (r_runV (As := [.int p1]) (rest := [.int 5, .ref b_30]) S hw (m_X11_rowPlace l D cs E (pA d_27 b_24 ((4 : Int32)).toNatClampNeg r_28) H.size a0 p1 _) (cwV 1 S.2.2.2.2 (gV wg900 wg901 wg902 wg5 wg903) rfl rfl rfl (by decide +kernel) ⟨Nat.le_of_ble_eq_true rfl, Nat.le_of_ble_eq_true rfl⟩) (ci := 11) rfl ha0 h rfl hl.1 rfl (Nat.le_of_ble_eq_true rfl) (dd_at ddX11_rentOf 20 rfl) ⟨Nat.le_of_ble_eq_true rfl, Nat.le_of_ble_eq_true rfl⟩) (fun r_34 d_33 H locs h hw => ?_)
    obtain ⟨hx_35, h⟩ := h
    refine r_iast S hw ho_32 hx_35 (dd_at ddX11_rentOf 21 rfl) (fun H locs hw => ?_)
    refine lv_aload_n S.1 S.2.1 (dd_at ddX11_rentOf 22 rfl) rfl (lv_at hl 0 rfl) ?_
    obtain ⟨b_36, hb_37, ho_38, h⟩ := h
    refine r_getR S hw 11 14 rfl inG11 (by decide) (List.mem_cons_of_mem _ wg156) (by decide) ha0 hb_37 (dd_at ddX11_rentOf 23 rfl) ?_
    refine lv_iconst (v := 3) S.1 S.2.1 (dd_at ddX11_rentOf 24 rfl) (by decide) ?_
    refine lv_iload_n S.1 S.2.1 (dd_at ddX11_rentOf 25 rfl) rfl (lv_at hl 2 rfl) ?_
    obtain ⟨hx_39, h⟩ := h
    refine r_iast S hw ho_38 hx_39 (dd_at ddX11_rentOf 26 rfl) (fun H locs hw => ?_)
    refine lv_aload_n S.1 S.2.1 (dd_at ddX11_rentOf 27 rfl) rfl (lv_at hl 0 rfl) ?_
    obtain ⟨b_40, hb_41, ho_42, h⟩ := h
    refine r_getR S hw 11 14 rfl inG11 (by decide) (List.mem_cons_of_mem _ wg156) (by decide) ha0 hb_41 (dd_at ddX11_rentOf 28 rfl) ?_
    refine lv_bipush (v := 6) S.1 S.2.1 (dd_at ddX11_rentOf 29 rfl) (by decide) ?_
    refine lv_aload_n S.1 S.2.1 (dd_at ddX11_rentOf 30 rfl) rfl (lv_at hl 0 rfl) ?_
    refine lv_iload_n S.1 S.2.1 (dd_at ddX11_rentOf 31 rfl) rfl (lv_at hl 1 rfl) ?_
    refine lv_iconst (v := 2) S.1 S.2.1 (dd_at ddX11_rentOf 32 rfl) (by decide) ?_
    refine r_callI hw (r_runV (As := [.int p1, .int 2]) (rest := [.int 6, .ref b_40]) S hw (m_X11_ofHut l D cs E (pA (pA d_33 b_30 ((5 : Int32)).toNatClampNeg r_34) b_36 ((3 : Int32)).toNatClampNeg p2) H.size a0 p1 2 _) (cwV 2 S.2.2.2.2 (gV wg827 wg828 wg829 wg5 wg830) rfl rfl rfl (by decide +kernel) ⟨Nat.le_of_ble_eq_true rfl, Nat.le_of_ble_eq_true rfl⟩) (ci := 11) rfl ha0 h rfl hl.1 rfl (Nat.le_of_ble_eq_true rfl) (dd_at ddX11_rentOf 33 rfl) ⟨Nat.le_of_ble_eq_true rfl, Nat.le_of_ble_eq_true rfl⟩) (fun r_44 d_43 H locs h hw => ?_)
    obtain ⟨hx_45, h⟩ := h
    refine r_iast S hw ho_42 hx_45 (dd_at ddX11_rentOf 34 rfl) (fun H locs hw => ?_)
    refine lv_aload_n S.1 S.2.1 (dd_at ddX11_rentOf 35 rfl) rfl (lv_at hl 0 rfl) ?_
    obtain ⟨b_46, hb_47, ho_48, h⟩ := h
    refine r_getR S hw 11 14 rfl inG11 (by decide) (List.mem_cons_of_mem _ wg156) (by decide) ha0 hb_47 (dd_at ddX11_rentOf 36 rfl) ?_
    refine lv_iconst (v := 0) S.1 S.2.1 (dd_at ddX11_rentOf 37 rfl) (by decide) ?_
    refine lv_aload_n S.1 S.2.1 (dd_at ddX11_rentOf 38 rfl) rfl (lv_at hl 0 rfl) ?_
    obtain ⟨b_49, hb_50, ho_51, h⟩ := h
    refine r_getR S hw 11 21 rfl inG11 (by decide) (List.mem_cons_of_mem _ wg163) (by decide) ha0 hb_50 (dd_at ddX11_rentOf 39 rfl) ?_
    refine lv_iload_n S.1 S.2.1 (dd_at ddX11_rentOf 40 rfl) rfl (lv_at hl 1 rfl) ?_
    obtain ⟨hx_52, h⟩ := h
    refine r_iald S hw ho_51 hx_52 (dd_at ddX11_rentOf 41 rfl) ?_
    refine lv_if_ge (tgt := 73) S.1 S.2.1 (dd_at ddX11_rentOf 42 rfl) (by decide) (fun hc_53 => ?_) (fun hc_53 => ?_)
    · have h := h.1 hc_53
      refine lv_iload_n S.1 S.2.1 (dd_at ddX11_rentOf 45 rfl) rfl (lv_at hl 2 rfl) ?_
      refine lv_aload_n S.1 S.2.1 (dd_at ddX11_rentOf 46 rfl) rfl (lv_at hl 0 rfl) ?_
      obtain ⟨b_54, hb_55, ho_56, h⟩ := h
      refine r_getR S hw 11 22 rfl inG11 (by decide) (List.mem_cons_of_mem _ wg164) (by decide) ha0 hb_55 (dd_at ddX11_rentOf 47 rfl) ?_
      refine lv_iload_n S.1 S.2.1 (dd_at ddX11_rentOf 48 rfl) rfl (lv_at hl 1 rfl) ?_
      obtain ⟨hx_57, h⟩ := h
      refine r_iald S hw ho_56 hx_57 (dd_at ddX11_rentOf 49 rfl) ?_
      refine lv_isub S.1 S.2.1 (dd_at ddX11_rentOf 50 rfl) ?_
      exact tb81 b_46 0 (p2 - (gA (pA d_43 b_40 ((6 : Int32)).toNatClampNeg r_44) b_54 (p1).toNatClampNeg)) (pA d_43 b_40 ((6 : Int32)).toNatClampNeg r_44) H locs ls h hw (lv_sub hl [0, 1] rfl)
    · have h := h.2 hc_53
      refine lv_iconst (v := 0) S.1 S.2.1 (dd_at ddX11_rentOf 43 rfl) (by decide) ?_
      refine lv_goto (tgt := 81) S.1 S.2.1 (dd_at ddX11_rentOf 44 rfl) (by decide) ?_
      exact tb81 b_46 0 0 (pA d_43 b_40 ((6 : Int32)).toNatClampNeg r_44) H locs ls h hw (lv_sub hl [0, 1] rfl)
  · have h := h.2 hc_23
    refine lv_iconst (v := 0) S.1 S.2.1 (dd_at ddX11_rentOf 5 rfl) (by decide) ?_
    exact e_I S hr hlocks hw h (dd_at ddX11_rentOf 6 rfl)

def b_X11_rent_28 (E : En) (a0 : Nat) (p1 : Int32) (p2 : Int32) (p3 : Int32) (K : Int32 → Dy → Prop) (s0 : Nat) (s1 : Int32) (d : Dy) : Prop := okO E s0 11 ∧ w_X11_throwsIf E s0 s1 1 d (fun r_2 d_1 => ((r_2 = 0 → w_X11_goes E a0 p2 p3 d_1 (fun d_4 => w_X11_rentOf E a0 p1 p2 d_4 (fun r_7 d_6 => K r_7 d_6))) ∧ (¬ r_2 = 0 → K 0 d_1)))
def b_X11_rent_23 (E : En) (a0 : Nat) (p1 : Int32) (p2 : Int32) (p3 : Int32) (K : Int32 → Dy → Prop) (s0 : Nat) (d : Dy) : Prop := okO E s0 11 ∧ b_X11_rent_28 E a0 p1 p2 p3 K s0 1 d
def w_X11_rent (E : En) (a0 : Nat) (p1 : Int32) (p2 : Int32) (p3 : Int32) (d : Dy) (K : Int32 → Dy → Prop) : Prop := okO E a0 11 ∧ w_X11_noHut E a0 p1 (pI d a0 0 0) (fun r_9 d_8 => ((¬ r_9 = 0 → b_X11_rent_23 E a0 p1 p2 p3 K a0 d_8) ∧ (r_9 = 0 → w_X11_noTimes E a0 p2 p3 d_8 (fun r_12 d_11 => ((r_12 = 0 → b_X11_rent_28 E a0 p1 p2 p3 K a0 0 d_11) ∧ (¬ r_12 = 0 → b_X11_rent_23 E a0 p1 p2 p3 K a0 d_11))))))
abbrev rm_X11_rent : Room := { frames := 7, cells := 0, slots := 0, locals := 167 }
set_option maxRecDepth 100000 in
set_option maxHeartbeats 4000000 in
theorem m_X11_rent (l : Launch) (D : va_G) (cs : Nat → ClassId) (E : En) (d : Dy) (sz : Nat) (a0 : Nat) (p1 : Int32) (p2 : Int32) (p3 : Int32) (K : Int32 → Dy → Prop) : CI l yX11_rent (.code yX11_rent cX11_rent 4 (some .int) :: wsL_law) rm_X11_rent D cs E d sz [.ref a0, .int p1, .int p2, .int p3] (w_X11_rent E a0 p1 p2 p3 d K) K := by
  refine e_of (cc := cX11_rent) (maxL := 4) (ret := (some .int)) (own := RX11) (by decide) rfl rfl (Nat.le_of_ble_eq_true rfl) ?_
  intro p e s m below meth c S hr hlocks hsz H locs hw h ls hl
  have hl : lv_has ls 4 [(0, .ref a0), (1, .int p1), (2, .int p2), (3, .int p3)] := hl
  unfold w_X11_rent at h
  obtain ⟨ha0, h⟩ := h
  have tb28 : ∀ (s0 : Nat) (s1 : Int32) (d : Dy) (H : Heap) (locs : List Loc) (ls : Array Slot), b_X11_rent_28 E a0 p1 p2 p3 K s0 s1 d → Wd D cs (AW E sz) s.heap s E d H locs → lv_has ls 4 [(0, .ref a0), (1, .int p1), (2, .int p2), (3, .int p3)] → W p l e rm_X11_rent s m ([.ref a0, .int p1, .int p2, .int p3] : List Value).toArray below meth c H locs 0 0 (MQ below (va_Qi K (OutW D cs E (AW E sz)) (AW E sz)) ([.ref a0, .int p1, .int p2, .int p3] : List Value).toArray s rm_X11_rent.cells rm_X11_rent.slots (AW E sz)) (F0 m 28 ls [.int s1, .ref s0]) := by
    intro s0 s1 d H locs ls h hw hl
    unfold b_X11_rent_28 at h
    obtain ⟨hos0, h⟩ := h
    refine lv_iconst (v := 1) S.1 S.2.1 (dd_at ddX11_rent 16 rfl) (by decide) ?_
    refine r_callI hw (r_runV (As := [.int s1, .int 1]) (rest := []) S hw (m_X11_throwsIf l D cs E d H.size s0 s1 1 _) (cwV 2 S.2.2.2.2 (gV wg421 wg422 wg423 wg5 wg424) rfl rfl rfl (by decide +kernel) ⟨Nat.le_of_ble_eq_true rfl, Nat.le_of_ble_eq_true rfl⟩) (ci := 11) rfl hos0 h rfl hl.1 rfl (Nat.le_of_ble_eq_true rfl) (dd_at ddX11_rent 17 rfl) ⟨Nat.le_of_ble_eq_true rfl, Nat.le_of_ble_eq_true rfl⟩) (fun r_2 d_1 H locs h hw => ?_)
    refine lv_if_eq (tgt := 37) S.1 S.2.1 (dd_at ddX11_rent 18 rfl) (by decide) (fun hc_3 => ?_) (fun hc_3 => ?_)
    · have h := h.1 hc_3
      refine lv_aload_n S.1 S.2.1 (dd_at ddX11_rent 21 rfl) rfl (lv_at hl 0 rfl) ?_
      refine lv_iload_n S.1 S.2.1 (dd_at ddX11_rent 22 rfl) rfl (lv_at hl 2 rfl) ?_
      refine lv_iload_n S.1 S.2.1 (dd_at ddX11_rent 23 rfl) rfl (lv_at hl 3 rfl) ?_
      refine r_callV hw (r_runV (As := [.int p2, .int p3]) (rest := []) S hw (m_X11_goes l D cs E d_1 H.size a0 p2 p3 _) (cwV 2 S.2.2.2.2 (gV wg814 wg815 wg816 wg5 wg817) rfl rfl rfl (by decide +kernel) ⟨Nat.le_of_ble_eq_true rfl, Nat.le_of_ble_eq_true rfl⟩) (ci := 11) rfl ha0 h rfl hl.1 rfl (Nat.le_of_ble_eq_true rfl) (dd_at ddX11_rent 24 rfl) ⟨Nat.le_of_ble_eq_true rfl, Nat.le_of_ble_eq_true rfl⟩) (fun d_4 H locs h hw => ?_)
      refine lv_aload_n S.1 S.2.1 (dd_at ddX11_rent 25 rfl) rfl (lv_at hl 0 rfl) ?_
      refine lv_iload_n S.1 S.2.1 (dd_at ddX11_rent 26 rfl) rfl (lv_at hl 1 rfl) ?_
      refine lv_iload_n S.1 S.2.1 (dd_at ddX11_rent 27 rfl) rfl (lv_at hl 2 rfl) ?_
      refine r_callI hw (r_runV (As := [.int p1, .int p2]) (rest := []) S hw (m_X11_rentOf l D cs E d_4 H.size a0 p1 p2 _) (cwV 2 S.2.2.2.2 (gV wg978 wg979 wg980 wg5 wg981) rfl rfl rfl (by decide +kernel) ⟨Nat.le_of_ble_eq_true rfl, Nat.le_of_ble_eq_true rfl⟩) (ci := 11) rfl ha0 h rfl hl.1 rfl (Nat.le_of_ble_eq_true rfl) (dd_at ddX11_rent 28 rfl) ⟨Nat.le_of_ble_eq_true rfl, Nat.le_of_ble_eq_true rfl⟩) (fun r_7 d_6 H locs h hw => ?_)
      exact e_I S hr hlocks hw h (dd_at ddX11_rent 29 rfl)
    · have h := h.2 hc_3
      refine lv_iconst (v := 0) S.1 S.2.1 (dd_at ddX11_rent 19 rfl) (by decide) ?_
      exact e_I S hr hlocks hw h (dd_at ddX11_rent 20 rfl)
  have tb23 : ∀ (s0 : Nat) (d : Dy) (H : Heap) (locs : List Loc) (ls : Array Slot), b_X11_rent_23 E a0 p1 p2 p3 K s0 d → Wd D cs (AW E sz) s.heap s E d H locs → lv_has ls 4 [(0, .ref a0), (1, .int p1), (2, .int p2), (3, .int p3)] → W p l e rm_X11_rent s m ([.ref a0, .int p1, .int p2, .int p3] : List Value).toArray below meth c H locs 0 0 (MQ below (va_Qi K (OutW D cs E (AW E sz)) (AW E sz)) ([.ref a0, .int p1, .int p2, .int p3] : List Value).toArray s rm_X11_rent.cells rm_X11_rent.slots (AW E sz)) (F0 m 23 ls [.ref s0]) := by
    intro s0 d H locs ls h hw hl
    unfold b_X11_rent_23 at h
    obtain ⟨hos0, h⟩ := h
    refine lv_iconst (v := 1) S.1 S.2.1 (dd_at ddX11_rent 13 rfl) (by decide) ?_
    refine lv_goto (tgt := 28) S.1 S.2.1 (dd_at ddX11_rent 14 rfl) (by decide) ?_
    exact tb28 s0 1 d H locs ls h hw (lv_sub hl [0, 1, 2, 3] rfl)
  refine lv_aload_n S.1 S.2.1 (dd_at ddX11_rent 0 rfl) rfl (lv_at hl 0 rfl) ?_
  refine lv_iconst (v := 0) S.1 S.2.1 (dd_at ddX11_rent 1 rfl) (by decide) ?_
  refine r_putI S hw 11 0 (ty := .int) (v := 0) rfl inG11 tyX11 tyX11_ok nmX11 (by decide) (List.mem_cons_of_mem _ wg201) (by decide) rfl (by decide +kernel) rfl rfl ha0 (dd_at ddX11_rent 2 rfl) (fun H locs hw => ?_)
  refine lv_aload_n S.1 S.2.1 (dd_at ddX11_rent 3 rfl) rfl (lv_at hl 0 rfl) ?_
  refine lv_aload_n S.1 S.2.1 (dd_at ddX11_rent 4 rfl) rfl (lv_at hl 0 rfl) ?_
  refine lv_iload_n S.1 S.2.1 (dd_at ddX11_rent 5 rfl) rfl (lv_at hl 1 rfl) ?_
  refine r_callI hw (r_runV (As := [.int p1]) (rest := [.ref a0]) S hw (m_X11_noHut l D cs E (pI d a0 0 0) H.size a0 p1 _) (cwV 1 S.2.2.2.2 (gV wg631 wg632 wg633 wg5 wg634) rfl rfl rfl (by decide +kernel) ⟨Nat.le_of_ble_eq_true rfl, Nat.le_of_ble_eq_true rfl⟩) (ci := 11) rfl ha0 h rfl hl.1 rfl (Nat.le_of_ble_eq_true rfl) (dd_at ddX11_rent 6 rfl) ⟨Nat.le_of_ble_eq_true rfl, Nat.le_of_ble_eq_true rfl⟩) (fun r_9 d_8 H locs h hw => ?_)
  refine lv_if_ne (tgt := 23) S.1 S.2.1 (dd_at ddX11_rent 7 rfl) (by decide) (fun hc_10 => ?_) (fun hc_10 => ?_)
  · have h := h.1 hc_10
    exact tb23 a0 d_8 H locs ls h hw (lv_sub hl [0, 1, 2, 3] rfl)
  · have h := h.2 hc_10
    refine lv_aload_n S.1 S.2.1 (dd_at ddX11_rent 8 rfl) rfl (lv_at hl 0 rfl) ?_
    refine lv_iload_n S.1 S.2.1 (dd_at ddX11_rent 9 rfl) rfl (lv_at hl 2 rfl) ?_
    refine lv_iload_n S.1 S.2.1 (dd_at ddX11_rent 10 rfl) rfl (lv_at hl 3 rfl) ?_
    refine r_callI hw (r_runV (As := [.int p2, .int p3]) (rest := [.ref a0]) S hw (m_X11_noTimes l D cs E d_8 H.size a0 p2 p3 _) (cwV 2 S.2.2.2.2 (gV wg810 wg811 wg812 wg5 wg813) rfl rfl rfl (by decide +kernel) ⟨Nat.le_of_ble_eq_true rfl, Nat.le_of_ble_eq_true rfl⟩) (ci := 11) rfl ha0 h rfl hl.1 rfl (Nat.le_of_ble_eq_true rfl) (dd_at ddX11_rent 11 rfl) ⟨Nat.le_of_ble_eq_true rfl, Nat.le_of_ble_eq_true rfl⟩) (fun r_12 d_11 H locs h hw => ?_)
    refine lv_if_eq (tgt := 27) S.1 S.2.1 (dd_at ddX11_rent 12 rfl) (by decide) (fun hc_13 => ?_) (fun hc_13 => ?_)
    · have h := h.1 hc_13
      refine lv_iconst (v := 0) S.1 S.2.1 (dd_at ddX11_rent 15 rfl) (by decide) ?_
      exact tb28 a0 0 d_11 H locs ls h hw (lv_sub hl [0, 1, 2, 3] rfl)
    · have h := h.2 hc_13
      exact tb23 a0 d_11 H locs ls h hw (lv_sub hl [0, 1, 2, 3] rfl)

def w_X11_stays (E : En) (a0 : Nat) (p1 : Int32) (p2 : Int32) (p3 : Int32) (d : Dy) (K : Int32 → Dy → Prop) : Prop := okO E a0 11 ∧ ∃ b_1 : Nat, eR E a0 21 = some b_1 ∧ okA E b_1 13 ∧ vp_in p1 (eN E b_1) ∧ (((gA d b_1 (p1).toNatClampNeg) < 0 → K 0 d) ∧ (¬ (gA d b_1 (p1).toNatClampNeg) < 0 → ∃ b_6 : Nat, eR E a0 21 = some b_6 ∧ okA E b_6 13 ∧ vp_in p1 (eN E b_6) ∧ w_X11_ofPerson E a0 (gA d b_6 (p1).toNatClampNeg) 1 d (fun r_11 d_10 => w_X11_rentOf E a0 p1 p2 d_10 (fun r_13 d_12 => (((lg_cmp r_11.toInt64 (p3.toInt64 * r_13.toInt64)) < 0 → K 0 d_12) ∧ (¬ (lg_cmp r_11.toInt64 (p3.toInt64 * r_13.toInt64)) < 0 → K 1 d_12))))))
abbrev rm_X11_stays : Room := { frames := 5, cells := 0, slots := 0, locals := 117 }
set_option maxRecDepth 100000 in
set_option maxHeartbeats 4000000 in
theorem m_X11_stays (l : Launch) (D : va_G) (cs : Nat → ClassId) (E : En) (d : Dy) (sz : Nat) (a0 : Nat) (p1 : Int32) (p2 : Int32) (p3 : Int32) (K : Int32 → Dy → Prop) : CI l yX11_stays (.code yX11_stays cX11_stays 4 (some .boolean) :: wsL_law) rm_X11_stays D cs E d sz [.ref a0, .int p1, .int p2, .int p3] (w_X11_stays E a0 p1 p2 p3 d K) K := by
  refine e_of (cc := cX11_stays) (maxL := 4) (ret := (some .boolean)) (own := RX11) (by decide) rfl rfl (Nat.le_of_ble_eq_true rfl) ?_
  intro p e s m below meth c S hr hlocks hsz H locs hw h ls hl
  have hl : lv_has ls 4 [(0, .ref a0), (1, .int p1), (2, .int p2), (3, .int p3)] := hl
  unfold w_X11_stays at h
  obtain ⟨ha0, h⟩ := h
  refine lv_aload_n S.1 S.2.1 (dd_at ddX11_stays 0 rfl) rfl (lv_at hl 0 rfl) ?_
  obtain ⟨b_1, hb_2, ho_3, h⟩ := h
  refine r_getR S hw 11 21 rfl inG11 (by decide) (List.mem_cons_of_mem _ wg163) (by decide) ha0 hb_2 (dd_at ddX11_stays 1 rfl) ?_
  refine lv_iload_n S.1 S.2.1 (dd_at ddX11_stays 2 rfl) rfl (lv_at hl 1 rfl) ?_
  obtain ⟨hx_4, h⟩ := h
  refine r_iald S hw ho_3 hx_4 (dd_at ddX11_stays 3 rfl) ?_
  refine lv_if_lt (tgt := 39) S.1 S.2.1 (dd_at ddX11_stays 4 rfl) (by decide) (fun hc_5 => ?_) (fun hc_5 => ?_)
  · have h := h.1 hc_5
    refine lv_iconst (v := 0) S.1 S.2.1 (dd_at ddX11_stays 25 rfl) (by decide) ?_
    exact e_Z S hr hlocks hw (Or.inl rfl) h (dd_at ddX11_stays 26 rfl)
  · have h := h.2 hc_5
    refine lv_aload_n S.1 S.2.1 (dd_at ddX11_stays 5 rfl) rfl (lv_at hl 0 rfl) ?_
    refine lv_aload_n S.1 S.2.1 (dd_at ddX11_stays 6 rfl) rfl (lv_at hl 0 rfl) ?_
    obtain ⟨b_6, hb_7, ho_8, h⟩ := h
    refine r_getR S hw 11 21 rfl inG11 (by decide) (List.mem_cons_of_mem _ wg163) (by decide) ha0 hb_7 (dd_at ddX11_stays 7 rfl) ?_
    refine lv_iload_n S.1 S.2.1 (dd_at ddX11_stays 8 rfl) rfl (lv_at hl 1 rfl) ?_
    obtain ⟨hx_9, h⟩ := h
    refine r_iald S hw ho_8 hx_9 (dd_at ddX11_stays 9 rfl) ?_
    refine lv_iconst (v := 1) S.1 S.2.1 (dd_at ddX11_stays 10 rfl) (by decide) ?_
    refine r_callI hw (r_runV (As := [.int (gA d b_6 (p1).toNatClampNeg), .int 1]) (rest := []) S hw (m_X11_ofPerson l D cs E d H.size a0 (gA d b_6 (p1).toNatClampNeg) 1 _) (cwV 2 S.2.2.2.2 (gV wg848 wg849 wg850 wg5 wg851) rfl rfl rfl (by decide +kernel) ⟨Nat.le_of_ble_eq_true rfl, Nat.le_of_ble_eq_true rfl⟩) (ci := 11) rfl ha0 h rfl hl.1 rfl (Nat.le_of_ble_eq_true rfl) (dd_at ddX11_stays 11 rfl) ⟨Nat.le_of_ble_eq_true rfl, Nat.le_of_ble_eq_true rfl⟩) (fun r_11 d_10 H locs h hw => ?_)
    refine lv_i2l S.1 S.2.1 (dd_at ddX11_stays 12 rfl) rfl ?_
    refine lv_iload_n S.1 S.2.1 (dd_at ddX11_stays 13 rfl) rfl (lv_at hl 3 rfl) ?_
    refine lv_i2l S.1 S.2.1 (dd_at ddX11_stays 14 rfl) rfl ?_
    refine lv_aload_n S.1 S.2.1 (dd_at ddX11_stays 15 rfl) rfl (lv_at hl 0 rfl) ?_
    refine lv_iload_n S.1 S.2.1 (dd_at ddX11_stays 16 rfl) rfl (lv_at hl 1 rfl) ?_
    refine lv_iload_n S.1 S.2.1 (dd_at ddX11_stays 17 rfl) rfl (lv_at hl 2 rfl) ?_
    refine r_callI hw (r_runV (As := [.int p1, .int p2]) (rest := [.long p3.toInt64, .long r_11.toInt64]) S hw (m_X11_rentOf l D cs E d_10 H.size a0 p1 p2 _) (cwV 2 S.2.2.2.2 (gV wg978 wg979 wg980 wg5 wg981) rfl rfl rfl (by decide +kernel) ⟨Nat.le_of_ble_eq_true rfl, Nat.le_of_ble_eq_true rfl⟩) (ci := 11) rfl ha0 h rfl hl.1 rfl (Nat.le_of_ble_eq_true rfl) (dd_at ddX11_stays 18 rfl) ⟨Nat.le_of_ble_eq_true rfl, Nat.le_of_ble_eq_true rfl⟩) (fun r_13 d_12 H locs h hw => ?_)
    refine lv_i2l S.1 S.2.1 (dd_at ddX11_stays 19 rfl) rfl ?_
    refine lv_lmul S.1 S.2.1 (dd_at ddX11_stays 20 rfl) ?_
    refine W.lcmp S.1 S.2.1 (dd_at ddX11_stays 21 rfl) ?_
    refine lv_if_lt (tgt := 39) S.1 S.2.1 (dd_at ddX11_stays 22 rfl) (by decide) (fun hc_14 => ?_) (fun hc_14 => ?_)
    · have h := h.1 hc_14
      refine lv_iconst (v := 0) S.1 S.2.1 (dd_at ddX11_stays 25 rfl) (by decide) ?_
      exact e_Z S hr hlocks hw (Or.inl rfl) h (dd_at ddX11_stays 26 rfl)
    · have h := h.2 hc_14
      refine lv_iconst (v := 1) S.1 S.2.1 (dd_at ddX11_stays 23 rfl) (by decide) ?_
      refine lv_goto (tgt := 40) S.1 S.2.1 (dd_at ddX11_stays 24 rfl) (by decide) ?_
      exact e_Z S hr hlocks hw (Or.inr rfl) h (dd_at ddX11_stays 26 rfl)

def b_X11_leaves_58 (E : En) (a0 : Nat) (p1 : Int32) (p2 : Int32) (K : Int32 → Dy → Prop) (k58 : Int32 → Int32 → Dy → Prop) (v3 : Int32) (v4 : Int32) (d : Dy) : Prop := w_X11_huts E a0 d (fun r_2 d_1 => ((r_2 ≤ v4 → K v3 d_1) ∧ (¬ r_2 ≤ v4 → ∃ b_4 : Nat, eR E a0 21 = some b_4 ∧ okA E b_4 13 ∧ vp_in v4 (eN E b_4) ∧ (((gA d_1 b_4 (v4).toNatClampNeg) < 0 → k58 (v3 ||| 0) (v4 + 1) d_1) ∧ (¬ (gA d_1 b_4 (v4).toNatClampNeg) < 0 → w_X11_stays E a0 v4 p1 p2 d_1 (fun r_10 d_9 => ((¬ r_10 = 0 → k58 (v3 ||| 0) (v4 + 1) d_9) ∧ (r_10 = 0 → k58 (v3 ||| ((1 : Int32) <<< (v4 &&& 31))) (v4 + 1) d_9))))))))
def l_X11_leaves_58 (E : En) (a0 : Nat) (p1 : Int32) (p2 : Int32) (K : Int32 → Dy → Prop) : Nat → Int32 → Int32 → Dy → Prop
  | 0 => fun _ _ _ => False
  | n + 1 => b_X11_leaves_58 E a0 p1 p2 K (l_X11_leaves_58 E a0 p1 p2 K n)
def b_X11_leaves_33 (E : En) (a0 : Nat) (p1 : Int32) (p2 : Int32) (K : Int32 → Dy → Prop) (s0 : Nat) (s1 : Int32) (d : Dy) : Prop := okO E s0 11 ∧ w_X11_throwsIf E s0 s1 2 d (fun r_13 d_12 => ((r_13 = 0 → ∃ b_15 : Nat, eR E a0 1 = some b_15 ∧ okA E b_15 13 ∧ vp_in 3 (eN E b_15) ∧ w_X11_goes E a0 p1 (gA d_12 b_15 ((3 : Int32)).toNatClampNeg) d_12 (fun d_19 => (∃ n_21 : Nat, l_X11_leaves_58 E a0 p1 p2 K n_21 0 0 d_19))) ∧ (¬ r_13 = 0 → K 0 d_12)))
def w_X11_leaves (E : En) (a0 : Nat) (p1 : Int32) (p2 : Int32) (d : Dy) (K : Int32 → Dy → Prop) : Prop := okO E a0 11 ∧ w_X11_noYear E p1 (pI d a0 0 0) (fun r_23 d_22 => w_X11_throwsIf E a0 r_23 1 d_22 (fun r_25 d_24 => ((¬ r_25 = 0 → K 0 d_24) ∧ (r_25 = 0 → w_X11_in E p2 1 9 d_24 (fun r_28 d_27 => ((¬ r_28 = 0 → b_X11_leaves_33 E a0 p1 p2 K a0 0 d_27) ∧ (r_28 = 0 → b_X11_leaves_33 E a0 p1 p2 K a0 1 d_27)))))))
abbrev rm_X11_leaves : Room := { frames := 7, cells := 0, slots := 0, locals := 167 }
set_option maxRecDepth 100000 in
set_option maxHeartbeats 4000000 in
theorem m_X11_leaves (l : Launch) (D : va_G) (cs : Nat → ClassId) (E : En) (d : Dy) (sz : Nat) (a0 : Nat) (p1 : Int32) (p2 : Int32) (K : Int32 → Dy → Prop) : CI l yX11_leaves (.code yX11_leaves cX11_leaves 5 (some .int) :: wsL_law) rm_X11_leaves D cs E d sz [.ref a0, .int p1, .int p2] (w_X11_leaves E a0 p1 p2 d K) K := by
  refine e_of (cc := cX11_leaves) (maxL := 5) (ret := (some .int)) (own := RX11) (by decide) rfl rfl (Nat.le_of_ble_eq_true rfl) ?_
  intro p e s m below meth c S hr hlocks hsz H locs hw h ls hl
  have hl : lv_has ls 5 [(0, .ref a0), (1, .int p1), (2, .int p2)] := hl
  unfold w_X11_leaves at h
  obtain ⟨ha0, h⟩ := h
  have tl58 : ∀ (n : Nat) (v3 : Int32) (v4 : Int32) (d : Dy) (H : Heap) (locs : List Loc) (ls : Array Slot), l_X11_leaves_58 E a0 p1 p2 K n v3 v4 d → Wd D cs (AW E sz) s.heap s E d H locs → lv_has ls 5 [(0, .ref a0), (1, .int p1), (2, .int p2), (3, .int v3), (4, .int v4)] → W p l e rm_X11_leaves s m ([.ref a0, .int p1, .int p2] : List Value).toArray below meth c H locs 0 0 (MQ below (va_Qi K (OutW D cs E (AW E sz)) (AW E sz)) ([.ref a0, .int p1, .int p2] : List Value).toArray s rm_X11_leaves.cells rm_X11_leaves.slots (AW E sz)) (F0 m 58 ls []) := by
    intro n58
    induction n58 with
    | zero => intro v3 v4 d H locs ls h; exact absurd h id
    | succ n58 ih58 =>
      intro v3 v4 d H locs ls h hw hl
      have h : b_X11_leaves_58 E a0 p1 p2 K (l_X11_leaves_58 E a0 p1 p2 K n58) v3 v4 d := h
      unfold b_X11_leaves_58 at h
      refine lv_iload S.1 S.2.1 (dd_at ddX11_leaves 34 rfl) (lv_at hl 4 rfl) ?_
      refine lv_aload_n S.1 S.2.1 (dd_at ddX11_leaves 35 rfl) rfl (lv_at hl 0 rfl) ?_
      refine r_callI hw (r_runV (As := []) (rest := [.int v4]) S hw (m_X11_huts l D cs E d H.size a0 _) (cwV 0 S.2.2.2.2 (gV wg596 wg597 wg598 wg5 wg599) rfl rfl rfl (by decide +kernel) ⟨Nat.le_of_ble_eq_true rfl, Nat.le_of_ble_eq_true rfl⟩) (ci := 11) rfl ha0 h rfl hl.1 rfl (Nat.le_of_ble_eq_true rfl) (dd_at ddX11_leaves 36 rfl) ⟨Nat.le_of_ble_eq_true rfl, Nat.le_of_ble_eq_true rfl⟩) (fun r_2 d_1 H locs h hw => ?_)
      refine lv_icmp_ge (tgt := 105) S.1 S.2.1 (dd_at ddX11_leaves 37 rfl) (by decide) (fun hc_3 => ?_) (fun hc_3 => ?_)
      · have h := h.1 hc_3
        refine lv_iload_n S.1 S.2.1 (dd_at ddX11_leaves 59 rfl) rfl (lv_at hl 3 rfl) ?_
        exact e_I S hr hlocks hw h (dd_at ddX11_leaves 60 rfl)
      · have h := h.2 hc_3
        refine lv_iload_n S.1 S.2.1 (dd_at ddX11_leaves 38 rfl) rfl (lv_at hl 3 rfl) ?_
        refine lv_aload_n S.1 S.2.1 (dd_at ddX11_leaves 39 rfl) rfl (lv_at hl 0 rfl) ?_
        obtain ⟨b_4, hb_5, ho_6, h⟩ := h
        refine r_getR S hw 11 21 rfl inG11 (by decide) (List.mem_cons_of_mem _ wg163) (by decide) ha0 hb_5 (dd_at ddX11_leaves 40 rfl) ?_
        refine lv_iload S.1 S.2.1 (dd_at ddX11_leaves 41 rfl) (lv_at hl 4 rfl) ?_
        obtain ⟨hx_7, h⟩ := h
        refine r_iald S hw ho_6 hx_7 (dd_at ddX11_leaves 42 rfl) ?_
        refine lv_if_lt (tgt := 96) S.1 S.2.1 (dd_at ddX11_leaves 43 rfl) (by decide) (fun hc_8 => ?_) (fun hc_8 => ?_)
        · have h := h.1 hc_8
          refine lv_iconst (v := 0) S.1 S.2.1 (dd_at ddX11_leaves 54 rfl) (by decide) ?_
          refine lv_ior S.1 S.2.1 (dd_at ddX11_leaves 55 rfl) ?_
          refine lv_istore_n (lv' := [(3, .int (v3 ||| 0)), (0, .ref a0), (1, .int p1), (2, .int p2), (4, .int v4)]) S.1 S.2.1 (dd_at ddX11_leaves 56 rfl) rfl hl (by decide) rfl (fun ls hl => ?_)
          refine lv_iinc (v := v4 + 1) (lv' := [(4, .int (v4 + 1)), (3, .int (v3 ||| 0)), (0, .ref a0), (1, .int p1), (2, .int p2)]) S.1 S.2.1 (dd_at ddX11_leaves 57 rfl) hl (k := 4) rfl rfl (by decide) rfl (fun ls hl => ?_)
          refine lv_goto (tgt := 58) S.1 S.2.1 (dd_at ddX11_leaves 58 rfl) (by decide) ?_
          exact ih58 (v3 ||| 0) (v4 + 1) d_1 H locs ls h hw (lv_sub hl [2, 3, 4, 1, 0] rfl)
        · have h := h.2 hc_8
          refine lv_aload_n S.1 S.2.1 (dd_at ddX11_leaves 44 rfl) rfl (lv_at hl 0 rfl) ?_
          refine lv_iload S.1 S.2.1 (dd_at ddX11_leaves 45 rfl) (lv_at hl 4 rfl) ?_
          refine lv_iload_n S.1 S.2.1 (dd_at ddX11_leaves 46 rfl) rfl (lv_at hl 1 rfl) ?_
          refine lv_iload_n S.1 S.2.1 (dd_at ddX11_leaves 47 rfl) rfl (lv_at hl 2 rfl) ?_
          refine r_callI hw (r_runV (As := [.int v4, .int p1, .int p2]) (rest := [.int v3]) S hw (m_X11_stays l D cs E d_1 H.size a0 v4 p1 p2 _) (cwV 3 S.2.2.2.2 (gV wg1002 wg1003 wg1004 wg5 wg1005) rfl rfl rfl (by decide +kernel) ⟨Nat.le_of_ble_eq_true rfl, Nat.le_of_ble_eq_true rfl⟩) (ci := 11) rfl ha0 h rfl hl.1 rfl (Nat.le_of_ble_eq_true rfl) (dd_at ddX11_leaves 48 rfl) ⟨Nat.le_of_ble_eq_true rfl, Nat.le_of_ble_eq_true rfl⟩) (fun r_10 d_9 H locs h hw => ?_)
          refine lv_if_ne (tgt := 96) S.1 S.2.1 (dd_at ddX11_leaves 49 rfl) (by decide) (fun hc_11 => ?_) (fun hc_11 => ?_)
          · have h := h.1 hc_11
            refine lv_iconst (v := 0) S.1 S.2.1 (dd_at ddX11_leaves 54 rfl) (by decide) ?_
            refine lv_ior S.1 S.2.1 (dd_at ddX11_leaves 55 rfl) ?_
            refine lv_istore_n (lv' := [(3, .int (v3 ||| 0)), (0, .ref a0), (1, .int p1), (2, .int p2), (4, .int v4)]) S.1 S.2.1 (dd_at ddX11_leaves 56 rfl) rfl hl (by decide) rfl (fun ls hl => ?_)
            refine lv_iinc (v := v4 + 1) (lv' := [(4, .int (v4 + 1)), (3, .int (v3 ||| 0)), (0, .ref a0), (1, .int p1), (2, .int p2)]) S.1 S.2.1 (dd_at ddX11_leaves 57 rfl) hl (k := 4) rfl rfl (by decide) rfl (fun ls hl => ?_)
            refine lv_goto (tgt := 58) S.1 S.2.1 (dd_at ddX11_leaves 58 rfl) (by decide) ?_
            exact ih58 (v3 ||| 0) (v4 + 1) d_9 H locs ls h hw (lv_sub hl [2, 3, 4, 1, 0] rfl)
          · have h := h.2 hc_11
            refine lv_iconst (v := 1) S.1 S.2.1 (dd_at ddX11_leaves 50 rfl) (by decide) ?_
            refine lv_iload S.1 S.2.1 (dd_at ddX11_leaves 51 rfl) (lv_at hl 4 rfl) ?_
            refine lv_ishl S.1 S.2.1 (dd_at ddX11_leaves 52 rfl) ?_
            refine lv_goto (tgt := 97) S.1 S.2.1 (dd_at ddX11_leaves 53 rfl) (by decide) ?_
            refine lv_ior S.1 S.2.1 (dd_at ddX11_leaves 55 rfl) ?_
            refine lv_istore_n (lv' := [(3, .int (v3 ||| ((1 : Int32) <<< (v4 &&& 31)))), (0, .ref a0), (1, .int p1), (2, .int p2), (4, .int v4)]) S.1 S.2.1 (dd_at ddX11_leaves 56 rfl) rfl hl (by decide) rfl (fun ls hl => ?_)
            refine lv_iinc (v := v4 + 1) (lv' := [(4, .int (v4 + 1)), (3, .int (v3 ||| ((1 : Int32) <<< (v4 &&& 31)))), (0, .ref a0), (1, .int p1), (2, .int p2)]) S.1 S.2.1 (dd_at ddX11_leaves 57 rfl) hl (k := 4) rfl rfl (by decide) rfl (fun ls hl => ?_)
            refine lv_goto (tgt := 58) S.1 S.2.1 (dd_at ddX11_leaves 58 rfl) (by decide) ?_
            exact ih58 (v3 ||| ((1 : Int32) <<< (v4 &&& 31))) (v4 + 1) d_9 H locs ls h hw (lv_sub hl [2, 3, 4, 1, 0] rfl)
  have tb33 : ∀ (s0 : Nat) (s1 : Int32) (d : Dy) (H : Heap) (locs : List Loc) (ls : Array Slot), b_X11_leaves_33 E a0 p1 p2 K s0 s1 d → Wd D cs (AW E sz) s.heap s E d H locs → lv_has ls 5 [(0, .ref a0), (1, .int p1), (2, .int p2)] → W p l e rm_X11_leaves s m ([.ref a0, .int p1, .int p2] : List Value).toArray below meth c H locs 0 0 (MQ below (va_Qi K (OutW D cs E (AW E sz)) (AW E sz)) ([.ref a0, .int p1, .int p2] : List Value).toArray s rm_X11_leaves.cells rm_X11_leaves.slots (AW E sz)) (F0 m 33 ls [.int s1, .ref s0]) := by
    intro s0 s1 d H locs ls h hw hl
    unfold b_X11_leaves_33 at h
    obtain ⟨hos0, h⟩ := h
    refine lv_iconst (v := 2) S.1 S.2.1 (dd_at ddX11_leaves 18 rfl) (by decide) ?_
    refine r_callI hw (r_runV (As := [.int s1, .int 2]) (rest := []) S hw (m_X11_throwsIf l D cs E d H.size s0 s1 2 _) (cwV 2 S.2.2.2.2 (gV wg421 wg422 wg423 wg5 wg424) rfl rfl rfl (by decide +kernel) ⟨Nat.le_of_ble_eq_true rfl, Nat.le_of_ble_eq_true rfl⟩) (ci := 11) rfl hos0 h rfl hl.1 rfl (Nat.le_of_ble_eq_true rfl) (dd_at ddX11_leaves 19 rfl) ⟨Nat.le_of_ble_eq_true rfl, Nat.le_of_ble_eq_true rfl⟩) (fun r_13 d_12 H locs h hw => ?_)
    refine lv_if_eq (tgt := 42) S.1 S.2.1 (dd_at ddX11_leaves 20 rfl) (by decide) (fun hc_14 => ?_) (fun hc_14 => ?_)
    · have h := h.1 hc_14
      refine lv_aload_n S.1 S.2.1 (dd_at ddX11_leaves 23 rfl) rfl (lv_at hl 0 rfl) ?_
      refine lv_iload_n S.1 S.2.1 (dd_at ddX11_leaves 24 rfl) rfl (lv_at hl 1 rfl) ?_
      refine lv_aload_n S.1 S.2.1 (dd_at ddX11_leaves 25 rfl) rfl (lv_at hl 0 rfl) ?_
      obtain ⟨b_15, hb_16, ho_17, h⟩ := h
      refine r_getR S hw 11 1 rfl inG11 (by decide) (List.mem_cons_of_mem _ wg150) (by decide) ha0 hb_16 (dd_at ddX11_leaves 26 rfl) ?_
      refine lv_iconst (v := 3) S.1 S.2.1 (dd_at ddX11_leaves 27 rfl) (by decide) ?_
      obtain ⟨hx_18, h⟩ := h
      refine r_iald S hw ho_17 hx_18 (dd_at ddX11_leaves 28 rfl) ?_
      refine r_callV hw (r_runV (As := [.int p1, .int (gA d_12 b_15 ((3 : Int32)).toNatClampNeg)]) (rest := []) S hw (m_X11_goes l D cs E d_12 H.size a0 p1 (gA d_12 b_15 ((3 : Int32)).toNatClampNeg) _) (cwV 2 S.2.2.2.2 (gV wg814 wg815 wg816 wg5 wg817) rfl rfl rfl (by decide +kernel) ⟨Nat.le_of_ble_eq_true rfl, Nat.le_of_ble_eq_true rfl⟩) (ci := 11) rfl ha0 h rfl hl.1 rfl (Nat.le_of_ble_eq_true rfl) (dd_at ddX11_leaves 29 rfl) ⟨Nat.le_of_ble_eq_true rfl, Nat.le_of_ble_eq_true rfl⟩) (fun d_19 H locs h hw => ?_)
      refine lv_iconst (v := 0) S.1 S.2.1 (dd_at ddX11_leaves 30 rfl) (by decide) ?_
      refine lv_istore_n (lv' := [(3, .int 0), (0, .ref a0), (1, .int p1), (2, .int p2)]) S.1 S.2.1 (dd_at ddX11_leaves 31 rfl) rfl hl (by decide) rfl (fun ls hl => ?_)
      refine lv_iconst (v := 0) S.1 S.2.1 (dd_at ddX11_leaves 32 rfl) (by decide) ?_
      refine lv_istore (lv' := [(4, .int 0), (3, .int 0), (0, .ref a0), (1, .int p1), (2, .int p2)]) S.1 S.2.1 (dd_at ddX11_leaves 33 rfl) hl (by decide) rfl (fun ls hl => ?_)
      obtain ⟨n_21, h⟩ := h
      exact tl58 n_21 0 0 d_19 H locs ls h hw (lv_sub hl [2, 3, 4, 1, 0] rfl)
    · have h := h.2 hc_14
      refine lv_iconst (v := 0) S.1 S.2.1 (dd_at ddX11_leaves 21 rfl) (by decide) ?_
      exact e_I S hr hlocks hw h (dd_at ddX11_leaves 22 rfl)
  refine lv_aload_n S.1 S.2.1 (dd_at ddX11_leaves 0 rfl) rfl (lv_at hl 0 rfl) ?_
  refine lv_iconst (v := 0) S.1 S.2.1 (dd_at ddX11_leaves 1 rfl) (by decide) ?_
  refine r_putI S hw 11 0 (ty := .int) (v := 0) rfl inG11 tyX11 tyX11_ok nmX11 (by decide) (List.mem_cons_of_mem _ wg201) (by decide) rfl (by decide +kernel) rfl rfl ha0 (dd_at ddX11_leaves 2 rfl) (fun H locs hw => ?_)
  refine lv_aload_n S.1 S.2.1 (dd_at ddX11_leaves 3 rfl) rfl (lv_at hl 0 rfl) ?_
  refine lv_iload_n S.1 S.2.1 (dd_at ddX11_leaves 4 rfl) rfl (lv_at hl 1 rfl) ?_
  refine r_callI hw (r_runS (As := [.int p1]) (rest := [.ref a0]) S hw (m_X11_noYear l D cs E (pI d a0 0 0) H.size p1 _) (va_cwS 1 S.2.2.2.2 (gS wg555 wg556 wg5 wg557) rfl rfl rfl (by decide +kernel) ⟨Nat.le_of_ble_eq_true rfl, Nat.le_of_ble_eq_true rfl⟩) h rfl hl.1 rfl (Nat.le_of_ble_eq_true rfl) (dd_at ddX11_leaves 5 rfl) ⟨Nat.le_of_ble_eq_true rfl, Nat.le_of_ble_eq_true rfl⟩) (fun r_23 d_22 H locs h hw => ?_)
  refine lv_iconst (v := 1) S.1 S.2.1 (dd_at ddX11_leaves 6 rfl) (by decide) ?_
  refine r_callI hw (r_runV (As := [.int r_23, .int 1]) (rest := []) S hw (m_X11_throwsIf l D cs E d_22 H.size a0 r_23 1 _) (cwV 2 S.2.2.2.2 (gV wg421 wg422 wg423 wg5 wg424) rfl rfl rfl (by decide +kernel) ⟨Nat.le_of_ble_eq_true rfl, Nat.le_of_ble_eq_true rfl⟩) (ci := 11) rfl ha0 h rfl hl.1 rfl (Nat.le_of_ble_eq_true rfl) (dd_at ddX11_leaves 7 rfl) ⟨Nat.le_of_ble_eq_true rfl, Nat.le_of_ble_eq_true rfl⟩) (fun r_25 d_24 H locs h hw => ?_)
  refine lv_if_ne (tgt := 40) S.1 S.2.1 (dd_at ddX11_leaves 8 rfl) (by decide) (fun hc_26 => ?_) (fun hc_26 => ?_)
  · have h := h.1 hc_26
    refine lv_iconst (v := 0) S.1 S.2.1 (dd_at ddX11_leaves 21 rfl) (by decide) ?_
    exact e_I S hr hlocks hw h (dd_at ddX11_leaves 22 rfl)
  · have h := h.2 hc_26
    refine lv_aload_n S.1 S.2.1 (dd_at ddX11_leaves 9 rfl) rfl (lv_at hl 0 rfl) ?_
    refine lv_iload_n S.1 S.2.1 (dd_at ddX11_leaves 10 rfl) rfl (lv_at hl 2 rfl) ?_
    refine lv_iconst (v := 1) S.1 S.2.1 (dd_at ddX11_leaves 11 rfl) (by decide) ?_
    refine lv_bipush (v := 9) S.1 S.2.1 (dd_at ddX11_leaves 12 rfl) (by decide) ?_
    refine r_callI hw (r_runS (As := [.int p2, .int 1, .int 9]) (rest := [.ref a0]) S hw (m_X11_in l D cs E d_24 H.size p2 1 9 _) (va_cwS 3 S.2.2.2.2 (gS wg418 wg419 wg5 wg420) rfl rfl rfl (by decide +kernel) ⟨Nat.le_of_ble_eq_true rfl, Nat.le_of_ble_eq_true rfl⟩) h rfl hl.1 rfl (Nat.le_of_ble_eq_true rfl) (dd_at ddX11_leaves 13 rfl) ⟨Nat.le_of_ble_eq_true rfl, Nat.le_of_ble_eq_true rfl⟩) (fun r_28 d_27 H locs h hw => ?_)
    refine lv_if_ne (tgt := 32) S.1 S.2.1 (dd_at ddX11_leaves 14 rfl) (by decide) (fun hc_29 => ?_) (fun hc_29 => ?_)
    · have h := h.1 hc_29
      refine lv_iconst (v := 0) S.1 S.2.1 (dd_at ddX11_leaves 17 rfl) (by decide) ?_
      exact tb33 a0 0 d_27 H locs ls h hw (lv_sub hl [0, 1, 2] rfl)
    · have h := h.2 hc_29
      refine lv_iconst (v := 1) S.1 S.2.1 (dd_at ddX11_leaves 15 rfl) (by decide) ?_
      refine lv_goto (tgt := 33) S.1 S.2.1 (dd_at ddX11_leaves 16 rfl) (by decide) ?_
      exact tb33 a0 1 d_27 H locs ls h hw (lv_sub hl [0, 1, 2] rfl)

def w_X11_isAhead (E : En) (a0 : Nat) (p1 : Int32) (p2 : Int32) (p3 : Int32) (p4 : Int32) (d : Dy) (K : Int32 → Dy → Prop) : Prop := okO E a0 11 ∧ ∃ b_1 : Nat, eR E a0 27 = some b_1 ∧ okA E b_1 13 ∧ vp_in p4 (eN E b_1) ∧ ((p2 = (gA d b_1 (p4).toNatClampNeg) → ∃ b_6 : Nat, eR E a0 28 = some b_6 ∧ okA E b_6 13 ∧ vp_in p4 (eN E b_6) ∧ ((p3 = (gA d b_6 (p4).toNatClampNeg) → ∃ b_11 : Nat, eR E a0 26 = some b_11 ∧ okA E b_11 13 ∧ vp_in p4 (eN E b_11) ∧ (((gA d b_11 (p4).toNatClampNeg) ≤ p1 → K 0 d) ∧ (¬ (gA d b_11 (p4).toNatClampNeg) ≤ p1 → K 1 d))) ∧ (¬ p3 = (gA d b_6 (p4).toNatClampNeg) → ∃ b_16 : Nat, eR E a0 28 = some b_16 ∧ okA E b_16 13 ∧ vp_in p4 (eN E b_16) ∧ ((p3 ≤ (gA d b_16 (p4).toNatClampNeg) → K 0 d) ∧ (¬ p3 ≤ (gA d b_16 (p4).toNatClampNeg) → K 1 d))))) ∧ (¬ p2 = (gA d b_1 (p4).toNatClampNeg) → ∃ b_21 : Nat, eR E a0 27 = some b_21 ∧ okA E b_21 13 ∧ vp_in p4 (eN E b_21) ∧ ((p2 ≤ (gA d b_21 (p4).toNatClampNeg) → K 0 d) ∧ (¬ p2 ≤ (gA d b_21 (p4).toNatClampNeg) → K 1 d))))
abbrev rm_X11_isAhead : Room := { frames := 0, cells := 0, slots := 0, locals := 0 }
set_option maxRecDepth 100000 in
set_option maxHeartbeats 4000000 in
theorem m_X11_isAhead (l : Launch) (D : va_G) (cs : Nat → ClassId) (E : En) (d : Dy) (sz : Nat) (a0 : Nat) (p1 : Int32) (p2 : Int32) (p3 : Int32) (p4 : Int32) (K : Int32 → Dy → Prop) : CI l yX11_isAhead (.code yX11_isAhead cX11_isAhead 5 (some .boolean) :: wsL_law) rm_X11_isAhead D cs E d sz [.ref a0, .int p1, .int p2, .int p3, .int p4] (w_X11_isAhead E a0 p1 p2 p3 p4 d K) K := by
  refine e_of (cc := cX11_isAhead) (maxL := 5) (ret := (some .boolean)) (own := RX11) (by decide) rfl rfl (Nat.le_of_ble_eq_true rfl) ?_
  intro p e s m below meth c S hr hlocks hsz H locs hw h ls hl
  have hl : lv_has ls 5 [(0, .ref a0), (1, .int p1), (2, .int p2), (3, .int p3), (4, .int p4)] := hl
  unfold w_X11_isAhead at h
  obtain ⟨ha0, h⟩ := h
  refine lv_iload_n S.1 S.2.1 (dd_at ddX11_isAhead 0 rfl) rfl (lv_at hl 2 rfl) ?_
  refine lv_aload_n S.1 S.2.1 (dd_at ddX11_isAhead 1 rfl) rfl (lv_at hl 0 rfl) ?_
  obtain ⟨b_1, hb_2, ho_3, h⟩ := h
  refine r_getR S hw 11 27 rfl inG11 (by decide) (List.mem_cons_of_mem _ wg169) (by decide) ha0 hb_2 (dd_at ddX11_isAhead 2 rfl) ?_
  refine lv_iload S.1 S.2.1 (dd_at ddX11_isAhead 3 rfl) (lv_at hl 4 rfl) ?_
  obtain ⟨hx_4, h⟩ := h
  refine r_iald S hw ho_3 hx_4 (dd_at ddX11_isAhead 4 rfl) ?_
  refine lv_icmp_eq (tgt := 30) S.1 S.2.1 (dd_at ddX11_isAhead 5 rfl) (by decide) (fun hc_5 => ?_) (fun hc_5 => ?_)
  · have h := h.1 hc_5
    refine lv_iload_n S.1 S.2.1 (dd_at ddX11_isAhead 16 rfl) rfl (lv_at hl 3 rfl) ?_
    refine lv_aload_n S.1 S.2.1 (dd_at ddX11_isAhead 17 rfl) rfl (lv_at hl 0 rfl) ?_
    obtain ⟨b_6, hb_7, ho_8, h⟩ := h
    refine r_getR S hw 11 28 rfl inG11 (by decide) (List.mem_cons_of_mem _ wg170) (by decide) ha0 hb_7 (dd_at ddX11_isAhead 18 rfl) ?_
    refine lv_iload S.1 S.2.1 (dd_at ddX11_isAhead 19 rfl) (lv_at hl 4 rfl) ?_
    obtain ⟨hx_9, h⟩ := h
    refine r_iald S hw ho_8 hx_9 (dd_at ddX11_isAhead 20 rfl) ?_
    refine lv_icmp_eq (tgt := 60) S.1 S.2.1 (dd_at ddX11_isAhead 21 rfl) (by decide) (fun hc_10 => ?_) (fun hc_10 => ?_)
    · have h := h.1 hc_10
      refine lv_iload_n S.1 S.2.1 (dd_at ddX11_isAhead 32 rfl) rfl (lv_at hl 1 rfl) ?_
      refine lv_aload_n S.1 S.2.1 (dd_at ddX11_isAhead 33 rfl) rfl (lv_at hl 0 rfl) ?_
      obtain ⟨b_11, hb_12, ho_13, h⟩ := h
      refine r_getR S hw 11 26 rfl inG11 (by decide) (List.mem_cons_of_mem _ wg168) (by decide) ha0 hb_12 (dd_at ddX11_isAhead 34 rfl) ?_
      refine lv_iload S.1 S.2.1 (dd_at ddX11_isAhead 35 rfl) (lv_at hl 4 rfl) ?_
      obtain ⟨hx_14, h⟩ := h
      refine r_iald S hw ho_13 hx_14 (dd_at ddX11_isAhead 36 rfl) ?_
      refine lv_icmp_ge (tgt := 75) S.1 S.2.1 (dd_at ddX11_isAhead 37 rfl) (by decide) (fun hc_15 => ?_) (fun hc_15 => ?_)
      · have h := h.1 hc_15
        refine lv_iconst (v := 0) S.1 S.2.1 (dd_at ddX11_isAhead 40 rfl) (by decide) ?_
        exact e_Z S hr hlocks hw (Or.inl rfl) h (dd_at ddX11_isAhead 41 rfl)
      · have h := h.2 hc_15
        refine lv_iconst (v := 1) S.1 S.2.1 (dd_at ddX11_isAhead 38 rfl) (by decide) ?_
        refine lv_goto (tgt := 76) S.1 S.2.1 (dd_at ddX11_isAhead 39 rfl) (by decide) ?_
        exact e_Z S hr hlocks hw (Or.inr rfl) h (dd_at ddX11_isAhead 41 rfl)
    · have h := h.2 hc_10
      refine lv_iload_n S.1 S.2.1 (dd_at ddX11_isAhead 22 rfl) rfl (lv_at hl 3 rfl) ?_
      refine lv_aload_n S.1 S.2.1 (dd_at ddX11_isAhead 23 rfl) rfl (lv_at hl 0 rfl) ?_
      obtain ⟨b_16, hb_17, ho_18, h⟩ := h
      refine r_getR S hw 11 28 rfl inG11 (by decide) (List.mem_cons_of_mem _ wg170) (by decide) ha0 hb_17 (dd_at ddX11_isAhead 24 rfl) ?_
      refine lv_iload S.1 S.2.1 (dd_at ddX11_isAhead 25 rfl) (lv_at hl 4 rfl) ?_
      obtain ⟨hx_19, h⟩ := h
      refine r_iald S hw ho_18 hx_19 (dd_at ddX11_isAhead 26 rfl) ?_
      refine lv_icmp_le (tgt := 56) S.1 S.2.1 (dd_at ddX11_isAhead 27 rfl) (by decide) (fun hc_20 => ?_) (fun hc_20 => ?_)
      · have h := h.1 hc_20
        refine lv_iconst (v := 0) S.1 S.2.1 (dd_at ddX11_isAhead 30 rfl) (by decide) ?_
        refine lv_goto (tgt := 76) S.1 S.2.1 (dd_at ddX11_isAhead 31 rfl) (by decide) ?_
        exact e_Z S hr hlocks hw (Or.inl rfl) h (dd_at ddX11_isAhead 41 rfl)
      · have h := h.2 hc_20
        refine lv_iconst (v := 1) S.1 S.2.1 (dd_at ddX11_isAhead 28 rfl) (by decide) ?_
        refine lv_goto (tgt := 76) S.1 S.2.1 (dd_at ddX11_isAhead 29 rfl) (by decide) ?_
        exact e_Z S hr hlocks hw (Or.inr rfl) h (dd_at ddX11_isAhead 41 rfl)
  · have h := h.2 hc_5
    refine lv_iload_n S.1 S.2.1 (dd_at ddX11_isAhead 6 rfl) rfl (lv_at hl 2 rfl) ?_
    refine lv_aload_n S.1 S.2.1 (dd_at ddX11_isAhead 7 rfl) rfl (lv_at hl 0 rfl) ?_
    obtain ⟨b_21, hb_22, ho_23, h⟩ := h
    refine r_getR S hw 11 27 rfl inG11 (by decide) (List.mem_cons_of_mem _ wg169) (by decide) ha0 hb_22 (dd_at ddX11_isAhead 8 rfl) ?_
    refine lv_iload S.1 S.2.1 (dd_at ddX11_isAhead 9 rfl) (lv_at hl 4 rfl) ?_
    obtain ⟨hx_24, h⟩ := h
    refine r_iald S hw ho_23 hx_24 (dd_at ddX11_isAhead 10 rfl) ?_
    refine lv_icmp_le (tgt := 26) S.1 S.2.1 (dd_at ddX11_isAhead 11 rfl) (by decide) (fun hc_25 => ?_) (fun hc_25 => ?_)
    · have h := h.1 hc_25
      refine lv_iconst (v := 0) S.1 S.2.1 (dd_at ddX11_isAhead 14 rfl) (by decide) ?_
      refine lv_goto (tgt := 76) S.1 S.2.1 (dd_at ddX11_isAhead 15 rfl) (by decide) ?_
      exact e_Z S hr hlocks hw (Or.inl rfl) h (dd_at ddX11_isAhead 41 rfl)
    · have h := h.2 hc_25
      refine lv_iconst (v := 1) S.1 S.2.1 (dd_at ddX11_isAhead 12 rfl) (by decide) ?_
      refine lv_goto (tgt := 76) S.1 S.2.1 (dd_at ddX11_isAhead 13 rfl) (by decide) ?_
      exact e_Z S hr hlocks hw (Or.inr rfl) h (dd_at ddX11_isAhead 41 rfl)

def b_X11_orders_243 (E : En) (a0 : Nat) (p1 : Int32) (p2 : Int32) (K : Dy → Prop) (k7 : Int32 → Dy → Prop) (v3 : Int32) (v4 : Int32) (v5 : Int32) (v6 : Int32) (v7 : Int32) (d : Dy) : Prop := ∃ b_1 : Nat, eR E a0 26 = some b_1 ∧ okA E b_1 13 ∧ vp_in v7 (eN E b_1) ∧ ∃ b_5 : Nat, eR E a0 27 = some b_5 ∧ okA E b_5 13 ∧ vp_in v7 (eN E b_5) ∧ ∃ b_9 : Nat, eR E a0 28 = some b_9 ∧ okA E b_9 13 ∧ vp_in v7 (eN E b_9) ∧ k7 (v3 + 1) (pI (pA (pA (pA d b_1 (v7).toNatClampNeg v4) b_5 (v7).toNatClampNeg v6) b_9 (v7).toNatClampNeg v5) a0 29 ((gI (pA (pA (pA d b_1 (v7).toNatClampNeg v4) b_5 (v7).toNatClampNeg v6) b_9 (v7).toNatClampNeg v5) a0 29) + 1))
def b_X11_orders_167 (E : En) (a0 : Nat) (p1 : Int32) (p2 : Int32) (K : Dy → Prop) (k7 : Int32 → Dy → Prop) (k167 : Int32 → Int32 → Int32 → Int32 → Int32 → Dy → Prop) (v3 : Int32) (v4 : Int32) (v5 : Int32) (v6 : Int32) (v7 : Int32) (d : Dy) : Prop := ((v7 ≤ 0 → b_X11_orders_243 E a0 p1 p2 K k7 v3 v4 v5 v6 v7 d) ∧ (¬ v7 ≤ 0 → w_X11_isAhead E a0 v4 v6 v5 (v7 - 1) d (fun r_15 d_14 => ((r_15 = 0 → b_X11_orders_243 E a0 p1 p2 K k7 v3 v4 v5 v6 v7 d_14) ∧ (¬ r_15 = 0 → ∃ b_17 : Nat, eR E a0 26 = some b_17 ∧ okA E b_17 13 ∧ ∃ b_20 : Nat, eR E a0 26 = some b_20 ∧ okA E b_20 13 ∧ vp_in (v7 - 1) (eN E b_20) ∧ vp_in v7 (eN E b_17) ∧ ∃ b_25 : Nat, eR E a0 27 = some b_25 ∧ okA E b_25 13 ∧ ∃ b_28 : Nat, eR E a0 27 = some b_28 ∧ okA E b_28 13 ∧ vp_in (v7 - 1) (eN E b_28) ∧ vp_in v7 (eN E b_25) ∧ ∃ b_33 : Nat, eR E a0 28 = some b_33 ∧ okA E b_33 13 ∧ ∃ b_36 : Nat, eR E a0 28 = some b_36 ∧ okA E b_36 13 ∧ vp_in (v7 - 1) (eN E b_36) ∧ vp_in v7 (eN E b_33) ∧ k167 v3 v4 v5 v6 (v7 + (-1)) (pA (pA (pA d_14 b_17 (v7).toNatClampNeg (gA d_14 b_20 (v7 - 1).toNatClampNeg)) b_25 (v7).toNatClampNeg (gA (pA d_14 b_17 (v7).toNatClampNeg (gA d_14 b_20 (v7 - 1).toNatClampNeg)) b_28 (v7 - 1).toNatClampNeg)) b_33 (v7).toNatClampNeg (gA (pA (pA d_14 b_17 (v7).toNatClampNeg (gA d_14 b_20 (v7 - 1).toNatClampNeg)) b_25 (v7).toNatClampNeg (gA (pA d_14 b_17 (v7).toNatClampNeg (gA d_14 b_20 (v7 - 1).toNatClampNeg)) b_28 (v7 - 1).toNatClampNeg)) b_36 (v7 - 1).toNatClampNeg)))))))
def l_X11_orders_167 (E : En) (a0 : Nat) (p1 : Int32) (p2 : Int32) (K : Dy → Prop) (k7 : Int32 → Dy → Prop) : Nat → Int32 → Int32 → Int32 → Int32 → Int32 → Dy → Prop
  | 0 => fun _ _ _ _ _ _ => False
  | n + 1 => b_X11_orders_167 E a0 p1 p2 K k7 (l_X11_orders_167 E a0 p1 p2 K k7 n)
def b_X11_orders_7 (E : En) (a0 : Nat) (p1 : Int32) (p2 : Int32) (K : Dy → Prop) (k7 : Int32 → Dy → Prop) (v3 : Int32) (d : Dy) : Prop := ∃ b_41 : Nat, eR E a0 1 = some b_41 ∧ okA E b_41 13 ∧ vp_in 4 (eN E b_41) ∧ (((gA d b_41 ((4 : Int32)).toNatClampNeg) ≤ v3 → K d) ∧ (¬ (gA d b_41 ((4 : Int32)).toNatClampNeg) ≤ v3 → ∃ b_46 : Nat, eR E a0 1 = some b_46 ∧ okA E b_46 13 ∧ vp_in (360 + (3 * v3)) (eN E b_46) ∧ ∃ b_50 : Nat, eR E a0 1 = some b_50 ∧ okA E b_50 13 ∧ vp_in ((360 + (3 * v3)) + 1) (eN E b_50) ∧ ∃ b_54 : Nat, eR E a0 18 = some b_54 ∧ okA E b_54 15 ∧ vp_in (gA d b_46 (360 + (3 * v3)).toNatClampNeg) (eN E b_54) ∧ (((gA d b_54 (gA d b_46 (360 + (3 * v3)).toNatClampNeg).toNatClampNeg) = 0 → k7 (v3 + 1) d) ∧ (¬ (gA d b_54 (gA d b_46 (360 + (3 * v3)).toNatClampNeg).toNatClampNeg) = 0 → (((p1 - (gA d b_50 ((360 + (3 * v3)) + 1).toNatClampNeg)) < 0 → k7 (v3 + 1) d) ∧ (¬ (p1 - (gA d b_50 ((360 + (3 * v3)) + 1).toNatClampNeg)) < 0 → ∃ b_60 : Nat, eR E a0 1 = some b_60 ∧ okA E b_60 13 ∧ vp_in ((360 + (3 * v3)) + 2) (eN E b_60) ∧ (((gA d b_60 ((360 + (3 * v3)) + 2).toNatClampNeg) ≤ p2 → ∃ b_65 : Nat, eR E a0 14 = some b_65 ∧ okA E b_65 13 ∧ vp_in 7 (eN E b_65) ∧ ∃ b_69 : Nat, eR E a0 14 = some b_69 ∧ okA E b_69 13 ∧ w_X11_ageOf E a0 (gA d b_46 (360 + (3 * v3)).toNatClampNeg) p1 (pA d b_65 ((7 : Int32)).toNatClampNeg (p1 - (gA d b_50 ((360 + (3 * v3)) + 1).toNatClampNeg))) (fun r_73 d_72 => vp_in 1 (eN E b_69) ∧ ∃ b_75 : Nat, eR E a0 14 = some b_75 ∧ okA E b_75 13 ∧ w_X11_childrenOf E a0 (gA d b_46 (360 + (3 * v3)).toNatClampNeg) (pA d_72 b_69 ((1 : Int32)).toNatClampNeg r_73) (fun r_79 d_78 => vp_in 2 (eN E b_75) ∧ ∃ b_81 : Nat, eR E a0 14 = some b_81 ∧ okA E b_81 13 ∧ vp_in 3 (eN E b_81) ∧ ∃ b_85 : Nat, eR E a0 14 = some b_85 ∧ okA E b_85 13 ∧ w_X11_ofPerson E a0 (gA d b_46 (360 + (3 * v3)).toNatClampNeg) 2 (pA (pA d_78 b_75 ((2 : Int32)).toNatClampNeg r_79) b_81 ((3 : Int32)).toNatClampNeg p1) (fun r_89 d_88 => vp_in 8 (eN E b_85) ∧ ∃ b_91 : Nat, eR E a0 1 = some b_91 ∧ okA E b_91 13 ∧ vp_in 12 (eN E b_91) ∧ ((¬ (gA (pA d_88 b_85 ((8 : Int32)).toNatClampNeg r_89) b_91 ((12 : Int32)).toNatClampNeg) = 0 → w_X11_summed E a0 2 (pA d_88 b_85 ((8 : Int32)).toNatClampNeg r_89) (fun r_97 d_96 => (∃ n_98 : Nat, l_X11_orders_167 E a0 p1 p2 K k7 n_98 v3 (gA d b_46 (360 + (3 * v3)).toNatClampNeg) (p1 - (gA d b_50 ((360 + (3 * v3)) + 1).toNatClampNeg)) r_97 (gI d_96 a0 29) d_96))) ∧ ((gA (pA d_88 b_85 ((8 : Int32)).toNatClampNeg r_89) b_91 ((12 : Int32)).toNatClampNeg) = 0 → (∃ n_99 : Nat, l_X11_orders_167 E a0 p1 p2 K k7 n_99 v3 (gA d b_46 (360 + (3 * v3)).toNatClampNeg) (p1 - (gA d b_50 ((360 + (3 * v3)) + 1).toNatClampNeg)) 0 (gI (pA d_88 b_85 ((8 : Int32)).toNatClampNeg r_89) a0 29) (pA d_88 b_85 ((8 : Int32)).toNatClampNeg r_89)))))))) ∧ (¬ (gA d b_60 ((360 + (3 * v3)) + 2).toNatClampNeg) ≤ p2 → k7 (v3 + 1) d))))))))
def l_X11_orders_7 (E : En) (a0 : Nat) (p1 : Int32) (p2 : Int32) (K : Dy → Prop) : Nat → Int32 → Dy → Prop
  | 0 => fun _ _ => False
  | n + 1 => b_X11_orders_7 E a0 p1 p2 K (l_X11_orders_7 E a0 p1 p2 K n)
def w_X11_orders (E : En) (a0 : Nat) (p1 : Int32) (p2 : Int32) (d : Dy) (K : Dy → Prop) : Prop := okO E a0 11 ∧ (∃ n_100 : Nat, l_X11_orders_7 E a0 p1 p2 K n_100 0 (pI d a0 29 0))
abbrev rm_X11_orders : Room := { frames := 4, cells := 0, slots := 0, locals := 95 }
set_option maxRecDepth 100000 in
set_option maxHeartbeats 4000000 in
theorem m_X11_orders (l : Launch) (D : va_G) (cs : Nat → ClassId) (E : En) (d : Dy) (sz : Nat) (a0 : Nat) (p1 : Int32) (p2 : Int32) (K : Dy → Prop) : CV l yX11_orders (.code yX11_orders cX11_orders 8 none :: wsL_law) rm_X11_orders D cs E d sz [.ref a0, .int p1, .int p2] (w_X11_orders E a0 p1 p2 d K) K := by
  refine e_of (cc := cX11_orders) (maxL := 8) (ret := none) (own := RX11) (by decide) rfl rfl (Nat.le_of_ble_eq_true rfl) ?_
  intro p e s m below meth c S hr hlocks hsz H locs hw h ls hl
  have hl : lv_has ls 8 [(0, .ref a0), (1, .int p1), (2, .int p2)] := hl
  unfold w_X11_orders at h
  obtain ⟨ha0, h⟩ := h
  have tl7 : ∀ (n : Nat) (v3 : Int32) (d : Dy) (H : Heap) (locs : List Loc) (ls : Array Slot), l_X11_orders_7 E a0 p1 p2 K n v3 d → Wd D cs (AW E sz) s.heap s E d H locs → lv_has ls 8 [(0, .ref a0), (1, .int p1), (2, .int p2), (3, .int v3)] → W p l e rm_X11_orders s m ([.ref a0, .int p1, .int p2] : List Value).toArray below meth c H locs 0 0 (MQ below (va_Qv K (OutW D cs E (AW E sz)) (AW E sz)) ([.ref a0, .int p1, .int p2] : List Value).toArray s rm_X11_orders.cells rm_X11_orders.slots (AW E sz)) (F0 m 7 ls []) := by
    intro n7
    induction n7 with
    | zero => intro v3 d H locs ls h; exact absurd h id
    | succ n7 ih7 =>
      have tb243 : ∀ (v3 : Int32) (v4 : Int32) (v5 : Int32) (v6 : Int32) (v7 : Int32) (d : Dy) (H : Heap) (locs : List Loc) (ls : Array Slot), b_X11_orders_243 E a0 p1 p2 K (l_X11_orders_7 E a0 p1 p2 K n7) v3 v4 v5 v6 v7 d → Wd D cs (AW E sz) s.heap s E d H locs → lv_has ls 8 [(0, .ref a0), (1, .int p1), (2, .int p2), (3, .int v3), (4, .int v4), (5, .int v5), (6, .int v6), (7, .int v7)] → W p l e rm_X11_orders s m ([.ref a0, .int p1, .int p2] : List Value).toArray below meth c H locs 0 0 (MQ below (va_Qv K (OutW D cs E (AW E sz)) (AW E sz)) ([.ref a0, .int p1, .int p2] : List Value).toArray s rm_X11_orders.cells rm_X11_orders.slots (AW E sz)) (F0 m 243 ls []) := by
        intro v3 v4 v5 v6 v7 d H locs ls h hw hl
        unfold b_X11_orders_243 at h
        refine lv_aload_n S.1 S.2.1 (dd_at ddX11_orders 143 rfl) rfl (lv_at hl 0 rfl) ?_
        obtain ⟨b_1, hb_2, ho_3, h⟩ := h
        refine r_getR S hw 11 26 rfl inG11 (by decide) (List.mem_cons_of_mem _ wg168) (by decide) ha0 hb_2 (dd_at ddX11_orders 144 rfl) ?_
        refine lv_iload S.1 S.2.1 (dd_at ddX11_orders 145 rfl) (lv_at hl 7 rfl) ?_
        refine lv_iload S.1 S.2.1 (dd_at ddX11_orders 146 rfl) (lv_at hl 4 rfl) ?_
        obtain ⟨hx_4, h⟩ := h
        refine r_iast S hw ho_3 hx_4 (dd_at ddX11_orders 147 rfl) (fun H locs hw => ?_)
        refine lv_aload_n S.1 S.2.1 (dd_at ddX11_orders 148 rfl) rfl (lv_at hl 0 rfl) ?_
        obtain ⟨b_5, hb_6, ho_7, h⟩ := h
        refine r_getR S hw 11 27 rfl inG11 (by decide) (List.mem_cons_of_mem _ wg169) (by decide) ha0 hb_6 (dd_at ddX11_orders 149 rfl) ?_
        refine lv_iload S.1 S.2.1 (dd_at ddX11_orders 150 rfl) (lv_at hl 7 rfl) ?_
        refine lv_iload S.1 S.2.1 (dd_at ddX11_orders 151 rfl) (lv_at hl 6 rfl) ?_
        obtain ⟨hx_8, h⟩ := h
        refine r_iast S hw ho_7 hx_8 (dd_at ddX11_orders 152 rfl) (fun H locs hw => ?_)
        refine lv_aload_n S.1 S.2.1 (dd_at ddX11_orders 153 rfl) rfl (lv_at hl 0 rfl) ?_
        obtain ⟨b_9, hb_10, ho_11, h⟩ := h
        refine r_getR S hw 11 28 rfl inG11 (by decide) (List.mem_cons_of_mem _ wg170) (by decide) ha0 hb_10 (dd_at ddX11_orders 154 rfl) ?_
        refine lv_iload S.1 S.2.1 (dd_at ddX11_orders 155 rfl) (lv_at hl 7 rfl) ?_
        refine lv_iload S.1 S.2.1 (dd_at ddX11_orders 156 rfl) (lv_at hl 5 rfl) ?_
        obtain ⟨hx_12, h⟩ := h
        refine r_iast S hw ho_11 hx_12 (dd_at ddX11_orders 157 rfl) (fun H locs hw => ?_)
        refine lv_aload_n S.1 S.2.1 (dd_at ddX11_orders 158 rfl) rfl (lv_at hl 0 rfl) ?_
        refine lv_dup S.1 S.2.1 (dd_at ddX11_orders 159 rfl) rfl ?_
        refine r_getI S hw 11 29 rfl inG11 (by decide) (List.mem_cons_of_mem _ wg1046) (by decide) ha0 (dd_at ddX11_orders 160 rfl) ?_
        refine lv_iconst (v := 1) S.1 S.2.1 (dd_at ddX11_orders 161 rfl) (by decide) ?_
        refine lv_iadd S.1 S.2.1 (dd_at ddX11_orders 162 rfl) ?_
        refine r_putI S hw 11 29 (ty := .int) (v := (gI (pA (pA (pA d b_1 (v7).toNatClampNeg v4) b_5 (v7).toNatClampNeg v6) b_9 (v7).toNatClampNeg v5) a0 29) + 1) rfl inG11 tyX11 tyX11_ok nmX11 (by decide) (List.mem_cons_of_mem _ wg1046) (by decide) rfl (by decide +kernel) rfl rfl ha0 (dd_at ddX11_orders 163 rfl) (fun H locs hw => ?_)
        refine lv_iinc (v := v3 + 1) (lv' := [(3, .int (v3 + 1)), (0, .ref a0), (1, .int p1), (2, .int p2), (4, .int v4), (5, .int v5), (6, .int v6), (7, .int v7)]) S.1 S.2.1 (dd_at ddX11_orders 164 rfl) hl (k := 3) rfl rfl (by decide) rfl (fun ls hl => ?_)
        refine lv_goto (tgt := 7) S.1 S.2.1 (dd_at ddX11_orders 165 rfl) (by decide) ?_
        exact ih7 (v3 + 1) (pI (pA (pA (pA d b_1 (v7).toNatClampNeg v4) b_5 (v7).toNatClampNeg v6) b_9 (v7).toNatClampNeg v5) a0 29 ((gI (pA (pA (pA d b_1 (v7).toNatClampNeg v4) b_5 (v7).toNatClampNeg v6) b_9 (v7).toNatClampNeg v5) a0 29) + 1)) H locs ls h hw (lv_sub hl [1, 2, 3, 0] rfl)
      have tl167 : ∀ (n : Nat) (v3 : Int32) (v4 : Int32) (v5 : Int32) (v6 : Int32) (v7 : Int32) (d : Dy) (H : Heap) (locs : List Loc) (ls : Array Slot), l_X11_orders_167 E a0 p1 p2 K (l_X11_orders_7 E a0 p1 p2 K n7) n v3 v4 v5 v6 v7 d → Wd D cs (AW E sz) s.heap s E d H locs → lv_has ls 8 [(0, .ref a0), (1, .int p1), (2, .int p2), (3, .int v3), (4, .int v4), (5, .int v5), (6, .int v6), (7, .int v7)] → W p l e rm_X11_orders s m ([.ref a0, .int p1, .int p2] : List Value).toArray below meth c H locs 0 0 (MQ below (va_Qv K (OutW D cs E (AW E sz)) (AW E sz)) ([.ref a0, .int p1, .int p2] : List Value).toArray s rm_X11_orders.cells rm_X11_orders.slots (AW E sz)) (F0 m 167 ls []) := by
        intro n167
        induction n167 with
        | zero => intro v3 v4 v5 v6 v7 d H locs ls h; exact absurd h id
        | succ n167 ih167 =>
          intro v3 v4 v5 v6 v7 d H locs ls h hw hl
          have h : b_X11_orders_167 E a0 p1 p2 K (l_X11_orders_7 E a0 p1 p2 K n7) (l_X11_orders_167 E a0 p1 p2 K (l_X11_orders_7 E a0 p1 p2 K n7) n167) v3 v4 v5 v6 v7 d := h
          unfold b_X11_orders_167 at h
          refine lv_iload S.1 S.2.1 (dd_at ddX11_orders 100 rfl) (lv_at hl 7 rfl) ?_
          refine lv_if_le (tgt := 243) S.1 S.2.1 (dd_at ddX11_orders 101 rfl) (by decide) (fun hc_13 => ?_) (fun hc_13 => ?_)
          · have h := h.1 hc_13
            exact tb243 v3 v4 v5 v6 v7 d H locs ls h hw (lv_sub hl [0, 1, 2, 3, 4, 5, 6, 7] rfl)
          · have h := h.2 hc_13
            refine lv_aload_n S.1 S.2.1 (dd_at ddX11_orders 102 rfl) rfl (lv_at hl 0 rfl) ?_
            refine lv_iload S.1 S.2.1 (dd_at ddX11_orders 103 rfl) (lv_at hl 4 rfl) ?_
            refine lv_iload S.1 S.2.1 (dd_at ddX11_orders 104 rfl) (lv_at hl 6 rfl) ?_
            refine lv_iload S.1 S.2.1 (dd_at ddX11_orders 105 rfl) (lv_at hl 5 rfl) ?_
            refine lv_iload S.1 S.2.1 (dd_at ddX11_orders 106 rfl) (lv_at hl 7 rfl) ?_
            refine lv_iconst (v := 1) S.1 S.2.1 (dd_at ddX11_orders 107 rfl) (by decide) ?_
            refine lv_isub S.1 S.2.1 (dd_at ddX11_orders 108 rfl) ?_
            refine r_callI hw (r_runV (As := [.int v4, .int v6, .int v5, .int (v7 - 1)]) (rest := []) S hw (m_X11_isAhead l D cs E d H.size a0 v4 v6 v5 (v7 - 1) _) (cwV 4 S.2.2.2.2 (gV wg1051 wg1052 wg1053 wg5 wg1054) rfl rfl rfl (by decide +kernel) ⟨Nat.le_of_ble_eq_true rfl, Nat.le_of_ble_eq_true rfl⟩) (ci := 11) rfl ha0 h rfl hl.1 rfl (Nat.le_of_ble_eq_true rfl) (dd_at ddX11_orders 109 rfl) ⟨Nat.le_of_ble_eq_true rfl, Nat.le_of_ble_eq_true rfl⟩) (fun r_15 d_14 H locs h hw => ?_)
            refine lv_if_eq (tgt := 243) S.1 S.2.1 (dd_at ddX11_orders 110 rfl) (by decide) (fun hc_16 => ?_) (fun hc_16 => ?_)
            · have h := h.1 hc_16
              exact tb243 v3 v4 v5 v6 v7 d_14 H locs ls h hw (lv_sub hl [0, 1, 2, 3, 4, 5, 6, 7] rfl)
            · have h := h.2 hc_16
              refine lv_aload_n S.1 S.2.1 (dd_at ddX11_orders 111 rfl) rfl (lv_at hl 0 rfl) ?_
              obtain ⟨b_17, hb_18, ho_19, h⟩ := h
              refine r_getR S hw 11 26 rfl inG11 (by decide) (List.mem_cons_of_mem _ wg168) (by decide) ha0 hb_18 (dd_at ddX11_orders 112 rfl) ?_
              refine lv_iload S.1 S.2.1 (dd_at ddX11_orders 113 rfl) (lv_at hl 7 rfl) ?_
              refine lv_aload_n S.1 S.2.1 (dd_at ddX11_orders 114 rfl) rfl (lv_at hl 0 rfl) ?_
              obtain ⟨b_20, hb_21, ho_22, h⟩ := h
              refine r_getR S hw 11 26 rfl inG11 (by decide) (List.mem_cons_of_mem _ wg168) (by decide) ha0 hb_21 (dd_at ddX11_orders 115 rfl) ?_
              refine lv_iload S.1 S.2.1 (dd_at ddX11_orders 116 rfl) (lv_at hl 7 rfl) ?_
              refine lv_iconst (v := 1) S.1 S.2.1 (dd_at ddX11_orders 117 rfl) (by decide) ?_
              refine lv_isub S.1 S.2.1 (dd_at ddX11_orders 118 rfl) ?_
              obtain ⟨hx_23, h⟩ := h
              refine r_iald S hw ho_22 hx_23 (dd_at ddX11_orders 119 rfl) ?_
              obtain ⟨hx_24, h⟩ := h
              refine r_iast S hw ho_19 hx_24 (dd_at ddX11_orders 120 rfl) (fun H locs hw => ?_)
              refine lv_aload_n S.1 S.2.1 (dd_at ddX11_orders 121 rfl) rfl (lv_at hl 0 rfl) ?_
              obtain ⟨b_25, hb_26, ho_27, h⟩ := h
              refine r_getR S hw 11 27 rfl inG11 (by decide) (List.mem_cons_of_mem _ wg169) (by decide) ha0 hb_26 (dd_at ddX11_orders 122 rfl) ?_
              refine lv_iload S.1 S.2.1 (dd_at ddX11_orders 123 rfl) (lv_at hl 7 rfl) ?_
              refine lv_aload_n S.1 S.2.1 (dd_at ddX11_orders 124 rfl) rfl (lv_at hl 0 rfl) ?_
              obtain ⟨b_28, hb_29, ho_30, h⟩ := h
              refine r_getR S hw 11 27 rfl inG11 (by decide) (List.mem_cons_of_mem _ wg169) (by decide) ha0 hb_29 (dd_at ddX11_orders 125 rfl) ?_
              refine lv_iload S.1 S.2.1 (dd_at ddX11_orders 126 rfl) (lv_at hl 7 rfl) ?_
              refine lv_iconst (v := 1) S.1 S.2.1 (dd_at ddX11_orders 127 rfl) (by decide) ?_
              refine lv_isub S.1 S.2.1 (dd_at ddX11_orders 128 rfl) ?_
              obtain ⟨hx_31, h⟩ := h
              refine r_iald S hw ho_30 hx_31 (dd_at ddX11_orders 129 rfl) ?_
              obtain ⟨hx_32, h⟩ := h
              refine r_iast S hw ho_27 hx_32 (dd_at ddX11_orders 130 rfl) (fun H locs hw => ?_)
              refine lv_aload_n S.1 S.2.1 (dd_at ddX11_orders 131 rfl) rfl (lv_at hl 0 rfl) ?_
              obtain ⟨b_33, hb_34, ho_35, h⟩ := h
              refine r_getR S hw 11 28 rfl inG11 (by decide) (List.mem_cons_of_mem _ wg170) (by decide) ha0 hb_34 (dd_at ddX11_orders 132 rfl) ?_
              refine lv_iload S.1 S.2.1 (dd_at ddX11_orders 133 rfl) (lv_at hl 7 rfl) ?_
              refine lv_aload_n S.1 S.2.1 (dd_at ddX11_orders 134 rfl) rfl (lv_at hl 0 rfl) ?_
              obtain ⟨b_36, hb_37, ho_38, h⟩ := h
              refine r_getR S hw 11 28 rfl inG11 (by decide) (List.mem_cons_of_mem _ wg170) (by decide) ha0 hb_37 (dd_at ddX11_orders 135 rfl) ?_
              refine lv_iload S.1 S.2.1 (dd_at ddX11_orders 136 rfl) (lv_at hl 7 rfl) ?_
              refine lv_iconst (v := 1) S.1 S.2.1 (dd_at ddX11_orders 137 rfl) (by decide) ?_
              refine lv_isub S.1 S.2.1 (dd_at ddX11_orders 138 rfl) ?_
              obtain ⟨hx_39, h⟩ := h
              refine r_iald S hw ho_38 hx_39 (dd_at ddX11_orders 139 rfl) ?_
              obtain ⟨hx_40, h⟩ := h
              refine r_iast S hw ho_35 hx_40 (dd_at ddX11_orders 140 rfl) (fun H locs hw => ?_)
              refine lv_iinc (v := v7 + (-1)) (lv' := [(7, .int (v7 + (-1))), (0, .ref a0), (1, .int p1), (2, .int p2), (3, .int v3), (4, .int v4), (5, .int v5), (6, .int v6)]) S.1 S.2.1 (dd_at ddX11_orders 141 rfl) hl (k := 7) rfl rfl (by decide) rfl (fun ls hl => ?_)
              refine lv_goto (tgt := 167) S.1 S.2.1 (dd_at ddX11_orders 142 rfl) (by decide) ?_
              exact ih167 v3 v4 v5 v6 (v7 + (-1)) (pA (pA (pA d_14 b_17 (v7).toNatClampNeg (gA d_14 b_20 (v7 - 1).toNatClampNeg)) b_25 (v7).toNatClampNeg (gA (pA d_14 b_17 (v7).toNatClampNeg (gA d_14 b_20 (v7 - 1).toNatClampNeg)) b_28 (v7 - 1).toNatClampNeg)) b_33 (v7).toNatClampNeg (gA (pA (pA d_14 b_17 (v7).toNatClampNeg (gA d_14 b_20 (v7 - 1).toNatClampNeg)) b_25 (v7).toNatClampNeg (gA (pA d_14 b_17 (v7).toNatClampNeg (gA d_14 b_20 (v7 - 1).toNatClampNeg)) b_28 (v7 - 1).toNatClampNeg)) b_36 (v7 - 1).toNatClampNeg)) H locs ls h hw (lv_sub hl [1, 2, 3, 4, 5, 6, 7, 0] rfl)
      intro v3 d H locs ls h hw hl
      have h : b_X11_orders_7 E a0 p1 p2 K (l_X11_orders_7 E a0 p1 p2 K n7) v3 d := h
      unfold b_X11_orders_7 at h
      refine lv_iload_n S.1 S.2.1 (dd_at ddX11_orders 5 rfl) rfl (lv_at hl 3 rfl) ?_
      refine lv_aload_n S.1 S.2.1 (dd_at ddX11_orders 6 rfl) rfl (lv_at hl 0 rfl) ?_
      obtain ⟨b_41, hb_42, ho_43, h⟩ := h
      refine r_getR S hw 11 1 rfl inG11 (by decide) (List.mem_cons_of_mem _ wg150) (by decide) ha0 hb_42 (dd_at ddX11_orders 7 rfl) ?_
      refine lv_iconst (v := 4) S.1 S.2.1 (dd_at ddX11_orders 8 rfl) (by decide) ?_
      obtain ⟨hx_44, h⟩ := h
      refine r_iald S hw ho_43 hx_44 (dd_at ddX11_orders 9 rfl) ?_
      refine lv_icmp_ge (tgt := 286) S.1 S.2.1 (dd_at ddX11_orders 10 rfl) (by decide) (fun hc_45 => ?_) (fun hc_45 => ?_)
      · have h := h.1 hc_45
        exact e_V S hr hlocks hw h (dd_at ddX11_orders 166 rfl)
      · have h := h.2 hc_45
        refine lv_aload_n S.1 S.2.1 (dd_at ddX11_orders 11 rfl) rfl (lv_at hl 0 rfl) ?_
        obtain ⟨b_46, hb_47, ho_48, h⟩ := h
        refine r_getR S hw 11 1 rfl inG11 (by decide) (List.mem_cons_of_mem _ wg150) (by decide) ha0 hb_47 (dd_at ddX11_orders 12 rfl) ?_
        refine lv_sipush (v := 360) S.1 S.2.1 (dd_at ddX11_orders 13 rfl) (by decide) ?_
        refine lv_iconst (v := 3) S.1 S.2.1 (dd_at ddX11_orders 14 rfl) (by decide) ?_
        refine lv_iload_n S.1 S.2.1 (dd_at ddX11_orders 15 rfl) rfl (lv_at hl 3 rfl) ?_
        refine lv_imul S.1 S.2.1 (dd_at ddX11_orders 16 rfl) ?_
        refine lv_iadd S.1 S.2.1 (dd_at ddX11_orders 17 rfl) ?_
        obtain ⟨hx_49, h⟩ := h
        refine r_iald S hw ho_48 hx_49 (dd_at ddX11_orders 18 rfl) ?_
        refine lv_istore (lv' := [(4, .int (gA d b_46 (360 + (3 * v3)).toNatClampNeg)), (0, .ref a0), (1, .int p1), (2, .int p2), (3, .int v3)]) S.1 S.2.1 (dd_at ddX11_orders 19 rfl) hl (by decide) rfl (fun ls hl => ?_)
        refine lv_iload_n S.1 S.2.1 (dd_at ddX11_orders 20 rfl) rfl (lv_at hl 2 rfl) ?_
        refine lv_aload_n S.1 S.2.1 (dd_at ddX11_orders 21 rfl) rfl (lv_at hl 1 rfl) ?_
        obtain ⟨b_50, hb_51, ho_52, h⟩ := h
        refine r_getR S hw 11 1 rfl inG11 (by decide) (List.mem_cons_of_mem _ wg150) (by decide) ha0 hb_51 (dd_at ddX11_orders 22 rfl) ?_
        refine lv_sipush (v := 360) S.1 S.2.1 (dd_at ddX11_orders 23 rfl) (by decide) ?_
        refine lv_iconst (v := 3) S.1 S.2.1 (dd_at ddX11_orders 24 rfl) (by decide) ?_
        refine lv_iload_n S.1 S.2.1 (dd_at ddX11_orders 25 rfl) rfl (lv_at hl 4 rfl) ?_
        refine lv_imul S.1 S.2.1 (dd_at ddX11_orders 26 rfl) ?_
        refine lv_iadd S.1 S.2.1 (dd_at ddX11_orders 27 rfl) ?_
        refine lv_iconst (v := 1) S.1 S.2.1 (dd_at ddX11_orders 28 rfl) (by decide) ?_
        refine lv_iadd S.1 S.2.1 (dd_at ddX11_orders 29 rfl) ?_
        obtain ⟨hx_53, h⟩ := h
        refine r_iald S hw ho_52 hx_53 (dd_at ddX11_orders 30 rfl) ?_
        refine lv_isub S.1 S.2.1 (dd_at ddX11_orders 31 rfl) ?_
        refine lv_istore (lv' := [(5, .int (p1 - (gA d b_50 ((360 + (3 * v3)) + 1).toNatClampNeg))), (4, .int (gA d b_46 (360 + (3 * v3)).toNatClampNeg)), (0, .ref a0), (1, .int p1), (2, .int p2), (3, .int v3)]) S.1 S.2.1 (dd_at ddX11_orders 32 rfl) hl (by decide) rfl (fun ls hl => ?_)
        refine lv_aload_n S.1 S.2.1 (dd_at ddX11_orders 33 rfl) rfl (lv_at hl 2 rfl) ?_
        obtain ⟨b_54, hb_55, ho_56, h⟩ := h
        refine r_getR S hw 11 18 rfl inG11 (by decide) (List.mem_cons_of_mem _ wg160) (by decide) ha0 hb_55 (dd_at ddX11_orders 34 rfl) ?_
        refine lv_iload S.1 S.2.1 (dd_at ddX11_orders 35 rfl) (lv_at hl 1 rfl) ?_
        obtain ⟨hx_57, h⟩ := h
        refine r_zald S hw ho_56 hx_57 (dd_at ddX11_orders 36 rfl) ?_
        refine lv_if_eq (tgt := 280) S.1 S.2.1 (dd_at ddX11_orders 37 rfl) (by decide) (fun hc_58 => ?_) (fun hc_58 => ?_)
        · have h := h.1 hc_58
          refine lv_iinc (v := v3 + 1) (lv' := [(3, .int (v3 + 1)), (5, .int (p1 - (gA d b_50 ((360 + (3 * v3)) + 1).toNatClampNeg))), (4, .int (gA d b_46 (360 + (3 * v3)).toNatClampNeg)), (0, .ref a0), (1, .int p1), (2, .int p2)]) S.1 S.2.1 (dd_at ddX11_orders 164 rfl) hl (k := 5) rfl rfl (by decide) rfl (fun ls hl => ?_)
          refine lv_goto (tgt := 7) S.1 S.2.1 (dd_at ddX11_orders 165 rfl) (by decide) ?_
          exact ih7 (v3 + 1) d H locs ls h hw (lv_sub hl [3, 4, 5, 0] rfl)
        · have h := h.2 hc_58
          refine lv_iload S.1 S.2.1 (dd_at ddX11_orders 38 rfl) (lv_at hl 0 rfl) ?_
          refine lv_if_lt (tgt := 280) S.1 S.2.1 (dd_at ddX11_orders 39 rfl) (by decide) (fun hc_59 => ?_) (fun hc_59 => ?_)
          · have h := h.1 hc_59
            refine lv_iinc (v := v3 + 1) (lv' := [(3, .int (v3 + 1)), (5, .int (p1 - (gA d b_50 ((360 + (3 * v3)) + 1).toNatClampNeg))), (4, .int (gA d b_46 (360 + (3 * v3)).toNatClampNeg)), (0, .ref a0), (1, .int p1), (2, .int p2)]) S.1 S.2.1 (dd_at ddX11_orders 164 rfl) hl (k := 5) rfl rfl (by decide) rfl (fun ls hl => ?_)
            refine lv_goto (tgt := 7) S.1 S.2.1 (dd_at ddX11_orders 165 rfl) (by decide) ?_
            exact ih7 (v3 + 1) d H locs ls h hw (lv_sub hl [3, 4, 5, 0] rfl)
          · have h := h.2 hc_59
            refine lv_aload_n S.1 S.2.1 (dd_at ddX11_orders 40 rfl) rfl (lv_at hl 2 rfl) ?_
            obtain ⟨b_60, hb_61, ho_62, h⟩ := h
            refine r_getR S hw 11 1 rfl inG11 (by decide) (List.mem_cons_of_mem _ wg150) (by decide) ha0 hb_61 (dd_at ddX11_orders 41 rfl) ?_
            refine lv_sipush (v := 360) S.1 S.2.1 (dd_at ddX11_orders 42 rfl) (by decide) ?_
            refine lv_iconst (v := 3) S.1 S.2.1 (dd_at ddX11_orders 43 rfl) (by decide) ?_
            refine lv_iload_n S.1 S.2.1 (dd_at ddX11_orders 44 rfl) rfl (lv_at hl 5 rfl) ?_
            refine lv_imul S.1 S.2.1 (dd_at ddX11_orders 45 rfl) ?_
            refine lv_iadd S.1 S.2.1 (dd_at ddX11_orders 46 rfl) ?_
            refine lv_iconst (v := 2) S.1 S.2.1 (dd_at ddX11_orders 47 rfl) (by decide) ?_
            refine lv_iadd S.1 S.2.1 (dd_at ddX11_orders 48 rfl) ?_
            obtain ⟨hx_63, h⟩ := h
            refine r_iald S hw ho_62 hx_63 (dd_at ddX11_orders 49 rfl) ?_
            refine lv_iload_n S.1 S.2.1 (dd_at ddX11_orders 50 rfl) rfl (lv_at hl 4 rfl) ?_
            refine lv_icmp_le (tgt := 85) S.1 S.2.1 (dd_at ddX11_orders 51 rfl) (by decide) (fun hc_64 => ?_) (fun hc_64 => ?_)
            · have h := h.1 hc_64
              refine lv_aload_n S.1 S.2.1 (dd_at ddX11_orders 53 rfl) rfl (lv_at hl 2 rfl) ?_
              obtain ⟨b_65, hb_66, ho_67, h⟩ := h
              refine r_getR S hw 11 14 rfl inG11 (by decide) (List.mem_cons_of_mem _ wg156) (by decide) ha0 hb_66 (dd_at ddX11_orders 54 rfl) ?_
              refine lv_bipush (v := 7) S.1 S.2.1 (dd_at ddX11_orders 55 rfl) (by decide) ?_
              refine lv_iload S.1 S.2.1 (dd_at ddX11_orders 56 rfl) (lv_at hl 0 rfl) ?_
              obtain ⟨hx_68, h⟩ := h
              refine r_iast S hw ho_67 hx_68 (dd_at ddX11_orders 57 rfl) (fun H locs hw => ?_)
              refine lv_aload_n S.1 S.2.1 (dd_at ddX11_orders 58 rfl) rfl (lv_at hl 2 rfl) ?_
              obtain ⟨b_69, hb_70, ho_71, h⟩ := h
              refine r_getR S hw 11 14 rfl inG11 (by decide) (List.mem_cons_of_mem _ wg156) (by decide) ha0 hb_70 (dd_at ddX11_orders 59 rfl) ?_
              refine lv_iconst (v := 1) S.1 S.2.1 (dd_at ddX11_orders 60 rfl) (by decide) ?_
              refine lv_aload_n S.1 S.2.1 (dd_at ddX11_orders 61 rfl) rfl (lv_at hl 2 rfl) ?_
              refine lv_iload S.1 S.2.1 (dd_at ddX11_orders 62 rfl) (lv_at hl 1 rfl) ?_
              refine lv_iload_n S.1 S.2.1 (dd_at ddX11_orders 63 rfl) rfl (lv_at hl 3 rfl) ?_
              refine r_callI hw (r_runV (As := [.int (gA d b_46 (360 + (3 * v3)).toNatClampNeg), .int p1]) (rest := [.int 1, .ref b_69]) S hw (m_X11_ageOf l D cs E (pA d b_65 ((7 : Int32)).toNatClampNeg (p1 - (gA d b_50 ((360 + (3 * v3)) + 1).toNatClampNeg))) H.size a0 (gA d b_46 (360 + (3 * v3)).toNatClampNeg) p1 _) (cwV 2 S.2.2.2.2 (gV wg843 wg844 wg845 wg5 wg846) rfl rfl rfl (by decide +kernel) ⟨Nat.le_of_ble_eq_true rfl, Nat.le_of_ble_eq_true rfl⟩) (ci := 11) rfl ha0 h rfl hl.1 rfl (Nat.le_of_ble_eq_true rfl) (dd_at ddX11_orders 64 rfl) ⟨Nat.le_of_ble_eq_true rfl, Nat.le_of_ble_eq_true rfl⟩) (fun r_73 d_72 H locs h hw => ?_)
              obtain ⟨hx_74, h⟩ := h
              refine r_iast S hw ho_71 hx_74 (dd_at ddX11_orders 65 rfl) (fun H locs hw => ?_)
              refine lv_aload_n S.1 S.2.1 (dd_at ddX11_orders 66 rfl) rfl (lv_at hl 2 rfl) ?_
              obtain ⟨b_75, hb_76, ho_77, h⟩ := h
              refine r_getR S hw 11 14 rfl inG11 (by decide) (List.mem_cons_of_mem _ wg156) (by decide) ha0 hb_76 (dd_at ddX11_orders 67 rfl) ?_
              refine lv_iconst (v := 2) S.1 S.2.1 (dd_at ddX11_orders 68 rfl) (by decide) ?_
              refine lv_aload_n S.1 S.2.1 (dd_at ddX11_orders 69 rfl) rfl (lv_at hl 2 rfl) ?_
              refine lv_iload S.1 S.2.1 (dd_at ddX11_orders 70 rfl) (lv_at hl 1 rfl) ?_
              refine r_callI hw (r_runV (As := [.int (gA d b_46 (360 + (3 * v3)).toNatClampNeg)]) (rest := [.int 2, .ref b_75]) S hw (m_X11_childrenOf l D cs E (pA d_72 b_69 ((1 : Int32)).toNatClampNeg r_73) H.size a0 (gA d b_46 (360 + (3 * v3)).toNatClampNeg) _) (cwV 1 S.2.2.2.2 (gV wg852 wg853 wg854 wg5 wg855) rfl rfl rfl (by decide +kernel) ⟨Nat.le_of_ble_eq_true rfl, Nat.le_of_ble_eq_true rfl⟩) (ci := 11) rfl ha0 h rfl hl.1 rfl (Nat.le_of_ble_eq_true rfl) (dd_at ddX11_orders 71 rfl) ⟨Nat.le_of_ble_eq_true rfl, Nat.le_of_ble_eq_true rfl⟩) (fun r_79 d_78 H locs h hw => ?_)
              obtain ⟨hx_80, h⟩ := h
              refine r_iast S hw ho_77 hx_80 (dd_at ddX11_orders 72 rfl) (fun H locs hw => ?_)
              refine lv_aload_n S.1 S.2.1 (dd_at ddX11_orders 73 rfl) rfl (lv_at hl 2 rfl) ?_
              obtain ⟨b_81, hb_82, ho_83, h⟩ := h
              refine r_getR S hw 11 14 rfl inG11 (by decide) (List.mem_cons_of_mem _ wg156) (by decide) ha0 hb_82 (dd_at ddX11_orders 74 rfl) ?_
              refine lv_iconst (v := 3) S.1 S.2.1 (dd_at ddX11_orders 75 rfl) (by decide) ?_
              refine lv_iload_n S.1 S.2.1 (dd_at ddX11_orders 76 rfl) rfl (lv_at hl 3 rfl) ?_
              obtain ⟨hx_84, h⟩ := h
              refine r_iast S hw ho_83 hx_84 (dd_at ddX11_orders 77 rfl) (fun H locs hw => ?_)
              refine lv_aload_n S.1 S.2.1 (dd_at ddX11_orders 78 rfl) rfl (lv_at hl 2 rfl) ?_
              obtain ⟨b_85, hb_86, ho_87, h⟩ := h
              refine r_getR S hw 11 14 rfl inG11 (by decide) (List.mem_cons_of_mem _ wg156) (by decide) ha0 hb_86 (dd_at ddX11_orders 79 rfl) ?_
              refine lv_bipush (v := 8) S.1 S.2.1 (dd_at ddX11_orders 80 rfl) (by decide) ?_
              refine lv_aload_n S.1 S.2.1 (dd_at ddX11_orders 81 rfl) rfl (lv_at hl 2 rfl) ?_
              refine lv_iload S.1 S.2.1 (dd_at ddX11_orders 82 rfl) (lv_at hl 1 rfl) ?_
              refine lv_iconst (v := 2) S.1 S.2.1 (dd_at ddX11_orders 83 rfl) (by decide) ?_
              refine r_callI hw (r_runV (As := [.int (gA d b_46 (360 + (3 * v3)).toNatClampNeg), .int 2]) (rest := [.int 8, .ref b_85]) S hw (m_X11_ofPerson l D cs E (pA (pA d_78 b_75 ((2 : Int32)).toNatClampNeg r_79) b_81 ((3 : Int32)).toNatClampNeg p1) H.size a0 (gA d b_46 (360 + (3 * v3)).toNatClampNeg) 2 _) (cwV 2 S.2.2.2.2 (gV wg848 wg849 wg850 wg5 wg851) rfl rfl rfl (by decide +kernel) ⟨Nat.le_of_ble_eq_true rfl, Nat.le_of_ble_eq_true rfl⟩) (ci := 11) rfl ha0 h rfl hl.1 rfl (Nat.le_of_ble_eq_true rfl) (dd_at ddX11_orders 84 rfl) ⟨Nat.le_of_ble_eq_true rfl, Nat.le_of_ble_eq_true rfl⟩) (fun r_89 d_88 H locs h hw => ?_)
              obtain ⟨hx_90, h⟩ := h
              refine r_iast S hw ho_87 hx_90 (dd_at ddX11_orders 85 rfl) (fun H locs hw => ?_)
              refine lv_aload_n S.1 S.2.1 (dd_at ddX11_orders 86 rfl) rfl (lv_at hl 2 rfl) ?_
              obtain ⟨b_91, hb_92, ho_93, h⟩ := h
              refine r_getR S hw 11 1 rfl inG11 (by decide) (List.mem_cons_of_mem _ wg150) (by decide) ha0 hb_92 (dd_at ddX11_orders 87 rfl) ?_
              refine lv_bipush (v := 12) S.1 S.2.1 (dd_at ddX11_orders 88 rfl) (by decide) ?_
              obtain ⟨hx_94, h⟩ := h
              refine r_iald S hw ho_93 hx_94 (dd_at ddX11_orders 89 rfl) ?_
              refine lv_if_ne (tgt := 154) S.1 S.2.1 (dd_at ddX11_orders 90 rfl) (by decide) (fun hc_95 => ?_) (fun hc_95 => ?_)
              · have h := h.1 hc_95
                refine lv_aload_n S.1 S.2.1 (dd_at ddX11_orders 93 rfl) rfl (lv_at hl 2 rfl) ?_
                refine lv_iconst (v := 2) S.1 S.2.1 (dd_at ddX11_orders 94 rfl) (by decide) ?_
                refine r_callI hw (r_runV (As := [.int 2]) (rest := []) S hw (m_X11_summed l D cs E (pA d_88 b_85 ((8 : Int32)).toNatClampNeg r_89) H.size a0 2 _) (cwV 1 S.2.2.2.2 (gV wg982 wg983 wg984 wg5 wg985) rfl rfl rfl (by decide +kernel) ⟨Nat.le_of_ble_eq_true rfl, Nat.le_of_ble_eq_true rfl⟩) (ci := 11) rfl ha0 h rfl hl.1 rfl (Nat.le_of_ble_eq_true rfl) (dd_at ddX11_orders 95 rfl) ⟨Nat.le_of_ble_eq_true rfl, Nat.le_of_ble_eq_true rfl⟩) (fun r_97 d_96 H locs h hw => ?_)
                refine lv_istore (lv' := [(6, .int r_97), (5, .int (p1 - (gA d b_50 ((360 + (3 * v3)) + 1).toNatClampNeg))), (4, .int (gA d b_46 (360 + (3 * v3)).toNatClampNeg)), (0, .ref a0), (1, .int p1), (2, .int p2), (3, .int v3)]) S.1 S.2.1 (dd_at ddX11_orders 96 rfl) hl (by decide) rfl (fun ls hl => ?_)
                refine lv_aload_n S.1 S.2.1 (dd_at ddX11_orders 97 rfl) rfl (lv_at hl 3 rfl) ?_
                refine r_getI S hw 11 29 rfl inG11 (by decide) (List.mem_cons_of_mem _ wg1046) (by decide) ha0 (dd_at ddX11_orders 98 rfl) ?_
                refine lv_istore (lv' := [(7, .int (gI d_96 a0 29)), (6, .int r_97), (5, .int (p1 - (gA d b_50 ((360 + (3 * v3)) + 1).toNatClampNeg))), (4, .int (gA d b_46 (360 + (3 * v3)).toNatClampNeg)), (0, .ref a0), (1, .int p1), (2, .int p2), (3, .int v3)]) S.1 S.2.1 (dd_at ddX11_orders 99 rfl) hl (by decide) rfl (fun ls hl => ?_)
                obtain ⟨n_98, h⟩ := h
                exact tl167 n_98 v3 (gA d b_46 (360 + (3 * v3)).toNatClampNeg) (p1 - (gA d b_50 ((360 + (3 * v3)) + 1).toNatClampNeg)) r_97 (gI d_96 a0 29) d_96 H locs ls h hw (lv_sub hl [4, 5, 6, 7, 3, 2, 1, 0] rfl)
              · have h := h.2 hc_95
                refine lv_iconst (v := 0) S.1 S.2.1 (dd_at ddX11_orders 91 rfl) (by decide) ?_
                refine lv_goto (tgt := 159) S.1 S.2.1 (dd_at ddX11_orders 92 rfl) (by decide) ?_
                refine lv_istore (lv' := [(6, .int 0), (5, .int (p1 - (gA d b_50 ((360 + (3 * v3)) + 1).toNatClampNeg))), (4, .int (gA d b_46 (360 + (3 * v3)).toNatClampNeg)), (0, .ref a0), (1, .int p1), (2, .int p2), (3, .int v3)]) S.1 S.2.1 (dd_at ddX11_orders 96 rfl) hl (by decide) rfl (fun ls hl => ?_)
                refine lv_aload_n S.1 S.2.1 (dd_at ddX11_orders 97 rfl) rfl (lv_at hl 3 rfl) ?_
                refine r_getI S hw 11 29 rfl inG11 (by decide) (List.mem_cons_of_mem _ wg1046) (by decide) ha0 (dd_at ddX11_orders 98 rfl) ?_
                refine lv_istore (lv' := [(7, .int (gI (pA d_88 b_85 ((8 : Int32)).toNatClampNeg r_89) a0 29)), (6, .int 0), (5, .int (p1 - (gA d b_50 ((360 + (3 * v3)) + 1).toNatClampNeg))), (4, .int (gA d b_46 (360 + (3 * v3)).toNatClampNeg)), (0, .ref a0), (1, .int p1), (2, .int p2), (3, .int v3)]) S.1 S.2.1 (dd_at ddX11_orders 99 rfl) hl (by decide) rfl (fun ls hl => ?_)
                obtain ⟨n_99, h⟩ := h
                exact tl167 n_99 v3 (gA d b_46 (360 + (3 * v3)).toNatClampNeg) (p1 - (gA d b_50 ((360 + (3 * v3)) + 1).toNatClampNeg)) 0 (gI (pA d_88 b_85 ((8 : Int32)).toNatClampNeg r_89) a0 29) (pA d_88 b_85 ((8 : Int32)).toNatClampNeg r_89) H locs ls h hw (lv_sub hl [4, 5, 6, 7, 3, 2, 1, 0] rfl)
            · have h := h.2 hc_64
              refine lv_goto (tgt := 280) S.1 S.2.1 (dd_at ddX11_orders 52 rfl) (by decide) ?_
              refine lv_iinc (v := v3 + 1) (lv' := [(3, .int (v3 + 1)), (5, .int (p1 - (gA d b_50 ((360 + (3 * v3)) + 1).toNatClampNeg))), (4, .int (gA d b_46 (360 + (3 * v3)).toNatClampNeg)), (0, .ref a0), (1, .int p1), (2, .int p2)]) S.1 S.2.1 (dd_at ddX11_orders 164 rfl) hl (k := 5) rfl rfl (by decide) rfl (fun ls hl => ?_)
              refine lv_goto (tgt := 7) S.1 S.2.1 (dd_at ddX11_orders 165 rfl) (by decide) ?_
              exact ih7 (v3 + 1) d H locs ls h hw (lv_sub hl [3, 4, 5, 0] rfl)
  refine lv_aload_n S.1 S.2.1 (dd_at ddX11_orders 0 rfl) rfl (lv_at hl 0 rfl) ?_
  refine lv_iconst (v := 0) S.1 S.2.1 (dd_at ddX11_orders 1 rfl) (by decide) ?_
  refine r_putI S hw 11 29 (ty := .int) (v := 0) rfl inG11 tyX11 tyX11_ok nmX11 (by decide) (List.mem_cons_of_mem _ wg1046) (by decide) rfl (by decide +kernel) rfl rfl ha0 (dd_at ddX11_orders 2 rfl) (fun H locs hw => ?_)
  refine lv_iconst (v := 0) S.1 S.2.1 (dd_at ddX11_orders 3 rfl) (by decide) ?_
  refine lv_istore_n (lv' := [(3, .int 0), (0, .ref a0), (1, .int p1), (2, .int p2)]) S.1 S.2.1 (dd_at ddX11_orders 4 rfl) rfl hl (by decide) rfl (fun ls hl => ?_)
  obtain ⟨n_100, h⟩ := h
  exact tl7 n_100 0 (pI d a0 29 0) H locs ls h hw (lv_sub hl [1, 2, 3, 0] rfl)

def b_X11_income_167 (E : En) (a0 : Nat) (p1 : Int32) (p2 : Int32) (K : Int32 → Dy → Prop) (k69 : Int64 → Int32 → Dy → Prop) (v3 : Int64) (v5 : Int32) (v6 : Int64) (v8 : Int32) (d : Dy) : Prop := ((v8 = 0 → k69 (v3 + 0) (v5 + 1) d) ∧ (¬ v8 = 0 → k69 (v3 + v6) (v5 + 1) d))
def b_X11_income_104 (E : En) (a0 : Nat) (p1 : Int32) (p2 : Int32) (K : Int32 → Dy → Prop) (k69 : Int64 → Int32 → Dy → Prop) (k104 : Int64 → Int32 → Int64 → Int32 → Int32 → Dy → Prop) (v3 : Int64) (v5 : Int32) (v6 : Int64) (v8 : Int32) (v9 : Int32) (d : Dy) : Prop := (((gI d a0 29) ≤ v9 → b_X11_income_167 E a0 p1 p2 K k69 v3 v5 v6 v8 d) ∧ (¬ (gI d a0 29) ≤ v9 → ((¬ v8 = 0 → b_X11_income_167 E a0 p1 p2 K k69 v3 v5 v6 v8 d) ∧ (v8 = 0 → ∃ b_4 : Nat, eR E a0 26 = some b_4 ∧ okA E b_4 13 ∧ vp_in v9 (eN E b_4) ∧ (((gA d b_4 (v9).toNatClampNeg) < 0 → k104 v3 v5 v6 v8 (v9 + 1) d) ∧ (¬ (gA d b_4 (v9).toNatClampNeg) < 0 → ∃ b_9 : Nat, eR E a0 26 = some b_9 ∧ okA E b_9 13 ∧ vp_in v9 (eN E b_9) ∧ w_X11_ofPerson E a0 (gA d b_9 (v9).toNatClampNeg) 1 d (fun r_14 d_13 => ((0 ≤ (lg_cmp r_14.toInt64 v6) → ∃ b_16 : Nat, eR E a0 26 = some b_16 ∧ okA E b_16 13 ∧ vp_in v9 (eN E b_16) ∧ k104 v3 v5 v6 1 (v9 + 1) (pA d_13 b_16 (v9).toNatClampNeg (-1))) ∧ (¬ 0 ≤ (lg_cmp r_14.toInt64 v6) → k104 v3 v5 v6 v8 (v9 + 1) d_13)))))))))
def l_X11_income_104 (E : En) (a0 : Nat) (p1 : Int32) (p2 : Int32) (K : Int32 → Dy → Prop) (k69 : Int64 → Int32 → Dy → Prop) : Nat → Int64 → Int32 → Int64 → Int32 → Int32 → Dy → Prop
  | 0 => fun _ _ _ _ _ _ => False
  | n + 1 => b_X11_income_104 E a0 p1 p2 K k69 (l_X11_income_104 E a0 p1 p2 K k69 n)
def b_X11_income_69 (E : En) (a0 : Nat) (p1 : Int32) (p2 : Int32) (K : Int32 → Dy → Prop) (k69 : Int64 → Int32 → Dy → Prop) (v3 : Int64) (v5 : Int32) (d : Dy) : Prop := w_X11_huts E a0 d (fun r_21 d_20 => ((r_21 ≤ v5 → K v3.toInt32 d_20) ∧ (¬ r_21 ≤ v5 → w_X11_rentOf E a0 v5 p1 d_20 (fun r_24 d_23 => w_X11_stays E a0 v5 p1 p2 d_23 (fun r_26 d_25 => (∃ n_27 : Nat, l_X11_income_104 E a0 p1 p2 K k69 n_27 v3 v5 (p2.toInt64 * r_24.toInt64) r_26 0 d_25))))))
def l_X11_income_69 (E : En) (a0 : Nat) (p1 : Int32) (p2 : Int32) (K : Int32 → Dy → Prop) : Nat → Int64 → Int32 → Dy → Prop
  | 0 => fun _ _ _ => False
  | n + 1 => b_X11_income_69 E a0 p1 p2 K (l_X11_income_69 E a0 p1 p2 K n)
def b_X11_income_33 (E : En) (a0 : Nat) (p1 : Int32) (p2 : Int32) (K : Int32 → Dy → Prop) (s0 : Nat) (s1 : Int32) (d : Dy) : Prop := okO E s0 11 ∧ w_X11_throwsIf E s0 s1 2 d (fun r_29 d_28 => ((r_29 = 0 → ∃ b_31 : Nat, eR E a0 1 = some b_31 ∧ okA E b_31 13 ∧ vp_in 3 (eN E b_31) ∧ w_X11_goes E a0 p1 (gA d_28 b_31 ((3 : Int32)).toNatClampNeg) d_28 (fun d_35 => ∃ b_37 : Nat, eR E a0 1 = some b_37 ∧ okA E b_37 13 ∧ vp_in 3 (eN E b_37) ∧ w_X11_orders E a0 p1 (gA d_35 b_37 ((3 : Int32)).toNatClampNeg) d_35 (fun d_41 => (∃ n_43 : Nat, l_X11_income_69 E a0 p1 p2 K n_43 0 0 d_41)))) ∧ (¬ r_29 = 0 → K 0 d_28)))
def w_X11_income (E : En) (a0 : Nat) (p1 : Int32) (p2 : Int32) (d : Dy) (K : Int32 → Dy → Prop) : Prop := okO E a0 11 ∧ w_X11_noYear E p1 (pI d a0 0 0) (fun r_45 d_44 => w_X11_throwsIf E a0 r_45 1 d_44 (fun r_47 d_46 => ((¬ r_47 = 0 → K 0 d_46) ∧ (r_47 = 0 → w_X11_in E p2 1 9 d_46 (fun r_50 d_49 => ((¬ r_50 = 0 → b_X11_income_33 E a0 p1 p2 K a0 0 d_49) ∧ (r_50 = 0 → b_X11_income_33 E a0 p1 p2 K a0 1 d_49)))))))
abbrev rm_X11_income : Room := { frames := 7, cells := 0, slots := 0, locals := 167 }
set_option maxRecDepth 100000 in
set_option maxHeartbeats 4000000 in
theorem m_X11_income (l : Launch) (D : va_G) (cs : Nat → ClassId) (E : En) (d : Dy) (sz : Nat) (a0 : Nat) (p1 : Int32) (p2 : Int32) (K : Int32 → Dy → Prop) : CI l yX11_income (.code yX11_income cX11_income 10 (some .int) :: wsL_law) rm_X11_income D cs E d sz [.ref a0, .int p1, .int p2] (w_X11_income E a0 p1 p2 d K) K := by
  refine e_of (cc := cX11_income) (maxL := 10) (ret := (some .int)) (own := RX11) (by decide) rfl rfl (Nat.le_of_ble_eq_true rfl) ?_
  intro p e s m below meth c S hr hlocks hsz H locs hw h ls hl
  have hl : lv_has ls 10 [(0, .ref a0), (1, .int p1), (2, .int p2)] := hl
  unfold w_X11_income at h
  obtain ⟨ha0, h⟩ := h
  have tl69 : ∀ (n : Nat) (v3 : Int64) (v5 : Int32) (d : Dy) (H : Heap) (locs : List Loc) (ls : Array Slot), l_X11_income_69 E a0 p1 p2 K n v3 v5 d → Wd D cs (AW E sz) s.heap s E d H locs → lv_has ls 10 [(0, .ref a0), (1, .int p1), (2, .int p2), (3, .long v3), (5, .int v5)] → W p l e rm_X11_income s m ([.ref a0, .int p1, .int p2] : List Value).toArray below meth c H locs 0 0 (MQ below (va_Qi K (OutW D cs E (AW E sz)) (AW E sz)) ([.ref a0, .int p1, .int p2] : List Value).toArray s rm_X11_income.cells rm_X11_income.slots (AW E sz)) (F0 m 69 ls []) := by
    intro n69
    induction n69 with
    | zero => intro v3 v5 d H locs ls h; exact absurd h id
    | succ n69 ih69 =>
      have tb167 : ∀ (v3 : Int64) (v5 : Int32) (v6 : Int64) (v8 : Int32) (d : Dy) (H : Heap) (locs : List Loc) (ls : Array Slot), b_X11_income_167 E a0 p1 p2 K (l_X11_income_69 E a0 p1 p2 K n69) v3 v5 v6 v8 d → Wd D cs (AW E sz) s.heap s E d H locs → lv_has ls 10 [(0, .ref a0), (1, .int p1), (2, .int p2), (3, .long v3), (5, .int v5), (6, .long v6), (8, .int v8)] → W p l e rm_X11_income s m ([.ref a0, .int p1, .int p2] : List Value).toArray below meth c H locs 0 0 (MQ below (va_Qi K (OutW D cs E (AW E sz)) (AW E sz)) ([.ref a0, .int p1, .int p2] : List Value).toArray s rm_X11_income.cells rm_X11_income.slots (AW E sz)) (F0 m 167 ls []) := by
        intro v3 v5 v6 v8 d H locs ls h hw hl
        unfold b_X11_income_167 at h
        refine lv_lload_n S.1 S.2.1 (dd_at ddX11_income 94 rfl) rfl (lv_at hl 3 rfl) ?_
        refine lv_iload S.1 S.2.1 (dd_at ddX11_income 95 rfl) (lv_at hl 6 rfl) ?_
        refine lv_if_eq (tgt := 178) S.1 S.2.1 (dd_at ddX11_income 96 rfl) (by decide) (fun hc_1 => ?_) (fun hc_1 => ?_)
        · have h := h.1 hc_1
          refine lv_lconst (v := 0) S.1 S.2.1 (dd_at ddX11_income 99 rfl) (by decide) ?_
          refine lv_ladd S.1 S.2.1 (dd_at ddX11_income 100 rfl) ?_
          refine lv_lstore_n (lv' := [(3, .long (v3 + 0)), (0, .ref a0), (1, .int p1), (2, .int p2), (5, .int v5), (6, .long v6), (8, .int v8)]) S.1 S.2.1 (dd_at ddX11_income 101 rfl) rfl hl (by decide) rfl (fun ls hl => ?_)
          refine lv_iinc (v := v5 + 1) (lv' := [(5, .int (v5 + 1)), (3, .long (v3 + 0)), (0, .ref a0), (1, .int p1), (2, .int p2), (6, .long v6), (8, .int v8)]) S.1 S.2.1 (dd_at ddX11_income 102 rfl) hl (k := 4) rfl rfl (by decide) rfl (fun ls hl => ?_)
          refine lv_goto (tgt := 69) S.1 S.2.1 (dd_at ddX11_income 103 rfl) (by decide) ?_
          exact ih69 (v3 + 0) (v5 + 1) d H locs ls h hw (lv_sub hl [2, 3, 4, 1, 0] rfl)
        · have h := h.2 hc_1
          refine lv_lload S.1 S.2.1 (dd_at ddX11_income 97 rfl) (lv_at hl 5 rfl) ?_
          refine lv_goto (tgt := 179) S.1 S.2.1 (dd_at ddX11_income 98 rfl) (by decide) ?_
          refine lv_ladd S.1 S.2.1 (dd_at ddX11_income 100 rfl) ?_
          refine lv_lstore_n (lv' := [(3, .long (v3 + v6)), (0, .ref a0), (1, .int p1), (2, .int p2), (5, .int v5), (6, .long v6), (8, .int v8)]) S.1 S.2.1 (dd_at ddX11_income 101 rfl) rfl hl (by decide) rfl (fun ls hl => ?_)
          refine lv_iinc (v := v5 + 1) (lv' := [(5, .int (v5 + 1)), (3, .long (v3 + v6)), (0, .ref a0), (1, .int p1), (2, .int p2), (6, .long v6), (8, .int v8)]) S.1 S.2.1 (dd_at ddX11_income 102 rfl) hl (k := 4) rfl rfl (by decide) rfl (fun ls hl => ?_)
          refine lv_goto (tgt := 69) S.1 S.2.1 (dd_at ddX11_income 103 rfl) (by decide) ?_
          exact ih69 (v3 + v6) (v5 + 1) d H locs ls h hw (lv_sub hl [2, 3, 4, 1, 0] rfl)
      have tl104 : ∀ (n : Nat) (v3 : Int64) (v5 : Int32) (v6 : Int64) (v8 : Int32) (v9 : Int32) (d : Dy) (H : Heap) (locs : List Loc) (ls : Array Slot), l_X11_income_104 E a0 p1 p2 K (l_X11_income_69 E a0 p1 p2 K n69) n v3 v5 v6 v8 v9 d → Wd D cs (AW E sz) s.heap s E d H locs → lv_has ls 10 [(0, .ref a0), (1, .int p1), (2, .int p2), (3, .long v3), (5, .int v5), (6, .long v6), (8, .int v8), (9, .int v9)] → W p l e rm_X11_income s m ([.ref a0, .int p1, .int p2] : List Value).toArray below meth c H locs 0 0 (MQ below (va_Qi K (OutW D cs E (AW E sz)) (AW E sz)) ([.ref a0, .int p1, .int p2] : List Value).toArray s rm_X11_income.cells rm_X11_income.slots (AW E sz)) (F0 m 104 ls []) := by
        intro n104
        induction n104 with
        | zero => intro v3 v5 v6 v8 v9 d H locs ls h; exact absurd h id
        | succ n104 ih104 =>
          intro v3 v5 v6 v8 v9 d H locs ls h hw hl
          have h : b_X11_income_104 E a0 p1 p2 K (l_X11_income_69 E a0 p1 p2 K n69) (l_X11_income_104 E a0 p1 p2 K (l_X11_income_69 E a0 p1 p2 K n69) n104) v3 v5 v6 v8 v9 d := h
          unfold b_X11_income_104 at h
          refine lv_iload S.1 S.2.1 (dd_at ddX11_income 62 rfl) (lv_at hl 7 rfl) ?_
          refine lv_aload_n S.1 S.2.1 (dd_at ddX11_income 63 rfl) rfl (lv_at hl 0 rfl) ?_
          refine r_getI S hw 11 29 rfl inG11 (by decide) (List.mem_cons_of_mem _ wg1046) (by decide) ha0 (dd_at ddX11_income 64 rfl) ?_
          refine lv_icmp_ge (tgt := 167) S.1 S.2.1 (dd_at ddX11_income 65 rfl) (by decide) (fun hc_2 => ?_) (fun hc_2 => ?_)
          · have h := h.1 hc_2
            exact tb167 v3 v5 v6 v8 d H locs ls h hw (lv_sub hl [0, 1, 2, 3, 4, 5, 6] rfl)
          · have h := h.2 hc_2
            refine lv_iload S.1 S.2.1 (dd_at ddX11_income 66 rfl) (lv_at hl 6 rfl) ?_
            refine lv_if_ne (tgt := 167) S.1 S.2.1 (dd_at ddX11_income 67 rfl) (by decide) (fun hc_3 => ?_) (fun hc_3 => ?_)
            · have h := h.1 hc_3
              exact tb167 v3 v5 v6 v8 d H locs ls h hw (lv_sub hl [0, 1, 2, 3, 4, 5, 6] rfl)
            · have h := h.2 hc_3
              refine lv_aload_n S.1 S.2.1 (dd_at ddX11_income 68 rfl) rfl (lv_at hl 0 rfl) ?_
              obtain ⟨b_4, hb_5, ho_6, h⟩ := h
              refine r_getR S hw 11 26 rfl inG11 (by decide) (List.mem_cons_of_mem _ wg168) (by decide) ha0 hb_5 (dd_at ddX11_income 69 rfl) ?_
              refine lv_iload S.1 S.2.1 (dd_at ddX11_income 70 rfl) (lv_at hl 7 rfl) ?_
              obtain ⟨hx_7, h⟩ := h
              refine r_iald S hw ho_6 hx_7 (dd_at ddX11_income 71 rfl) ?_
              refine lv_if_lt (tgt := 161) S.1 S.2.1 (dd_at ddX11_income 72 rfl) (by decide) (fun hc_8 => ?_) (fun hc_8 => ?_)
              · have h := h.1 hc_8
                refine lv_iinc (v := v9 + 1) (lv' := [(9, .int (v9 + 1)), (0, .ref a0), (1, .int p1), (2, .int p2), (3, .long v3), (5, .int v5), (6, .long v6), (8, .int v8)]) S.1 S.2.1 (dd_at ddX11_income 92 rfl) hl (k := 7) rfl rfl (by decide) rfl (fun ls hl => ?_)
                refine lv_goto (tgt := 104) S.1 S.2.1 (dd_at ddX11_income 93 rfl) (by decide) ?_
                exact ih104 v3 v5 v6 v8 (v9 + 1) d H locs ls h hw (lv_sub hl [1, 2, 3, 4, 5, 6, 7, 0] rfl)
              · have h := h.2 hc_8
                refine lv_aload_n S.1 S.2.1 (dd_at ddX11_income 73 rfl) rfl (lv_at hl 0 rfl) ?_
                refine lv_aload_n S.1 S.2.1 (dd_at ddX11_income 74 rfl) rfl (lv_at hl 0 rfl) ?_
                obtain ⟨b_9, hb_10, ho_11, h⟩ := h
                refine r_getR S hw 11 26 rfl inG11 (by decide) (List.mem_cons_of_mem _ wg168) (by decide) ha0 hb_10 (dd_at ddX11_income 75 rfl) ?_
                refine lv_iload S.1 S.2.1 (dd_at ddX11_income 76 rfl) (lv_at hl 7 rfl) ?_
                obtain ⟨hx_12, h⟩ := h
                refine r_iald S hw ho_11 hx_12 (dd_at ddX11_income 77 rfl) ?_
                refine lv_iconst (v := 1) S.1 S.2.1 (dd_at ddX11_income 78 rfl) (by decide) ?_
                refine r_callI hw (r_runV (As := [.int (gA d b_9 (v9).toNatClampNeg), .int 1]) (rest := []) S hw (m_X11_ofPerson l D cs E d H.size a0 (gA d b_9 (v9).toNatClampNeg) 1 _) (cwV 2 S.2.2.2.2 (gV wg848 wg849 wg850 wg5 wg851) rfl rfl rfl (by decide +kernel) ⟨Nat.le_of_ble_eq_true rfl, Nat.le_of_ble_eq_true rfl⟩) (ci := 11) rfl ha0 h rfl hl.1 rfl (Nat.le_of_ble_eq_true rfl) (dd_at ddX11_income 79 rfl) ⟨Nat.le_of_ble_eq_true rfl, Nat.le_of_ble_eq_true rfl⟩) (fun r_14 d_13 H locs h hw => ?_)
                refine lv_i2l S.1 S.2.1 (dd_at ddX11_income 80 rfl) rfl ?_
                refine lv_lload S.1 S.2.1 (dd_at ddX11_income 81 rfl) (lv_at hl 5 rfl) ?_
                refine W.lcmp S.1 S.2.1 (dd_at ddX11_income 82 rfl) ?_
                refine lv_if_ge (tgt := 150) S.1 S.2.1 (dd_at ddX11_income 83 rfl) (by decide) (fun hc_15 => ?_) (fun hc_15 => ?_)
                · have h := h.1 hc_15
                  refine lv_iconst (v := 1) S.1 S.2.1 (dd_at ddX11_income 85 rfl) (by decide) ?_
                  refine lv_istore (lv' := [(8, .int 1), (0, .ref a0), (1, .int p1), (2, .int p2), (3, .long v3), (5, .int v5), (6, .long v6), (9, .int v9)]) S.1 S.2.1 (dd_at ddX11_income 86 rfl) hl (by decide) rfl (fun ls hl => ?_)
                  refine lv_aload_n S.1 S.2.1 (dd_at ddX11_income 87 rfl) rfl (lv_at hl 1 rfl) ?_
                  obtain ⟨b_16, hb_17, ho_18, h⟩ := h
                  refine r_getR S hw 11 26 rfl inG11 (by decide) (List.mem_cons_of_mem _ wg168) (by decide) ha0 hb_17 (dd_at ddX11_income 88 rfl) ?_
                  refine lv_iload S.1 S.2.1 (dd_at ddX11_income 89 rfl) (lv_at hl 7 rfl) ?_
                  refine lv_iconst (v := -1) S.1 S.2.1 (dd_at ddX11_income 90 rfl) (by decide) ?_
                  obtain ⟨hx_19, h⟩ := h
                  refine r_iast S hw ho_18 hx_19 (dd_at ddX11_income 91 rfl) (fun H locs hw => ?_)
                  refine lv_iinc (v := v9 + 1) (lv' := [(9, .int (v9 + 1)), (8, .int 1), (0, .ref a0), (1, .int p1), (2, .int p2), (3, .long v3), (5, .int v5), (6, .long v6)]) S.1 S.2.1 (dd_at ddX11_income 92 rfl) hl (k := 7) rfl rfl (by decide) rfl (fun ls hl => ?_)
                  refine lv_goto (tgt := 104) S.1 S.2.1 (dd_at ddX11_income 93 rfl) (by decide) ?_
                  exact ih104 v3 v5 v6 1 (v9 + 1) (pA d_13 b_16 (v9).toNatClampNeg (-1)) H locs ls h hw (lv_sub hl [2, 3, 4, 5, 6, 7, 1, 0] rfl)
                · have h := h.2 hc_15
                  refine lv_goto (tgt := 161) S.1 S.2.1 (dd_at ddX11_income 84 rfl) (by decide) ?_
                  refine lv_iinc (v := v9 + 1) (lv' := [(9, .int (v9 + 1)), (0, .ref a0), (1, .int p1), (2, .int p2), (3, .long v3), (5, .int v5), (6, .long v6), (8, .int v8)]) S.1 S.2.1 (dd_at ddX11_income 92 rfl) hl (k := 7) rfl rfl (by decide) rfl (fun ls hl => ?_)
                  refine lv_goto (tgt := 104) S.1 S.2.1 (dd_at ddX11_income 93 rfl) (by decide) ?_
                  exact ih104 v3 v5 v6 v8 (v9 + 1) d_13 H locs ls h hw (lv_sub hl [1, 2, 3, 4, 5, 6, 7, 0] rfl)
      intro v3 v5 d H locs ls h hw hl
      have h : b_X11_income_69 E a0 p1 p2 K (l_X11_income_69 E a0 p1 p2 K n69) v3 v5 d := h
      unfold b_X11_income_69 at h
      refine lv_iload S.1 S.2.1 (dd_at ddX11_income 41 rfl) (lv_at hl 4 rfl) ?_
      refine lv_aload_n S.1 S.2.1 (dd_at ddX11_income 42 rfl) rfl (lv_at hl 0 rfl) ?_
      refine r_callI hw (r_runV (As := []) (rest := [.int v5]) S hw (m_X11_huts l D cs E d H.size a0 _) (cwV 0 S.2.2.2.2 (gV wg596 wg597 wg598 wg5 wg599) rfl rfl rfl (by decide +kernel) ⟨Nat.le_of_ble_eq_true rfl, Nat.le_of_ble_eq_true rfl⟩) (ci := 11) rfl ha0 h rfl hl.1 rfl (Nat.le_of_ble_eq_true rfl) (dd_at ddX11_income 43 rfl) ⟨Nat.le_of_ble_eq_true rfl, Nat.le_of_ble_eq_true rfl⟩) (fun r_21 d_20 H locs h hw => ?_)
      refine lv_icmp_ge (tgt := 187) S.1 S.2.1 (dd_at ddX11_income 44 rfl) (by decide) (fun hc_22 => ?_) (fun hc_22 => ?_)
      · have h := h.1 hc_22
        refine lv_lload_n S.1 S.2.1 (dd_at ddX11_income 104 rfl) rfl (lv_at hl 3 rfl) ?_
        refine lv_l2i S.1 S.2.1 (dd_at ddX11_income 105 rfl) rfl ?_
        exact e_I S hr hlocks hw h (dd_at ddX11_income 106 rfl)
      · have h := h.2 hc_22
        refine lv_iload_n S.1 S.2.1 (dd_at ddX11_income 45 rfl) rfl (lv_at hl 2 rfl) ?_
        refine lv_i2l S.1 S.2.1 (dd_at ddX11_income 46 rfl) rfl ?_
        refine lv_aload_n S.1 S.2.1 (dd_at ddX11_income 47 rfl) rfl (lv_at hl 0 rfl) ?_
        refine lv_iload S.1 S.2.1 (dd_at ddX11_income 48 rfl) (lv_at hl 4 rfl) ?_
        refine lv_iload_n S.1 S.2.1 (dd_at ddX11_income 49 rfl) rfl (lv_at hl 1 rfl) ?_
        refine r_callI hw (r_runV (As := [.int v5, .int p1]) (rest := [.long p2.toInt64]) S hw (m_X11_rentOf l D cs E d_20 H.size a0 v5 p1 _) (cwV 2 S.2.2.2.2 (gV wg978 wg979 wg980 wg5 wg981) rfl rfl rfl (by decide +kernel) ⟨Nat.le_of_ble_eq_true rfl, Nat.le_of_ble_eq_true rfl⟩) (ci := 11) rfl ha0 h rfl hl.1 rfl (Nat.le_of_ble_eq_true rfl) (dd_at ddX11_income 50 rfl) ⟨Nat.le_of_ble_eq_true rfl, Nat.le_of_ble_eq_true rfl⟩) (fun r_24 d_23 H locs h hw => ?_)
        refine lv_i2l S.1 S.2.1 (dd_at ddX11_income 51 rfl) rfl ?_
        refine lv_lmul S.1 S.2.1 (dd_at ddX11_income 52 rfl) ?_
        refine lv_lstore (lv' := [(6, .long (p2.toInt64 * r_24.toInt64)), (0, .ref a0), (1, .int p1), (2, .int p2), (3, .long v3), (5, .int v5)]) S.1 S.2.1 (dd_at ddX11_income 53 rfl) hl (by decide) rfl (fun ls hl => ?_)
        refine lv_aload_n S.1 S.2.1 (dd_at ddX11_income 54 rfl) rfl (lv_at hl 1 rfl) ?_
        refine lv_iload S.1 S.2.1 (dd_at ddX11_income 55 rfl) (lv_at hl 5 rfl) ?_
        refine lv_iload_n S.1 S.2.1 (dd_at ddX11_income 56 rfl) rfl (lv_at hl 2 rfl) ?_
        refine lv_iload_n S.1 S.2.1 (dd_at ddX11_income 57 rfl) rfl (lv_at hl 3 rfl) ?_
        refine r_callI hw (r_runV (As := [.int v5, .int p1, .int p2]) (rest := []) S hw (m_X11_stays l D cs E d_23 H.size a0 v5 p1 p2 _) (cwV 3 S.2.2.2.2 (gV wg1002 wg1003 wg1004 wg5 wg1005) rfl rfl rfl (by decide +kernel) ⟨Nat.le_of_ble_eq_true rfl, Nat.le_of_ble_eq_true rfl⟩) (ci := 11) rfl ha0 h rfl hl.1 rfl (Nat.le_of_ble_eq_true rfl) (dd_at ddX11_income 58 rfl) ⟨Nat.le_of_ble_eq_true rfl, Nat.le_of_ble_eq_true rfl⟩) (fun r_26 d_25 H locs h hw => ?_)
        refine lv_istore (lv' := [(8, .int r_26), (6, .long (p2.toInt64 * r_24.toInt64)), (0, .ref a0), (1, .int p1), (2, .int p2), (3, .long v3), (5, .int v5)]) S.1 S.2.1 (dd_at ddX11_income 59 rfl) hl (by decide) rfl (fun ls hl => ?_)
        refine lv_iconst (v := 0) S.1 S.2.1 (dd_at ddX11_income 60 rfl) (by decide) ?_
        refine lv_istore (lv' := [(9, .int 0), (8, .int r_26), (6, .long (p2.toInt64 * r_24.toInt64)), (0, .ref a0), (1, .int p1), (2, .int p2), (3, .long v3), (5, .int v5)]) S.1 S.2.1 (dd_at ddX11_income 61 rfl) hl (by decide) rfl (fun ls hl => ?_)
        obtain ⟨n_27, h⟩ := h
        exact tl104 n_27 v3 v5 (p2.toInt64 * r_24.toInt64) r_26 0 d_25 H locs ls h hw (lv_sub hl [3, 4, 5, 6, 7, 2, 1, 0] rfl)
  have tb33 : ∀ (s0 : Nat) (s1 : Int32) (d : Dy) (H : Heap) (locs : List Loc) (ls : Array Slot), b_X11_income_33 E a0 p1 p2 K s0 s1 d → Wd D cs (AW E sz) s.heap s E d H locs → lv_has ls 10 [(0, .ref a0), (1, .int p1), (2, .int p2)] → W p l e rm_X11_income s m ([.ref a0, .int p1, .int p2] : List Value).toArray below meth c H locs 0 0 (MQ below (va_Qi K (OutW D cs E (AW E sz)) (AW E sz)) ([.ref a0, .int p1, .int p2] : List Value).toArray s rm_X11_income.cells rm_X11_income.slots (AW E sz)) (F0 m 33 ls [.int s1, .ref s0]) := by
    intro s0 s1 d H locs ls h hw hl
    unfold b_X11_income_33 at h
    obtain ⟨hos0, h⟩ := h
    refine lv_iconst (v := 2) S.1 S.2.1 (dd_at ddX11_income 18 rfl) (by decide) ?_
    refine r_callI hw (r_runV (As := [.int s1, .int 2]) (rest := []) S hw (m_X11_throwsIf l D cs E d H.size s0 s1 2 _) (cwV 2 S.2.2.2.2 (gV wg421 wg422 wg423 wg5 wg424) rfl rfl rfl (by decide +kernel) ⟨Nat.le_of_ble_eq_true rfl, Nat.le_of_ble_eq_true rfl⟩) (ci := 11) rfl hos0 h rfl hl.1 rfl (Nat.le_of_ble_eq_true rfl) (dd_at ddX11_income 19 rfl) ⟨Nat.le_of_ble_eq_true rfl, Nat.le_of_ble_eq_true rfl⟩) (fun r_29 d_28 H locs h hw => ?_)
    refine lv_if_eq (tgt := 42) S.1 S.2.1 (dd_at ddX11_income 20 rfl) (by decide) (fun hc_30 => ?_) (fun hc_30 => ?_)
    · have h := h.1 hc_30
      refine lv_aload_n S.1 S.2.1 (dd_at ddX11_income 23 rfl) rfl (lv_at hl 0 rfl) ?_
      refine lv_iload_n S.1 S.2.1 (dd_at ddX11_income 24 rfl) rfl (lv_at hl 1 rfl) ?_
      refine lv_aload_n S.1 S.2.1 (dd_at ddX11_income 25 rfl) rfl (lv_at hl 0 rfl) ?_
      obtain ⟨b_31, hb_32, ho_33, h⟩ := h
      refine r_getR S hw 11 1 rfl inG11 (by decide) (List.mem_cons_of_mem _ wg150) (by decide) ha0 hb_32 (dd_at ddX11_income 26 rfl) ?_
      refine lv_iconst (v := 3) S.1 S.2.1 (dd_at ddX11_income 27 rfl) (by decide) ?_
      obtain ⟨hx_34, h⟩ := h
      refine r_iald S hw ho_33 hx_34 (dd_at ddX11_income 28 rfl) ?_
      refine r_callV hw (r_runV (As := [.int p1, .int (gA d_28 b_31 ((3 : Int32)).toNatClampNeg)]) (rest := []) S hw (m_X11_goes l D cs E d_28 H.size a0 p1 (gA d_28 b_31 ((3 : Int32)).toNatClampNeg) _) (cwV 2 S.2.2.2.2 (gV wg814 wg815 wg816 wg5 wg817) rfl rfl rfl (by decide +kernel) ⟨Nat.le_of_ble_eq_true rfl, Nat.le_of_ble_eq_true rfl⟩) (ci := 11) rfl ha0 h rfl hl.1 rfl (Nat.le_of_ble_eq_true rfl) (dd_at ddX11_income 29 rfl) ⟨Nat.le_of_ble_eq_true rfl, Nat.le_of_ble_eq_true rfl⟩) (fun d_35 H locs h hw => ?_)
      refine lv_aload_n S.1 S.2.1 (dd_at ddX11_income 30 rfl) rfl (lv_at hl 0 rfl) ?_
      refine lv_iload_n S.1 S.2.1 (dd_at ddX11_income 31 rfl) rfl (lv_at hl 1 rfl) ?_
      refine lv_aload_n S.1 S.2.1 (dd_at ddX11_income 32 rfl) rfl (lv_at hl 0 rfl) ?_
      obtain ⟨b_37, hb_38, ho_39, h⟩ := h
      refine r_getR S hw 11 1 rfl inG11 (by decide) (List.mem_cons_of_mem _ wg150) (by decide) ha0 hb_38 (dd_at ddX11_income 33 rfl) ?_
      refine lv_iconst (v := 3) S.1 S.2.1 (dd_at ddX11_income 34 rfl) (by decide) ?_
      obtain ⟨hx_40, h⟩ := h
      refine r_iald S hw ho_39 hx_40 (dd_at ddX11_income 35 rfl) ?_
      refine r_callV hw (r_runV (As := [.int p1, .int (gA d_35 b_37 ((3 : Int32)).toNatClampNeg)]) (rest := []) S hw (m_X11_orders l D cs E d_35 H.size a0 p1 (gA d_35 b_37 ((3 : Int32)).toNatClampNeg) _) (cwV 2 S.2.2.2.2 (gV wg1047 wg1048 wg1049 wg5 wg1050) rfl rfl rfl (by decide +kernel) ⟨Nat.le_of_ble_eq_true rfl, Nat.le_of_ble_eq_true rfl⟩) (ci := 11) rfl ha0 h rfl hl.1 rfl (Nat.le_of_ble_eq_true rfl) (dd_at ddX11_income 36 rfl) ⟨Nat.le_of_ble_eq_true rfl, Nat.le_of_ble_eq_true rfl⟩) (fun d_41 H locs h hw => ?_)
      refine lv_lconst (v := 0) S.1 S.2.1 (dd_at ddX11_income 37 rfl) (by decide) ?_
      refine lv_lstore_n (lv' := [(3, .long 0), (0, .ref a0), (1, .int p1), (2, .int p2)]) S.1 S.2.1 (dd_at ddX11_income 38 rfl) rfl hl (by decide) rfl (fun ls hl => ?_)
      refine lv_iconst (v := 0) S.1 S.2.1 (dd_at ddX11_income 39 rfl) (by decide) ?_
      refine lv_istore (lv' := [(5, .int 0), (3, .long 0), (0, .ref a0), (1, .int p1), (2, .int p2)]) S.1 S.2.1 (dd_at ddX11_income 40 rfl) hl (by decide) rfl (fun ls hl => ?_)
      obtain ⟨n_43, h⟩ := h
      exact tl69 n_43 0 0 d_41 H locs ls h hw (lv_sub hl [2, 3, 4, 1, 0] rfl)
    · have h := h.2 hc_30
      refine lv_iconst (v := 0) S.1 S.2.1 (dd_at ddX11_income 21 rfl) (by decide) ?_
      exact e_I S hr hlocks hw h (dd_at ddX11_income 22 rfl)
  refine lv_aload_n S.1 S.2.1 (dd_at ddX11_income 0 rfl) rfl (lv_at hl 0 rfl) ?_
  refine lv_iconst (v := 0) S.1 S.2.1 (dd_at ddX11_income 1 rfl) (by decide) ?_
  refine r_putI S hw 11 0 (ty := .int) (v := 0) rfl inG11 tyX11 tyX11_ok nmX11 (by decide) (List.mem_cons_of_mem _ wg201) (by decide) rfl (by decide +kernel) rfl rfl ha0 (dd_at ddX11_income 2 rfl) (fun H locs hw => ?_)
  refine lv_aload_n S.1 S.2.1 (dd_at ddX11_income 3 rfl) rfl (lv_at hl 0 rfl) ?_
  refine lv_iload_n S.1 S.2.1 (dd_at ddX11_income 4 rfl) rfl (lv_at hl 1 rfl) ?_
  refine r_callI hw (r_runS (As := [.int p1]) (rest := [.ref a0]) S hw (m_X11_noYear l D cs E (pI d a0 0 0) H.size p1 _) (va_cwS 1 S.2.2.2.2 (gS wg555 wg556 wg5 wg557) rfl rfl rfl (by decide +kernel) ⟨Nat.le_of_ble_eq_true rfl, Nat.le_of_ble_eq_true rfl⟩) h rfl hl.1 rfl (Nat.le_of_ble_eq_true rfl) (dd_at ddX11_income 5 rfl) ⟨Nat.le_of_ble_eq_true rfl, Nat.le_of_ble_eq_true rfl⟩) (fun r_45 d_44 H locs h hw => ?_)
  refine lv_iconst (v := 1) S.1 S.2.1 (dd_at ddX11_income 6 rfl) (by decide) ?_
  refine r_callI hw (r_runV (As := [.int r_45, .int 1]) (rest := []) S hw (m_X11_throwsIf l D cs E d_44 H.size a0 r_45 1 _) (cwV 2 S.2.2.2.2 (gV wg421 wg422 wg423 wg5 wg424) rfl rfl rfl (by decide +kernel) ⟨Nat.le_of_ble_eq_true rfl, Nat.le_of_ble_eq_true rfl⟩) (ci := 11) rfl ha0 h rfl hl.1 rfl (Nat.le_of_ble_eq_true rfl) (dd_at ddX11_income 7 rfl) ⟨Nat.le_of_ble_eq_true rfl, Nat.le_of_ble_eq_true rfl⟩) (fun r_47 d_46 H locs h hw => ?_)
  refine lv_if_ne (tgt := 40) S.1 S.2.1 (dd_at ddX11_income 8 rfl) (by decide) (fun hc_48 => ?_) (fun hc_48 => ?_)
  · have h := h.1 hc_48
    refine lv_iconst (v := 0) S.1 S.2.1 (dd_at ddX11_income 21 rfl) (by decide) ?_
    exact e_I S hr hlocks hw h (dd_at ddX11_income 22 rfl)
  · have h := h.2 hc_48
    refine lv_aload_n S.1 S.2.1 (dd_at ddX11_income 9 rfl) rfl (lv_at hl 0 rfl) ?_
    refine lv_iload_n S.1 S.2.1 (dd_at ddX11_income 10 rfl) rfl (lv_at hl 2 rfl) ?_
    refine lv_iconst (v := 1) S.1 S.2.1 (dd_at ddX11_income 11 rfl) (by decide) ?_
    refine lv_bipush (v := 9) S.1 S.2.1 (dd_at ddX11_income 12 rfl) (by decide) ?_
    refine r_callI hw (r_runS (As := [.int p2, .int 1, .int 9]) (rest := [.ref a0]) S hw (m_X11_in l D cs E d_46 H.size p2 1 9 _) (va_cwS 3 S.2.2.2.2 (gS wg418 wg419 wg5 wg420) rfl rfl rfl (by decide +kernel) ⟨Nat.le_of_ble_eq_true rfl, Nat.le_of_ble_eq_true rfl⟩) h rfl hl.1 rfl (Nat.le_of_ble_eq_true rfl) (dd_at ddX11_income 13 rfl) ⟨Nat.le_of_ble_eq_true rfl, Nat.le_of_ble_eq_true rfl⟩) (fun r_50 d_49 H locs h hw => ?_)
    refine lv_if_ne (tgt := 32) S.1 S.2.1 (dd_at ddX11_income 14 rfl) (by decide) (fun hc_51 => ?_) (fun hc_51 => ?_)
    · have h := h.1 hc_51
      refine lv_iconst (v := 0) S.1 S.2.1 (dd_at ddX11_income 17 rfl) (by decide) ?_
      exact tb33 a0 0 d_49 H locs ls h hw (lv_sub hl [0, 1, 2] rfl)
    · have h := h.2 hc_51
      refine lv_iconst (v := 1) S.1 S.2.1 (dd_at ddX11_income 15 rfl) (by decide) ?_
      refine lv_goto (tgt := 33) S.1 S.2.1 (dd_at ddX11_income 16 rfl) (by decide) ?_
      exact tb33 a0 1 d_49 H locs ls h hw (lv_sub hl [0, 1, 2] rfl)
