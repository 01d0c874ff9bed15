def w_X11_fault (E : En) (a0 : Nat) (d : Dy) (K : Int32 → Dy → Prop) : Prop := okO E a0 11 ∧ K (gI (pI d a0 0 0) a0 10) (pI d a0 0 0)
abbrev rm_X11_fault : Room := { frames := 0, cells := 0, slots := 0, locals := 0 }
set_option maxRecDepth 100000 in
set_option maxHeartbeats 4000000 in
theorem m_X11_fault (l : Launch) (D : va_G) (cs : Nat → ClassId) (E : En) (d : Dy) (sz : Nat) (a0 : Nat) (K : Int32 → Dy → Prop) : CI l yX11_fault (.code yX11_fault cX11_fault 1 (some .int) :: wsL_law) rm_X11_fault D cs E d sz [.ref a0] (w_X11_fault E a0 d K) K := by
  refine e_of (cc := cX11_fault) (maxL := 1) (ret := (some .int)) (own := RX11) (by decide) rfl rfl (Nat.le_of_ble_eq_true rfl) ?_
  intro p e s m below meth c S hr hlocks hsz H locs hw h ls hl
  have hl : lv_has ls 1 [(0, .ref a0)] := hl
  unfold w_X11_fault at h
  obtain ⟨ha0, h⟩ := h
  refine lv_aload_n S.1 S.2.1 (dd_at ddX11_fault 0 rfl) rfl (lv_at hl 0 rfl) ?_
  refine lv_iconst (v := 0) S.1 S.2.1 (dd_at ddX11_fault 1 rfl) (by decide) ?_
  refine r_putI S hw 11 0 (ty := .int) (v := 0) rfl inG11 tyX11 tyX11_ok nmX11 (by decide) (List.mem_cons_of_mem _ wg201) (by decide) rfl (by decide +kernel) rfl rfl ha0 (dd_at ddX11_fault 2 rfl) (fun H locs hw => ?_)
  refine lv_aload_n S.1 S.2.1 (dd_at ddX11_fault 3 rfl) rfl (lv_at hl 0 rfl) ?_
  refine r_getI S hw 11 10 rfl inG11 (by decide) (List.mem_cons_of_mem _ wg154) (by decide) ha0 (dd_at ddX11_fault 4 rfl) ?_
  exact e_I S hr hlocks hw h (dd_at ddX11_fault 5 rfl)

def w_X11_textAt (E : En) (p0 : Int32) (d : Dy) (K : Int32 → Dy → Prop) : Prop := K (596 + (851 * p0)) d
abbrev rm_X11_textAt : Room := { frames := 0, cells := 0, slots := 0, locals := 0 }
set_option maxRecDepth 100000 in
set_option maxHeartbeats 4000000 in
theorem m_X11_textAt (l : Launch) (D : va_G) (cs : Nat → ClassId) (E : En) (d : Dy) (sz : Nat) (p0 : Int32) (K : Int32 → Dy → Prop) : CI l yX11_textAt (.code yX11_textAt cX11_textAt 1 (some .int) :: wsL_law) rm_X11_textAt D cs E d sz [.int p0] (w_X11_textAt E p0 d K) K := by
  refine e_of (cc := cX11_textAt) (maxL := 1) (ret := (some .int)) (own := RX11) (by decide) rfl rfl (Nat.le_of_ble_eq_true rfl) ?_
  intro p e s m below meth c S hr hlocks hsz H locs hw h ls hl
  have hl : lv_has ls 1 [(0, .int p0)] := hl
  unfold w_X11_textAt at h
  refine lv_sipush (v := 596) S.1 S.2.1 (dd_at ddX11_textAt 0 rfl) (by decide) ?_
  refine lv_sipush (v := 851) S.1 S.2.1 (dd_at ddX11_textAt 1 rfl) (by decide) ?_
  refine lv_iload_n S.1 S.2.1 (dd_at ddX11_textAt 2 rfl) rfl (lv_at hl 0 rfl) ?_
  refine lv_imul S.1 S.2.1 (dd_at ddX11_textAt 3 rfl) ?_
  refine lv_iadd S.1 S.2.1 (dd_at ddX11_textAt 4 rfl) ?_
  exact e_I S hr hlocks hw h (dd_at ddX11_textAt 5 rfl)

def w_X11_lineAt (E : En) (p0 : Int32) (p1 : Int32) (d : Dy) (K : Int32 → Dy → Prop) : Prop := w_X11_textAt E p0 d (fun r_2 d_1 => K ((r_2 + 1) + (5 * p1)) d_1)
abbrev rm_X11_lineAt : Room := { frames := 1, cells := 0, slots := 0, locals := 20 }
set_option maxRecDepth 100000 in
set_option maxHeartbeats 4000000 in
theorem m_X11_lineAt (l : Launch) (D : va_G) (cs : Nat → ClassId) (E : En) (d : Dy) (sz : Nat) (p0 : Int32) (p1 : Int32) (K : Int32 → Dy → Prop) : CI l yX11_lineAt (.code yX11_lineAt cX11_lineAt 2 (some .int) :: wsL_law) rm_X11_lineAt D cs E d sz [.int p0, .int p1] (w_X11_lineAt E p0 p1 d K) K := by
  refine e_of (cc := cX11_lineAt) (maxL := 2) (ret := (some .int)) (own := RX11) (by decide) rfl rfl (Nat.le_of_ble_eq_true rfl) ?_
  intro p e s m below meth c S hr hlocks hsz H locs hw h ls hl
  have hl : lv_has ls 2 [(0, .int p0), (1, .int p1)] := hl
  unfold w_X11_lineAt at h
  refine lv_iload_n S.1 S.2.1 (dd_at ddX11_lineAt 0 rfl) rfl (lv_at hl 0 rfl) ?_
  refine r_callI hw (r_runS (As := [.int p0]) (rest := []) S hw (m_X11_textAt l D cs E d H.size p0 _) (va_cwS 1 S.2.2.2.2 (gS wg449 wg450 wg5 wg451) rfl rfl rfl (by decide +kernel) ⟨Nat.le_of_ble_eq_true rfl, Nat.le_of_ble_eq_true rfl⟩) h rfl hl.1 rfl (Nat.le_of_ble_eq_true rfl) (dd_at ddX11_lineAt 1 rfl) ⟨Nat.le_of_ble_eq_true rfl, Nat.le_of_ble_eq_true rfl⟩) (fun r_2 d_1 H locs h hw => ?_)
  refine lv_iconst (v := 1) S.1 S.2.1 (dd_at ddX11_lineAt 2 rfl) (by decide) ?_
  refine lv_iadd S.1 S.2.1 (dd_at ddX11_lineAt 3 rfl) ?_
  refine lv_iconst (v := 5) S.1 S.2.1 (dd_at ddX11_lineAt 4 rfl) (by decide) ?_
  refine lv_iload_n S.1 S.2.1 (dd_at ddX11_lineAt 5 rfl) rfl (lv_at hl 1 rfl) ?_
  refine lv_imul S.1 S.2.1 (dd_at ddX11_lineAt 6 rfl) ?_
  refine lv_iadd S.1 S.2.1 (dd_at ddX11_lineAt 7 rfl) ?_
  exact e_I S hr hlocks hw h (dd_at ddX11_lineAt 8 rfl)

def w_X11_emits (E : En) (a0 : Nat) (p1 : Int32) (p2 : Int32) (d : Dy) (K : Dy → Prop) : Prop := okO E a0 11 ∧ w_X11_textAt E 4 d (fun r_2 d_1 => ∃ b_3 : Nat, eR E a0 1 = some b_3 ∧ okA E b_3 13 ∧ vp_in ((r_2 + 51) + (2 * (gI d_1 a0 12))) (eN E b_3) ∧ ∃ b_7 : Nat, eR E a0 1 = some b_7 ∧ okA E b_7 13 ∧ vp_in (((r_2 + 51) + (2 * (gI d_1 a0 12))) + 1) (eN E b_7) ∧ K (pI (pA (pA d_1 b_3 ((r_2 + 51) + (2 * (gI d_1 a0 12))).toNatClampNeg p1) b_7 (((r_2 + 51) + (2 * (gI d_1 a0 12))) + 1).toNatClampNeg p2) a0 12 ((gI (pA (pA d_1 b_3 ((r_2 + 51) + (2 * (gI d_1 a0 12))).toNatClampNeg p1) b_7 (((r_2 + 51) + (2 * (gI d_1 a0 12))) + 1).toNatClampNeg p2) a0 12) + 1)))
abbrev rm_X11_emits : Room := { frames := 1, cells := 0, slots := 0, locals := 20 }
set_option maxRecDepth 100000 in
set_option maxHeartbeats 4000000 in
theorem m_X11_emits (l : Launch) (D : va_G) (cs : Nat → ClassId) (E : En) (d : Dy) (sz : Nat) (a0 : Nat) (p1 : Int32) (p2 : Int32) (K : Dy → Prop) : CV l yX11_emits (.code yX11_emits cX11_emits 4 none :: wsL_law) rm_X11_emits D cs E d sz [.ref a0, .int p1, .int p2] (w_X11_emits E a0 p1 p2 d K) K := by
  refine e_of (cc := cX11_emits) (maxL := 4) (ret := none) (own := RX11) (by decide) rfl rfl (Nat.le_of_ble_eq_true rfl) ?_
  intro p e s m below meth c S hr hlocks hsz H locs hw h ls hl
  have hl : lv_has ls 4 [(0, .ref a0), (1, .int p1), (2, .int p2)] := hl
  unfold w_X11_emits at h
  obtain ⟨ha0, h⟩ := h
  refine lv_iconst (v := 4) S.1 S.2.1 (dd_at ddX11_emits 0 rfl) (by decide) ?_
  refine r_callI hw (r_runS (As := [.int 4]) (rest := []) S hw (m_X11_textAt l D cs E d H.size 4 _) (va_cwS 1 S.2.2.2.2 (gS wg449 wg450 wg5 wg451) rfl rfl rfl (by decide +kernel) ⟨Nat.le_of_ble_eq_true rfl, Nat.le_of_ble_eq_true rfl⟩) h rfl hl.1 rfl (Nat.le_of_ble_eq_true rfl) (dd_at ddX11_emits 1 rfl) ⟨Nat.le_of_ble_eq_true rfl, Nat.le_of_ble_eq_true rfl⟩) (fun r_2 d_1 H locs h hw => ?_)
  refine lv_bipush (v := 51) S.1 S.2.1 (dd_at ddX11_emits 2 rfl) (by decide) ?_
  refine lv_iadd S.1 S.2.1 (dd_at ddX11_emits 3 rfl) ?_
  refine lv_iconst (v := 2) S.1 S.2.1 (dd_at ddX11_emits 4 rfl) (by decide) ?_
  refine lv_aload_n S.1 S.2.1 (dd_at ddX11_emits 5 rfl) rfl (lv_at hl 0 rfl) ?_
  refine r_getI S hw 11 12 rfl inG11 (by decide) (List.mem_cons_of_mem _ wg415) (by decide) ha0 (dd_at ddX11_emits 6 rfl) ?_
  refine lv_imul S.1 S.2.1 (dd_at ddX11_emits 7 rfl) ?_
  refine lv_iadd S.1 S.2.1 (dd_at ddX11_emits 8 rfl) ?_
  refine lv_istore_n (lv' := [(3, .int ((r_2 + 51) + (2 * (gI d_1 a0 12)))), (0, .ref a0), (1, .int p1), (2, .int p2)]) S.1 S.2.1 (dd_at ddX11_emits 9 rfl) rfl hl (by decide) rfl (fun ls hl => ?_)
  refine lv_aload_n S.1 S.2.1 (dd_at ddX11_emits 10 rfl) rfl (lv_at hl 1 rfl) ?_
  obtain ⟨b_3, hb_4, ho_5, h⟩ := h
  refine r_getR S hw 11 1 rfl inG11 (by decide) (List.mem_cons_of_mem _ wg150) (by decide) ha0 hb_4 (dd_at ddX11_emits 11 rfl) ?_
  refine lv_iload_n S.1 S.2.1 (dd_at ddX11_emits 12 rfl) rfl (lv_at hl 0 rfl) ?_
  refine lv_iload_n S.1 S.2.1 (dd_at ddX11_emits 13 rfl) rfl (lv_at hl 2 rfl) ?_
  obtain ⟨hx_6, h⟩ := h
  refine r_iast S hw ho_5 hx_6 (dd_at ddX11_emits 14 rfl) (fun H locs hw => ?_)
  refine lv_aload_n S.1 S.2.1 (dd_at ddX11_emits 15 rfl) rfl (lv_at hl 1 rfl) ?_
  obtain ⟨b_7, hb_8, ho_9, h⟩ := h
  refine r_getR S hw 11 1 rfl inG11 (by decide) (List.mem_cons_of_mem _ wg150) (by decide) ha0 hb_8 (dd_at ddX11_emits 16 rfl) ?_
  refine lv_iload_n S.1 S.2.1 (dd_at ddX11_emits 17 rfl) rfl (lv_at hl 0 rfl) ?_
  refine lv_iconst (v := 1) S.1 S.2.1 (dd_at ddX11_emits 18 rfl) (by decide) ?_
  refine lv_iadd S.1 S.2.1 (dd_at ddX11_emits 19 rfl) ?_
  refine lv_iload_n S.1 S.2.1 (dd_at ddX11_emits 20 rfl) rfl (lv_at hl 3 rfl) ?_
  obtain ⟨hx_10, h⟩ := h
  refine r_iast S hw ho_9 hx_10 (dd_at ddX11_emits 21 rfl) (fun H locs hw => ?_)
  refine lv_aload_n S.1 S.2.1 (dd_at ddX11_emits 22 rfl) rfl (lv_at hl 1 rfl) ?_
  refine lv_dup S.1 S.2.1 (dd_at ddX11_emits 23 rfl) rfl ?_
  refine r_getI S hw 11 12 rfl inG11 (by decide) (List.mem_cons_of_mem _ wg415) (by decide) ha0 (dd_at ddX11_emits 24 rfl) ?_
  refine lv_iconst (v := 1) S.1 S.2.1 (dd_at ddX11_emits 25 rfl) (by decide) ?_
  refine lv_iadd S.1 S.2.1 (dd_at ddX11_emits 26 rfl) ?_
  refine r_putI S hw 11 12 (ty := .int) (v := (gI (pA (pA d_1 b_3 ((r_2 + 51) + (2 * (gI d_1 a0 12))).toNatClampNeg p1) b_7 (((r_2 + 51) + (2 * (gI d_1 a0 12))) + 1).toNatClampNeg p2) a0 12) + 1) rfl inG11 tyX11 tyX11_ok nmX11 (by decide) (List.mem_cons_of_mem _ wg415) (by decide) rfl (by decide +kernel) rfl rfl ha0 (dd_at ddX11_emits 27 rfl) (fun H locs hw => ?_)
  exact e_V S hr hlocks hw h (dd_at ddX11_emits 28 rfl)

def b_X11_factAt_21 (E : En) (a0 : Nat) (K : Int32 → Dy → Prop) (s0 : Int32) (d : Dy) : Prop := w_X11_isWord E a0 9 d (fun r_2 d_1 => ((r_2 = 0 → w_X11_isWord E a0 10 d_1 (fun r_5 d_4 => ((r_5 = 0 → w_X11_isWord E a0 11 d_4 (fun r_8 d_7 => ((r_8 = 0 → w_X11_isWord E a0 12 d_7 (fun r_11 d_10 => ((r_11 = 0 → w_X11_isWord E a0 13 d_10 (fun r_14 d_13 => ((r_14 = 0 → w_X11_isWord E a0 14 d_13 (fun r_17 d_16 => ((r_17 = 0 → w_X11_isWord E a0 15 d_16 (fun r_20 d_19 => ((r_20 = 0 → w_X11_isWord E a0 16 d_19 (fun r_23 d_22 => ((r_23 = 0 → K (-1) d_22) ∧ (¬ r_23 = 0 → ((¬ (gI d_22 a0 13) = 2 → K (-1) d_22) ∧ ((gI d_22 a0 13) = 2 → K 7 d_22)))))) ∧ (¬ r_20 = 0 → ((¬ (gI d_19 a0 13) = 1 → K (-1) d_19) ∧ ((gI d_19 a0 13) = 1 → K 6 d_19)))))) ∧ (¬ r_17 = 0 → ((s0 = 0 → K (-1) d_16) ∧ (¬ s0 = 0 → K 5 d_16)))))) ∧ (¬ r_14 = 0 → ((¬ (gI d_13 a0 13) = 2 → K 4 d_13) ∧ ((gI d_13 a0 13) = 2 → K (-1) d_13)))))) ∧ (¬ r_11 = 0 → (((gI d_10 a0 13) = 0 → K 2 d_10) ∧ (¬ (gI d_10 a0 13) = 0 → ((¬ (gI d_10 a0 13) = 2 → K (-1) d_10) ∧ ((gI d_10 a0 13) = 2 → K 2 d_10)))))))) ∧ (¬ r_8 = 0 → (((gI d_7 a0 13) = 0 → K 1 d_7) ∧ (¬ (gI d_7 a0 13) = 0 → ((¬ (gI d_7 a0 13) = 2 → K (-1) d_7) ∧ ((gI d_7 a0 13) = 2 → K 1 d_7)))))))) ∧ (¬ r_5 = 0 → (((gI d_4 a0 13) = 0 → K 0 d_4) ∧ (¬ (gI d_4 a0 13) = 0 → ((¬ (gI d_4 a0 13) = 1 → K (-1) d_4) ∧ ((gI d_4 a0 13) = 1 → K 0 d_4)))))))) ∧ (¬ r_2 = 0 → K 3 d_1)))
def b_X11_factAt_16 (E : En) (a0 : Nat) (K : Int32 → Dy → Prop) (d : Dy) : Prop := b_X11_factAt_21 E a0 K 1 d
def w_X11_factAt (E : En) (a0 : Nat) (d : Dy) (K : Int32 → Dy → Prop) : Prop := okO E a0 11 ∧ (((gI d a0 13) = 1 → b_X11_factAt_16 E a0 K d) ∧ (¬ (gI d a0 13) = 1 → ((¬ (gI d a0 13) = 3 → b_X11_factAt_21 E a0 K 0 d) ∧ ((gI d a0 13) = 3 → b_X11_factAt_16 E a0 K d))))
abbrev rm_X11_factAt : Room := { frames := 5, cells := 0, slots := 0, locals := 114 }
set_option maxRecDepth 100000 in
set_option maxHeartbeats 4000000 in
theorem m_X11_factAt (l : Launch) (D : va_G) (cs : Nat → ClassId) (E : En) (d : Dy) (sz : Nat) (a0 : Nat) (K : Int32 → Dy → Prop) : CI l yX11_factAt (.code yX11_factAt cX11_factAt 2 (some .int) :: wsL_law) rm_X11_factAt D cs E d sz [.ref a0] (w_X11_factAt E a0 d K) K := by
  refine e_of (cc := cX11_factAt) (maxL := 2) (ret := (some .int)) (own := RX11) (by decide) rfl rfl (Nat.le_of_ble_eq_true rfl) ?_
  intro p e s m below meth c S hr hlocks hsz H locs hw h ls hl
  have hl : lv_has ls 2 [(0, .ref a0)] := hl
  unfold w_X11_factAt at h
  obtain ⟨ha0, h⟩ := h
  have tb21 : ∀ (s0 : Int32) (d : Dy) (H : Heap) (locs : List Loc) (ls : Array Slot), b_X11_factAt_21 E a0 K s0 d → Wd D cs (AW E sz) s.heap s E d H locs → lv_has ls 2 [(0, .ref a0)] → W p l e rm_X11_factAt s m ([.ref a0] : List Value).toArray below meth c H locs 0 0 (MQ below (va_Qi K (OutW D cs E (AW E sz)) (AW E sz)) ([.ref a0] : List Value).toArray s rm_X11_factAt.cells rm_X11_factAt.slots (AW E sz)) (F0 m 21 ls [.int s0]) := by
    intro s0 d H locs ls h hw hl
    unfold b_X11_factAt_21 at h
    refine lv_istore_n (lv' := [(1, .int s0), (0, .ref a0)]) S.1 S.2.1 (dd_at ddX11_factAt 11 rfl) rfl hl (by decide) rfl (fun ls hl => ?_)
    refine lv_aload_n S.1 S.2.1 (dd_at ddX11_factAt 12 rfl) rfl (lv_at hl 1 rfl) ?_
    refine r_ldcS S hw 9 rfl (dd_at ddX11_factAt 13 rfl) ?_
    refine r_callI hw (r_runV (As := [.ref (cs (100 + 9))]) (rest := []) S hw (m_X11_isWord l D cs E d H.size a0 9 _) (cwV 1 S.2.2.2.2 (gV wg456 wg457 wg458 wg5 wg459) rfl rfl rfl (by decide +kernel) ⟨Nat.le_of_ble_eq_true rfl, Nat.le_of_ble_eq_true rfl⟩) (ci := 11) rfl ha0 h rfl hl.1 rfl (Nat.le_of_ble_eq_true rfl) (dd_at ddX11_factAt 14 rfl) ⟨Nat.le_of_ble_eq_true rfl, Nat.le_of_ble_eq_true rfl⟩) (fun r_2 d_1 H locs h hw => ?_)
    refine lv_if_eq (tgt := 33) S.1 S.2.1 (dd_at ddX11_factAt 15 rfl) (by decide) (fun hc_3 => ?_) (fun hc_3 => ?_)
    · have h := h.1 hc_3
      refine lv_aload_n S.1 S.2.1 (dd_at ddX11_factAt 18 rfl) rfl (lv_at hl 1 rfl) ?_
      refine r_ldcS S hw 10 rfl (dd_at ddX11_factAt 19 rfl) ?_
      refine r_callI hw (r_runV (As := [.ref (cs (100 + 10))]) (rest := []) S hw (m_X11_isWord l D cs E d_1 H.size a0 10 _) (cwV 1 S.2.2.2.2 (gV wg456 wg457 wg458 wg5 wg459) rfl rfl rfl (by decide +kernel) ⟨Nat.le_of_ble_eq_true rfl, Nat.le_of_ble_eq_true rfl⟩) (ci := 11) rfl ha0 h rfl hl.1 rfl (Nat.le_of_ble_eq_true rfl) (dd_at ddX11_factAt 20 rfl) ⟨Nat.le_of_ble_eq_true rfl, Nat.le_of_ble_eq_true rfl⟩) (fun r_5 d_4 H locs h hw => ?_)
      refine lv_if_eq (tgt := 63) S.1 S.2.1 (dd_at ddX11_factAt 21 rfl) (by decide) (fun hc_6 => ?_) (fun hc_6 => ?_)
      · have h := h.1 hc_6
        refine lv_aload_n S.1 S.2.1 (dd_at ddX11_factAt 33 rfl) rfl (lv_at hl 1 rfl) ?_
        refine r_ldcS S hw 11 rfl (dd_at ddX11_factAt 34 rfl) ?_
        refine r_callI hw (r_runV (As := [.ref (cs (100 + 11))]) (rest := []) S hw (m_X11_isWord l D cs E d_4 H.size a0 11 _) (cwV 1 S.2.2.2.2 (gV wg456 wg457 wg458 wg5 wg459) rfl rfl rfl (by decide +kernel) ⟨Nat.le_of_ble_eq_true rfl, Nat.le_of_ble_eq_true rfl⟩) (ci := 11) rfl ha0 h rfl hl.1 rfl (Nat.le_of_ble_eq_true rfl) (dd_at ddX11_factAt 35 rfl) ⟨Nat.le_of_ble_eq_true rfl, Nat.le_of_ble_eq_true rfl⟩) (fun r_8 d_7 H locs h hw => ?_)
        refine lv_if_eq (tgt := 93) S.1 S.2.1 (dd_at ddX11_factAt 36 rfl) (by decide) (fun hc_9 => ?_) (fun hc_9 => ?_)
        · have h := h.1 hc_9
          refine lv_aload_n S.1 S.2.1 (dd_at ddX11_factAt 48 rfl) rfl (lv_at hl 1 rfl) ?_
          refine r_ldcS S hw 12 rfl (dd_at ddX11_factAt 49 rfl) ?_
          refine r_callI hw (r_runV (As := [.ref (cs (100 + 12))]) (rest := []) S hw (m_X11_isWord l D cs E d_7 H.size a0 12 _) (cwV 1 S.2.2.2.2 (gV wg456 wg457 wg458 wg5 wg459) rfl rfl rfl (by decide +kernel) ⟨Nat.le_of_ble_eq_true rfl, Nat.le_of_ble_eq_true rfl⟩) (ci := 11) rfl ha0 h rfl hl.1 rfl (Nat.le_of_ble_eq_true rfl) (dd_at ddX11_factAt 50 rfl) ⟨Nat.le_of_ble_eq_true rfl, Nat.le_of_ble_eq_true rfl⟩) (fun r_11 d_10 H locs h hw => ?_)
          refine lv_if_eq (tgt := 123) S.1 S.2.1 (dd_at ddX11_factAt 51 rfl) (by decide) (fun hc_12 => ?_) (fun hc_12 => ?_)
          · have h := h.1 hc_12
            refine lv_aload_n S.1 S.2.1 (dd_at ddX11_factAt 63 rfl) rfl (lv_at hl 1 rfl) ?_
            refine r_ldcS S hw 13 rfl (dd_at ddX11_factAt 64 rfl) ?_
            refine r_callI hw (r_runV (As := [.ref (cs (100 + 13))]) (rest := []) S hw (m_X11_isWord l D cs E d_10 H.size a0 13 _) (cwV 1 S.2.2.2.2 (gV wg456 wg457 wg458 wg5 wg459) rfl rfl rfl (by decide +kernel) ⟨Nat.le_of_ble_eq_true rfl, Nat.le_of_ble_eq_true rfl⟩) (ci := 11) rfl ha0 h rfl hl.1 rfl (Nat.le_of_ble_eq_true rfl) (dd_at ddX11_factAt 65 rfl) ⟨Nat.le_of_ble_eq_true rfl, Nat.le_of_ble_eq_true rfl⟩) (fun r_14 d_13 H locs h hw => ?_)
            refine lv_if_eq (tgt := 146) S.1 S.2.1 (dd_at ddX11_factAt 66 rfl) (by decide) (fun hc_15 => ?_) (fun hc_15 => ?_)
            · have h := h.1 hc_15
              refine lv_aload_n S.1 S.2.1 (dd_at ddX11_factAt 75 rfl) rfl (lv_at hl 1 rfl) ?_
              refine r_ldcS S hw 14 rfl (dd_at ddX11_factAt 76 rfl) ?_
              refine r_callI hw (r_runV (As := [.ref (cs (100 + 14))]) (rest := []) S hw (m_X11_isWord l D cs E d_13 H.size a0 14 _) (cwV 1 S.2.2.2.2 (gV wg456 wg457 wg458 wg5 wg459) rfl rfl rfl (by decide +kernel) ⟨Nat.le_of_ble_eq_true rfl, Nat.le_of_ble_eq_true rfl⟩) (ci := 11) rfl ha0 h rfl hl.1 rfl (Nat.le_of_ble_eq_true rfl) (dd_at ddX11_factAt 77 rfl) ⟨Nat.le_of_ble_eq_true rfl, Nat.le_of_ble_eq_true rfl⟩) (fun r_17 d_16 H locs h hw => ?_)
              refine lv_if_eq (tgt := 165) S.1 S.2.1 (dd_at ddX11_factAt 78 rfl) (by decide) (fun hc_18 => ?_) (fun hc_18 => ?_)
              · have h := h.1 hc_18
                refine lv_aload_n S.1 S.2.1 (dd_at ddX11_factAt 85 rfl) rfl (lv_at hl 1 rfl) ?_
                refine r_ldcS S hw 15 rfl (dd_at ddX11_factAt 86 rfl) ?_
                refine r_callI hw (r_runV (As := [.ref (cs (100 + 15))]) (rest := []) S hw (m_X11_isWord l D cs E d_16 H.size a0 15 _) (cwV 1 S.2.2.2.2 (gV wg456 wg457 wg458 wg5 wg459) rfl rfl rfl (by decide +kernel) ⟨Nat.le_of_ble_eq_true rfl, Nat.le_of_ble_eq_true rfl⟩) (ci := 11) rfl ha0 h rfl hl.1 rfl (Nat.le_of_ble_eq_true rfl) (dd_at ddX11_factAt 87 rfl) ⟨Nat.le_of_ble_eq_true rfl, Nat.le_of_ble_eq_true rfl⟩) (fun r_20 d_19 H locs h hw => ?_)
                refine lv_if_eq (tgt := 189) S.1 S.2.1 (dd_at ddX11_factAt 88 rfl) (by decide) (fun hc_21 => ?_) (fun hc_21 => ?_)
                · have h := h.1 hc_21
                  refine lv_aload_n S.1 S.2.1 (dd_at ddX11_factAt 97 rfl) rfl (lv_at hl 1 rfl) ?_
                  refine r_ldcS S hw 16 rfl (dd_at ddX11_factAt 98 rfl) ?_
                  refine r_callI hw (r_runV (As := [.ref (cs (100 + 16))]) (rest := []) S hw (m_X11_isWord l D cs E d_19 H.size a0 16 _) (cwV 1 S.2.2.2.2 (gV wg456 wg457 wg458 wg5 wg459) rfl rfl rfl (by decide +kernel) ⟨Nat.le_of_ble_eq_true rfl, Nat.le_of_ble_eq_true rfl⟩) (ci := 11) rfl ha0 h rfl hl.1 rfl (Nat.le_of_ble_eq_true rfl) (dd_at ddX11_factAt 99 rfl) ⟨Nat.le_of_ble_eq_true rfl, Nat.le_of_ble_eq_true rfl⟩) (fun r_23 d_22 H locs h hw => ?_)
                  refine lv_if_eq (tgt := 211) S.1 S.2.1 (dd_at ddX11_factAt 100 rfl) (by decide) (fun hc_24 => ?_) (fun hc_24 => ?_)
                  · have h := h.1 hc_24
                    refine lv_iconst (v := -1) S.1 S.2.1 (dd_at ddX11_factAt 107 rfl) (by decide) ?_
                    exact e_I S hr hlocks hw h (dd_at ddX11_factAt 108 rfl)
                  · have h := h.2 hc_24
                    refine lv_aload_n S.1 S.2.1 (dd_at ddX11_factAt 101 rfl) rfl (lv_at hl 1 rfl) ?_
                    refine r_getI S hw 11 13 rfl inG11 (by decide) (List.mem_cons_of_mem _ wg416) (by decide) ha0 (dd_at ddX11_factAt 102 rfl) ?_
                    refine lv_iconst (v := 2) S.1 S.2.1 (dd_at ddX11_factAt 103 rfl) (by decide) ?_
                    refine lv_icmp_ne (tgt := 211) S.1 S.2.1 (dd_at ddX11_factAt 104 rfl) (by decide) (fun hc_25 => ?_) (fun hc_25 => ?_)
                    · have h := h.1 hc_25
                      refine lv_iconst (v := -1) S.1 S.2.1 (dd_at ddX11_factAt 107 rfl) (by decide) ?_
                      exact e_I S hr hlocks hw h (dd_at ddX11_factAt 108 rfl)
                    · have h := h.2 hc_25
                      refine lv_bipush (v := 7) S.1 S.2.1 (dd_at ddX11_factAt 105 rfl) (by decide) ?_
                      refine lv_goto (tgt := 212) S.1 S.2.1 (dd_at ddX11_factAt 106 rfl) (by decide) ?_
                      exact e_I S hr hlocks hw h (dd_at ddX11_factAt 108 rfl)
                · have h := h.2 hc_21
                  refine lv_aload_n S.1 S.2.1 (dd_at ddX11_factAt 89 rfl) rfl (lv_at hl 1 rfl) ?_
                  refine r_getI S hw 11 13 rfl inG11 (by decide) (List.mem_cons_of_mem _ wg416) (by decide) ha0 (dd_at ddX11_factAt 90 rfl) ?_
                  refine lv_iconst (v := 1) S.1 S.2.1 (dd_at ddX11_factAt 91 rfl) (by decide) ?_
                  refine lv_icmp_ne (tgt := 187) S.1 S.2.1 (dd_at ddX11_factAt 92 rfl) (by decide) (fun hc_26 => ?_) (fun hc_26 => ?_)
                  · have h := h.1 hc_26
                    refine lv_iconst (v := -1) S.1 S.2.1 (dd_at ddX11_factAt 95 rfl) (by decide) ?_
                    exact e_I S hr hlocks hw h (dd_at ddX11_factAt 96 rfl)
                  · have h := h.2 hc_26
                    refine lv_bipush (v := 6) S.1 S.2.1 (dd_at ddX11_factAt 93 rfl) (by decide) ?_
                    refine lv_goto (tgt := 188) S.1 S.2.1 (dd_at ddX11_factAt 94 rfl) (by decide) ?_
                    exact e_I S hr hlocks hw h (dd_at ddX11_factAt 96 rfl)
              · have h := h.2 hc_18
                refine lv_iload_n S.1 S.2.1 (dd_at ddX11_factAt 79 rfl) rfl (lv_at hl 0 rfl) ?_
                refine lv_if_eq (tgt := 163) S.1 S.2.1 (dd_at ddX11_factAt 80 rfl) (by decide) (fun hc_27 => ?_) (fun hc_27 => ?_)
                · have h := h.1 hc_27
                  refine lv_iconst (v := -1) S.1 S.2.1 (dd_at ddX11_factAt 83 rfl) (by decide) ?_
                  exact e_I S hr hlocks hw h (dd_at ddX11_factAt 84 rfl)
                · have h := h.2 hc_27
                  refine lv_iconst (v := 5) S.1 S.2.1 (dd_at ddX11_factAt 81 rfl) (by decide) ?_
                  refine lv_goto (tgt := 164) S.1 S.2.1 (dd_at ddX11_factAt 82 rfl) (by decide) ?_
                  exact e_I S hr hlocks hw h (dd_at ddX11_factAt 84 rfl)
            · have h := h.2 hc_15
              refine lv_aload_n S.1 S.2.1 (dd_at ddX11_factAt 67 rfl) rfl (lv_at hl 1 rfl) ?_
              refine r_getI S hw 11 13 rfl inG11 (by decide) (List.mem_cons_of_mem _ wg416) (by decide) ha0 (dd_at ddX11_factAt 68 rfl) ?_
              refine lv_iconst (v := 2) S.1 S.2.1 (dd_at ddX11_factAt 69 rfl) (by decide) ?_
              refine lv_icmp_ne (tgt := 144) S.1 S.2.1 (dd_at ddX11_factAt 70 rfl) (by decide) (fun hc_28 => ?_) (fun hc_28 => ?_)
              · have h := h.1 hc_28
                refine lv_iconst (v := 4) S.1 S.2.1 (dd_at ddX11_factAt 73 rfl) (by decide) ?_
                exact e_I S hr hlocks hw h (dd_at ddX11_factAt 74 rfl)
              · have h := h.2 hc_28
                refine lv_iconst (v := -1) S.1 S.2.1 (dd_at ddX11_factAt 71 rfl) (by decide) ?_
                refine lv_goto (tgt := 145) S.1 S.2.1 (dd_at ddX11_factAt 72 rfl) (by decide) ?_
                exact e_I S hr hlocks hw h (dd_at ddX11_factAt 74 rfl)
          · have h := h.2 hc_12
            refine lv_aload_n S.1 S.2.1 (dd_at ddX11_factAt 52 rfl) rfl (lv_at hl 1 rfl) ?_
            refine r_getI S hw 11 13 rfl inG11 (by decide) (List.mem_cons_of_mem _ wg416) (by decide) ha0 (dd_at ddX11_factAt 53 rfl) ?_
            refine lv_if_eq (tgt := 117) S.1 S.2.1 (dd_at ddX11_factAt 54 rfl) (by decide) (fun hc_29 => ?_) (fun hc_29 => ?_)
            · have h := h.1 hc_29
              refine lv_iconst (v := 2) S.1 S.2.1 (dd_at ddX11_factAt 59 rfl) (by decide) ?_
              refine lv_goto (tgt := 122) S.1 S.2.1 (dd_at ddX11_factAt 60 rfl) (by decide) ?_
              exact e_I S hr hlocks hw h (dd_at ddX11_factAt 62 rfl)
            · have h := h.2 hc_29
              refine lv_aload_n S.1 S.2.1 (dd_at ddX11_factAt 55 rfl) rfl (lv_at hl 1 rfl) ?_
              refine r_getI S hw 11 13 rfl inG11 (by decide) (List.mem_cons_of_mem _ wg416) (by decide) ha0 (dd_at ddX11_factAt 56 rfl) ?_
              refine lv_iconst (v := 2) S.1 S.2.1 (dd_at ddX11_factAt 57 rfl) (by decide) ?_
              refine lv_icmp_ne (tgt := 121) S.1 S.2.1 (dd_at ddX11_factAt 58 rfl) (by decide) (fun hc_30 => ?_) (fun hc_30 => ?_)
              · have h := h.1 hc_30
                refine lv_iconst (v := -1) S.1 S.2.1 (dd_at ddX11_factAt 61 rfl) (by decide) ?_
                exact e_I S hr hlocks hw h (dd_at ddX11_factAt 62 rfl)
              · have h := h.2 hc_30
                refine lv_iconst (v := 2) S.1 S.2.1 (dd_at ddX11_factAt 59 rfl) (by decide) ?_
                refine lv_goto (tgt := 122) S.1 S.2.1 (dd_at ddX11_factAt 60 rfl) (by decide) ?_
                exact e_I S hr hlocks hw h (dd_at ddX11_factAt 62 rfl)
        · have h := h.2 hc_9
          refine lv_aload_n S.1 S.2.1 (dd_at ddX11_factAt 37 rfl) rfl (lv_at hl 1 rfl) ?_
          refine r_getI S hw 11 13 rfl inG11 (by decide) (List.mem_cons_of_mem _ wg416) (by decide) ha0 (dd_at ddX11_factAt 38 rfl) ?_
          refine lv_if_eq (tgt := 87) S.1 S.2.1 (dd_at ddX11_factAt 39 rfl) (by decide) (fun hc_31 => ?_) (fun hc_31 => ?_)
          · have h := h.1 hc_31
            refine lv_iconst (v := 1) S.1 S.2.1 (dd_at ddX11_factAt 44 rfl) (by decide) ?_
            refine lv_goto (tgt := 92) S.1 S.2.1 (dd_at ddX11_factAt 45 rfl) (by decide) ?_
            exact e_I S hr hlocks hw h (dd_at ddX11_factAt 47 rfl)
          · have h := h.2 hc_31
            refine lv_aload_n S.1 S.2.1 (dd_at ddX11_factAt 40 rfl) rfl (lv_at hl 1 rfl) ?_
            refine r_getI S hw 11 13 rfl inG11 (by decide) (List.mem_cons_of_mem _ wg416) (by decide) ha0 (dd_at ddX11_factAt 41 rfl) ?_
            refine lv_iconst (v := 2) S.1 S.2.1 (dd_at ddX11_factAt 42 rfl) (by decide) ?_
            refine lv_icmp_ne (tgt := 91) S.1 S.2.1 (dd_at ddX11_factAt 43 rfl) (by decide) (fun hc_32 => ?_) (fun hc_32 => ?_)
            · have h := h.1 hc_32
              refine lv_iconst (v := -1) S.1 S.2.1 (dd_at ddX11_factAt 46 rfl) (by decide) ?_
              exact e_I S hr hlocks hw h (dd_at ddX11_factAt 47 rfl)
            · have h := h.2 hc_32
              refine lv_iconst (v := 1) S.1 S.2.1 (dd_at ddX11_factAt 44 rfl) (by decide) ?_
              refine lv_goto (tgt := 92) S.1 S.2.1 (dd_at ddX11_factAt 45 rfl) (by decide) ?_
              exact e_I S hr hlocks hw h (dd_at ddX11_factAt 47 rfl)
      · have h := h.2 hc_6
        refine lv_aload_n S.1 S.2.1 (dd_at ddX11_factAt 22 rfl) rfl (lv_at hl 1 rfl) ?_
        refine r_getI S hw 11 13 rfl inG11 (by decide) (List.mem_cons_of_mem _ wg416) (by decide) ha0 (dd_at ddX11_factAt 23 rfl) ?_
        refine lv_if_eq (tgt := 57) S.1 S.2.1 (dd_at ddX11_factAt 24 rfl) (by decide) (fun hc_33 => ?_) (fun hc_33 => ?_)
        · have h := h.1 hc_33
          refine lv_iconst (v := 0) S.1 S.2.1 (dd_at ddX11_factAt 29 rfl) (by decide) ?_
          refine lv_goto (tgt := 62) S.1 S.2.1 (dd_at ddX11_factAt 30 rfl) (by decide) ?_
          exact e_I S hr hlocks hw h (dd_at ddX11_factAt 32 rfl)
        · have h := h.2 hc_33
          refine lv_aload_n S.1 S.2.1 (dd_at ddX11_factAt 25 rfl) rfl (lv_at hl 1 rfl) ?_
          refine r_getI S hw 11 13 rfl inG11 (by decide) (List.mem_cons_of_mem _ wg416) (by decide) ha0 (dd_at ddX11_factAt 26 rfl) ?_
          refine lv_iconst (v := 1) S.1 S.2.1 (dd_at ddX11_factAt 27 rfl) (by decide) ?_
          refine lv_icmp_ne (tgt := 61) S.1 S.2.1 (dd_at ddX11_factAt 28 rfl) (by decide) (fun hc_34 => ?_) (fun hc_34 => ?_)
          · have h := h.1 hc_34
            refine lv_iconst (v := -1) S.1 S.2.1 (dd_at ddX11_factAt 31 rfl) (by decide) ?_
            exact e_I S hr hlocks hw h (dd_at ddX11_factAt 32 rfl)
          · have h := h.2 hc_34
            refine lv_iconst (v := 0) S.1 S.2.1 (dd_at ddX11_factAt 29 rfl) (by decide) ?_
            refine lv_goto (tgt := 62) S.1 S.2.1 (dd_at ddX11_factAt 30 rfl) (by decide) ?_
            exact e_I S hr hlocks hw h (dd_at ddX11_factAt 32 rfl)
    · have h := h.2 hc_3
      refine lv_iconst (v := 3) S.1 S.2.1 (dd_at ddX11_factAt 16 rfl) (by decide) ?_
      exact e_I S hr hlocks hw h (dd_at ddX11_factAt 17 rfl)
  have tb16 : ∀ (d : Dy) (H : Heap) (locs : List Loc) (ls : Array Slot), b_X11_factAt_16 E a0 K d → Wd D cs (AW E sz) s.heap s E d H locs → lv_has ls 2 [(0, .ref a0)] → W p l e rm_X11_factAt s m ([.ref a0] : List Value).toArray below meth c H locs 0 0 (MQ below (va_Qi K (OutW D cs E (AW E sz)) (AW E sz)) ([.ref a0] : List Value).toArray s rm_X11_factAt.cells rm_X11_factAt.slots (AW E sz)) (F0 m 16 ls []) := by
    intro d H locs ls h hw hl
    unfold b_X11_factAt_16 at h
    refine lv_iconst (v := 1) S.1 S.2.1 (dd_at ddX11_factAt 8 rfl) (by decide) ?_
    refine lv_goto (tgt := 21) S.1 S.2.1 (dd_at ddX11_factAt 9 rfl) (by decide) ?_
    exact tb21 1 d H locs ls h hw (lv_sub hl [0] rfl)
  refine lv_aload_n S.1 S.2.1 (dd_at ddX11_factAt 0 rfl) rfl (lv_at hl 0 rfl) ?_
  refine r_getI S hw 11 13 rfl inG11 (by decide) (List.mem_cons_of_mem _ wg416) (by decide) ha0 (dd_at ddX11_factAt 1 rfl) ?_
  refine lv_iconst (v := 1) S.1 S.2.1 (dd_at ddX11_factAt 2 rfl) (by decide) ?_
  refine lv_icmp_eq (tgt := 16) S.1 S.2.1 (dd_at ddX11_factAt 3 rfl) (by decide) (fun hc_35 => ?_) (fun hc_35 => ?_)
  · have h := h.1 hc_35
    exact tb16 d H locs ls h hw (lv_sub hl [0] rfl)
  · have h := h.2 hc_35
    refine lv_aload_n S.1 S.2.1 (dd_at ddX11_factAt 4 rfl) rfl (lv_at hl 0 rfl) ?_
    refine r_getI S hw 11 13 rfl inG11 (by decide) (List.mem_cons_of_mem _ wg416) (by decide) ha0 (dd_at ddX11_factAt 5 rfl) ?_
    refine lv_iconst (v := 3) S.1 S.2.1 (dd_at ddX11_factAt 6 rfl) (by decide) ?_
    refine lv_icmp_ne (tgt := 20) S.1 S.2.1 (dd_at ddX11_factAt 7 rfl) (by decide) (fun hc_36 => ?_) (fun hc_36 => ?_)
    · have h := h.1 hc_36
      refine lv_iconst (v := 0) S.1 S.2.1 (dd_at ddX11_factAt 10 rfl) (by decide) ?_
      exact tb21 0 d H locs ls h hw (lv_sub hl [0] rfl)
    · have h := h.2 hc_36
      exact tb16 d H locs ls h hw (lv_sub hl [0] rfl)

def b_X11_readPart_46 (E : En) (a0 : Nat) (K : Int32 → Dy → Prop) (v1 : Int32) (d : Dy) : Prop := ((v1 < 0 → K 0 d) ∧ (¬ v1 < 0 → K 1 d))
def w_X11_readPart (E : En) (a0 : Nat) (d : Dy) (K : Int32 → Dy → Prop) : Prop := okO E a0 11 ∧ w_X11_letters E a0 d (fun d_2 => (((gI d_2 a0 6) ≤ (gI d_2 a0 8) → w_X11_number E a0 9999 d_2 (fun r_6 d_5 => w_X11_emits E a0 9 r_6 d_5 (fun d_7 => b_X11_readPart_46 E a0 K r_6 d_7))) ∧ (¬ (gI d_2 a0 6) ≤ (gI d_2 a0 8) → w_X11_factAt E a0 d_2 (fun r_10 d_9 => w_X11_emits E a0 r_10 0 d_9 (fun d_11 => b_X11_readPart_46 E a0 K r_10 d_11)))))
abbrev rm_X11_readPart : Room := { frames := 6, cells := 0, slots := 0, locals := 135 }
set_option maxRecDepth 100000 in
set_option maxHeartbeats 4000000 in
theorem m_X11_readPart (l : Launch) (D : va_G) (cs : Nat → ClassId) (E : En) (d : Dy) (sz : Nat) (a0 : Nat) (K : Int32 → Dy → Prop) : CI l yX11_readPart (.code yX11_readPart cX11_readPart 2 (some .boolean) :: wsL_law) rm_X11_readPart D cs E d sz [.ref a0] (w_X11_readPart E a0 d K) K := by
  refine e_of (cc := cX11_readPart) (maxL := 2) (ret := (some .boolean)) (own := RX11) (by decide) rfl rfl (Nat.le_of_ble_eq_true rfl) ?_
  intro p e s m below meth c S hr hlocks hsz H locs hw h ls hl
  have hl : lv_has ls 2 [(0, .ref a0)] := hl
  unfold w_X11_readPart at h
  obtain ⟨ha0, h⟩ := h
  have tb46 : ∀ (v1 : Int32) (d : Dy) (H : Heap) (locs : List Loc) (ls : Array Slot), b_X11_readPart_46 E a0 K v1 d → Wd D cs (AW E sz) s.heap s E d H locs → lv_has ls 2 [(1, .int v1)] → W p l e rm_X11_readPart s m ([.ref a0] : List Value).toArray below meth c H locs 0 0 (MQ below (va_Qi K (OutW D cs E (AW E sz)) (AW E sz)) ([.ref a0] : List Value).toArray s rm_X11_readPart.cells rm_X11_readPart.slots (AW E sz)) (F0 m 46 ls []) := by
    intro v1 d H locs ls h hw hl
    unfold b_X11_readPart_46 at h
    refine lv_iload_n S.1 S.2.1 (dd_at ddX11_readPart 25 rfl) rfl (lv_at hl 0 rfl) ?_
    refine lv_if_lt (tgt := 54) S.1 S.2.1 (dd_at ddX11_readPart 26 rfl) (by decide) (fun hc_1 => ?_) (fun hc_1 => ?_)
    · have h := h.1 hc_1
      refine lv_iconst (v := 0) S.1 S.2.1 (dd_at ddX11_readPart 29 rfl) (by decide) ?_
      exact e_Z S hr hlocks hw (Or.inl rfl) h (dd_at ddX11_readPart 30 rfl)
    · have h := h.2 hc_1
      refine lv_iconst (v := 1) S.1 S.2.1 (dd_at ddX11_readPart 27 rfl) (by decide) ?_
      refine lv_goto (tgt := 55) S.1 S.2.1 (dd_at ddX11_readPart 28 rfl) (by decide) ?_
      exact e_Z S hr hlocks hw (Or.inr rfl) h (dd_at ddX11_readPart 30 rfl)
  refine lv_aload_n S.1 S.2.1 (dd_at ddX11_readPart 0 rfl) rfl (lv_at hl 0 rfl) ?_
  refine r_callV hw (r_runV (As := []) (rest := []) S hw (m_X11_letters l D cs E d H.size a0 _) (cwV 0 S.2.2.2.2 (gV wg442 wg443 wg444 wg5 wg445) rfl rfl rfl (by decide +kernel) ⟨Nat.le_of_ble_eq_true rfl, Nat.le_of_ble_eq_true rfl⟩) (ci := 11) rfl ha0 h rfl hl.1 rfl (Nat.le_of_ble_eq_true rfl) (dd_at ddX11_readPart 1 rfl) ⟨Nat.le_of_ble_eq_true rfl, Nat.le_of_ble_eq_true rfl⟩) (fun d_2 H locs h hw => ?_)
  refine lv_iconst (v := -1) S.1 S.2.1 (dd_at ddX11_readPart 2 rfl) (by decide) ?_
  refine lv_istore_n (lv' := [(1, .int (-1)), (0, .ref a0)]) S.1 S.2.1 (dd_at ddX11_readPart 3 rfl) rfl hl (by decide) rfl (fun ls hl => ?_)
  refine lv_aload_n S.1 S.2.1 (dd_at ddX11_readPart 4 rfl) rfl (lv_at hl 1 rfl) ?_
  refine r_getI S hw 11 6 rfl inG11 (by decide) (List.mem_cons_of_mem _ wg414) (by decide) ha0 (dd_at ddX11_readPart 5 rfl) ?_
  refine lv_aload_n S.1 S.2.1 (dd_at ddX11_readPart 6 rfl) rfl (lv_at hl 1 rfl) ?_
  refine r_getI S hw 11 8 rfl inG11 (by decide) (List.mem_cons_of_mem _ wg417) (by decide) ha0 (dd_at ddX11_readPart 7 rfl) ?_
  refine lv_icmp_le (tgt := 31) S.1 S.2.1 (dd_at ddX11_readPart 8 rfl) (by decide) (fun hc_4 => ?_) (fun hc_4 => ?_)
  · have h := h.1 hc_4
    refine lv_aload_n S.1 S.2.1 (dd_at ddX11_readPart 17 rfl) rfl (lv_at hl 1 rfl) ?_
    refine lv_sipush (v := 9999) S.1 S.2.1 (dd_at ddX11_readPart 18 rfl) (by decide) ?_
    refine r_callI hw (r_runV (As := [.int 9999]) (rest := []) S hw (m_X11_number l D cs E d_2 H.size a0 9999 _) (cwV 1 S.2.2.2.2 (gV wg466 wg467 wg468 wg5 wg469) rfl rfl rfl (by decide +kernel) ⟨Nat.le_of_ble_eq_true rfl, Nat.le_of_ble_eq_true rfl⟩) (ci := 11) rfl ha0 h rfl hl.1 rfl (Nat.le_of_ble_eq_true rfl) (dd_at ddX11_readPart 19 rfl) ⟨Nat.le_of_ble_eq_true rfl, Nat.le_of_ble_eq_true rfl⟩) (fun r_6 d_5 H locs h hw => ?_)
    refine lv_istore_n (lv' := [(1, .int r_6), (0, .ref a0)]) S.1 S.2.1 (dd_at ddX11_readPart 20 rfl) rfl hl (by decide) rfl (fun ls hl => ?_)
    refine lv_aload_n S.1 S.2.1 (dd_at ddX11_readPart 21 rfl) rfl (lv_at hl 1 rfl) ?_
    refine lv_bipush (v := 9) S.1 S.2.1 (dd_at ddX11_readPart 22 rfl) (by decide) ?_
    refine lv_iload_n S.1 S.2.1 (dd_at ddX11_readPart 23 rfl) rfl (lv_at hl 0 rfl) ?_
    refine r_callV hw (r_runV (As := [.int 9, .int r_6]) (rest := []) S hw (m_X11_emits l D cs E d_5 H.size a0 9 r_6 _) (cwV 2 S.2.2.2.2 (gV wg489 wg490 wg491 wg5 wg492) rfl rfl rfl (by decide +kernel) ⟨Nat.le_of_ble_eq_true rfl, Nat.le_of_ble_eq_true rfl⟩) (ci := 11) rfl ha0 h rfl hl.1 rfl (Nat.le_of_ble_eq_true rfl) (dd_at ddX11_readPart 24 rfl) ⟨Nat.le_of_ble_eq_true rfl, Nat.le_of_ble_eq_true rfl⟩) (fun d_7 H locs h hw => ?_)
    exact tb46 r_6 d_7 H locs ls h hw (lv_sub hl [0] rfl)
  · have h := h.2 hc_4
    refine lv_aload_n S.1 S.2.1 (dd_at ddX11_readPart 9 rfl) rfl (lv_at hl 1 rfl) ?_
    refine r_callI hw (r_runV (As := []) (rest := []) S hw (m_X11_factAt l D cs E d_2 H.size a0 _) (cwV 0 S.2.2.2.2 (gV wg474 wg475 wg476 wg5 wg477) rfl rfl rfl (by decide +kernel) ⟨Nat.le_of_ble_eq_true rfl, Nat.le_of_ble_eq_true rfl⟩) (ci := 11) rfl ha0 h rfl hl.1 rfl (Nat.le_of_ble_eq_true rfl) (dd_at ddX11_readPart 10 rfl) ⟨Nat.le_of_ble_eq_true rfl, Nat.le_of_ble_eq_true rfl⟩) (fun r_10 d_9 H locs h hw => ?_)
    refine lv_istore_n (lv' := [(1, .int r_10), (0, .ref a0)]) S.1 S.2.1 (dd_at ddX11_readPart 11 rfl) rfl hl (by decide) rfl (fun ls hl => ?_)
    refine lv_aload_n S.1 S.2.1 (dd_at ddX11_readPart 12 rfl) rfl (lv_at hl 1 rfl) ?_
    refine lv_iload_n S.1 S.2.1 (dd_at ddX11_readPart 13 rfl) rfl (lv_at hl 0 rfl) ?_
    refine lv_iconst (v := 0) S.1 S.2.1 (dd_at ddX11_readPart 14 rfl) (by decide) ?_
    refine r_callV hw (r_runV (As := [.int r_10, .int 0]) (rest := []) S hw (m_X11_emits l D cs E d_9 H.size a0 r_10 0 _) (cwV 2 S.2.2.2.2 (gV wg489 wg490 wg491 wg5 wg492) rfl rfl rfl (by decide +kernel) ⟨Nat.le_of_ble_eq_true rfl, Nat.le_of_ble_eq_true rfl⟩) (ci := 11) rfl ha0 h rfl hl.1 rfl (Nat.le_of_ble_eq_true rfl) (dd_at ddX11_readPart 15 rfl) ⟨Nat.le_of_ble_eq_true rfl, Nat.le_of_ble_eq_true rfl⟩) (fun d_11 H locs h hw => ?_)
    refine lv_goto (tgt := 46) S.1 S.2.1 (dd_at ddX11_readPart 16 rfl) (by decide) ?_
    exact tb46 r_10 d_11 H locs ls h hw (lv_sub hl [0] rfl)

def b_X11_readSum_9 (E : En) (a0 : Nat) (K : Int32 → Dy → Prop) (k9 : Dy → Prop) (d : Dy) : Prop := w_X11_sign E a0 43 d (fun r_2 d_1 => ((r_2 = 0 → K 1 d_1) ∧ (¬ r_2 = 0 → w_X11_readPart E a0 d_1 (fun r_5 d_4 => ((¬ r_5 = 0 → w_X11_emits E a0 10 0 d_4 (fun d_7 => k9 d_7)) ∧ (r_5 = 0 → K 0 d_4))))))
def l_X11_readSum_9 (E : En) (a0 : Nat) (K : Int32 → Dy → Prop) : Nat → Dy → Prop
  | 0 => fun _ => False
  | n + 1 => b_X11_readSum_9 E a0 K (l_X11_readSum_9 E a0 K n)
def w_X11_readSum (E : En) (a0 : Nat) (d : Dy) (K : Int32 → Dy → Prop) : Prop := okO E a0 11 ∧ w_X11_readPart E a0 d (fun r_10 d_9 => ((¬ r_10 = 0 → (∃ n_12 : Nat, l_X11_readSum_9 E a0 K n_12 d_9)) ∧ (r_10 = 0 → K 0 d_9)))
abbrev rm_X11_readSum : Room := { frames := 7, cells := 0, slots := 0, locals := 156 }
set_option maxRecDepth 100000 in
set_option maxHeartbeats 4000000 in
theorem m_X11_readSum (l : Launch) (D : va_G) (cs : Nat → ClassId) (E : En) (d : Dy) (sz : Nat) (a0 : Nat) (K : Int32 → Dy → Prop) : CI l yX11_readSum (.code yX11_readSum cX11_readSum 1 (some .boolean) :: wsL_law) rm_X11_readSum D cs E d sz [.ref a0] (w_X11_readSum E a0 d K) K := by
  refine e_of (cc := cX11_readSum) (maxL := 1) (ret := (some .boolean)) (own := RX11) (by decide) rfl rfl (Nat.le_of_ble_eq_true rfl) ?_
  intro p e s m below meth c S hr hlocks hsz H locs hw h ls hl
  have hl : lv_has ls 1 [(0, .ref a0)] := hl
  unfold w_X11_readSum at h
  obtain ⟨ha0, h⟩ := h
  have tl9 : ∀ (n : Nat) (d : Dy) (H : Heap) (locs : List Loc) (ls : Array Slot), l_X11_readSum_9 E a0 K n d → Wd D cs (AW E sz) s.heap s E d H locs → lv_has ls 1 [(0, .ref a0)] → W p l e rm_X11_readSum s m ([.ref a0] : List Value).toArray below meth c H locs 0 0 (MQ below (va_Qi K (OutW D cs E (AW E sz)) (AW E sz)) ([.ref a0] : List Value).toArray s rm_X11_readSum.cells rm_X11_readSum.slots (AW E sz)) (F0 m 9 ls []) := by
    intro n9
    induction n9 with
    | zero => intro d H locs ls h; exact absurd h id
    | succ n9 ih9 =>
      intro d H locs ls h hw hl
      have h : b_X11_readSum_9 E a0 K (l_X11_readSum_9 E a0 K n9) d := h
      unfold b_X11_readSum_9 at h
      refine lv_aload_n S.1 S.2.1 (dd_at ddX11_readSum 5 rfl) rfl (lv_at hl 0 rfl) ?_
      refine lv_bipush (v := 43) S.1 S.2.1 (dd_at ddX11_readSum 6 rfl) (by decide) ?_
      refine r_callI hw (r_runV (As := [.int 43]) (rest := []) S hw (m_X11_sign l D cs E d H.size a0 43 _) (cwV 1 S.2.2.2.2 (gV wg470 wg471 wg472 wg5 wg473) rfl rfl rfl (by decide +kernel) ⟨Nat.le_of_ble_eq_true rfl, Nat.le_of_ble_eq_true rfl⟩) (ci := 11) rfl ha0 h rfl hl.1 rfl (Nat.le_of_ble_eq_true rfl) (dd_at ddX11_readSum 7 rfl) ⟨Nat.le_of_ble_eq_true rfl, Nat.le_of_ble_eq_true rfl⟩) (fun r_2 d_1 H locs h hw => ?_)
      refine lv_if_eq (tgt := 37) S.1 S.2.1 (dd_at ddX11_readSum 8 rfl) (by decide) (fun hc_3 => ?_) (fun hc_3 => ?_)
      · have h := h.1 hc_3
        refine lv_iconst (v := 1) S.1 S.2.1 (dd_at ddX11_readSum 19 rfl) (by decide) ?_
        exact e_Z S hr hlocks hw (Or.inr rfl) h (dd_at ddX11_readSum 20 rfl)
      · have h := h.2 hc_3
        refine lv_aload_n S.1 S.2.1 (dd_at ddX11_readSum 9 rfl) rfl (lv_at hl 0 rfl) ?_
        refine r_callI hw (r_runV (As := []) (rest := []) S hw (m_X11_readPart l D cs E d_1 H.size a0 _) (cwV 0 S.2.2.2.2 (gV wg502 wg503 wg504 wg5 wg505) rfl rfl rfl (by decide +kernel) ⟨Nat.le_of_ble_eq_true rfl, Nat.le_of_ble_eq_true rfl⟩) (ci := 11) rfl ha0 h rfl hl.1 rfl (Nat.le_of_ble_eq_true rfl) (dd_at ddX11_readSum 10 rfl) ⟨Nat.le_of_ble_eq_true rfl, Nat.le_of_ble_eq_true rfl⟩) (fun r_5 d_4 H locs h hw => ?_)
        refine lv_if_ne (tgt := 27) S.1 S.2.1 (dd_at ddX11_readSum 11 rfl) (by decide) (fun hc_6 => ?_) (fun hc_6 => ?_)
        · have h := h.1 hc_6
          refine lv_aload_n S.1 S.2.1 (dd_at ddX11_readSum 14 rfl) rfl (lv_at hl 0 rfl) ?_
          refine lv_bipush (v := 10) S.1 S.2.1 (dd_at ddX11_readSum 15 rfl) (by decide) ?_
          refine lv_iconst (v := 0) S.1 S.2.1 (dd_at ddX11_readSum 16 rfl) (by decide) ?_
          refine r_callV hw (r_runV (As := [.int 10, .int 0]) (rest := []) S hw (m_X11_emits l D cs E d_4 H.size a0 10 0 _) (cwV 2 S.2.2.2.2 (gV wg489 wg490 wg491 wg5 wg492) rfl rfl rfl (by decide +kernel) ⟨Nat.le_of_ble_eq_true rfl, Nat.le_of_ble_eq_true rfl⟩) (ci := 11) rfl ha0 h rfl hl.1 rfl (Nat.le_of_ble_eq_true rfl) (dd_at ddX11_readSum 17 rfl) ⟨Nat.le_of_ble_eq_true rfl, Nat.le_of_ble_eq_true rfl⟩) (fun d_7 H locs h hw => ?_)
          refine lv_goto (tgt := 9) S.1 S.2.1 (dd_at ddX11_readSum 18 rfl) (by decide) ?_
          exact ih9 d_7 H locs ls h hw (lv_sub hl [0] rfl)
        · have h := h.2 hc_6
          refine lv_iconst (v := 0) S.1 S.2.1 (dd_at ddX11_readSum 12 rfl) (by decide) ?_
          exact e_Z S hr hlocks hw (Or.inl rfl) h (dd_at ddX11_readSum 13 rfl)
  refine lv_aload_n S.1 S.2.1 (dd_at ddX11_readSum 0 rfl) rfl (lv_at hl 0 rfl) ?_
  refine r_callI hw (r_runV (As := []) (rest := []) S hw (m_X11_readPart l D cs E d H.size a0 _) (cwV 0 S.2.2.2.2 (gV wg502 wg503 wg504 wg5 wg505) rfl rfl rfl (by decide +kernel) ⟨Nat.le_of_ble_eq_true rfl, Nat.le_of_ble_eq_true rfl⟩) (ci := 11) rfl ha0 h rfl hl.1 rfl (Nat.le_of_ble_eq_true rfl) (dd_at ddX11_readSum 1 rfl) ⟨Nat.le_of_ble_eq_true rfl, Nat.le_of_ble_eq_true rfl⟩) (fun r_10 d_9 H locs h hw => ?_)
  refine lv_if_ne (tgt := 9) S.1 S.2.1 (dd_at ddX11_readSum 2 rfl) (by decide) (fun hc_11 => ?_) (fun hc_11 => ?_)
  · have h := h.1 hc_11
    obtain ⟨n_12, h⟩ := h
    exact tl9 n_12 d_9 H locs ls h hw (lv_sub hl [0] rfl)
  · have h := h.2 hc_11
    refine lv_iconst (v := 0) S.1 S.2.1 (dd_at ddX11_readSum 3 rfl) (by decide) ?_
    exact e_Z S hr hlocks hw (Or.inl rfl) h (dd_at ddX11_readSum 4 rfl)

def b_X11_readAtom_169 (E : En) (a0 : Nat) (K : Int32 → Dy → Prop) (kr_X11_readAtom : Nat → Dy → (Int32 → Dy → Prop) → Prop) (kr_X11_readAllOf : Nat → Dy → (Int32 → Dy → Prop) → Prop) (kr_X11_readCond : Nat → Dy → (Int32 → Dy → Prop) → Prop) (v1 : Int32) (d : Dy) : Prop := w_X11_readSum E a0 d (fun r_2 d_1 => ((¬ r_2 = 0 → ((v1 = 0 → w_X11_emits E a0 12 0 d_1 (fun d_5 => K 1 d_5)) ∧ (¬ v1 = 0 → w_X11_emits E a0 11 0 d_1 (fun d_7 => K 1 d_7)))) ∧ (r_2 = 0 → K 0 d_1)))
def b_X11_readAtom_140 (E : En) (a0 : Nat) (K : Int32 → Dy → Prop) (kr_X11_readAtom : Nat → Dy → (Int32 → Dy → Prop) → Prop) (kr_X11_readAllOf : Nat → Dy → (Int32 → Dy → Prop) → Prop) (kr_X11_readCond : Nat → Dy → (Int32 → Dy → Prop) → Prop) (d : Dy) : Prop := w_X11_readSum E a0 d (fun r_10 d_9 => ((¬ r_10 = 0 → w_X11_sign E a0 60 d_9 (fun r_13 d_12 => ((¬ r_13 = 0 → b_X11_readAtom_169 E a0 K kr_X11_readAtom kr_X11_readAllOf kr_X11_readCond r_13 d_12) ∧ (r_13 = 0 → w_X11_sign E a0 62 d_12 (fun r_16 d_15 => ((r_16 = 0 → K 0 d_15) ∧ (¬ r_16 = 0 → b_X11_readAtom_169 E a0 K kr_X11_readAtom kr_X11_readAllOf kr_X11_readCond r_13 d_15))))))) ∧ (r_10 = 0 → K 0 d_9)))
def wb_X11_readAtom (E : En) (a0 : Nat) (d : Dy) (K : Int32 → Dy → Prop) (kr_X11_readAtom : Nat → Dy → (Int32 → Dy → Prop) → Prop) (kr_X11_readAllOf : Nat → Dy → (Int32 → Dy → Prop) → Prop) (kr_X11_readCond : Nat → Dy → (Int32 → Dy → Prop) → Prop) : Prop := okO E a0 11 ∧ w_X11_sign E a0 40 d (fun r_19 d_18 => ((r_19 = 0 → w_X11_passes E a0 18 d_18 (fun r_22 d_21 => ((r_22 = 0 → (((gI d_21 a0 13) = 3 → b_X11_readAtom_140 E a0 K kr_X11_readAtom kr_X11_readAllOf kr_X11_readCond d_21) ∧ (¬ (gI d_21 a0 13) = 3 → w_X11_passes E a0 19 d_21 (fun r_26 d_25 => ((r_26 = 0 → b_X11_readAtom_140 E a0 K kr_X11_readAtom kr_X11_readAllOf kr_X11_readCond d_25) ∧ (¬ r_26 = 0 → w_X11_emits E a0 8 0 d_25 (fun d_28 => K 1 d_28))))))) ∧ (¬ r_22 = 0 → ((¬ (gI d_21 a0 9) = 6 → kr_X11_readAtom a0 (pI d_21 a0 9 ((gI d_21 a0 9) + 1)) (fun r_32 d_31 => ((¬ r_32 = 0 → w_X11_emits E a0 13 0 (pI d_31 a0 9 ((gI d_31 a0 9) - 1)) (fun d_34 => K 1 d_34)) ∧ (r_32 = 0 → K 0 d_31)))) ∧ ((gI d_21 a0 9) = 6 → K 0 d_21)))))) ∧ (¬ r_19 = 0 → ((¬ (gI d_18 a0 9) = 6 → kr_X11_readCond a0 (pI d_18 a0 9 ((gI d_18 a0 9) + 1)) (fun r_38 d_37 => ((¬ r_38 = 0 → w_X11_sign E a0 41 (pI d_37 a0 9 ((gI d_37 a0 9) - 1)) (fun r_41 d_40 => (r_41 = 0 ∨ r_41 = 1) ∧ K r_41 d_40)) ∧ (r_38 = 0 → K 0 d_37)))) ∧ ((gI d_18 a0 9) = 6 → K 0 d_18)))))
def b_X11_readAllOf_9 (E : En) (a0 : Nat) (K : Int32 → Dy → Prop) (kr_X11_readAtom : Nat → Dy → (Int32 → Dy → Prop) → Prop) (kr_X11_readAllOf : Nat → Dy → (Int32 → Dy → Prop) → Prop) (kr_X11_readCond : Nat → Dy → (Int32 → Dy → Prop) → Prop) (k9 : Dy → Prop) (d : Dy) : Prop := w_X11_passes E a0 20 d (fun r_2 d_1 => ((r_2 = 0 → K 1 d_1) ∧ (¬ r_2 = 0 → kr_X11_readAtom a0 d_1 (fun r_5 d_4 => ((¬ r_5 = 0 → w_X11_emits E a0 14 0 d_4 (fun d_7 => k9 d_7)) ∧ (r_5 = 0 → K 0 d_4))))))
def l_X11_readAllOf_9 (E : En) (a0 : Nat) (K : Int32 → Dy → Prop) (kr_X11_readAtom : Nat → Dy → (Int32 → Dy → Prop) → Prop) (kr_X11_readAllOf : Nat → Dy → (Int32 → Dy → Prop) → Prop) (kr_X11_readCond : Nat → Dy → (Int32 → Dy → Prop) → Prop) : Nat → Dy → Prop
  | 0 => fun _ => False
  | n + 1 => b_X11_readAllOf_9 E a0 K kr_X11_readAtom kr_X11_readAllOf kr_X11_readCond (l_X11_readAllOf_9 E a0 K kr_X11_readAtom kr_X11_readAllOf kr_X11_readCond n)
def wb_X11_readAllOf (E : En) (a0 : Nat) (d : Dy) (K : Int32 → Dy → Prop) (kr_X11_readAtom : Nat → Dy → (Int32 → Dy → Prop) → Prop) (kr_X11_readAllOf : Nat → Dy → (Int32 → Dy → Prop) → Prop) (kr_X11_readCond : Nat → Dy → (Int32 → Dy → Prop) → Prop) : Prop := okO E a0 11 ∧ kr_X11_readAtom a0 d (fun r_10 d_9 => ((¬ r_10 = 0 → (∃ n_12 : Nat, l_X11_readAllOf_9 E a0 K kr_X11_readAtom kr_X11_readAllOf kr_X11_readCond n_12 d_9)) ∧ (r_10 = 0 → K 0 d_9)))
def b_X11_readCond_9 (E : En) (a0 : Nat) (K : Int32 → Dy → Prop) (kr_X11_readAtom : Nat → Dy → (Int32 → Dy → Prop) → Prop) (kr_X11_readAllOf : Nat → Dy → (Int32 → Dy → Prop) → Prop) (kr_X11_readCond : Nat → Dy → (Int32 → Dy → Prop) → Prop) (k9 : Dy → Prop) (d : Dy) : Prop := w_X11_passes E a0 21 d (fun r_2 d_1 => ((r_2 = 0 → K 1 d_1) ∧ (¬ r_2 = 0 → kr_X11_readAllOf a0 d_1 (fun r_5 d_4 => ((¬ r_5 = 0 → w_X11_emits E a0 15 0 d_4 (fun d_7 => k9 d_7)) ∧ (r_5 = 0 → K 0 d_4))))))
def l_X11_readCond_9 (E : En) (a0 : Nat) (K : Int32 → Dy → Prop) (kr_X11_readAtom : Nat → Dy → (Int32 → Dy → Prop) → Prop) (kr_X11_readAllOf : Nat → Dy → (Int32 → Dy → Prop) → Prop) (kr_X11_readCond : Nat → Dy → (Int32 → Dy → Prop) → Prop) : Nat → Dy → Prop
  | 0 => fun _ => False
  | n + 1 => b_X11_readCond_9 E a0 K kr_X11_readAtom kr_X11_readAllOf kr_X11_readCond (l_X11_readCond_9 E a0 K kr_X11_readAtom kr_X11_readAllOf kr_X11_readCond n)
def wb_X11_readCond (E : En) (a0 : Nat) (d : Dy) (K : Int32 → Dy → Prop) (kr_X11_readAtom : Nat → Dy → (Int32 → Dy → Prop) → Prop) (kr_X11_readAllOf : Nat → Dy → (Int32 → Dy → Prop) → Prop) (kr_X11_readCond : Nat → Dy → (Int32 → Dy → Prop) → Prop) : Prop := okO E a0 11 ∧ kr_X11_readAllOf a0 d (fun r_10 d_9 => ((¬ r_10 = 0 → (∃ n_12 : Nat, l_X11_readCond_9 E a0 K kr_X11_readAtom kr_X11_readAllOf kr_X11_readCond n_12 d_9)) ∧ (r_10 = 0 → K 0 d_9)))
def wr_X11_readAtom (E : En) : Nat → (Nat → Dy → (Int32 → Dy → Prop) → Prop) × (Nat → Dy → (Int32 → Dy → Prop) → Prop) × (Nat → Dy → (Int32 → Dy → Prop) → Prop)
  | 0 => ((fun _ _ _ => False), (fun _ _ _ => False), (fun _ _ _ => False))
  | n + 1 => ((fun a0 d K => wb_X11_readAtom E a0 d K (wr_X11_readAtom E n).1 (wr_X11_readAtom E n).2.1 (wr_X11_readAtom E n).2.2), (fun a0 d K => wb_X11_readAllOf E a0 d K (wr_X11_readAtom E n).1 (wr_X11_readAtom E n).2.1 (wr_X11_readAtom E n).2.2), (fun a0 d K => wb_X11_readCond E a0 d K (wr_X11_readAtom E n).1 (wr_X11_readAtom E n).2.1 (wr_X11_readAtom E n).2.2))
abbrev rg_X11_readAtom (n : Nat) : Room := { frames := n + 9, cells := 0, slots := 0, locals := n * 21 + 206 }
def w_X11_readAtom (E : En) (a0 : Nat) (d : Dy) (K : Int32 → Dy → Prop) : Prop := (wr_X11_readAtom E 60).1 a0 d K
abbrev rm_X11_readAtom : Room := rg_X11_readAtom 60
def w_X11_readAllOf (E : En) (a0 : Nat) (d : Dy) (K : Int32 → Dy → Prop) : Prop := (wr_X11_readAtom E 60).2.1 a0 d K
abbrev rm_X11_readAllOf : Room := rg_X11_readAtom 60
def w_X11_readCond (E : En) (a0 : Nat) (d : Dy) (K : Int32 → Dy → Prop) : Prop := (wr_X11_readAtom E 60).2.2 a0 d K
abbrev rm_X11_readCond : Room := rg_X11_readAtom 60
set_option maxRecDepth 100000 in
set_option maxHeartbeats 4000000 in
theorem mg_X11_readAtom (l : Launch) : ∀ nn : Nat, (∀ (D : va_G) (cs : Nat → ClassId) (E : En) (d : Dy) (sz : Nat) (a0 : Nat) (K : Int32 → Dy → Prop), CI l yX11_readAtom (.code yX11_readAtom cX11_readAtom 2 (some .boolean) :: wsL_law) (rg_X11_readAtom (nn)) D cs E d sz [.ref a0] ((wr_X11_readAtom E (nn)).1 a0 d K) K) ∧ (∀ (D : va_G) (cs : Nat → ClassId) (E : En) (d : Dy) (sz : Nat) (a0 : Nat) (K : Int32 → Dy → Prop), CI l yX11_readAllOf (.code yX11_readAllOf cX11_readAllOf 1 (some .boolean) :: wsL_law) (rg_X11_readAtom (nn)) D cs E d sz [.ref a0] ((wr_X11_readAtom E (nn)).2.1 a0 d K) K) ∧ (∀ (D : va_G) (cs : Nat → ClassId) (E : En) (d : Dy) (sz : Nat) (a0 : Nat) (K : Int32 → Dy → Prop), CI l yX11_readCond (.code yX11_readCond cX11_readCond 1 (some .boolean) :: wsL_law) (rg_X11_readAtom (nn)) D cs E d sz [.ref a0] ((wr_X11_readAtom E (nn)).2.2 a0 d K) K) := by
  intro nn
  induction nn with
  | zero => exact ⟨(fun D cs E d sz a0 K => e_false (by decide) rfl), (fun D cs E d sz a0 K => e_false (by decide) rfl), (fun D cs E d sz a0 K => e_false (by decide) rfl)⟩
  | succ nn ih =>
    refine ⟨?_, ?_, ?_⟩
    · intro D cs E d sz a0 K
      refine e_of (cc := cX11_readAtom) (maxL := 2) (ret := (some .boolean)) (own := RX11) (by decide) rfl rfl (Nat.le_of_ble_eq_true rfl) ?_
      intro p e s m below meth c S hr hlocks hsz H locs hw h ls hl
      have hl : lv_has ls 2 [(0, .ref a0)] := hl
      have h : wb_X11_readAtom E a0 d K (wr_X11_readAtom E nn).1 (wr_X11_readAtom E nn).2.1 (wr_X11_readAtom E nn).2.2 := h
      unfold wb_X11_readAtom at h
      obtain ⟨ha0, h⟩ := h
      have tb169 : ∀ (v1 : Int32) (d : Dy) (H : Heap) (locs : List Loc) (ls : Array Slot), b_X11_readAtom_169 E a0 K (wr_X11_readAtom E nn).1 (wr_X11_readAtom E nn).2.1 (wr_X11_readAtom E nn).2.2 v1 d → Wd D cs (AW E sz) s.heap s E d H locs → lv_has ls 2 [(0, .ref a0), (1, .int v1)] → W p l e (rg_X11_readAtom (nn + 1)) s m ([.ref a0] : List Value).toArray below meth c H locs 0 0 (MQ below (va_Qi K (OutW D cs E (AW E sz)) (AW E sz)) ([.ref a0] : List Value).toArray s (rg_X11_readAtom (nn + 1)).cells (rg_X11_readAtom (nn + 1)).slots (AW E sz)) (F0 m 169 ls []) := by
        intro v1 d H locs ls h hw hl
        unfold b_X11_readAtom_169 at h
        refine lv_aload_n S.1 S.2.1 (dd_at ddX11_readAtom 93 rfl) rfl (lv_at hl 0 rfl) ?_
        refine r_callI hw (r_runV (As := []) (rest := []) S hw (m_X11_readSum l D cs E d H.size a0 _) (cwV 0 S.2.2.2.2 (gV wg498 wg499 wg500 wg5 wg501) rfl rfl rfl (by decide +kernel) ⟨rl (m := nn + 1) (F := 9) rfl, rl (m := (nn + 1) * 21) (F := 206) rfl⟩) (ci := 11) rfl ha0 h rfl hl.1 rfl (Nat.le_of_ble_eq_true rfl) (dd_at ddX11_readAtom 94 rfl) ⟨Nat.le_of_ble_eq_true rfl, Nat.le_of_ble_eq_true rfl⟩) (fun r_2 d_1 H locs h hw => ?_)
        refine lv_if_ne (tgt := 178) S.1 S.2.1 (dd_at ddX11_readAtom 95 rfl) (by decide) (fun hc_3 => ?_) (fun hc_3 => ?_)
        · have h := h.1 hc_3
          refine lv_aload_n S.1 S.2.1 (dd_at ddX11_readAtom 98 rfl) rfl (lv_at hl 0 rfl) ?_
          refine lv_iload_n S.1 S.2.1 (dd_at ddX11_readAtom 99 rfl) rfl (lv_at hl 1 rfl) ?_
          refine lv_if_eq (tgt := 188) S.1 S.2.1 (dd_at ddX11_readAtom 100 rfl) (by decide) (fun hc_4 => ?_) (fun hc_4 => ?_)
          · have h := h.1 hc_4
            refine lv_bipush (v := 12) S.1 S.2.1 (dd_at ddX11_readAtom 103 rfl) (by decide) ?_
            refine lv_iconst (v := 0) S.1 S.2.1 (dd_at ddX11_readAtom 104 rfl) (by decide) ?_
            refine r_callV hw (r_runV (As := [.int 12, .int 0]) (rest := []) S hw (m_X11_emits l D cs E d_1 H.size a0 12 0 _) (cwV 2 S.2.2.2.2 (gV wg489 wg490 wg491 wg5 wg492) rfl rfl rfl (by decide +kernel) ⟨rl (m := nn + 1) (F := 9) rfl, rl (m := (nn + 1) * 21) (F := 206) rfl⟩) (ci := 11) rfl ha0 h rfl hl.1 rfl (Nat.le_of_ble_eq_true rfl) (dd_at ddX11_readAtom 105 rfl) ⟨Nat.le_of_ble_eq_true rfl, Nat.le_of_ble_eq_true rfl⟩) (fun d_5 H locs h hw => ?_)
            refine lv_iconst (v := 1) S.1 S.2.1 (dd_at ddX11_readAtom 106 rfl) (by decide) ?_
            exact e_Z S hr hlocks hw (Or.inr rfl) h (dd_at ddX11_readAtom 107 rfl)
          · have h := h.2 hc_4
            refine lv_bipush (v := 11) S.1 S.2.1 (dd_at ddX11_readAtom 101 rfl) (by decide) ?_
            refine lv_goto (tgt := 190) S.1 S.2.1 (dd_at ddX11_readAtom 102 rfl) (by decide) ?_
            refine lv_iconst (v := 0) S.1 S.2.1 (dd_at ddX11_readAtom 104 rfl) (by decide) ?_
            refine r_callV hw (r_runV (As := [.int 11, .int 0]) (rest := []) S hw (m_X11_emits l D cs E d_1 H.size a0 11 0 _) (cwV 2 S.2.2.2.2 (gV wg489 wg490 wg491 wg5 wg492) rfl rfl rfl (by decide +kernel) ⟨rl (m := nn + 1) (F := 9) rfl, rl (m := (nn + 1) * 21) (F := 206) rfl⟩) (ci := 11) rfl ha0 h rfl hl.1 rfl (Nat.le_of_ble_eq_true rfl) (dd_at ddX11_readAtom 105 rfl) ⟨Nat.le_of_ble_eq_true rfl, Nat.le_of_ble_eq_true rfl⟩) (fun d_7 H locs h hw => ?_)
            refine lv_iconst (v := 1) S.1 S.2.1 (dd_at ddX11_readAtom 106 rfl) (by decide) ?_
            exact e_Z S hr hlocks hw (Or.inr rfl) h (dd_at ddX11_readAtom 107 rfl)
        · have h := h.2 hc_3
          refine lv_iconst (v := 0) S.1 S.2.1 (dd_at ddX11_readAtom 96 rfl) (by decide) ?_
          exact e_Z S hr hlocks hw (Or.inl rfl) h (dd_at ddX11_readAtom 97 rfl)
      have tb140 : ∀ (d : Dy) (H : Heap) (locs : List Loc) (ls : Array Slot), b_X11_readAtom_140 E a0 K (wr_X11_readAtom E nn).1 (wr_X11_readAtom E nn).2.1 (wr_X11_readAtom E nn).2.2 d → Wd D cs (AW E sz) s.heap s E d H locs → lv_has ls 2 [(0, .ref a0)] → W p l e (rg_X11_readAtom (nn + 1)) s m ([.ref a0] : List Value).toArray below meth c H locs 0 0 (MQ below (va_Qi K (OutW D cs E (AW E sz)) (AW E sz)) ([.ref a0] : List Value).toArray s (rg_X11_readAtom (nn + 1)).cells (rg_X11_readAtom (nn + 1)).slots (AW E sz)) (F0 m 140 ls []) := by
        intro d H locs ls h hw hl
        unfold b_X11_readAtom_140 at h
        refine lv_aload_n S.1 S.2.1 (dd_at ddX11_readAtom 78 rfl) rfl (lv_at hl 0 rfl) ?_
        refine r_callI hw (r_runV (As := []) (rest := []) S hw (m_X11_readSum l D cs E d H.size a0 _) (cwV 0 S.2.2.2.2 (gV wg498 wg499 wg500 wg5 wg501) rfl rfl rfl (by decide +kernel) ⟨rl (m := nn + 1) (F := 9) rfl, rl (m := (nn + 1) * 21) (F := 206) rfl⟩) (ci := 11) rfl ha0 h rfl hl.1 rfl (Nat.le_of_ble_eq_true rfl) (dd_at ddX11_readAtom 79 rfl) ⟨Nat.le_of_ble_eq_true rfl, Nat.le_of_ble_eq_true rfl⟩) (fun r_10 d_9 H locs h hw => ?_)
        refine lv_if_ne (tgt := 149) S.1 S.2.1 (dd_at ddX11_readAtom 80 rfl) (by decide) (fun hc_11 => ?_) (fun hc_11 => ?_)
        · have h := h.1 hc_11
          refine lv_aload_n S.1 S.2.1 (dd_at ddX11_readAtom 83 rfl) rfl (lv_at hl 0 rfl) ?_
          refine lv_bipush (v := 60) S.1 S.2.1 (dd_at ddX11_readAtom 84 rfl) (by decide) ?_
          refine r_callI hw (r_runV (As := [.int 60]) (rest := []) S hw (m_X11_sign l D cs E d_9 H.size a0 60 _) (cwV 1 S.2.2.2.2 (gV wg470 wg471 wg472 wg5 wg473) rfl rfl rfl (by decide +kernel) ⟨rl (m := nn + 1) (F := 9) rfl, rl (m := (nn + 1) * 21) (F := 206) rfl⟩) (ci := 11) rfl ha0 h rfl hl.1 rfl (Nat.le_of_ble_eq_true rfl) (dd_at ddX11_readAtom 85 rfl) ⟨Nat.le_of_ble_eq_true rfl, Nat.le_of_ble_eq_true rfl⟩) (fun r_13 d_12 H locs h hw => ?_)
          refine lv_istore_n (lv' := [(1, .int r_13), (0, .ref a0)]) S.1 S.2.1 (dd_at ddX11_readAtom 86 rfl) rfl hl (by decide) rfl (fun ls hl => ?_)
          refine lv_iload_n S.1 S.2.1 (dd_at ddX11_readAtom 87 rfl) rfl (lv_at hl 0 rfl) ?_
          refine lv_if_ne (tgt := 169) S.1 S.2.1 (dd_at ddX11_readAtom 88 rfl) (by decide) (fun hc_14 => ?_) (fun hc_14 => ?_)
          · have h := h.1 hc_14
            exact tb169 r_13 d_12 H locs ls h hw (lv_sub hl [1, 0] rfl)
          · have h := h.2 hc_14
            refine lv_aload_n S.1 S.2.1 (dd_at ddX11_readAtom 89 rfl) rfl (lv_at hl 1 rfl) ?_
            refine lv_bipush (v := 62) S.1 S.2.1 (dd_at ddX11_readAtom 90 rfl) (by decide) ?_
            refine r_callI hw (r_runV (As := [.int 62]) (rest := []) S hw (m_X11_sign l D cs E d_12 H.size a0 62 _) (cwV 1 S.2.2.2.2 (gV wg470 wg471 wg472 wg5 wg473) rfl rfl rfl (by decide +kernel) ⟨rl (m := nn + 1) (F := 9) rfl, rl (m := (nn + 1) * 21) (F := 206) rfl⟩) (ci := 11) rfl ha0 h rfl hl.1 rfl (Nat.le_of_ble_eq_true rfl) (dd_at ddX11_readAtom 91 rfl) ⟨Nat.le_of_ble_eq_true rfl, Nat.le_of_ble_eq_true rfl⟩) (fun r_16 d_15 H locs h hw => ?_)
            refine lv_if_eq (tgt := 176) S.1 S.2.1 (dd_at ddX11_readAtom 92 rfl) (by decide) (fun hc_17 => ?_) (fun hc_17 => ?_)
            · have h := h.1 hc_17
              refine lv_iconst (v := 0) S.1 S.2.1 (dd_at ddX11_readAtom 96 rfl) (by decide) ?_
              exact e_Z S hr hlocks hw (Or.inl rfl) h (dd_at ddX11_readAtom 97 rfl)
            · have h := h.2 hc_17
              exact tb169 r_13 d_15 H locs ls h hw (lv_sub hl [1, 0] rfl)
        · have h := h.2 hc_11
          refine lv_iconst (v := 0) S.1 S.2.1 (dd_at ddX11_readAtom 81 rfl) (by decide) ?_
          exact e_Z S hr hlocks hw (Or.inl rfl) h (dd_at ddX11_readAtom 82 rfl)
      refine lv_aload_n S.1 S.2.1 (dd_at ddX11_readAtom 0 rfl) rfl (lv_at hl 0 rfl) ?_
      refine lv_bipush (v := 40) S.1 S.2.1 (dd_at ddX11_readAtom 1 rfl) (by decide) ?_
      refine r_callI hw (r_runV (As := [.int 40]) (rest := []) S hw (m_X11_sign l D cs E d H.size a0 40 _) (cwV 1 S.2.2.2.2 (gV wg470 wg471 wg472 wg5 wg473) rfl rfl rfl (by decide +kernel) ⟨rl (m := nn + 1) (F := 9) rfl, rl (m := (nn + 1) * 21) (F := 206) rfl⟩) (ci := 11) rfl ha0 h rfl hl.1 rfl (Nat.le_of_ble_eq_true rfl) (dd_at ddX11_readAtom 2 rfl) ⟨Nat.le_of_ble_eq_true rfl, Nat.le_of_ble_eq_true rfl⟩) (fun r_19 d_18 H locs h hw => ?_)
      refine lv_if_eq (tgt := 56) S.1 S.2.1 (dd_at ddX11_readAtom 3 rfl) (by decide) (fun hc_20 => ?_) (fun hc_20 => ?_)
      · have h := h.1 hc_20
        refine lv_aload_n S.1 S.2.1 (dd_at ddX11_readAtom 31 rfl) rfl (lv_at hl 0 rfl) ?_
        refine r_ldcS S hw 18 rfl (dd_at ddX11_readAtom 32 rfl) ?_
        refine r_callI hw (r_runV (As := [.ref (cs (100 + 18))]) (rest := []) S hw (m_X11_passes l D cs E d_18 H.size a0 18 _) (cwV 1 S.2.2.2.2 (gV wg478 wg479 wg480 wg5 wg481) rfl rfl rfl (by decide +kernel) ⟨rl (m := nn + 1) (F := 9) rfl, rl (m := (nn + 1) * 21) (F := 206) rfl⟩) (ci := 11) rfl ha0 h rfl hl.1 rfl (Nat.le_of_ble_eq_true rfl) (dd_at ddX11_readAtom 33 rfl) ⟨Nat.le_of_ble_eq_true rfl, Nat.le_of_ble_eq_true rfl⟩) (fun r_22 d_21 H locs h hw => ?_)
        refine lv_if_eq (tgt := 114) S.1 S.2.1 (dd_at ddX11_readAtom 34 rfl) (by decide) (fun hc_23 => ?_) (fun hc_23 => ?_)
        · have h := h.1 hc_23
          refine lv_aload_n S.1 S.2.1 (dd_at ddX11_readAtom 64 rfl) rfl (lv_at hl 0 rfl) ?_
          refine r_getI S hw 11 13 rfl inG11 (by decide) (List.mem_cons_of_mem _ wg416) (by decide) ha0 (dd_at ddX11_readAtom 65 rfl) ?_
          refine lv_iconst (v := 3) S.1 S.2.1 (dd_at ddX11_readAtom 66 rfl) (by decide) ?_
          refine lv_icmp_eq (tgt := 140) S.1 S.2.1 (dd_at ddX11_readAtom 67 rfl) (by decide) (fun hc_24 => ?_) (fun hc_24 => ?_)
          · have h := h.1 hc_24
            exact tb140 d_21 H locs ls h hw (lv_sub hl [0] rfl)
          · have h := h.2 hc_24
            refine lv_aload_n S.1 S.2.1 (dd_at ddX11_readAtom 68 rfl) rfl (lv_at hl 0 rfl) ?_
            refine r_ldcS S hw 19 rfl (dd_at ddX11_readAtom 69 rfl) ?_
            refine r_callI hw (r_runV (As := [.ref (cs (100 + 19))]) (rest := []) S hw (m_X11_passes l D cs E d_21 H.size a0 19 _) (cwV 1 S.2.2.2.2 (gV wg478 wg479 wg480 wg5 wg481) rfl rfl rfl (by decide +kernel) ⟨rl (m := nn + 1) (F := 9) rfl, rl (m := (nn + 1) * 21) (F := 206) rfl⟩) (ci := 11) rfl ha0 h rfl hl.1 rfl (Nat.le_of_ble_eq_true rfl) (dd_at ddX11_readAtom 70 rfl) ⟨Nat.le_of_ble_eq_true rfl, Nat.le_of_ble_eq_true rfl⟩) (fun r_26 d_25 H locs h hw => ?_)
            refine lv_if_eq (tgt := 140) S.1 S.2.1 (dd_at ddX11_readAtom 71 rfl) (by decide) (fun hc_27 => ?_) (fun hc_27 => ?_)
            · have h := h.1 hc_27
              exact tb140 d_25 H locs ls h hw (lv_sub hl [0] rfl)
            · have h := h.2 hc_27
              refine lv_aload_n S.1 S.2.1 (dd_at ddX11_readAtom 72 rfl) rfl (lv_at hl 0 rfl) ?_
              refine lv_bipush (v := 8) S.1 S.2.1 (dd_at ddX11_readAtom 73 rfl) (by decide) ?_
              refine lv_iconst (v := 0) S.1 S.2.1 (dd_at ddX11_readAtom 74 rfl) (by decide) ?_
              refine r_callV hw (r_runV (As := [.int 8, .int 0]) (rest := []) S hw (m_X11_emits l D cs E d_25 H.size a0 8 0 _) (cwV 2 S.2.2.2.2 (gV wg489 wg490 wg491 wg5 wg492) rfl rfl rfl (by decide +kernel) ⟨rl (m := nn + 1) (F := 9) rfl, rl (m := (nn + 1) * 21) (F := 206) rfl⟩) (ci := 11) rfl ha0 h rfl hl.1 rfl (Nat.le_of_ble_eq_true rfl) (dd_at ddX11_readAtom 75 rfl) ⟨Nat.le_of_ble_eq_true rfl, Nat.le_of_ble_eq_true rfl⟩) (fun d_28 H locs h hw => ?_)
              refine lv_iconst (v := 1) S.1 S.2.1 (dd_at ddX11_readAtom 76 rfl) (by decide) ?_
              exact e_Z S hr hlocks hw (Or.inr rfl) h (dd_at ddX11_readAtom 77 rfl)
        · have h := h.2 hc_23
          refine lv_aload_n S.1 S.2.1 (dd_at ddX11_readAtom 35 rfl) rfl (lv_at hl 0 rfl) ?_
          refine r_getI S hw 11 9 rfl inG11 (by decide) (List.mem_cons_of_mem _ wg441) (by decide) ha0 (dd_at ddX11_readAtom 36 rfl) ?_
          refine lv_bipush (v := 6) S.1 S.2.1 (dd_at ddX11_readAtom 37 rfl) (by decide) ?_
          refine lv_icmp_ne (tgt := 76) S.1 S.2.1 (dd_at ddX11_readAtom 38 rfl) (by decide) (fun hc_30 => ?_) (fun hc_30 => ?_)
          · have h := h.1 hc_30
            refine lv_aload_n S.1 S.2.1 (dd_at ddX11_readAtom 41 rfl) rfl (lv_at hl 0 rfl) ?_
            refine lv_dup S.1 S.2.1 (dd_at ddX11_readAtom 42 rfl) rfl ?_
            refine r_getI S hw 11 9 rfl inG11 (by decide) (List.mem_cons_of_mem _ wg441) (by decide) ha0 (dd_at ddX11_readAtom 43 rfl) ?_
            refine lv_iconst (v := 1) S.1 S.2.1 (dd_at ddX11_readAtom 44 rfl) (by decide) ?_
            refine lv_iadd S.1 S.2.1 (dd_at ddX11_readAtom 45 rfl) ?_
            refine r_putI S hw 11 9 (ty := .int) (v := (gI d_21 a0 9) + 1) rfl inG11 tyX11 tyX11_ok nmX11 (by decide) (List.mem_cons_of_mem _ wg441) (by decide) rfl (by decide +kernel) rfl rfl ha0 (dd_at ddX11_readAtom 46 rfl) (fun H locs hw => ?_)
            refine lv_aload_n S.1 S.2.1 (dd_at ddX11_readAtom 47 rfl) rfl (lv_at hl 0 rfl) ?_
            refine r_callI hw (r_runV (As := []) (rest := []) S hw (ih.1 D cs E (pI d_21 a0 9 ((gI d_21 a0 9) + 1)) H.size a0 _) (cwV 0 S.2.2.2.2 (gV wg494 wg495 wg496 wg5 wg497) rfl rfl rfl (by decide +kernel) ⟨by show nn + 9 + 1 ≤ nn + 1 + 9; omega, by show 8 + (2 + 11) + (nn * 21 + 206) ≤ (nn + 1) * 21 + 206; omega⟩) (ci := 11) rfl ha0 h rfl hl.1 rfl (Nat.le_of_ble_eq_true rfl) (dd_at ddX11_readAtom 48 rfl) ⟨Nat.le_of_ble_eq_true rfl, Nat.le_of_ble_eq_true rfl⟩) (fun r_32 d_31 H locs h hw => ?_)
            refine lv_if_ne (tgt := 95) S.1 S.2.1 (dd_at ddX11_readAtom 49 rfl) (by decide) (fun hc_33 => ?_) (fun hc_33 => ?_)
            · have h := h.1 hc_33
              refine lv_aload_n S.1 S.2.1 (dd_at ddX11_readAtom 52 rfl) rfl (lv_at hl 0 rfl) ?_
              refine lv_dup S.1 S.2.1 (dd_at ddX11_readAtom 53 rfl) rfl ?_
              refine r_getI S hw 11 9 rfl inG11 (by decide) (List.mem_cons_of_mem _ wg441) (by decide) ha0 (dd_at ddX11_readAtom 54 rfl) ?_
              refine lv_iconst (v := 1) S.1 S.2.1 (dd_at ddX11_readAtom 55 rfl) (by decide) ?_
              refine lv_isub S.1 S.2.1 (dd_at ddX11_readAtom 56 rfl) ?_
              refine r_putI S hw 11 9 (ty := .int) (v := (gI d_31 a0 9) - 1) rfl inG11 tyX11 tyX11_ok nmX11 (by decide) (List.mem_cons_of_mem _ wg441) (by decide) rfl (by decide +kernel) rfl rfl ha0 (dd_at ddX11_readAtom 57 rfl) (fun H locs hw => ?_)
              refine lv_aload_n S.1 S.2.1 (dd_at ddX11_readAtom 58 rfl) rfl (lv_at hl 0 rfl) ?_
              refine lv_bipush (v := 13) S.1 S.2.1 (dd_at ddX11_readAtom 59 rfl) (by decide) ?_
              refine lv_iconst (v := 0) S.1 S.2.1 (dd_at ddX11_readAtom 60 rfl) (by decide) ?_
              refine r_callV hw (r_runV (As := [.int 13, .int 0]) (rest := []) S hw (m_X11_emits l D cs E (pI d_31 a0 9 ((gI d_31 a0 9) - 1)) H.size a0 13 0 _) (cwV 2 S.2.2.2.2 (gV wg489 wg490 wg491 wg5 wg492) rfl rfl rfl (by decide +kernel) ⟨rl (m := nn + 1) (F := 9) rfl, rl (m := (nn + 1) * 21) (F := 206) rfl⟩) (ci := 11) rfl ha0 h rfl hl.1 rfl (Nat.le_of_ble_eq_true rfl) (dd_at ddX11_readAtom 61 rfl) ⟨Nat.le_of_ble_eq_true rfl, Nat.le_of_ble_eq_true rfl⟩) (fun d_34 H locs h hw => ?_)
              refine lv_iconst (v := 1) S.1 S.2.1 (dd_at ddX11_readAtom 62 rfl) (by decide) ?_
              exact e_Z S hr hlocks hw (Or.inr rfl) h (dd_at ddX11_readAtom 63 rfl)
            · have h := h.2 hc_33
              refine lv_iconst (v := 0) S.1 S.2.1 (dd_at ddX11_readAtom 50 rfl) (by decide) ?_
              exact e_Z S hr hlocks hw (Or.inl rfl) h (dd_at ddX11_readAtom 51 rfl)
          · have h := h.2 hc_30
            refine lv_iconst (v := 0) S.1 S.2.1 (dd_at ddX11_readAtom 39 rfl) (by decide) ?_
            exact e_Z S hr hlocks hw (Or.inl rfl) h (dd_at ddX11_readAtom 40 rfl)
      · have h := h.2 hc_20
        refine lv_aload_n S.1 S.2.1 (dd_at ddX11_readAtom 4 rfl) rfl (lv_at hl 0 rfl) ?_
        refine r_getI S hw 11 9 rfl inG11 (by decide) (List.mem_cons_of_mem _ wg441) (by decide) ha0 (dd_at ddX11_readAtom 5 rfl) ?_
        refine lv_bipush (v := 6) S.1 S.2.1 (dd_at ddX11_readAtom 6 rfl) (by decide) ?_
        refine lv_icmp_ne (tgt := 20) S.1 S.2.1 (dd_at ddX11_readAtom 7 rfl) (by decide) (fun hc_36 => ?_) (fun hc_36 => ?_)
        · have h := h.1 hc_36
          refine lv_aload_n S.1 S.2.1 (dd_at ddX11_readAtom 10 rfl) rfl (lv_at hl 0 rfl) ?_
          refine lv_dup S.1 S.2.1 (dd_at ddX11_readAtom 11 rfl) rfl ?_
          refine r_getI S hw 11 9 rfl inG11 (by decide) (List.mem_cons_of_mem _ wg441) (by decide) ha0 (dd_at ddX11_readAtom 12 rfl) ?_
          refine lv_iconst (v := 1) S.1 S.2.1 (dd_at ddX11_readAtom 13 rfl) (by decide) ?_
          refine lv_iadd S.1 S.2.1 (dd_at ddX11_readAtom 14 rfl) ?_
          refine r_putI S hw 11 9 (ty := .int) (v := (gI d_18 a0 9) + 1) rfl inG11 tyX11 tyX11_ok nmX11 (by decide) (List.mem_cons_of_mem _ wg441) (by decide) rfl (by decide +kernel) rfl rfl ha0 (dd_at ddX11_readAtom 15 rfl) (fun H locs hw => ?_)
          refine lv_aload_n S.1 S.2.1 (dd_at ddX11_readAtom 16 rfl) rfl (lv_at hl 0 rfl) ?_
          refine r_callI hw (r_runV (As := []) (rest := []) S hw (ih.2.2 D cs E (pI d_18 a0 9 ((gI d_18 a0 9) + 1)) H.size a0 _) (cwV 0 S.2.2.2.2 (gV wg482 wg483 wg484 wg5 wg485) rfl rfl rfl (by decide +kernel) ⟨by show nn + 9 + 1 ≤ nn + 1 + 9; omega, by show 8 + (1 + 11) + (nn * 21 + 206) ≤ (nn + 1) * 21 + 206; omega⟩) (ci := 11) rfl ha0 h rfl hl.1 rfl (Nat.le_of_ble_eq_true rfl) (dd_at ddX11_readAtom 17 rfl) ⟨Nat.le_of_ble_eq_true rfl, Nat.le_of_ble_eq_true rfl⟩) (fun r_38 d_37 H locs h hw => ?_)
          refine lv_if_ne (tgt := 39) S.1 S.2.1 (dd_at ddX11_readAtom 18 rfl) (by decide) (fun hc_39 => ?_) (fun hc_39 => ?_)
          · have h := h.1 hc_39
            refine lv_aload_n S.1 S.2.1 (dd_at ddX11_readAtom 21 rfl) rfl (lv_at hl 0 rfl) ?_
            refine lv_dup S.1 S.2.1 (dd_at ddX11_readAtom 22 rfl) rfl ?_
            refine r_getI S hw 11 9 rfl inG11 (by decide) (List.mem_cons_of_mem _ wg441) (by decide) ha0 (dd_at ddX11_readAtom 23 rfl) ?_
            refine lv_iconst (v := 1) S.1 S.2.1 (dd_at ddX11_readAtom 24 rfl) (by decide) ?_
            refine lv_isub S.1 S.2.1 (dd_at ddX11_readAtom 25 rfl) ?_
            refine r_putI S hw 11 9 (ty := .int) (v := (gI d_37 a0 9) - 1) rfl inG11 tyX11 tyX11_ok nmX11 (by decide) (List.mem_cons_of_mem _ wg441) (by decide) rfl (by decide +kernel) rfl rfl ha0 (dd_at ddX11_readAtom 26 rfl) (fun H locs hw => ?_)
            refine lv_aload_n S.1 S.2.1 (dd_at ddX11_readAtom 27 rfl) rfl (lv_at hl 0 rfl) ?_
            refine lv_bipush (v := 41) S.1 S.2.1 (dd_at ddX11_readAtom 28 rfl) (by decide) ?_
            refine r_callI hw (r_runV (As := [.int 41]) (rest := []) S hw (m_X11_sign l D cs E (pI d_37 a0 9 ((gI d_37 a0 9) - 1)) H.size a0 41 _) (cwV 1 S.2.2.2.2 (gV wg470 wg471 wg472 wg5 wg473) rfl rfl rfl (by decide +kernel) ⟨rl (m := nn + 1) (F := 9) rfl, rl (m := (nn + 1) * 21) (F := 206) rfl⟩) (ci := 11) rfl ha0 h rfl hl.1 rfl (Nat.le_of_ble_eq_true rfl) (dd_at ddX11_readAtom 29 rfl) ⟨Nat.le_of_ble_eq_true rfl, Nat.le_of_ble_eq_true rfl⟩) (fun r_41 d_40 H locs h hw => ?_)
            exact e_Z S hr hlocks hw h.1 h.2 (dd_at ddX11_readAtom 30 rfl)
          · have h := h.2 hc_39
            refine lv_iconst (v := 0) S.1 S.2.1 (dd_at ddX11_readAtom 19 rfl) (by decide) ?_
            exact e_Z S hr hlocks hw (Or.inl rfl) h (dd_at ddX11_readAtom 20 rfl)
        · have h := h.2 hc_36
          refine lv_iconst (v := 0) S.1 S.2.1 (dd_at ddX11_readAtom 8 rfl) (by decide) ?_
          exact e_Z S hr hlocks hw (Or.inl rfl) h (dd_at ddX11_readAtom 9 rfl)
    · intro D cs E d sz a0 K
      refine e_of (cc := cX11_readAllOf) (maxL := 1) (ret := (some .boolean)) (own := RX11) (by decide) rfl rfl (Nat.le_of_ble_eq_true rfl) ?_
      intro p e s m below meth c S hr hlocks hsz H locs hw h ls hl
      have hl : lv_has ls 1 [(0, .ref a0)] := hl
      have h : wb_X11_readAllOf E a0 d K (wr_X11_readAtom E nn).1 (wr_X11_readAtom E nn).2.1 (wr_X11_readAtom E nn).2.2 := h
      unfold wb_X11_readAllOf at h
      obtain ⟨ha0, h⟩ := h
      have tl9 : ∀ (n : Nat) (d : Dy) (H : Heap) (locs : List Loc) (ls : Array Slot), l_X11_readAllOf_9 E a0 K (wr_X11_readAtom E nn).1 (wr_X11_readAtom E nn).2.1 (wr_X11_readAtom E nn).2.2 n d → Wd D cs (AW E sz) s.heap s E d H locs → lv_has ls 1 [(0, .ref a0)] → W p l e (rg_X11_readAtom (nn + 1)) s m ([.ref a0] : List Value).toArray below meth c H locs 0 0 (MQ below (va_Qi K (OutW D cs E (AW E sz)) (AW E sz)) ([.ref a0] : List Value).toArray s (rg_X11_readAtom (nn + 1)).cells (rg_X11_readAtom (nn + 1)).slots (AW E sz)) (F0 m 9 ls []) := by
        intro n9
        induction n9 with
        | zero => intro d H locs ls h; exact absurd h id
        | succ n9 ih9 =>
          intro d H locs ls h hw hl
          have h : b_X11_readAllOf_9 E a0 K (wr_X11_readAtom E nn).1 (wr_X11_readAtom E nn).2.1 (wr_X11_readAtom E nn).2.2 (l_X11_readAllOf_9 E a0 K (wr_X11_readAtom E nn).1 (wr_X11_readAtom E nn).2.1 (wr_X11_readAtom E nn).2.2 n9) d := h
          unfold b_X11_readAllOf_9 at h
          refine lv_aload_n S.1 S.2.1 (dd_at ddX11_readAllOf 5 rfl) rfl (lv_at hl 0 rfl) ?_
          refine r_ldcS S hw 20 rfl (dd_at ddX11_readAllOf 6 rfl) ?_
          refine r_callI hw (r_runV (As := [.ref (cs (100 + 20))]) (rest := []) S hw (m_X11_passes l D cs E d H.size a0 20 _) (cwV 1 S.2.2.2.2 (gV wg478 wg479 wg480 wg5 wg481) rfl rfl rfl (by decide +kernel) ⟨rl (m := nn + 1) (F := 9) rfl, rl (m := (nn + 1) * 21) (F := 206) rfl⟩) (ci := 11) rfl ha0 h rfl hl.1 rfl (Nat.le_of_ble_eq_true rfl) (dd_at ddX11_readAllOf 7 rfl) ⟨Nat.le_of_ble_eq_true rfl, Nat.le_of_ble_eq_true rfl⟩) (fun r_2 d_1 H locs h hw => ?_)
          refine lv_if_eq (tgt := 37) S.1 S.2.1 (dd_at ddX11_readAllOf 8 rfl) (by decide) (fun hc_3 => ?_) (fun hc_3 => ?_)
          · have h := h.1 hc_3
            refine lv_iconst (v := 1) S.1 S.2.1 (dd_at ddX11_readAllOf 19 rfl) (by decide) ?_
            exact e_Z S hr hlocks hw (Or.inr rfl) h (dd_at ddX11_readAllOf 20 rfl)
          · have h := h.2 hc_3
            refine lv_aload_n S.1 S.2.1 (dd_at ddX11_readAllOf 9 rfl) rfl (lv_at hl 0 rfl) ?_
            refine r_callI hw (r_runV (As := []) (rest := []) S hw (ih.1 D cs E d_1 H.size a0 _) (cwV 0 S.2.2.2.2 (gV wg494 wg495 wg496 wg5 wg497) rfl rfl rfl (by decide +kernel) ⟨by show nn + 9 + 1 ≤ nn + 1 + 9; omega, by show 8 + (2 + 11) + (nn * 21 + 206) ≤ (nn + 1) * 21 + 206; omega⟩) (ci := 11) rfl ha0 h rfl hl.1 rfl (Nat.le_of_ble_eq_true rfl) (dd_at ddX11_readAllOf 10 rfl) ⟨Nat.le_of_ble_eq_true rfl, Nat.le_of_ble_eq_true rfl⟩) (fun r_5 d_4 H locs h hw => ?_)
            refine lv_if_ne (tgt := 27) S.1 S.2.1 (dd_at ddX11_readAllOf 11 rfl) (by decide) (fun hc_6 => ?_) (fun hc_6 => ?_)
            · have h := h.1 hc_6
              refine lv_aload_n S.1 S.2.1 (dd_at ddX11_readAllOf 14 rfl) rfl (lv_at hl 0 rfl) ?_
              refine lv_bipush (v := 14) S.1 S.2.1 (dd_at ddX11_readAllOf 15 rfl) (by decide) ?_
              refine lv_iconst (v := 0) S.1 S.2.1 (dd_at ddX11_readAllOf 16 rfl) (by decide) ?_
              refine r_callV hw (r_runV (As := [.int 14, .int 0]) (rest := []) S hw (m_X11_emits l D cs E d_4 H.size a0 14 0 _) (cwV 2 S.2.2.2.2 (gV wg489 wg490 wg491 wg5 wg492) rfl rfl rfl (by decide +kernel) ⟨rl (m := nn + 1) (F := 9) rfl, rl (m := (nn + 1) * 21) (F := 206) rfl⟩) (ci := 11) rfl ha0 h rfl hl.1 rfl (Nat.le_of_ble_eq_true rfl) (dd_at ddX11_readAllOf 17 rfl) ⟨Nat.le_of_ble_eq_true rfl, Nat.le_of_ble_eq_true rfl⟩) (fun d_7 H locs h hw => ?_)
              refine lv_goto (tgt := 9) S.1 S.2.1 (dd_at ddX11_readAllOf 18 rfl) (by decide) ?_
              exact ih9 d_7 H locs ls h hw (lv_sub hl [0] rfl)
            · have h := h.2 hc_6
              refine lv_iconst (v := 0) S.1 S.2.1 (dd_at ddX11_readAllOf 12 rfl) (by decide) ?_
              exact e_Z S hr hlocks hw (Or.inl rfl) h (dd_at ddX11_readAllOf 13 rfl)
      refine lv_aload_n S.1 S.2.1 (dd_at ddX11_readAllOf 0 rfl) rfl (lv_at hl 0 rfl) ?_
      refine r_callI hw (r_runV (As := []) (rest := []) S hw (ih.1 D cs E d H.size a0 _) (cwV 0 S.2.2.2.2 (gV wg494 wg495 wg496 wg5 wg497) rfl rfl rfl (by decide +kernel) ⟨by show nn + 9 + 1 ≤ nn + 1 + 9; omega, by show 8 + (2 + 11) + (nn * 21 + 206) ≤ (nn + 1) * 21 + 206; omega⟩) (ci := 11) rfl ha0 h rfl hl.1 rfl (Nat.le_of_ble_eq_true rfl) (dd_at ddX11_readAllOf 1 rfl) ⟨Nat.le_of_ble_eq_true rfl, Nat.le_of_ble_eq_true rfl⟩) (fun r_10 d_9 H locs h hw => ?_)
      refine lv_if_ne (tgt := 9) S.1 S.2.1 (dd_at ddX11_readAllOf 2 rfl) (by decide) (fun hc_11 => ?_) (fun hc_11 => ?_)
      · have h := h.1 hc_11
        obtain ⟨n_12, h⟩ := h
        exact tl9 n_12 d_9 H locs ls h hw (lv_sub hl [0] rfl)
      · have h := h.2 hc_11
        refine lv_iconst (v := 0) S.1 S.2.1 (dd_at ddX11_readAllOf 3 rfl) (by decide) ?_
        exact e_Z S hr hlocks hw (Or.inl rfl) h (dd_at ddX11_readAllOf 4 rfl)
    · intro D cs E d sz a0 K
      refine e_of (cc := cX11_readCond) (maxL := 1) (ret := (some .boolean)) (own := RX11) (by decide) rfl rfl (Nat.le_of_ble_eq_true rfl) ?_
      intro p e s m below meth c S hr hlocks hsz H locs hw h ls hl
      have hl : lv_has ls 1 [(0, .ref a0)] := hl
      have h : wb_X11_readCond E a0 d K (wr_X11_readAtom E nn).1 (wr_X11_readAtom E nn).2.1 (wr_X11_readAtom E nn).2.2 := h
      unfold wb_X11_readCond at h
      obtain ⟨ha0, h⟩ := h
      have tl9 : ∀ (n : Nat) (d : Dy) (H : Heap) (locs : List Loc) (ls : Array Slot), l_X11_readCond_9 E a0 K (wr_X11_readAtom E nn).1 (wr_X11_readAtom E nn).2.1 (wr_X11_readAtom E nn).2.2 n d → Wd D cs (AW E sz) s.heap s E d H locs → lv_has ls 1 [(0, .ref a0)] → W p l e (rg_X11_readAtom (nn + 1)) s m ([.ref a0] : List Value).toArray below meth c H locs 0 0 (MQ below (va_Qi K (OutW D cs E (AW E sz)) (AW E sz)) ([.ref a0] : List Value).toArray s (rg_X11_readAtom (nn + 1)).cells (rg_X11_readAtom (nn + 1)).slots (AW E sz)) (F0 m 9 ls []) := by
        intro n9
        induction n9 with
        | zero => intro d H locs ls h; exact absurd h id
        | succ n9 ih9 =>
          intro d H locs ls h hw hl
          have h : b_X11_readCond_9 E a0 K (wr_X11_readAtom E nn).1 (wr_X11_readAtom E nn).2.1 (wr_X11_readAtom E nn).2.2 (l_X11_readCond_9 E a0 K (wr_X11_readAtom E nn).1 (wr_X11_readAtom E nn).2.1 (wr_X11_readAtom E nn).2.2 n9) d := h
          unfold b_X11_readCond_9 at h
          refine lv_aload_n S.1 S.2.1 (dd_at ddX11_readCond 5 rfl) rfl (lv_at hl 0 rfl) ?_
          refine r_ldcS S hw 21 rfl (dd_at ddX11_readCond 6 rfl) ?_
          refine r_callI hw (r_runV (As := [.ref (cs (100 + 21))]) (rest := []) S hw (m_X11_passes l D cs E d H.size a0 21 _) (cwV 1 S.2.2.2.2 (gV wg478 wg479 wg480 wg5 wg481) rfl rfl rfl (by decide +kernel) ⟨rl (m := nn + 1) (F := 9) rfl, rl (m := (nn + 1) * 21) (F := 206) rfl⟩) (ci := 11) rfl ha0 h rfl hl.1 rfl (Nat.le_of_ble_eq_true rfl) (dd_at ddX11_readCond 7 rfl) ⟨Nat.le_of_ble_eq_true rfl, Nat.le_of_ble_eq_true rfl⟩) (fun r_2 d_1 H locs h hw => ?_)
          refine lv_if_eq (tgt := 37) S.1 S.2.1 (dd_at ddX11_readCond 8 rfl) (by decide) (fun hc_3 => ?_) (fun hc_3 => ?_)
          · have h := h.1 hc_3
            refine lv_iconst (v := 1) S.1 S.2.1 (dd_at ddX11_readCond 19 rfl) (by decide) ?_
            exact e_Z S hr hlocks hw (Or.inr rfl) h (dd_at ddX11_readCond 20 rfl)
          · have h := h.2 hc_3
            refine lv_aload_n S.1 S.2.1 (dd_at ddX11_readCond 9 rfl) rfl (lv_at hl 0 rfl) ?_
            refine r_callI hw (r_runV (As := []) (rest := []) S hw (ih.2.1 D cs E d_1 H.size a0 _) (cwV 0 S.2.2.2.2 (gV wg486 wg487 wg488 wg5 wg493) rfl rfl rfl (by decide +kernel) ⟨by show nn + 9 + 1 ≤ nn + 1 + 9; omega, by show 8 + (1 + 11) + (nn * 21 + 206) ≤ (nn + 1) * 21 + 206; omega⟩) (ci := 11) rfl ha0 h rfl hl.1 rfl (Nat.le_of_ble_eq_true rfl) (dd_at ddX11_readCond 10 rfl) ⟨Nat.le_of_ble_eq_true rfl, Nat.le_of_ble_eq_true rfl⟩) (fun r_5 d_4 H locs h hw => ?_)
            refine lv_if_ne (tgt := 27) S.1 S.2.1 (dd_at ddX11_readCond 11 rfl) (by decide) (fun hc_6 => ?_) (fun hc_6 => ?_)
            · have h := h.1 hc_6
              refine lv_aload_n S.1 S.2.1 (dd_at ddX11_readCond 14 rfl) rfl (lv_at hl 0 rfl) ?_
              refine lv_bipush (v := 15) S.1 S.2.1 (dd_at ddX11_readCond 15 rfl) (by decide) ?_
              refine lv_iconst (v := 0) S.1 S.2.1 (dd_at ddX11_readCond 16 rfl) (by decide) ?_
              refine r_callV hw (r_runV (As := [.int 15, .int 0]) (rest := []) S hw (m_X11_emits l D cs E d_4 H.size a0 15 0 _) (cwV 2 S.2.2.2.2 (gV wg489 wg490 wg491 wg5 wg492) rfl rfl rfl (by decide +kernel) ⟨rl (m := nn + 1) (F := 9) rfl, rl (m := (nn + 1) * 21) (F := 206) rfl⟩) (ci := 11) rfl ha0 h rfl hl.1 rfl (Nat.le_of_ble_eq_true rfl) (dd_at ddX11_readCond 17 rfl) ⟨Nat.le_of_ble_eq_true rfl, Nat.le_of_ble_eq_true rfl⟩) (fun d_7 H locs h hw => ?_)
              refine lv_goto (tgt := 9) S.1 S.2.1 (dd_at ddX11_readCond 18 rfl) (by decide) ?_
              exact ih9 d_7 H locs ls h hw (lv_sub hl [0] rfl)
            · have h := h.2 hc_6
              refine lv_iconst (v := 0) S.1 S.2.1 (dd_at ddX11_readCond 12 rfl) (by decide) ?_
              exact e_Z S hr hlocks hw (Or.inl rfl) h (dd_at ddX11_readCond 13 rfl)
      refine lv_aload_n S.1 S.2.1 (dd_at ddX11_readCond 0 rfl) rfl (lv_at hl 0 rfl) ?_
      refine r_callI hw (r_runV (As := []) (rest := []) S hw (ih.2.1 D cs E d H.size a0 _) (cwV 0 S.2.2.2.2 (gV wg486 wg487 wg488 wg5 wg493) rfl rfl rfl (by decide +kernel) ⟨by show nn + 9 + 1 ≤ nn + 1 + 9; omega, by show 8 + (1 + 11) + (nn * 21 + 206) ≤ (nn + 1) * 21 + 206; omega⟩) (ci := 11) rfl ha0 h rfl hl.1 rfl (Nat.le_of_ble_eq_true rfl) (dd_at ddX11_readCond 1 rfl) ⟨Nat.le_of_ble_eq_true rfl, Nat.le_of_ble_eq_true rfl⟩) (fun r_10 d_9 H locs h hw => ?_)
      refine lv_if_ne (tgt := 9) S.1 S.2.1 (dd_at ddX11_readCond 2 rfl) (by decide) (fun hc_11 => ?_) (fun hc_11 => ?_)
      · have h := h.1 hc_11
        obtain ⟨n_12, h⟩ := h
        exact tl9 n_12 d_9 H locs ls h hw (lv_sub hl [0] rfl)
      · have h := h.2 hc_11
        refine lv_iconst (v := 0) S.1 S.2.1 (dd_at ddX11_readCond 3 rfl) (by decide) ?_
        exact e_Z S hr hlocks hw (Or.inl rfl) h (dd_at ddX11_readCond 4 rfl)
theorem m_X11_readAtom (l : Launch) (D : va_G) (cs : Nat → ClassId) (E : En) (d : Dy) (sz : Nat) (a0 : Nat) (K : Int32 → Dy → Prop) : CI l yX11_readAtom (.code yX11_readAtom cX11_readAtom 2 (some .boolean) :: wsL_law) rm_X11_readAtom D cs E d sz [.ref a0] (w_X11_readAtom E a0 d K) K := (mg_X11_readAtom l 60).1 D cs E d sz a0 K
theorem m_X11_readAllOf (l : Launch) (D : va_G) (cs : Nat → ClassId) (E : En) (d : Dy) (sz : Nat) (a0 : Nat) (K : Int32 → Dy → Prop) : CI l yX11_readAllOf (.code yX11_readAllOf cX11_readAllOf 1 (some .boolean) :: wsL_law) rm_X11_readAllOf D cs E d sz [.ref a0] (w_X11_readAllOf E a0 d K) K := (mg_X11_readAtom l 60).2.1 D cs E d sz a0 K
theorem m_X11_readCond (l : Launch) (D : va_G) (cs : Nat → ClassId) (E : En) (d : Dy) (sz : Nat) (a0 : Nat) (K : Int32 → Dy → Prop) : CI l yX11_readCond (.code yX11_readCond cX11_readCond 1 (some .boolean) :: wsL_law) rm_X11_readCond D cs E d sz [.ref a0] (w_X11_readCond E a0 d K) K := (mg_X11_readAtom l 60).2.2 D cs E d sz a0 K



def w_X11_keepsAt (E : En) (a0 : Nat) (p1 : Int32) (p2 : Int32) (d : Dy) (K : Int32 → Dy → Prop) : Prop := okO E a0 11 ∧ ∃ b_1 : Nat, eR E a0 1 = some b_1 ∧ okA E b_1 13 ∧ vp_in p1 (eN E b_1) ∧ ((p2 < 0 → K 0 (pA d b_1 (p1).toNatClampNeg p2)) ∧ (¬ p2 < 0 → K 1 (pA d b_1 (p1).toNatClampNeg p2)))
abbrev rm_X11_keepsAt : Room := { frames := 0, cells := 0, slots := 0, locals := 0 }
set_option maxRecDepth 100000 in
set_option maxHeartbeats 4000000 in
theorem m_X11_keepsAt (l : Launch) (D : va_G) (cs : Nat → ClassId) (E : En) (d : Dy) (sz : Nat) (a0 : Nat) (p1 : Int32) (p2 : Int32) (K : Int32 → Dy → Prop) : CI l yX11_keepsAt (.code yX11_keepsAt cX11_keepsAt 3 (some .boolean) :: wsL_law) rm_X11_keepsAt D cs E d sz [.ref a0, .int p1, .int p2] (w_X11_keepsAt E a0 p1 p2 d K) K := by
  refine e_of (cc := cX11_keepsAt) (maxL := 3) (ret := (some .boolean)) (own := RX11) (by decide) rfl rfl (Nat.le_of_ble_eq_true rfl) ?_
  intro p e s m below meth c S hr hlocks hsz H locs hw h ls hl
  have hl : lv_has ls 3 [(0, .ref a0), (1, .int p1), (2, .int p2)] := hl
  unfold w_X11_keepsAt at h
  obtain ⟨ha0, h⟩ := h
  refine lv_aload_n S.1 S.2.1 (dd_at ddX11_keepsAt 0 rfl) rfl (lv_at hl 0 rfl) ?_
  obtain ⟨b_1, hb_2, ho_3, h⟩ := h
  refine r_getR S hw 11 1 rfl inG11 (by decide) (List.mem_cons_of_mem _ wg150) (by decide) ha0 hb_2 (dd_at ddX11_keepsAt 1 rfl) ?_
  refine lv_iload_n S.1 S.2.1 (dd_at ddX11_keepsAt 2 rfl) rfl (lv_at hl 1 rfl) ?_
  refine lv_iload_n S.1 S.2.1 (dd_at ddX11_keepsAt 3 rfl) rfl (lv_at hl 2 rfl) ?_
  obtain ⟨hx_4, h⟩ := h
  refine r_iast S hw ho_3 hx_4 (dd_at ddX11_keepsAt 4 rfl) (fun H locs hw => ?_)
  refine lv_iload_n S.1 S.2.1 (dd_at ddX11_keepsAt 5 rfl) rfl (lv_at hl 2 rfl) ?_
  refine lv_if_lt (tgt := 15) S.1 S.2.1 (dd_at ddX11_keepsAt 6 rfl) (by decide) (fun hc_5 => ?_) (fun hc_5 => ?_)
  · have h := h.1 hc_5
    refine lv_iconst (v := 0) S.1 S.2.1 (dd_at ddX11_keepsAt 9 rfl) (by decide) ?_
    exact e_Z S hr hlocks hw (Or.inl rfl) h (dd_at ddX11_keepsAt 10 rfl)
  · have h := h.2 hc_5
    refine lv_iconst (v := 1) S.1 S.2.1 (dd_at ddX11_keepsAt 7 rfl) (by decide) ?_
    refine lv_goto (tgt := 16) S.1 S.2.1 (dd_at ddX11_keepsAt 8 rfl) (by decide) ?_
    exact e_Z S hr hlocks hw (Or.inr rfl) h (dd_at ddX11_keepsAt 10 rfl)

def b_X11_readHead_172 (E : En) (a0 : Nat) (p1 : Int32) (K : Int32 → Dy → Prop) (s0 : Nat) (s1 : Int32) (s2 : Int32) (d : Dy) : Prop := okO E s0 11 ∧ w_X11_keepsAt E s0 s1 s2 d (fun r_2 d_1 => ((r_2 = 0 → K 0 d_1) ∧ (¬ r_2 = 0 → w_X11_number E a0 9999 d_1 (fun r_5 d_4 => w_X11_keepsAt E a0 (p1 + 1) r_5 d_4 (fun r_7 d_6 => ((¬ r_7 = 0 → w_X11_sign E a0 42 d_6 (fun r_10 d_9 => ((¬ r_10 = 0 → w_X11_letters E a0 d_9 (fun d_12 => w_X11_factAt E a0 d_12 (fun r_15 d_14 => w_X11_keepsAt E a0 (p1 + 2) r_15 d_14 (fun r_17 d_16 => (r_17 = 0 ∨ r_17 = 1) ∧ K r_17 d_16)))) ∧ (r_10 = 0 → K 1 d_9)))) ∧ (r_7 = 0 → K 0 d_6)))))))
def w_X11_readHead (E : En) (a0 : Nat) (p1 : Int32) (d : Dy) (K : Int32 → Dy → Prop) : Prop := okO E a0 11 ∧ ∃ b_18 : Nat, eR E a0 1 = some b_18 ∧ okA E b_18 13 ∧ vp_in (p1 + 1) (eN E b_18) ∧ ∃ b_22 : Nat, eR E a0 1 = some b_22 ∧ okA E b_22 13 ∧ vp_in (p1 + 2) (eN E b_22) ∧ ((¬ (gI (pA (pA d b_18 (p1 + 1).toNatClampNeg 0) b_22 (p1 + 2).toNatClampNeg (-1)) a0 13) = 0 → ((¬ (gI (pA (pA d b_18 (p1 + 1).toNatClampNeg 0) b_22 (p1 + 2).toNatClampNeg (-1)) a0 13) = 3 → w_X11_isWord E a0 7 (pA (pA d b_18 (p1 + 1).toNatClampNeg 0) b_22 (p1 + 2).toNatClampNeg (-1)) (fun r_29 d_28 => ((r_29 = 0 → w_X11_isWord E a0 8 d_28 (fun r_32 d_31 => ((r_32 = 0 → b_X11_readHead_172 E a0 p1 K a0 p1 (-1) d_31) ∧ (¬ r_32 = 0 → b_X11_readHead_172 E a0 p1 K a0 p1 5 d_31)))) ∧ (¬ r_29 = 0 → b_X11_readHead_172 E a0 p1 K a0 p1 4 d_28)))) ∧ ((gI (pA (pA d b_18 (p1 + 1).toNatClampNeg 0) b_22 (p1 + 2).toNatClampNeg (-1)) a0 13) = 3 → w_X11_isWord E a0 6 (pA (pA d b_18 (p1 + 1).toNatClampNeg 0) b_22 (p1 + 2).toNatClampNeg (-1)) (fun r_35 d_34 => ((¬ r_35 = 0 → ∃ b_37 : Nat, eR E a0 1 = some b_37 ∧ okA E b_37 13 ∧ vp_in p1 (eN E b_37) ∧ w_X11_number E a0 7 (pA d_34 b_37 (p1).toNatClampNeg 6) (fun r_42 d_41 => w_X11_keepsAt E a0 (p1 + 1) r_42 d_41 (fun r_44 d_43 => (r_44 = 0 ∨ r_44 = 1) ∧ K r_44 d_43))) ∧ (r_35 = 0 → K 0 d_34)))))) ∧ ((gI (pA (pA d b_18 (p1 + 1).toNatClampNeg 0) b_22 (p1 + 2).toNatClampNeg (-1)) a0 13) = 0 → w_X11_isWord E a0 1 (pA (pA d b_18 (p1 + 1).toNatClampNeg 0) b_22 (p1 + 2).toNatClampNeg (-1)) (fun r_46 d_45 => ((¬ r_46 = 0 → w_X11_letters E a0 d_45 (fun d_48 => w_X11_isWord E a0 2 d_48 (fun r_51 d_50 => ((r_51 = 0 → w_X11_isWord E a0 3 d_50 (fun r_54 d_53 => ((r_54 = 0 → w_X11_isWord E a0 4 d_53 (fun r_57 d_56 => ((r_57 = 0 → w_X11_isWord E a0 5 d_56 (fun r_60 d_59 => ((r_60 = 0 → w_X11_keepsAt E a0 p1 (-1) d_59 (fun r_63 d_62 => (r_63 = 0 ∨ r_63 = 1) ∧ K r_63 d_62)) ∧ (¬ r_60 = 0 → w_X11_keepsAt E a0 p1 3 d_59 (fun r_65 d_64 => (r_65 = 0 ∨ r_65 = 1) ∧ K r_65 d_64))))) ∧ (¬ r_57 = 0 → w_X11_keepsAt E a0 p1 2 d_56 (fun r_67 d_66 => (r_67 = 0 ∨ r_67 = 1) ∧ K r_67 d_66))))) ∧ (¬ r_54 = 0 → w_X11_keepsAt E a0 p1 1 d_53 (fun r_69 d_68 => (r_69 = 0 ∨ r_69 = 1) ∧ K r_69 d_68))))) ∧ (¬ r_51 = 0 → w_X11_keepsAt E a0 p1 0 d_50 (fun r_71 d_70 => (r_71 = 0 ∨ r_71 = 1) ∧ K r_71 d_70)))))) ∧ (r_46 = 0 → K 0 d_45)))))
abbrev rm_X11_readHead : Room := { frames := 6, cells := 0, slots := 0, locals := 135 }
set_option maxRecDepth 100000 in
set_option maxHeartbeats 4000000 in
theorem m_X11_readHead (l : Launch) (D : va_G) (cs : Nat → ClassId) (E : En) (d : Dy) (sz : Nat) (a0 : Nat) (p1 : Int32) (K : Int32 → Dy → Prop) : CI l yX11_readHead (.code yX11_readHead cX11_readHead 2 (some .boolean) :: wsL_law) rm_X11_readHead D cs E d sz [.ref a0, .int p1] (w_X11_readHead E a0 p1 d K) K := by
  refine e_of (cc := cX11_readHead) (maxL := 2) (ret := (some .boolean)) (own := RX11) (by decide) rfl rfl (Nat.le_of_ble_eq_true rfl) ?_
  intro p e s m below meth c S hr hlocks hsz H locs hw h ls hl
  have hl : lv_has ls 2 [(0, .ref a0), (1, .int p1)] := hl
  unfold w_X11_readHead at h
  obtain ⟨ha0, h⟩ := h
  have tb172 : ∀ (s0 : Nat) (s1 : Int32) (s2 : Int32) (d : Dy) (H : Heap) (locs : List Loc) (ls : Array Slot), b_X11_readHead_172 E a0 p1 K s0 s1 s2 d → Wd D cs (AW E sz) s.heap s E d H locs → lv_has ls 2 [(0, .ref a0), (1, .int p1)] → W p l e rm_X11_readHead s m ([.ref a0, .int p1] : List Value).toArray below meth c H locs 0 0 (MQ below (va_Qi K (OutW D cs E (AW E sz)) (AW E sz)) ([.ref a0, .int p1] : List Value).toArray s rm_X11_readHead.cells rm_X11_readHead.slots (AW E sz)) (F0 m 172 ls [.int s2, .int s1, .ref s0]) := by
    intro s0 s1 s2 d H locs ls h hw hl
    unfold b_X11_readHead_172 at h
    obtain ⟨hos0, h⟩ := h
    refine r_callI hw (r_runV (As := [.int s1, .int s2]) (rest := []) S hw (m_X11_keepsAt l D cs E d H.size s0 s1 s2 _) (cwV 2 S.2.2.2.2 (gV wg462 wg463 wg464 wg5 wg465) rfl rfl rfl (by decide +kernel) ⟨Nat.le_of_ble_eq_true rfl, Nat.le_of_ble_eq_true rfl⟩) (ci := 11) rfl hos0 h rfl hl.1 rfl (Nat.le_of_ble_eq_true rfl) (dd_at ddX11_readHead 93 rfl) ⟨Nat.le_of_ble_eq_true rfl, Nat.le_of_ble_eq_true rfl⟩) (fun r_2 d_1 H locs h hw => ?_)
    refine lv_if_eq (tgt := 195) S.1 S.2.1 (dd_at ddX11_readHead 94 rfl) (by decide) (fun hc_3 => ?_) (fun hc_3 => ?_)
    · have h := h.1 hc_3
      refine lv_iconst (v := 0) S.1 S.2.1 (dd_at ddX11_readHead 104 rfl) (by decide) ?_
      exact e_Z S hr hlocks hw (Or.inl rfl) h (dd_at ddX11_readHead 105 rfl)
    · have h := h.2 hc_3
      refine lv_aload_n S.1 S.2.1 (dd_at ddX11_readHead 95 rfl) rfl (lv_at hl 0 rfl) ?_
      refine lv_iload_n S.1 S.2.1 (dd_at ddX11_readHead 96 rfl) rfl (lv_at hl 1 rfl) ?_
      refine lv_iconst (v := 1) S.1 S.2.1 (dd_at ddX11_readHead 97 rfl) (by decide) ?_
      refine lv_iadd S.1 S.2.1 (dd_at ddX11_readHead 98 rfl) ?_
      refine lv_aload_n S.1 S.2.1 (dd_at ddX11_readHead 99 rfl) rfl (lv_at hl 0 rfl) ?_
      refine lv_sipush (v := 9999) S.1 S.2.1 (dd_at ddX11_readHead 100 rfl) (by decide) ?_
      refine r_callI hw (r_runV (As := [.int 9999]) (rest := [.int (p1 + 1), .ref a0]) S hw (m_X11_number l D cs E d_1 H.size a0 9999 _) (cwV 1 S.2.2.2.2 (gV wg466 wg467 wg468 wg5 wg469) rfl rfl rfl (by decide +kernel) ⟨Nat.le_of_ble_eq_true rfl, Nat.le_of_ble_eq_true rfl⟩) (ci := 11) rfl ha0 h rfl hl.1 rfl (Nat.le_of_ble_eq_true rfl) (dd_at ddX11_readHead 101 rfl) ⟨Nat.le_of_ble_eq_true rfl, Nat.le_of_ble_eq_true rfl⟩) (fun r_5 d_4 H locs h hw => ?_)
      refine r_callI hw (r_runV (As := [.int (p1 + 1), .int r_5]) (rest := []) S hw (m_X11_keepsAt l D cs E d_4 H.size a0 (p1 + 1) r_5 _) (cwV 2 S.2.2.2.2 (gV wg462 wg463 wg464 wg5 wg465) rfl rfl rfl (by decide +kernel) ⟨Nat.le_of_ble_eq_true rfl, Nat.le_of_ble_eq_true rfl⟩) (ci := 11) rfl ha0 h rfl hl.1 rfl (Nat.le_of_ble_eq_true rfl) (dd_at ddX11_readHead 102 rfl) ⟨Nat.le_of_ble_eq_true rfl, Nat.le_of_ble_eq_true rfl⟩) (fun r_7 d_6 H locs h hw => ?_)
      refine lv_if_ne (tgt := 197) S.1 S.2.1 (dd_at ddX11_readHead 103 rfl) (by decide) (fun hc_8 => ?_) (fun hc_8 => ?_)
      · have h := h.1 hc_8
        refine lv_aload_n S.1 S.2.1 (dd_at ddX11_readHead 106 rfl) rfl (lv_at hl 0 rfl) ?_
        refine lv_bipush (v := 42) S.1 S.2.1 (dd_at ddX11_readHead 107 rfl) (by decide) ?_
        refine r_callI hw (r_runV (As := [.int 42]) (rest := []) S hw (m_X11_sign l D cs E d_6 H.size a0 42 _) (cwV 1 S.2.2.2.2 (gV wg470 wg471 wg472 wg5 wg473) rfl rfl rfl (by decide +kernel) ⟨Nat.le_of_ble_eq_true rfl, Nat.le_of_ble_eq_true rfl⟩) (ci := 11) rfl ha0 h rfl hl.1 rfl (Nat.le_of_ble_eq_true rfl) (dd_at ddX11_readHead 108 rfl) ⟨Nat.le_of_ble_eq_true rfl, Nat.le_of_ble_eq_true rfl⟩) (fun r_10 d_9 H locs h hw => ?_)
        refine lv_if_ne (tgt := 208) S.1 S.2.1 (dd_at ddX11_readHead 109 rfl) (by decide) (fun hc_11 => ?_) (fun hc_11 => ?_)
        · have h := h.1 hc_11
          refine lv_aload_n S.1 S.2.1 (dd_at ddX11_readHead 112 rfl) rfl (lv_at hl 0 rfl) ?_
          refine r_callV hw (r_runV (As := []) (rest := []) S hw (m_X11_letters l D cs E d_9 H.size a0 _) (cwV 0 S.2.2.2.2 (gV wg442 wg443 wg444 wg5 wg445) rfl rfl rfl (by decide +kernel) ⟨Nat.le_of_ble_eq_true rfl, Nat.le_of_ble_eq_true rfl⟩) (ci := 11) rfl ha0 h rfl hl.1 rfl (Nat.le_of_ble_eq_true rfl) (dd_at ddX11_readHead 113 rfl) ⟨Nat.le_of_ble_eq_true rfl, Nat.le_of_ble_eq_true rfl⟩) (fun d_12 H locs h hw => ?_)
          refine lv_aload_n S.1 S.2.1 (dd_at ddX11_readHead 114 rfl) rfl (lv_at hl 0 rfl) ?_
          refine lv_iload_n S.1 S.2.1 (dd_at ddX11_readHead 115 rfl) rfl (lv_at hl 1 rfl) ?_
          refine lv_iconst (v := 2) S.1 S.2.1 (dd_at ddX11_readHead 116 rfl) (by decide) ?_
          refine lv_iadd S.1 S.2.1 (dd_at ddX11_readHead 117 rfl) ?_
          refine lv_aload_n S.1 S.2.1 (dd_at ddX11_readHead 118 rfl) rfl (lv_at hl 0 rfl) ?_
          refine r_callI hw (r_runV (As := []) (rest := [.int (p1 + 2), .ref a0]) S hw (m_X11_factAt l D cs E d_12 H.size a0 _) (cwV 0 S.2.2.2.2 (gV wg474 wg475 wg476 wg5 wg477) rfl rfl rfl (by decide +kernel) ⟨Nat.le_of_ble_eq_true rfl, Nat.le_of_ble_eq_true rfl⟩) (ci := 11) rfl ha0 h rfl hl.1 rfl (Nat.le_of_ble_eq_true rfl) (dd_at ddX11_readHead 119 rfl) ⟨Nat.le_of_ble_eq_true rfl, Nat.le_of_ble_eq_true rfl⟩) (fun r_15 d_14 H locs h hw => ?_)
          refine r_callI hw (r_runV (As := [.int (p1 + 2), .int r_15]) (rest := []) S hw (m_X11_keepsAt l D cs E d_14 H.size a0 (p1 + 2) r_15 _) (cwV 2 S.2.2.2.2 (gV wg462 wg463 wg464 wg5 wg465) rfl rfl rfl (by decide +kernel) ⟨Nat.le_of_ble_eq_true rfl, Nat.le_of_ble_eq_true rfl⟩) (ci := 11) rfl ha0 h rfl hl.1 rfl (Nat.le_of_ble_eq_true rfl) (dd_at ddX11_readHead 120 rfl) ⟨Nat.le_of_ble_eq_true rfl, Nat.le_of_ble_eq_true rfl⟩) (fun r_17 d_16 H locs h hw => ?_)
          exact e_Z S hr hlocks hw h.1 h.2 (dd_at ddX11_readHead 121 rfl)
        · have h := h.2 hc_11
          refine lv_iconst (v := 1) S.1 S.2.1 (dd_at ddX11_readHead 110 rfl) (by decide) ?_
          exact e_Z S hr hlocks hw (Or.inr rfl) h (dd_at ddX11_readHead 111 rfl)
      · have h := h.2 hc_8
        refine lv_iconst (v := 0) S.1 S.2.1 (dd_at ddX11_readHead 104 rfl) (by decide) ?_
        exact e_Z S hr hlocks hw (Or.inl rfl) h (dd_at ddX11_readHead 105 rfl)
  refine lv_aload_n S.1 S.2.1 (dd_at ddX11_readHead 0 rfl) rfl (lv_at hl 0 rfl) ?_
  obtain ⟨b_18, hb_19, ho_20, h⟩ := h
  refine r_getR S hw 11 1 rfl inG11 (by decide) (List.mem_cons_of_mem _ wg150) (by decide) ha0 hb_19 (dd_at ddX11_readHead 1 rfl) ?_
  refine lv_iload_n S.1 S.2.1 (dd_at ddX11_readHead 2 rfl) rfl (lv_at hl 1 rfl) ?_
  refine lv_iconst (v := 1) S.1 S.2.1 (dd_at ddX11_readHead 3 rfl) (by decide) ?_
  refine lv_iadd S.1 S.2.1 (dd_at ddX11_readHead 4 rfl) ?_
  refine lv_iconst (v := 0) S.1 S.2.1 (dd_at ddX11_readHead 5 rfl) (by decide) ?_
  obtain ⟨hx_21, h⟩ := h
  refine r_iast S hw ho_20 hx_21 (dd_at ddX11_readHead 6 rfl) (fun H locs hw => ?_)
  refine lv_aload_n S.1 S.2.1 (dd_at ddX11_readHead 7 rfl) rfl (lv_at hl 0 rfl) ?_
  obtain ⟨b_22, hb_23, ho_24, h⟩ := h
  refine r_getR S hw 11 1 rfl inG11 (by decide) (List.mem_cons_of_mem _ wg150) (by decide) ha0 hb_23 (dd_at ddX11_readHead 8 rfl) ?_
  refine lv_iload_n S.1 S.2.1 (dd_at ddX11_readHead 9 rfl) rfl (lv_at hl 1 rfl) ?_
  refine lv_iconst (v := 2) S.1 S.2.1 (dd_at ddX11_readHead 10 rfl) (by decide) ?_
  refine lv_iadd S.1 S.2.1 (dd_at ddX11_readHead 11 rfl) ?_
  refine lv_iconst (v := -1) S.1 S.2.1 (dd_at ddX11_readHead 12 rfl) (by decide) ?_
  obtain ⟨hx_25, h⟩ := h
  refine r_iast S hw ho_24 hx_25 (dd_at ddX11_readHead 13 rfl) (fun H locs hw => ?_)
  refine lv_aload_n S.1 S.2.1 (dd_at ddX11_readHead 14 rfl) rfl (lv_at hl 0 rfl) ?_
  refine r_getI S hw 11 13 rfl inG11 (by decide) (List.mem_cons_of_mem _ wg416) (by decide) ha0 (dd_at ddX11_readHead 15 rfl) ?_
  refine lv_if_ne (tgt := 99) S.1 S.2.1 (dd_at ddX11_readHead 16 rfl) (by decide) (fun hc_26 => ?_) (fun hc_26 => ?_)
  · have h := h.1 hc_26
    refine lv_aload_n S.1 S.2.1 (dd_at ddX11_readHead 54 rfl) rfl (lv_at hl 0 rfl) ?_
    refine r_getI S hw 11 13 rfl inG11 (by decide) (List.mem_cons_of_mem _ wg416) (by decide) ha0 (dd_at ddX11_readHead 55 rfl) ?_
    refine lv_iconst (v := 3) S.1 S.2.1 (dd_at ddX11_readHead 56 rfl) (by decide) ?_
    refine lv_icmp_ne (tgt := 141) S.1 S.2.1 (dd_at ddX11_readHead 57 rfl) (by decide) (fun hc_27 => ?_) (fun hc_27 => ?_)
    · have h := h.1 hc_27
      refine lv_aload_n S.1 S.2.1 (dd_at ddX11_readHead 78 rfl) rfl (lv_at hl 0 rfl) ?_
      refine lv_iload_n S.1 S.2.1 (dd_at ddX11_readHead 79 rfl) rfl (lv_at hl 1 rfl) ?_
      refine lv_aload_n S.1 S.2.1 (dd_at ddX11_readHead 80 rfl) rfl (lv_at hl 0 rfl) ?_
      refine r_ldcSW S hw 7 rfl (dd_at ddX11_readHead 81 rfl) ?_
      refine r_callI hw (r_runV (As := [.ref (cs (100 + 7))]) (rest := [.int p1, .ref a0]) S hw (m_X11_isWord l D cs E (pA (pA d b_18 (p1 + 1).toNatClampNeg 0) b_22 (p1 + 2).toNatClampNeg (-1)) H.size a0 7 _) (cwV 1 S.2.2.2.2 (gV wg456 wg457 wg458 wg5 wg459) rfl rfl rfl (by decide +kernel) ⟨Nat.le_of_ble_eq_true rfl, Nat.le_of_ble_eq_true rfl⟩) (ci := 11) rfl ha0 h rfl hl.1 rfl (Nat.le_of_ble_eq_true rfl) (dd_at ddX11_readHead 82 rfl) ⟨Nat.le_of_ble_eq_true rfl, Nat.le_of_ble_eq_true rfl⟩) (fun r_29 d_28 H locs h hw => ?_)
      refine lv_if_eq (tgt := 157) S.1 S.2.1 (dd_at ddX11_readHead 83 rfl) (by decide) (fun hc_30 => ?_) (fun hc_30 => ?_)
      · have h := h.1 hc_30
        refine lv_aload_n S.1 S.2.1 (dd_at ddX11_readHead 86 rfl) rfl (lv_at hl 0 rfl) ?_
        refine r_ldcSW S hw 8 rfl (dd_at ddX11_readHead 87 rfl) ?_
        refine r_callI hw (r_runV (As := [.ref (cs (100 + 8))]) (rest := [.int p1, .ref a0]) S hw (m_X11_isWord l D cs E d_28 H.size a0 8 _) (cwV 1 S.2.2.2.2 (gV wg456 wg457 wg458 wg5 wg459) rfl rfl rfl (by decide +kernel) ⟨Nat.le_of_ble_eq_true rfl, Nat.le_of_ble_eq_true rfl⟩) (ci := 11) rfl ha0 h rfl hl.1 rfl (Nat.le_of_ble_eq_true rfl) (dd_at ddX11_readHead 88 rfl) ⟨Nat.le_of_ble_eq_true rfl, Nat.le_of_ble_eq_true rfl⟩) (fun r_32 d_31 H locs h hw => ?_)
        refine lv_if_eq (tgt := 171) S.1 S.2.1 (dd_at ddX11_readHead 89 rfl) (by decide) (fun hc_33 => ?_) (fun hc_33 => ?_)
        · have h := h.1 hc_33
          refine lv_iconst (v := -1) S.1 S.2.1 (dd_at ddX11_readHead 92 rfl) (by decide) ?_
          exact tb172 a0 p1 (-1) d_31 H locs ls h hw (lv_sub hl [0, 1] rfl)
        · have h := h.2 hc_33
          refine lv_iconst (v := 5) S.1 S.2.1 (dd_at ddX11_readHead 90 rfl) (by decide) ?_
          refine lv_goto (tgt := 172) S.1 S.2.1 (dd_at ddX11_readHead 91 rfl) (by decide) ?_
          exact tb172 a0 p1 5 d_31 H locs ls h hw (lv_sub hl [0, 1] rfl)
      · have h := h.2 hc_30
        refine lv_iconst (v := 4) S.1 S.2.1 (dd_at ddX11_readHead 84 rfl) (by decide) ?_
        refine lv_goto (tgt := 172) S.1 S.2.1 (dd_at ddX11_readHead 85 rfl) (by decide) ?_
        exact tb172 a0 p1 4 d_28 H locs ls h hw (lv_sub hl [0, 1] rfl)
    · have h := h.2 hc_27
      refine lv_aload_n S.1 S.2.1 (dd_at ddX11_readHead 58 rfl) rfl (lv_at hl 0 rfl) ?_
      refine r_ldcSW S hw 6 rfl (dd_at ddX11_readHead 59 rfl) ?_
      refine r_callI hw (r_runV (As := [.ref (cs (100 + 6))]) (rest := []) S hw (m_X11_isWord l D cs E (pA (pA d b_18 (p1 + 1).toNatClampNeg 0) b_22 (p1 + 2).toNatClampNeg (-1)) H.size a0 6 _) (cwV 1 S.2.2.2.2 (gV wg456 wg457 wg458 wg5 wg459) rfl rfl rfl (by decide +kernel) ⟨Nat.le_of_ble_eq_true rfl, Nat.le_of_ble_eq_true rfl⟩) (ci := 11) rfl ha0 h rfl hl.1 rfl (Nat.le_of_ble_eq_true rfl) (dd_at ddX11_readHead 60 rfl) ⟨Nat.le_of_ble_eq_true rfl, Nat.le_of_ble_eq_true rfl⟩) (fun r_35 d_34 H locs h hw => ?_)
      refine lv_if_ne (tgt := 119) S.1 S.2.1 (dd_at ddX11_readHead 61 rfl) (by decide) (fun hc_36 => ?_) (fun hc_36 => ?_)
      · have h := h.1 hc_36
        refine lv_aload_n S.1 S.2.1 (dd_at ddX11_readHead 64 rfl) rfl (lv_at hl 0 rfl) ?_
        obtain ⟨b_37, hb_38, ho_39, h⟩ := h
        refine r_getR S hw 11 1 rfl inG11 (by decide) (List.mem_cons_of_mem _ wg150) (by decide) ha0 hb_38 (dd_at ddX11_readHead 65 rfl) ?_
        refine lv_iload_n S.1 S.2.1 (dd_at ddX11_readHead 66 rfl) rfl (lv_at hl 1 rfl) ?_
        refine lv_bipush (v := 6) S.1 S.2.1 (dd_at ddX11_readHead 67 rfl) (by decide) ?_
        obtain ⟨hx_40, h⟩ := h
        refine r_iast S hw ho_39 hx_40 (dd_at ddX11_readHead 68 rfl) (fun H locs hw => ?_)
        refine lv_aload_n S.1 S.2.1 (dd_at ddX11_readHead 69 rfl) rfl (lv_at hl 0 rfl) ?_
        refine lv_iload_n S.1 S.2.1 (dd_at ddX11_readHead 70 rfl) rfl (lv_at hl 1 rfl) ?_
        refine lv_iconst (v := 1) S.1 S.2.1 (dd_at ddX11_readHead 71 rfl) (by decide) ?_
        refine lv_iadd S.1 S.2.1 (dd_at ddX11_readHead 72 rfl) ?_
        refine lv_aload_n S.1 S.2.1 (dd_at ddX11_readHead 73 rfl) rfl (lv_at hl 0 rfl) ?_
        refine lv_bipush (v := 7) S.1 S.2.1 (dd_at ddX11_readHead 74 rfl) (by decide) ?_
        refine r_callI hw (r_runV (As := [.int 7]) (rest := [.int (p1 + 1), .ref a0]) S hw (m_X11_number l D cs E (pA d_34 b_37 (p1).toNatClampNeg 6) H.size a0 7 _) (cwV 1 S.2.2.2.2 (gV wg466 wg467 wg468 wg5 wg469) rfl rfl rfl (by decide +kernel) ⟨Nat.le_of_ble_eq_true rfl, Nat.le_of_ble_eq_true rfl⟩) (ci := 11) rfl ha0 h rfl hl.1 rfl (Nat.le_of_ble_eq_true rfl) (dd_at ddX11_readHead 75 rfl) ⟨Nat.le_of_ble_eq_true rfl, Nat.le_of_ble_eq_true rfl⟩) (fun r_42 d_41 H locs h hw => ?_)
        refine r_callI hw (r_runV (As := [.int (p1 + 1), .int r_42]) (rest := []) S hw (m_X11_keepsAt l D cs E d_41 H.size a0 (p1 + 1) r_42 _) (cwV 2 S.2.2.2.2 (gV wg462 wg463 wg464 wg5 wg465) rfl rfl rfl (by decide +kernel) ⟨Nat.le_of_ble_eq_true rfl, Nat.le_of_ble_eq_true rfl⟩) (ci := 11) rfl ha0 h rfl hl.1 rfl (Nat.le_of_ble_eq_true rfl) (dd_at ddX11_readHead 76 rfl) ⟨Nat.le_of_ble_eq_true rfl, Nat.le_of_ble_eq_true rfl⟩) (fun r_44 d_43 H locs h hw => ?_)
        exact e_Z S hr hlocks hw h.1 h.2 (dd_at ddX11_readHead 77 rfl)
      · have h := h.2 hc_36
        refine lv_iconst (v := 0) S.1 S.2.1 (dd_at ddX11_readHead 62 rfl) (by decide) ?_
        exact e_Z S hr hlocks hw (Or.inl rfl) h (dd_at ddX11_readHead 63 rfl)
  · have h := h.2 hc_26
    refine lv_aload_n S.1 S.2.1 (dd_at ddX11_readHead 17 rfl) rfl (lv_at hl 0 rfl) ?_
    refine r_ldcS S hw 1 rfl (dd_at ddX11_readHead 18 rfl) ?_
    refine r_callI hw (r_runV (As := [.ref (cs (100 + 1))]) (rest := []) S hw (m_X11_isWord l D cs E (pA (pA d b_18 (p1 + 1).toNatClampNeg 0) b_22 (p1 + 2).toNatClampNeg (-1)) H.size a0 1 _) (cwV 1 S.2.2.2.2 (gV wg456 wg457 wg458 wg5 wg459) rfl rfl rfl (by decide +kernel) ⟨Nat.le_of_ble_eq_true rfl, Nat.le_of_ble_eq_true rfl⟩) (ci := 11) rfl ha0 h rfl hl.1 rfl (Nat.le_of_ble_eq_true rfl) (dd_at ddX11_readHead 19 rfl) ⟨Nat.le_of_ble_eq_true rfl, Nat.le_of_ble_eq_true rfl⟩) (fun r_46 d_45 H locs h hw => ?_)
    refine lv_if_ne (tgt := 36) S.1 S.2.1 (dd_at ddX11_readHead 20 rfl) (by decide) (fun hc_47 => ?_) (fun hc_47 => ?_)
    · have h := h.1 hc_47
      refine lv_aload_n S.1 S.2.1 (dd_at ddX11_readHead 23 rfl) rfl (lv_at hl 0 rfl) ?_
      refine r_callV hw (r_runV (As := []) (rest := []) S hw (m_X11_letters l D cs E d_45 H.size a0 _) (cwV 0 S.2.2.2.2 (gV wg442 wg443 wg444 wg5 wg445) rfl rfl rfl (by decide +kernel) ⟨Nat.le_of_ble_eq_true rfl, Nat.le_of_ble_eq_true rfl⟩) (ci := 11) rfl ha0 h rfl hl.1 rfl (Nat.le_of_ble_eq_true rfl) (dd_at ddX11_readHead 24 rfl) ⟨Nat.le_of_ble_eq_true rfl, Nat.le_of_ble_eq_true rfl⟩) (fun d_48 H locs h hw => ?_)
      refine lv_aload_n S.1 S.2.1 (dd_at ddX11_readHead 25 rfl) rfl (lv_at hl 0 rfl) ?_
      refine lv_iload_n S.1 S.2.1 (dd_at ddX11_readHead 26 rfl) rfl (lv_at hl 1 rfl) ?_
      refine lv_aload_n S.1 S.2.1 (dd_at ddX11_readHead 27 rfl) rfl (lv_at hl 0 rfl) ?_
      refine r_ldcS S hw 2 rfl (dd_at ddX11_readHead 28 rfl) ?_
      refine r_callI hw (r_runV (As := [.ref (cs (100 + 2))]) (rest := [.int p1, .ref a0]) S hw (m_X11_isWord l D cs E d_48 H.size a0 2 _) (cwV 1 S.2.2.2.2 (gV wg456 wg457 wg458 wg5 wg459) rfl rfl rfl (by decide +kernel) ⟨Nat.le_of_ble_eq_true rfl, Nat.le_of_ble_eq_true rfl⟩) (ci := 11) rfl ha0 h rfl hl.1 rfl (Nat.le_of_ble_eq_true rfl) (dd_at ddX11_readHead 29 rfl) ⟨Nat.le_of_ble_eq_true rfl, Nat.le_of_ble_eq_true rfl⟩) (fun r_51 d_50 H locs h hw => ?_)
      refine lv_if_eq (tgt := 55) S.1 S.2.1 (dd_at ddX11_readHead 30 rfl) (by decide) (fun hc_52 => ?_) (fun hc_52 => ?_)
      · have h := h.1 hc_52
        refine lv_aload_n S.1 S.2.1 (dd_at ddX11_readHead 33 rfl) rfl (lv_at hl 0 rfl) ?_
        refine r_ldcS S hw 3 rfl (dd_at ddX11_readHead 34 rfl) ?_
        refine r_callI hw (r_runV (As := [.ref (cs (100 + 3))]) (rest := [.int p1, .ref a0]) S hw (m_X11_isWord l D cs E d_50 H.size a0 3 _) (cwV 1 S.2.2.2.2 (gV wg456 wg457 wg458 wg5 wg459) rfl rfl rfl (by decide +kernel) ⟨Nat.le_of_ble_eq_true rfl, Nat.le_of_ble_eq_true rfl⟩) (ci := 11) rfl ha0 h rfl hl.1 rfl (Nat.le_of_ble_eq_true rfl) (dd_at ddX11_readHead 35 rfl) ⟨Nat.le_of_ble_eq_true rfl, Nat.le_of_ble_eq_true rfl⟩) (fun r_54 d_53 H locs h hw => ?_)
        refine lv_if_eq (tgt := 68) S.1 S.2.1 (dd_at ddX11_readHead 36 rfl) (by decide) (fun hc_55 => ?_) (fun hc_55 => ?_)
        · have h := h.1 hc_55
          refine lv_aload_n S.1 S.2.1 (dd_at ddX11_readHead 39 rfl) rfl (lv_at hl 0 rfl) ?_
          refine r_ldcS S hw 4 rfl (dd_at ddX11_readHead 40 rfl) ?_
          refine r_callI hw (r_runV (As := [.ref (cs (100 + 4))]) (rest := [.int p1, .ref a0]) S hw (m_X11_isWord l D cs E d_53 H.size a0 4 _) (cwV 1 S.2.2.2.2 (gV wg456 wg457 wg458 wg5 wg459) rfl rfl rfl (by decide +kernel) ⟨Nat.le_of_ble_eq_true rfl, Nat.le_of_ble_eq_true rfl⟩) (ci := 11) rfl ha0 h rfl hl.1 rfl (Nat.le_of_ble_eq_true rfl) (dd_at ddX11_readHead 41 rfl) ⟨Nat.le_of_ble_eq_true rfl, Nat.le_of_ble_eq_true rfl⟩) (fun r_57 d_56 H locs h hw => ?_)
          refine lv_if_eq (tgt := 81) S.1 S.2.1 (dd_at ddX11_readHead 42 rfl) (by decide) (fun hc_58 => ?_) (fun hc_58 => ?_)
          · have h := h.1 hc_58
            refine lv_aload_n S.1 S.2.1 (dd_at ddX11_readHead 45 rfl) rfl (lv_at hl 0 rfl) ?_
            refine r_ldcS S hw 5 rfl (dd_at ddX11_readHead 46 rfl) ?_
            refine r_callI hw (r_runV (As := [.ref (cs (100 + 5))]) (rest := [.int p1, .ref a0]) S hw (m_X11_isWord l D cs E d_56 H.size a0 5 _) (cwV 1 S.2.2.2.2 (gV wg456 wg457 wg458 wg5 wg459) rfl rfl rfl (by decide +kernel) ⟨Nat.le_of_ble_eq_true rfl, Nat.le_of_ble_eq_true rfl⟩) (ci := 11) rfl ha0 h rfl hl.1 rfl (Nat.le_of_ble_eq_true rfl) (dd_at ddX11_readHead 47 rfl) ⟨Nat.le_of_ble_eq_true rfl, Nat.le_of_ble_eq_true rfl⟩) (fun r_60 d_59 H locs h hw => ?_)
            refine lv_if_eq (tgt := 94) S.1 S.2.1 (dd_at ddX11_readHead 48 rfl) (by decide) (fun hc_61 => ?_) (fun hc_61 => ?_)
            · have h := h.1 hc_61
              refine lv_iconst (v := -1) S.1 S.2.1 (dd_at ddX11_readHead 51 rfl) (by decide) ?_
              refine r_callI hw (r_runV (As := [.int p1, .int (-1)]) (rest := []) S hw (m_X11_keepsAt l D cs E d_59 H.size a0 p1 (-1) _) (cwV 2 S.2.2.2.2 (gV wg462 wg463 wg464 wg5 wg465) rfl rfl rfl (by decide +kernel) ⟨Nat.le_of_ble_eq_true rfl, Nat.le_of_ble_eq_true rfl⟩) (ci := 11) rfl ha0 h rfl hl.1 rfl (Nat.le_of_ble_eq_true rfl) (dd_at ddX11_readHead 52 rfl) ⟨Nat.le_of_ble_eq_true rfl, Nat.le_of_ble_eq_true rfl⟩) (fun r_63 d_62 H locs h hw => ?_)
              exact e_Z S hr hlocks hw h.1 h.2 (dd_at ddX11_readHead 53 rfl)
            · have h := h.2 hc_61
              refine lv_iconst (v := 3) S.1 S.2.1 (dd_at ddX11_readHead 49 rfl) (by decide) ?_
              refine lv_goto (tgt := 95) S.1 S.2.1 (dd_at ddX11_readHead 50 rfl) (by decide) ?_
              refine r_callI hw (r_runV (As := [.int p1, .int 3]) (rest := []) S hw (m_X11_keepsAt l D cs E d_59 H.size a0 p1 3 _) (cwV 2 S.2.2.2.2 (gV wg462 wg463 wg464 wg5 wg465) rfl rfl rfl (by decide +kernel) ⟨Nat.le_of_ble_eq_true rfl, Nat.le_of_ble_eq_true rfl⟩) (ci := 11) rfl ha0 h rfl hl.1 rfl (Nat.le_of_ble_eq_true rfl) (dd_at ddX11_readHead 52 rfl) ⟨Nat.le_of_ble_eq_true rfl, Nat.le_of_ble_eq_true rfl⟩) (fun r_65 d_64 H locs h hw => ?_)
              exact e_Z S hr hlocks hw h.1 h.2 (dd_at ddX11_readHead 53 rfl)
          · have h := h.2 hc_58
            refine lv_iconst (v := 2) S.1 S.2.1 (dd_at ddX11_readHead 43 rfl) (by decide) ?_
            refine lv_goto (tgt := 95) S.1 S.2.1 (dd_at ddX11_readHead 44 rfl) (by decide) ?_
            refine r_callI hw (r_runV (As := [.int p1, .int 2]) (rest := []) S hw (m_X11_keepsAt l D cs E d_56 H.size a0 p1 2 _) (cwV 2 S.2.2.2.2 (gV wg462 wg463 wg464 wg5 wg465) rfl rfl rfl (by decide +kernel) ⟨Nat.le_of_ble_eq_true rfl, Nat.le_of_ble_eq_true rfl⟩) (ci := 11) rfl ha0 h rfl hl.1 rfl (Nat.le_of_ble_eq_true rfl) (dd_at ddX11_readHead 52 rfl) ⟨Nat.le_of_ble_eq_true rfl, Nat.le_of_ble_eq_true rfl⟩) (fun r_67 d_66 H locs h hw => ?_)
            exact e_Z S hr hlocks hw h.1 h.2 (dd_at ddX11_readHead 53 rfl)
        · have h := h.2 hc_55
          refine lv_iconst (v := 1) S.1 S.2.1 (dd_at ddX11_readHead 37 rfl) (by decide) ?_
          refine lv_goto (tgt := 95) S.1 S.2.1 (dd_at ddX11_readHead 38 rfl) (by decide) ?_
          refine r_callI hw (r_runV (As := [.int p1, .int 1]) (rest := []) S hw (m_X11_keepsAt l D cs E d_53 H.size a0 p1 1 _) (cwV 2 S.2.2.2.2 (gV wg462 wg463 wg464 wg5 wg465) rfl rfl rfl (by decide +kernel) ⟨Nat.le_of_ble_eq_true rfl, Nat.le_of_ble_eq_true rfl⟩) (ci := 11) rfl ha0 h rfl hl.1 rfl (Nat.le_of_ble_eq_true rfl) (dd_at ddX11_readHead 52 rfl) ⟨Nat.le_of_ble_eq_true rfl, Nat.le_of_ble_eq_true rfl⟩) (fun r_69 d_68 H locs h hw => ?_)
          exact e_Z S hr hlocks hw h.1 h.2 (dd_at ddX11_readHead 53 rfl)
      · have h := h.2 hc_52
        refine lv_iconst (v := 0) S.1 S.2.1 (dd_at ddX11_readHead 31 rfl) (by decide) ?_
        refine lv_goto (tgt := 95) S.1 S.2.1 (dd_at ddX11_readHead 32 rfl) (by decide) ?_
        refine r_callI hw (r_runV (As := [.int p1, .int 0]) (rest := []) S hw (m_X11_keepsAt l D cs E d_50 H.size a0 p1 0 _) (cwV 2 S.2.2.2.2 (gV wg462 wg463 wg464 wg5 wg465) rfl rfl rfl (by decide +kernel) ⟨Nat.le_of_ble_eq_true rfl, Nat.le_of_ble_eq_true rfl⟩) (ci := 11) rfl ha0 h rfl hl.1 rfl (Nat.le_of_ble_eq_true rfl) (dd_at ddX11_readHead 52 rfl) ⟨Nat.le_of_ble_eq_true rfl, Nat.le_of_ble_eq_true rfl⟩) (fun r_71 d_70 H locs h hw => ?_)
        exact e_Z S hr hlocks hw h.1 h.2 (dd_at ddX11_readHead 53 rfl)
    · have h := h.2 hc_47
      refine lv_iconst (v := 0) S.1 S.2.1 (dd_at ddX11_readHead 21 rfl) (by decide) ?_
      exact e_Z S hr hlocks hw (Or.inl rfl) h (dd_at ddX11_readHead 22 rfl)

def b_X11_readLine_64 (E : En) (a0 : Nat) (p1 : Int32) (K : Int32 → Dy → Prop) (v2 : Int32) (d : Dy) : Prop := ∃ b_1 : Nat, eR E a0 1 = some b_1 ∧ okA E b_1 13 ∧ vp_in (v2 + 4) (eN E b_1) ∧ K 1 (pA d b_1 (v2 + 4).toNatClampNeg (gI d a0 12))
def w_X11_readLine (E : En) (a0 : Nat) (p1 : Int32) (d : Dy) (K : Int32 → Dy → Prop) : Prop := okO E a0 11 ∧ w_X11_letters E a0 d (fun d_5 => ((¬ p1 = 10 → w_X11_lineAt E 4 p1 d_5 (fun r_9 d_8 => w_X11_readHead E a0 r_9 d_8 (fun r_11 d_10 => ((¬ r_11 = 0 → ∃ b_13 : Nat, eR E a0 1 = some b_13 ∧ okA E b_13 13 ∧ vp_in (r_9 + 3) (eN E b_13) ∧ w_X11_passes E a0 17 (pI (pA d_10 b_13 (r_9 + 3).toNatClampNeg (gI d_10 a0 12)) a0 9 0) (fun r_18 d_17 => ((r_18 = 0 → b_X11_readLine_64 E a0 p1 K r_9 d_17) ∧ (¬ r_18 = 0 → w_X11_readCond E a0 d_17 (fun r_21 d_20 => ((¬ r_21 = 0 → b_X11_readLine_64 E a0 p1 K r_9 d_20) ∧ (r_21 = 0 → K 0 d_20))))))) ∧ (r_11 = 0 → K 0 d_10))))) ∧ (p1 = 10 → K 0 d_5)))
abbrev rm_X11_readLine : Room := { frames := 70, cells := 0, slots := 0, locals := 1486 }
set_option maxRecDepth 100000 in
set_option maxHeartbeats 4000000 in
theorem m_X11_readLine (l : Launch) (D : va_G) (cs : Nat → ClassId) (E : En) (d : Dy) (sz : Nat) (a0 : Nat) (p1 : Int32) (K : Int32 → Dy → Prop) : CI l yX11_readLine (.code yX11_readLine cX11_readLine 3 (some .boolean) :: wsL_law) rm_X11_readLine D cs E d sz [.ref a0, .int p1] (w_X11_readLine E a0 p1 d K) K := by
  refine e_of (cc := cX11_readLine) (maxL := 3) (ret := (some .boolean)) (own := RX11) (by decide) rfl rfl (Nat.le_of_ble_eq_true rfl) ?_
  intro p e s m below meth c S hr hlocks hsz H locs hw h ls hl
  have hl : lv_has ls 3 [(0, .ref a0), (1, .int p1)] := hl
  unfold w_X11_readLine at h
  obtain ⟨ha0, h⟩ := h
  have tb64 : ∀ (v2 : Int32) (d : Dy) (H : Heap) (locs : List Loc) (ls : Array Slot), b_X11_readLine_64 E a0 p1 K v2 d → Wd D cs (AW E sz) s.heap s E d H locs → lv_has ls 3 [(0, .ref a0), (2, .int v2)] → W p l e rm_X11_readLine s m ([.ref a0, .int p1] : List Value).toArray below meth c H locs 0 0 (MQ below (va_Qi K (OutW D cs E (AW E sz)) (AW E sz)) ([.ref a0, .int p1] : List Value).toArray s rm_X11_readLine.cells rm_X11_readLine.slots (AW E sz)) (F0 m 64 ls []) := by
    intro v2 d H locs ls h hw hl
    unfold b_X11_readLine_64 at h
    refine lv_aload_n S.1 S.2.1 (dd_at ddX11_readLine 37 rfl) rfl (lv_at hl 0 rfl) ?_
    obtain ⟨b_1, hb_2, ho_3, h⟩ := h
    refine r_getR S hw 11 1 rfl inG11 (by decide) (List.mem_cons_of_mem _ wg150) (by decide) ha0 hb_2 (dd_at ddX11_readLine 38 rfl) ?_
    refine lv_iload_n S.1 S.2.1 (dd_at ddX11_readLine 39 rfl) rfl (lv_at hl 1 rfl) ?_
    refine lv_iconst (v := 4) S.1 S.2.1 (dd_at ddX11_readLine 40 rfl) (by decide) ?_
    refine lv_iadd S.1 S.2.1 (dd_at ddX11_readLine 41 rfl) ?_
    refine lv_aload_n S.1 S.2.1 (dd_at ddX11_readLine 42 rfl) rfl (lv_at hl 0 rfl) ?_
    refine r_getI S hw 11 12 rfl inG11 (by decide) (List.mem_cons_of_mem _ wg415) (by decide) ha0 (dd_at ddX11_readLine 43 rfl) ?_
    obtain ⟨hx_4, h⟩ := h
    refine r_iast S hw ho_3 hx_4 (dd_at ddX11_readLine 44 rfl) (fun H locs hw => ?_)
    refine lv_iconst (v := 1) S.1 S.2.1 (dd_at ddX11_readLine 45 rfl) (by decide) ?_
    exact e_Z S hr hlocks hw (Or.inr rfl) h (dd_at ddX11_readLine 46 rfl)
  refine lv_aload_n S.1 S.2.1 (dd_at ddX11_readLine 0 rfl) rfl (lv_at hl 0 rfl) ?_
  refine r_callV hw (r_runV (As := []) (rest := []) S hw (m_X11_letters l D cs E d H.size a0 _) (cwV 0 S.2.2.2.2 (gV wg442 wg443 wg444 wg5 wg445) rfl rfl rfl (by decide +kernel) ⟨Nat.le_of_ble_eq_true rfl, Nat.le_of_ble_eq_true rfl⟩) (ci := 11) rfl ha0 h rfl hl.1 rfl (Nat.le_of_ble_eq_true rfl) (dd_at ddX11_readLine 1 rfl) ⟨Nat.le_of_ble_eq_true rfl, Nat.le_of_ble_eq_true rfl⟩) (fun d_5 H locs h hw => ?_)
  refine lv_iload_n S.1 S.2.1 (dd_at ddX11_readLine 2 rfl) rfl (lv_at hl 1 rfl) ?_
  refine lv_bipush (v := 10) S.1 S.2.1 (dd_at ddX11_readLine 3 rfl) (by decide) ?_
  refine lv_icmp_ne (tgt := 12) S.1 S.2.1 (dd_at ddX11_readLine 4 rfl) (by decide) (fun hc_7 => ?_) (fun hc_7 => ?_)
  · have h := h.1 hc_7
    refine lv_iconst (v := 4) S.1 S.2.1 (dd_at ddX11_readLine 7 rfl) (by decide) ?_
    refine lv_iload_n S.1 S.2.1 (dd_at ddX11_readLine 8 rfl) rfl (lv_at hl 1 rfl) ?_
    refine r_callI hw (r_runS (As := [.int 4, .int p1]) (rest := []) S hw (m_X11_lineAt l D cs E d_5 H.size 4 p1 _) (va_cwS 2 S.2.2.2.2 (gS wg446 wg447 wg5 wg448) rfl rfl rfl (by decide +kernel) ⟨Nat.le_of_ble_eq_true rfl, Nat.le_of_ble_eq_true rfl⟩) h rfl hl.1 rfl (Nat.le_of_ble_eq_true rfl) (dd_at ddX11_readLine 9 rfl) ⟨Nat.le_of_ble_eq_true rfl, Nat.le_of_ble_eq_true rfl⟩) (fun r_9 d_8 H locs h hw => ?_)
    refine lv_istore_n (lv' := [(2, .int r_9), (0, .ref a0), (1, .int p1)]) S.1 S.2.1 (dd_at ddX11_readLine 10 rfl) rfl hl (by decide) rfl (fun ls hl => ?_)
    refine lv_aload_n S.1 S.2.1 (dd_at ddX11_readLine 11 rfl) rfl (lv_at hl 1 rfl) ?_
    refine lv_iload_n S.1 S.2.1 (dd_at ddX11_readLine 12 rfl) rfl (lv_at hl 0 rfl) ?_
    refine r_callI hw (r_runV (As := [.int r_9]) (rest := []) S hw (m_X11_readHead l D cs E d_8 H.size a0 r_9 _) (cwV 1 S.2.2.2.2 (gV wg452 wg453 wg454 wg5 wg455) rfl rfl rfl (by decide +kernel) ⟨Nat.le_of_ble_eq_true rfl, Nat.le_of_ble_eq_true rfl⟩) (ci := 11) rfl ha0 h rfl hl.1 rfl (Nat.le_of_ble_eq_true rfl) (dd_at ddX11_readLine 13 rfl) ⟨Nat.le_of_ble_eq_true rfl, Nat.le_of_ble_eq_true rfl⟩) (fun r_11 d_10 H locs h hw => ?_)
    refine lv_if_ne (tgt := 28) S.1 S.2.1 (dd_at ddX11_readLine 14 rfl) (by decide) (fun hc_12 => ?_) (fun hc_12 => ?_)
    · have h := h.1 hc_12
      refine lv_aload_n S.1 S.2.1 (dd_at ddX11_readLine 17 rfl) rfl (lv_at hl 1 rfl) ?_
      obtain ⟨b_13, hb_14, ho_15, h⟩ := h
      refine r_getR S hw 11 1 rfl inG11 (by decide) (List.mem_cons_of_mem _ wg150) (by decide) ha0 hb_14 (dd_at ddX11_readLine 18 rfl) ?_
      refine lv_iload_n S.1 S.2.1 (dd_at ddX11_readLine 19 rfl) rfl (lv_at hl 0 rfl) ?_
      refine lv_iconst (v := 3) S.1 S.2.1 (dd_at ddX11_readLine 20 rfl) (by decide) ?_
      refine lv_iadd S.1 S.2.1 (dd_at ddX11_readLine 21 rfl) ?_
      refine lv_aload_n S.1 S.2.1 (dd_at ddX11_readLine 22 rfl) rfl (lv_at hl 1 rfl) ?_
      refine r_getI S hw 11 12 rfl inG11 (by decide) (List.mem_cons_of_mem _ wg415) (by decide) ha0 (dd_at ddX11_readLine 23 rfl) ?_
      obtain ⟨hx_16, h⟩ := h
      refine r_iast S hw ho_15 hx_16 (dd_at ddX11_readLine 24 rfl) (fun H locs hw => ?_)
      refine lv_aload_n S.1 S.2.1 (dd_at ddX11_readLine 25 rfl) rfl (lv_at hl 1 rfl) ?_
      refine lv_iconst (v := 0) S.1 S.2.1 (dd_at ddX11_readLine 26 rfl) (by decide) ?_
      refine r_putI S hw 11 9 (ty := .int) (v := 0) rfl inG11 tyX11 tyX11_ok nmX11 (by decide) (List.mem_cons_of_mem _ wg441) (by decide) rfl (by decide +kernel) rfl rfl ha0 (dd_at ddX11_readLine 27 rfl) (fun H locs hw => ?_)
      refine lv_aload_n S.1 S.2.1 (dd_at ddX11_readLine 28 rfl) rfl (lv_at hl 1 rfl) ?_
      refine r_ldcSW S hw 17 rfl (dd_at ddX11_readLine 29 rfl) ?_
      refine r_callI hw (r_runV (As := [.ref (cs (100 + 17))]) (rest := []) S hw (m_X11_passes l D cs E (pI (pA d_10 b_13 (r_9 + 3).toNatClampNeg (gI d_10 a0 12)) a0 9 0) H.size a0 17 _) (cwV 1 S.2.2.2.2 (gV wg478 wg479 wg480 wg5 wg481) rfl rfl rfl (by decide +kernel) ⟨Nat.le_of_ble_eq_true rfl, Nat.le_of_ble_eq_true rfl⟩) (ci := 11) rfl ha0 h rfl hl.1 rfl (Nat.le_of_ble_eq_true rfl) (dd_at ddX11_readLine 30 rfl) ⟨Nat.le_of_ble_eq_true rfl, Nat.le_of_ble_eq_true rfl⟩) (fun r_18 d_17 H locs h hw => ?_)
      refine lv_if_eq (tgt := 64) S.1 S.2.1 (dd_at ddX11_readLine 31 rfl) (by decide) (fun hc_19 => ?_) (fun hc_19 => ?_)
      · have h := h.1 hc_19
        exact tb64 r_9 d_17 H locs ls h hw (lv_sub hl [1, 0] rfl)
      · have h := h.2 hc_19
        refine lv_aload_n S.1 S.2.1 (dd_at ddX11_readLine 32 rfl) rfl (lv_at hl 1 rfl) ?_
        refine r_callI hw (r_runV (As := []) (rest := []) S hw (m_X11_readCond l D cs E d_17 H.size a0 _) (cwV 0 S.2.2.2.2 (gV wg482 wg483 wg484 wg5 wg485) rfl rfl rfl (by decide +kernel) ⟨Nat.le_of_ble_eq_true rfl, Nat.le_of_ble_eq_true rfl⟩) (ci := 11) rfl ha0 h rfl hl.1 rfl (Nat.le_of_ble_eq_true rfl) (dd_at ddX11_readLine 33 rfl) ⟨Nat.le_of_ble_eq_true rfl, Nat.le_of_ble_eq_true rfl⟩) (fun r_21 d_20 H locs h hw => ?_)
        refine lv_if_ne (tgt := 64) S.1 S.2.1 (dd_at ddX11_readLine 34 rfl) (by decide) (fun hc_22 => ?_) (fun hc_22 => ?_)
        · have h := h.1 hc_22
          exact tb64 r_9 d_20 H locs ls h hw (lv_sub hl [1, 0] rfl)
        · have h := h.2 hc_22
          refine lv_iconst (v := 0) S.1 S.2.1 (dd_at ddX11_readLine 35 rfl) (by decide) ?_
          exact e_Z S hr hlocks hw (Or.inl rfl) h (dd_at ddX11_readLine 36 rfl)
    · have h := h.2 hc_12
      refine lv_iconst (v := 0) S.1 S.2.1 (dd_at ddX11_readLine 15 rfl) (by decide) ?_
      exact e_Z S hr hlocks hw (Or.inl rfl) h (dd_at ddX11_readLine 16 rfl)
  · have h := h.2 hc_7
    refine lv_iconst (v := 0) S.1 S.2.1 (dd_at ddX11_readLine 5 rfl) (by decide) ?_
    exact e_Z S hr hlocks hw (Or.inl rfl) h (dd_at ddX11_readLine 6 rfl)

def b_X11_readAll_19 (E : En) (a0 : Nat) (K : Int32 → Dy → Prop) (k19 : Int32 → Dy → Prop) (v1 : Int32) (d : Dy) : Prop := w_X11_readLine E a0 v1 d (fun r_2 d_1 => ((¬ r_2 = 0 → w_X11_blanks E a0 d_1 (fun d_4 => ((¬ (gI d_4 a0 6) = (gI d_4 a0 7) → w_X11_isAt E a0 59 59 d_4 (fun r_8 d_7 => ((¬ r_8 = 0 → k19 (v1 + 1) (pI d_7 a0 6 ((gI d_7 a0 6) + 1))) ∧ (r_8 = 0 → K (-1) d_7)))) ∧ ((gI d_4 a0 6) = (gI d_4 a0 7) → K (v1 + 1) d_4)))) ∧ (r_2 = 0 → K (-1) d_1)))
def l_X11_readAll_19 (E : En) (a0 : Nat) (K : Int32 → Dy → Prop) : Nat → Int32 → Dy → Prop
  | 0 => fun _ _ => False
  | n + 1 => b_X11_readAll_19 E a0 K (l_X11_readAll_19 E a0 K n)
def w_X11_readAll (E : En) (a0 : Nat) (d : Dy) (K : Int32 → Dy → Prop) : Prop := okO E a0 11 ∧ w_X11_blanks E a0 d (fun d_10 => ((¬ (gI d_10 a0 6) = (gI d_10 a0 7) → (∃ n_13 : Nat, l_X11_readAll_19 E a0 K n_13 0 d_10)) ∧ ((gI d_10 a0 6) = (gI d_10 a0 7) → K 0 d_10)))
abbrev rm_X11_readAll : Room := { frames := 71, cells := 0, slots := 0, locals := 1508 }
set_option maxRecDepth 100000 in
set_option maxHeartbeats 4000000 in
theorem m_X11_readAll (l : Launch) (D : va_G) (cs : Nat → ClassId) (E : En) (d : Dy) (sz : Nat) (a0 : Nat) (K : Int32 → Dy → Prop) : CI l yX11_readAll (.code yX11_readAll cX11_readAll 2 (some .int) :: wsL_law) rm_X11_readAll D cs E d sz [.ref a0] (w_X11_readAll E a0 d K) K := by
  refine e_of (cc := cX11_readAll) (maxL := 2) (ret := (some .int)) (own := RX11) (by decide) rfl rfl (Nat.le_of_ble_eq_true rfl) ?_
  intro p e s m below meth c S hr hlocks hsz H locs hw h ls hl
  have hl : lv_has ls 2 [(0, .ref a0)] := hl
  unfold w_X11_readAll at h
  obtain ⟨ha0, h⟩ := h
  have tl19 : ∀ (n : Nat) (v1 : Int32) (d : Dy) (H : Heap) (locs : List Loc) (ls : Array Slot), l_X11_readAll_19 E a0 K n v1 d → Wd D cs (AW E sz) s.heap s E d H locs → lv_has ls 2 [(0, .ref a0), (1, .int v1)] → W p l e rm_X11_readAll s m ([.ref a0] : List Value).toArray below meth c H locs 0 0 (MQ below (va_Qi K (OutW D cs E (AW E sz)) (AW E sz)) ([.ref a0] : List Value).toArray s rm_X11_readAll.cells rm_X11_readAll.slots (AW E sz)) (F0 m 19 ls []) := by
    intro n19
    induction n19 with
    | zero => intro v1 d H locs ls h; exact absurd h id
    | succ n19 ih19 =>
      intro v1 d H locs ls h hw hl
      have h : b_X11_readAll_19 E a0 K (l_X11_readAll_19 E a0 K n19) v1 d := h
      unfold b_X11_readAll_19 at h
      refine lv_aload_n S.1 S.2.1 (dd_at ddX11_readAll 11 rfl) rfl (lv_at hl 0 rfl) ?_
      refine lv_iload_n S.1 S.2.1 (dd_at ddX11_readAll 12 rfl) rfl (lv_at hl 1 rfl) ?_
      refine r_callI hw (r_runV (As := [.int v1]) (rest := []) S hw (m_X11_readLine l D cs E d H.size a0 v1 _) (cwV 1 S.2.2.2.2 (gV wg437 wg438 wg439 wg5 wg440) rfl rfl rfl (by decide +kernel) ⟨Nat.le_of_ble_eq_true rfl, Nat.le_of_ble_eq_true rfl⟩) (ci := 11) rfl ha0 h rfl hl.1 rfl (Nat.le_of_ble_eq_true rfl) (dd_at ddX11_readAll 13 rfl) ⟨Nat.le_of_ble_eq_true rfl, Nat.le_of_ble_eq_true rfl⟩) (fun r_2 d_1 H locs h hw => ?_)
      refine lv_if_ne (tgt := 29) S.1 S.2.1 (dd_at ddX11_readAll 14 rfl) (by decide) (fun hc_3 => ?_) (fun hc_3 => ?_)
      · have h := h.1 hc_3
        refine lv_aload_n S.1 S.2.1 (dd_at ddX11_readAll 17 rfl) rfl (lv_at hl 0 rfl) ?_
        refine r_callV hw (r_runV (As := []) (rest := []) S hw (m_X11_blanks l D cs E d_1 H.size a0 _) (cwV 0 S.2.2.2.2 (gV wg429 wg430 wg431 wg5 wg432) rfl rfl rfl (by decide +kernel) ⟨Nat.le_of_ble_eq_true rfl, Nat.le_of_ble_eq_true rfl⟩) (ci := 11) rfl ha0 h rfl hl.1 rfl (Nat.le_of_ble_eq_true rfl) (dd_at ddX11_readAll 18 rfl) ⟨Nat.le_of_ble_eq_true rfl, Nat.le_of_ble_eq_true rfl⟩) (fun d_4 H locs h hw => ?_)
        refine lv_aload_n S.1 S.2.1 (dd_at ddX11_readAll 19 rfl) rfl (lv_at hl 0 rfl) ?_
        refine r_getI S hw 11 6 rfl inG11 (by decide) (List.mem_cons_of_mem _ wg414) (by decide) ha0 (dd_at ddX11_readAll 20 rfl) ?_
        refine lv_aload_n S.1 S.2.1 (dd_at ddX11_readAll 21 rfl) rfl (lv_at hl 0 rfl) ?_
        refine r_getI S hw 11 7 rfl inG11 (by decide) (List.mem_cons_of_mem _ wg413) (by decide) ha0 (dd_at ddX11_readAll 22 rfl) ?_
        refine lv_icmp_ne (tgt := 48) S.1 S.2.1 (dd_at ddX11_readAll 23 rfl) (by decide) (fun hc_6 => ?_) (fun hc_6 => ?_)
        · have h := h.1 hc_6
          refine lv_aload_n S.1 S.2.1 (dd_at ddX11_readAll 28 rfl) rfl (lv_at hl 0 rfl) ?_
          refine lv_bipush (v := 59) S.1 S.2.1 (dd_at ddX11_readAll 29 rfl) (by decide) ?_
          refine lv_bipush (v := 59) S.1 S.2.1 (dd_at ddX11_readAll 30 rfl) (by decide) ?_
          refine r_callI hw (r_runV (As := [.int 59, .int 59]) (rest := []) S hw (m_X11_isAt l D cs E d_4 H.size a0 59 59 _) (cwV 2 S.2.2.2.2 (gV wg433 wg434 wg435 wg5 wg436) rfl rfl rfl (by decide +kernel) ⟨Nat.le_of_ble_eq_true rfl, Nat.le_of_ble_eq_true rfl⟩) (ci := 11) rfl ha0 h rfl hl.1 rfl (Nat.le_of_ble_eq_true rfl) (dd_at ddX11_readAll 31 rfl) ⟨Nat.le_of_ble_eq_true rfl, Nat.le_of_ble_eq_true rfl⟩) (fun r_8 d_7 H locs h hw => ?_)
          refine lv_if_ne (tgt := 61) S.1 S.2.1 (dd_at ddX11_readAll 32 rfl) (by decide) (fun hc_9 => ?_) (fun hc_9 => ?_)
          · have h := h.1 hc_9
            refine lv_aload_n S.1 S.2.1 (dd_at ddX11_readAll 35 rfl) rfl (lv_at hl 0 rfl) ?_
            refine lv_dup S.1 S.2.1 (dd_at ddX11_readAll 36 rfl) rfl ?_
            refine r_getI S hw 11 6 rfl inG11 (by decide) (List.mem_cons_of_mem _ wg414) (by decide) ha0 (dd_at ddX11_readAll 37 rfl) ?_
            refine lv_iconst (v := 1) S.1 S.2.1 (dd_at ddX11_readAll 38 rfl) (by decide) ?_
            refine lv_iadd S.1 S.2.1 (dd_at ddX11_readAll 39 rfl) ?_
            refine r_putI S hw 11 6 (ty := .int) (v := (gI d_7 a0 6) + 1) rfl inG11 tyX11 tyX11_ok nmX11 (by decide) (List.mem_cons_of_mem _ wg414) (by decide) rfl (by decide +kernel) rfl rfl ha0 (dd_at ddX11_readAll 40 rfl) (fun H locs hw => ?_)
            refine lv_iinc (v := v1 + 1) (lv' := [(1, .int (v1 + 1)), (0, .ref a0)]) S.1 S.2.1 (dd_at ddX11_readAll 41 rfl) hl (k := 1) rfl rfl (by decide) rfl (fun ls hl => ?_)
            refine lv_goto (tgt := 19) S.1 S.2.1 (dd_at ddX11_readAll 42 rfl) (by decide) ?_
            exact ih19 (v1 + 1) (pI d_7 a0 6 ((gI d_7 a0 6) + 1)) H locs ls h hw (lv_sub hl [1, 0] rfl)
          · have h := h.2 hc_9
            refine lv_iconst (v := -1) S.1 S.2.1 (dd_at ddX11_readAll 33 rfl) (by decide) ?_
            exact e_I S hr hlocks hw h (dd_at ddX11_readAll 34 rfl)
        · have h := h.2 hc_6
          refine lv_iload_n S.1 S.2.1 (dd_at ddX11_readAll 24 rfl) rfl (lv_at hl 1 rfl) ?_
          refine lv_iconst (v := 1) S.1 S.2.1 (dd_at ddX11_readAll 25 rfl) (by decide) ?_
          refine lv_iadd S.1 S.2.1 (dd_at ddX11_readAll 26 rfl) ?_
          exact e_I S hr hlocks hw h (dd_at ddX11_readAll 27 rfl)
      · have h := h.2 hc_3
        refine lv_iconst (v := -1) S.1 S.2.1 (dd_at ddX11_readAll 15 rfl) (by decide) ?_
        exact e_I S hr hlocks hw h (dd_at ddX11_readAll 16 rfl)
  refine lv_aload_n S.1 S.2.1 (dd_at ddX11_readAll 0 rfl) rfl (lv_at hl 0 rfl) ?_
  refine r_callV hw (r_runV (As := []) (rest := []) S hw (m_X11_blanks l D cs E d H.size a0 _) (cwV 0 S.2.2.2.2 (gV wg429 wg430 wg431 wg5 wg432) rfl rfl rfl (by decide +kernel) ⟨Nat.le_of_ble_eq_true rfl, Nat.le_of_ble_eq_true rfl⟩) (ci := 11) rfl ha0 h rfl hl.1 rfl (Nat.le_of_ble_eq_true rfl) (dd_at ddX11_readAll 1 rfl) ⟨Nat.le_of_ble_eq_true rfl, Nat.le_of_ble_eq_true rfl⟩) (fun d_10 H locs h hw => ?_)
  refine lv_aload_n S.1 S.2.1 (dd_at ddX11_readAll 2 rfl) rfl (lv_at hl 0 rfl) ?_
  refine r_getI S hw 11 6 rfl inG11 (by decide) (List.mem_cons_of_mem _ wg414) (by decide) ha0 (dd_at ddX11_readAll 3 rfl) ?_
  refine lv_aload_n S.1 S.2.1 (dd_at ddX11_readAll 4 rfl) rfl (lv_at hl 0 rfl) ?_
  refine r_getI S hw 11 7 rfl inG11 (by decide) (List.mem_cons_of_mem _ wg413) (by decide) ha0 (dd_at ddX11_readAll 5 rfl) ?_
  refine lv_icmp_ne (tgt := 17) S.1 S.2.1 (dd_at ddX11_readAll 6 rfl) (by decide) (fun hc_12 => ?_) (fun hc_12 => ?_)
  · have h := h.1 hc_12
    refine lv_iconst (v := 0) S.1 S.2.1 (dd_at ddX11_readAll 9 rfl) (by decide) ?_
    refine lv_istore_n (lv' := [(1, .int 0), (0, .ref a0)]) S.1 S.2.1 (dd_at ddX11_readAll 10 rfl) rfl hl (by decide) rfl (fun ls hl => ?_)
    obtain ⟨n_13, h⟩ := h
    exact tl19 n_13 0 d_10 H locs ls h hw (lv_sub hl [1, 0] rfl)
  · have h := h.2 hc_12
    refine lv_iconst (v := 0) S.1 S.2.1 (dd_at ddX11_readAll 7 rfl) (by decide) ?_
    exact e_I S hr hlocks hw h (dd_at ddX11_readAll 8 rfl)

def b_X11_text_109 (E : En) (a0 : Nat) (p1 : Int32) (K : Int32 → Dy → Prop) (k109 : Int32 → Int32 → Dy → Prop) (v2 : Int32) (v3 : Int32) (d : Dy) : Prop := ((851 ≤ v3 → ∃ b_2 : Nat, eR E a0 1 = some b_2 ∧ okA E b_2 13 ∧ vp_in (10 + p1) (eN E b_2) ∧ K v2 (pA d b_2 (10 + p1).toNatClampNeg 1)) ∧ (¬ 851 ≤ v3 → ∃ b_6 : Nat, eR E a0 1 = some b_6 ∧ okA E b_6 13 ∧ w_X11_textAt E p1 d (fun r_10 d_9 => ∃ b_11 : Nat, eR E a0 1 = some b_11 ∧ okA E b_11 13 ∧ w_X11_textAt E 4 d_9 (fun r_15 d_14 => vp_in (r_15 + v3) (eN E b_11) ∧ vp_in (r_10 + v3) (eN E b_6) ∧ k109 v2 (v3 + 1) (pA d_14 b_6 (r_10 + v3).toNatClampNeg (gA d_14 b_11 (r_15 + v3).toNatClampNeg))))))
def l_X11_text_109 (E : En) (a0 : Nat) (p1 : Int32) (K : Int32 → Dy → Prop) : Nat → Int32 → Int32 → Dy → Prop
  | 0 => fun _ _ _ => False
  | n + 1 => b_X11_text_109 E a0 p1 K (l_X11_text_109 E a0 p1 K n)
def b_X11_text_88 (E : En) (a0 : Nat) (p1 : Int32) (K : Int32 → Dy → Prop) (v2 : Int32) (s0 : Nat) (s1 : Int32) (d : Dy) : Prop := okO E s0 11 ∧ w_X11_throwsIf E s0 s1 1 d (fun r_19 d_18 => ((r_19 = 0 → ∃ b_21 : Nat, eR E a0 1 = some b_21 ∧ okA E b_21 13 ∧ w_X11_textAt E 4 d_18 (fun r_25 d_24 => vp_in r_25 (eN E b_21) ∧ (∃ n_27 : Nat, l_X11_text_109 E a0 p1 K n_27 v2 0 (pA d_24 b_21 (r_25).toNatClampNeg v2)))) ∧ (¬ r_19 = 0 → K 0 d_18)))
def b_X11_text_75 (E : En) (a0 : Nat) (p1 : Int32) (K : Int32 → Dy → Prop) (v2 : Int32) (s0 : Nat) (s1 : Int32) (d : Dy) : Prop := okO E s0 11 ∧ ((0 ≤ v2 → b_X11_text_88 E a0 p1 K v2 a0 0 (pI d s0 10 s1)) ∧ (¬ 0 ≤ v2 → b_X11_text_88 E a0 p1 K v2 a0 1 (pI d s0 10 s1)))
def b_X11_text_33 (E : En) (a0 : Nat) (p1 : Int32) (K : Int32 → Dy → Prop) (s0 : Nat) (s1 : Int32) (d : Dy) : Prop := okO E s0 11 ∧ w_X11_throwsIf E s0 s1 1 d (fun r_30 d_29 => ((r_30 = 0 → w_X11_readAll E a0 (pI (pI (pI d_29 a0 6 0) a0 12 0) a0 13 p1) (fun r_33 d_32 => ((0 ≤ r_33 → b_X11_text_75 E a0 p1 K r_33 a0 (-1) d_32) ∧ (¬ 0 ≤ r_33 → b_X11_text_75 E a0 p1 K r_33 a0 (gI d_32 a0 8) d_32)))) ∧ (¬ r_30 = 0 → K 0 d_29)))
def w_X11_text (E : En) (a0 : Nat) (p1 : Int32) (d : Dy) (K : Int32 → Dy → Prop) : Prop := okO E a0 11 ∧ w_X11_in E p1 0 3 (pI (pI (pI d a0 0 0) a0 7 (gI (pI d a0 0 0) a0 5)) a0 5 0) (fun r_36 d_35 => ((¬ r_36 = 0 → b_X11_text_33 E a0 p1 K a0 0 d_35) ∧ (r_36 = 0 → b_X11_text_33 E a0 p1 K a0 1 d_35)))
abbrev rm_X11_text : Room := { frames := 72, cells := 0, slots := 0, locals := 1529 }
set_option maxRecDepth 100000 in
set_option maxHeartbeats 4000000 in
theorem m_X11_text (l : Launch) (D : va_G) (cs : Nat → ClassId) (E : En) (d : Dy) (sz : Nat) (a0 : Nat) (p1 : Int32) (K : Int32 → Dy → Prop) : CI l yX11_text (.code yX11_text cX11_text 4 (some .int) :: wsL_law) rm_X11_text D cs E d sz [.ref a0, .int p1] (w_X11_text E a0 p1 d K) K := by
  refine e_of (cc := cX11_text) (maxL := 4) (ret := (some .int)) (own := RX11) (by decide) rfl rfl (Nat.le_of_ble_eq_true rfl) ?_
  intro p e s m below meth c S hr hlocks hsz H locs hw h ls hl
  have hl : lv_has ls 4 [(0, .ref a0), (1, .int p1)] := hl
  unfold w_X11_text at h
  obtain ⟨ha0, h⟩ := h
  have tl109 : ∀ (n : Nat) (v2 : Int32) (v3 : Int32) (d : Dy) (H : Heap) (locs : List Loc) (ls : Array Slot), l_X11_text_109 E a0 p1 K n v2 v3 d → Wd D cs (AW E sz) s.heap s E d H locs → lv_has ls 4 [(0, .ref a0), (1, .int p1), (2, .int v2), (3, .int v3)] → W p l e rm_X11_text s m ([.ref a0, .int p1] : List Value).toArray below meth c H locs 0 0 (MQ below (va_Qi K (OutW D cs E (AW E sz)) (AW E sz)) ([.ref a0, .int p1] : List Value).toArray s rm_X11_text.cells rm_X11_text.slots (AW E sz)) (F0 m 109 ls []) := by
    intro n109
    induction n109 with
    | zero => intro v2 v3 d H locs ls h; exact absurd h id
    | succ n109 ih109 =>
      intro v2 v3 d H locs ls h hw hl
      have h : b_X11_text_109 E a0 p1 K (l_X11_text_109 E a0 p1 K n109) v2 v3 d := h
      unfold b_X11_text_109 at h
      refine lv_iload_n S.1 S.2.1 (dd_at ddX11_text 63 rfl) rfl (lv_at hl 3 rfl) ?_
      refine lv_sipush (v := 851) S.1 S.2.1 (dd_at ddX11_text 64 rfl) (by decide) ?_
      refine lv_icmp_ge (tgt := 144) S.1 S.2.1 (dd_at ddX11_text 65 rfl) (by decide) (fun hc_1 => ?_) (fun hc_1 => ?_)
      · have h := h.1 hc_1
        refine lv_aload_n S.1 S.2.1 (dd_at ddX11_text 82 rfl) rfl (lv_at hl 0 rfl) ?_
        obtain ⟨b_2, hb_3, ho_4, h⟩ := h
        refine r_getR S hw 11 1 rfl inG11 (by decide) (List.mem_cons_of_mem _ wg150) (by decide) ha0 hb_3 (dd_at ddX11_text 83 rfl) ?_
        refine lv_bipush (v := 10) S.1 S.2.1 (dd_at ddX11_text 84 rfl) (by decide) ?_
        refine lv_iload_n S.1 S.2.1 (dd_at ddX11_text 85 rfl) rfl (lv_at hl 1 rfl) ?_
        refine lv_iadd S.1 S.2.1 (dd_at ddX11_text 86 rfl) ?_
        refine lv_iconst (v := 1) S.1 S.2.1 (dd_at ddX11_text 87 rfl) (by decide) ?_
        obtain ⟨hx_5, h⟩ := h
        refine r_iast S hw ho_4 hx_5 (dd_at ddX11_text 88 rfl) (fun H locs hw => ?_)
        refine lv_iload_n S.1 S.2.1 (dd_at ddX11_text 89 rfl) rfl (lv_at hl 2 rfl) ?_
        exact e_I S hr hlocks hw h (dd_at ddX11_text 90 rfl)
      · have h := h.2 hc_1
        refine lv_aload_n S.1 S.2.1 (dd_at ddX11_text 66 rfl) rfl (lv_at hl 0 rfl) ?_
        obtain ⟨b_6, hb_7, ho_8, h⟩ := h
        refine r_getR S hw 11 1 rfl inG11 (by decide) (List.mem_cons_of_mem _ wg150) (by decide) ha0 hb_7 (dd_at ddX11_text 67 rfl) ?_
        refine lv_iload_n S.1 S.2.1 (dd_at ddX11_text 68 rfl) rfl (lv_at hl 1 rfl) ?_
        refine r_callI hw (r_runS (As := [.int p1]) (rest := [.ref b_6]) S hw (m_X11_textAt l D cs E d H.size p1 _) (va_cwS 1 S.2.2.2.2 (gS wg449 wg450 wg5 wg451) rfl rfl rfl (by decide +kernel) ⟨Nat.le_of_ble_eq_true rfl, Nat.le_of_ble_eq_true rfl⟩) h rfl hl.1 rfl (Nat.le_of_ble_eq_true rfl) (dd_at ddX11_text 69 rfl) ⟨Nat.le_of_ble_eq_true rfl, Nat.le_of_ble_eq_true rfl⟩) (fun r_10 d_9 H locs h hw => ?_)
        refine lv_iload_n S.1 S.2.1 (dd_at ddX11_text 70 rfl) rfl (lv_at hl 3 rfl) ?_
        refine lv_iadd S.1 S.2.1 (dd_at ddX11_text 71 rfl) ?_
        refine lv_aload_n S.1 S.2.1 (dd_at ddX11_text 72 rfl) rfl (lv_at hl 0 rfl) ?_
        obtain ⟨b_11, hb_12, ho_13, h⟩ := h
        refine r_getR S hw 11 1 rfl inG11 (by decide) (List.mem_cons_of_mem _ wg150) (by decide) ha0 hb_12 (dd_at ddX11_text 73 rfl) ?_
        refine lv_iconst (v := 4) S.1 S.2.1 (dd_at ddX11_text 74 rfl) (by decide) ?_
        refine r_callI hw (r_runS (As := [.int 4]) (rest := [.ref b_11, .int (r_10 + v3), .ref b_6]) S hw (m_X11_textAt l D cs E d_9 H.size 4 _) (va_cwS 1 S.2.2.2.2 (gS wg449 wg450 wg5 wg451) rfl rfl rfl (by decide +kernel) ⟨Nat.le_of_ble_eq_true rfl, Nat.le_of_ble_eq_true rfl⟩) h rfl hl.1 rfl (Nat.le_of_ble_eq_true rfl) (dd_at ddX11_text 75 rfl) ⟨Nat.le_of_ble_eq_true rfl, Nat.le_of_ble_eq_true rfl⟩) (fun r_15 d_14 H locs h hw => ?_)
        refine lv_iload_n S.1 S.2.1 (dd_at ddX11_text 76 rfl) rfl (lv_at hl 3 rfl) ?_
        refine lv_iadd S.1 S.2.1 (dd_at ddX11_text 77 rfl) ?_
        obtain ⟨hx_16, h⟩ := h
        refine r_iald S hw ho_13 hx_16 (dd_at ddX11_text 78 rfl) ?_
        obtain ⟨hx_17, h⟩ := h
        refine r_iast S hw ho_8 hx_17 (dd_at ddX11_text 79 rfl) (fun H locs hw => ?_)
        refine lv_iinc (v := v3 + 1) (lv' := [(3, .int (v3 + 1)), (0, .ref a0), (1, .int p1), (2, .int v2)]) S.1 S.2.1 (dd_at ddX11_text 80 rfl) hl (k := 3) rfl rfl (by decide) rfl (fun ls hl => ?_)
        refine lv_goto (tgt := 109) S.1 S.2.1 (dd_at ddX11_text 81 rfl) (by decide) ?_
        exact ih109 v2 (v3 + 1) (pA d_14 b_6 (r_10 + v3).toNatClampNeg (gA d_14 b_11 (r_15 + v3).toNatClampNeg)) H locs ls h hw (lv_sub hl [1, 2, 3, 0] rfl)
  have tb88 : ∀ (v2 : Int32) (s0 : Nat) (s1 : Int32) (d : Dy) (H : Heap) (locs : List Loc) (ls : Array Slot), b_X11_text_88 E a0 p1 K v2 s0 s1 d → Wd D cs (AW E sz) s.heap s E d H locs → lv_has ls 4 [(0, .ref a0), (1, .int p1), (2, .int v2)] → W p l e rm_X11_text s m ([.ref a0, .int p1] : List Value).toArray below meth c H locs 0 0 (MQ below (va_Qi K (OutW D cs E (AW E sz)) (AW E sz)) ([.ref a0, .int p1] : List Value).toArray s rm_X11_text.cells rm_X11_text.slots (AW E sz)) (F0 m 88 ls [.int s1, .ref s0]) := by
    intro v2 s0 s1 d H locs ls h hw hl
    unfold b_X11_text_88 at h
    obtain ⟨hos0, h⟩ := h
    refine lv_iconst (v := 1) S.1 S.2.1 (dd_at ddX11_text 50 rfl) (by decide) ?_
    refine r_callI hw (r_runV (As := [.int s1, .int 1]) (rest := []) S hw (m_X11_throwsIf l D cs E d H.size s0 s1 1 _) (cwV 2 S.2.2.2.2 (gV wg421 wg422 wg423 wg5 wg424) rfl rfl rfl (by decide +kernel) ⟨Nat.le_of_ble_eq_true rfl, Nat.le_of_ble_eq_true rfl⟩) (ci := 11) rfl hos0 h rfl hl.1 rfl (Nat.le_of_ble_eq_true rfl) (dd_at ddX11_text 51 rfl) ⟨Nat.le_of_ble_eq_true rfl, Nat.le_of_ble_eq_true rfl⟩) (fun r_19 d_18 H locs h hw => ?_)
    refine lv_if_eq (tgt := 97) S.1 S.2.1 (dd_at ddX11_text 52 rfl) (by decide) (fun hc_20 => ?_) (fun hc_20 => ?_)
    · have h := h.1 hc_20
      refine lv_aload_n S.1 S.2.1 (dd_at ddX11_text 55 rfl) rfl (lv_at hl 0 rfl) ?_
      obtain ⟨b_21, hb_22, ho_23, h⟩ := h
      refine r_getR S hw 11 1 rfl inG11 (by decide) (List.mem_cons_of_mem _ wg150) (by decide) ha0 hb_22 (dd_at ddX11_text 56 rfl) ?_
      refine lv_iconst (v := 4) S.1 S.2.1 (dd_at ddX11_text 57 rfl) (by decide) ?_
      refine r_callI hw (r_runS (As := [.int 4]) (rest := [.ref b_21]) S hw (m_X11_textAt l D cs E d_18 H.size 4 _) (va_cwS 1 S.2.2.2.2 (gS wg449 wg450 wg5 wg451) rfl rfl rfl (by decide +kernel) ⟨Nat.le_of_ble_eq_true rfl, Nat.le_of_ble_eq_true rfl⟩) h rfl hl.1 rfl (Nat.le_of_ble_eq_true rfl) (dd_at ddX11_text 58 rfl) ⟨Nat.le_of_ble_eq_true rfl, Nat.le_of_ble_eq_true rfl⟩) (fun r_25 d_24 H locs h hw => ?_)
      refine lv_iload_n S.1 S.2.1 (dd_at ddX11_text 59 rfl) rfl (lv_at hl 2 rfl) ?_
      obtain ⟨hx_26, h⟩ := h
      refine r_iast S hw ho_23 hx_26 (dd_at ddX11_text 60 rfl) (fun H locs hw => ?_)
      refine lv_iconst (v := 0) S.1 S.2.1 (dd_at ddX11_text 61 rfl) (by decide) ?_
      refine lv_istore_n (lv' := [(3, .int 0), (0, .ref a0), (1, .int p1), (2, .int v2)]) S.1 S.2.1 (dd_at ddX11_text 62 rfl) rfl hl (by decide) rfl (fun ls hl => ?_)
      obtain ⟨n_27, h⟩ := h
      exact tl109 n_27 v2 0 (pA d_24 b_21 (r_25).toNatClampNeg v2) H locs ls h hw (lv_sub hl [1, 2, 3, 0] rfl)
    · have h := h.2 hc_20
      refine lv_iconst (v := 0) S.1 S.2.1 (dd_at ddX11_text 53 rfl) (by decide) ?_
      exact e_I S hr hlocks hw h (dd_at ddX11_text 54 rfl)
  have tb75 : ∀ (v2 : Int32) (s0 : Nat) (s1 : Int32) (d : Dy) (H : Heap) (locs : List Loc) (ls : Array Slot), b_X11_text_75 E a0 p1 K v2 s0 s1 d → Wd D cs (AW E sz) s.heap s E d H locs → lv_has ls 4 [(0, .ref a0), (1, .int p1), (2, .int v2)] → W p l e rm_X11_text s m ([.ref a0, .int p1] : List Value).toArray below meth c H locs 0 0 (MQ below (va_Qi K (OutW D cs E (AW E sz)) (AW E sz)) ([.ref a0, .int p1] : List Value).toArray s rm_X11_text.cells rm_X11_text.slots (AW E sz)) (F0 m 75 ls [.int s1, .ref s0]) := by
    intro v2 s0 s1 d H locs ls h hw hl
    unfold b_X11_text_75 at h
    obtain ⟨hos0, h⟩ := h
    refine r_putI S hw 11 10 (ty := .int) (v := s1) rfl inG11 tyX11 tyX11_ok nmX11 (by decide) (List.mem_cons_of_mem _ wg154) (by decide) rfl (by decide +kernel) rfl rfl hos0 (dd_at ddX11_text 43 rfl) (fun H locs hw => ?_)
    refine lv_aload_n S.1 S.2.1 (dd_at ddX11_text 44 rfl) rfl (lv_at hl 0 rfl) ?_
    refine lv_iload_n S.1 S.2.1 (dd_at ddX11_text 45 rfl) rfl (lv_at hl 2 rfl) ?_
    refine lv_if_ge (tgt := 87) S.1 S.2.1 (dd_at ddX11_text 46 rfl) (by decide) (fun hc_28 => ?_) (fun hc_28 => ?_)
    · have h := h.1 hc_28
      refine lv_iconst (v := 0) S.1 S.2.1 (dd_at ddX11_text 49 rfl) (by decide) ?_
      exact tb88 v2 a0 0 (pI d s0 10 s1) H locs ls h hw (lv_sub hl [0, 1, 2] rfl)
    · have h := h.2 hc_28
      refine lv_iconst (v := 1) S.1 S.2.1 (dd_at ddX11_text 47 rfl) (by decide) ?_
      refine lv_goto (tgt := 88) S.1 S.2.1 (dd_at ddX11_text 48 rfl) (by decide) ?_
      exact tb88 v2 a0 1 (pI d s0 10 s1) H locs ls h hw (lv_sub hl [0, 1, 2] rfl)
  have tb33 : ∀ (s0 : Nat) (s1 : Int32) (d : Dy) (H : Heap) (locs : List Loc) (ls : Array Slot), b_X11_text_33 E a0 p1 K s0 s1 d → Wd D cs (AW E sz) s.heap s E d H locs → lv_has ls 4 [(0, .ref a0), (1, .int p1)] → W p l e rm_X11_text s m ([.ref a0, .int p1] : List Value).toArray below meth c H locs 0 0 (MQ below (va_Qi K (OutW D cs E (AW E sz)) (AW E sz)) ([.ref a0, .int p1] : List Value).toArray s rm_X11_text.cells rm_X11_text.slots (AW E sz)) (F0 m 33 ls [.int s1, .ref s0]) := by
    intro s0 s1 d H locs ls h hw hl
    unfold b_X11_text_33 at h
    obtain ⟨hos0, h⟩ := h
    refine lv_iconst (v := 1) S.1 S.2.1 (dd_at ddX11_text 19 rfl) (by decide) ?_
    refine r_callI hw (r_runV (As := [.int s1, .int 1]) (rest := []) S hw (m_X11_throwsIf l D cs E d H.size s0 s1 1 _) (cwV 2 S.2.2.2.2 (gV wg421 wg422 wg423 wg5 wg424) rfl rfl rfl (by decide +kernel) ⟨Nat.le_of_ble_eq_true rfl, Nat.le_of_ble_eq_true rfl⟩) (ci := 11) rfl hos0 h rfl hl.1 rfl (Nat.le_of_ble_eq_true rfl) (dd_at ddX11_text 20 rfl) ⟨Nat.le_of_ble_eq_true rfl, Nat.le_of_ble_eq_true rfl⟩) (fun r_30 d_29 H locs h hw => ?_)
    refine lv_if_eq (tgt := 42) S.1 S.2.1 (dd_at ddX11_text 21 rfl) (by decide) (fun hc_31 => ?_) (fun hc_31 => ?_)
    · have h := h.1 hc_31
      refine lv_aload_n S.1 S.2.1 (dd_at ddX11_text 24 rfl) rfl (lv_at hl 0 rfl) ?_
      refine lv_iconst (v := 0) S.1 S.2.1 (dd_at ddX11_text 25 rfl) (by decide) ?_
      refine r_putI S hw 11 6 (ty := .int) (v := 0) rfl inG11 tyX11 tyX11_ok nmX11 (by decide) (List.mem_cons_of_mem _ wg414) (by decide) rfl (by decide +kernel) rfl rfl ha0 (dd_at ddX11_text 26 rfl) (fun H locs hw => ?_)
      refine lv_aload_n S.1 S.2.1 (dd_at ddX11_text 27 rfl) rfl (lv_at hl 0 rfl) ?_
      refine lv_iconst (v := 0) S.1 S.2.1 (dd_at ddX11_text 28 rfl) (by decide) ?_
      refine r_putI S hw 11 12 (ty := .int) (v := 0) rfl inG11 tyX11 tyX11_ok nmX11 (by decide) (List.mem_cons_of_mem _ wg415) (by decide) rfl (by decide +kernel) rfl rfl ha0 (dd_at ddX11_text 29 rfl) (fun H locs hw => ?_)
      refine lv_aload_n S.1 S.2.1 (dd_at ddX11_text 30 rfl) rfl (lv_at hl 0 rfl) ?_
      refine lv_iload_n S.1 S.2.1 (dd_at ddX11_text 31 rfl) rfl (lv_at hl 1 rfl) ?_
      refine r_putI S hw 11 13 (ty := .int) (v := p1) rfl inG11 tyX11 tyX11_ok nmX11 (by decide) (List.mem_cons_of_mem _ wg416) (by decide) rfl (by decide +kernel) rfl rfl ha0 (dd_at ddX11_text 32 rfl) (fun H locs hw => ?_)
      refine lv_aload_n S.1 S.2.1 (dd_at ddX11_text 33 rfl) rfl (lv_at hl 0 rfl) ?_
      refine r_callI hw (r_runV (As := []) (rest := []) S hw (m_X11_readAll l D cs E (pI (pI (pI d_29 a0 6 0) a0 12 0) a0 13 p1) H.size a0 _) (cwV 0 S.2.2.2.2 (gV wg425 wg426 wg427 wg5 wg428) rfl rfl rfl (by decide +kernel) ⟨Nat.le_of_ble_eq_true rfl, Nat.le_of_ble_eq_true rfl⟩) (ci := 11) rfl ha0 h rfl hl.1 rfl (Nat.le_of_ble_eq_true rfl) (dd_at ddX11_text 34 rfl) ⟨Nat.le_of_ble_eq_true rfl, Nat.le_of_ble_eq_true rfl⟩) (fun r_33 d_32 H locs h hw => ?_)
      refine lv_istore_n (lv' := [(2, .int r_33), (0, .ref a0), (1, .int p1)]) S.1 S.2.1 (dd_at ddX11_text 35 rfl) rfl hl (by decide) rfl (fun ls hl => ?_)
      refine lv_aload_n S.1 S.2.1 (dd_at ddX11_text 36 rfl) rfl (lv_at hl 1 rfl) ?_
      refine lv_iload_n S.1 S.2.1 (dd_at ddX11_text 37 rfl) rfl (lv_at hl 0 rfl) ?_
      refine lv_if_ge (tgt := 74) S.1 S.2.1 (dd_at ddX11_text 38 rfl) (by decide) (fun hc_34 => ?_) (fun hc_34 => ?_)
      · have h := h.1 hc_34
        refine lv_iconst (v := -1) S.1 S.2.1 (dd_at ddX11_text 42 rfl) (by decide) ?_
        exact tb75 r_33 a0 (-1) d_32 H locs ls h hw (lv_sub hl [1, 2, 0] rfl)
      · have h := h.2 hc_34
        refine lv_aload_n S.1 S.2.1 (dd_at ddX11_text 39 rfl) rfl (lv_at hl 1 rfl) ?_
        refine r_getI S hw 11 8 rfl inG11 (by decide) (List.mem_cons_of_mem _ wg417) (by decide) ha0 (dd_at ddX11_text 40 rfl) ?_
        refine lv_goto (tgt := 75) S.1 S.2.1 (dd_at ddX11_text 41 rfl) (by decide) ?_
        exact tb75 r_33 a0 (gI d_32 a0 8) d_32 H locs ls h hw (lv_sub hl [1, 2, 0] rfl)
    · have h := h.2 hc_31
      refine lv_iconst (v := 0) S.1 S.2.1 (dd_at ddX11_text 22 rfl) (by decide) ?_
      exact e_I S hr hlocks hw h (dd_at ddX11_text 23 rfl)
  refine lv_aload_n S.1 S.2.1 (dd_at ddX11_text 0 rfl) rfl (lv_at hl 0 rfl) ?_
  refine lv_iconst (v := 0) S.1 S.2.1 (dd_at ddX11_text 1 rfl) (by decide) ?_
  refine r_putI S hw 11 0 (ty := .int) (v := 0) rfl inG11 tyX11 tyX11_ok nmX11 (by decide) (List.mem_cons_of_mem _ wg201) (by decide) rfl (by decide +kernel) rfl rfl ha0 (dd_at ddX11_text 2 rfl) (fun H locs hw => ?_)
  refine lv_aload_n S.1 S.2.1 (dd_at ddX11_text 3 rfl) rfl (lv_at hl 0 rfl) ?_
  refine lv_aload_n S.1 S.2.1 (dd_at ddX11_text 4 rfl) rfl (lv_at hl 0 rfl) ?_
  refine r_getI S hw 11 5 rfl inG11 (by decide) (List.mem_cons_of_mem _ wg202) (by decide) ha0 (dd_at ddX11_text 5 rfl) ?_
  refine r_putI S hw 11 7 (ty := .int) (v := gI (pI d a0 0 0) a0 5) rfl inG11 tyX11 tyX11_ok nmX11 (by decide) (List.mem_cons_of_mem _ wg413) (by decide) rfl (by decide +kernel) rfl rfl ha0 (dd_at ddX11_text 6 rfl) (fun H locs hw => ?_)
  refine lv_aload_n S.1 S.2.1 (dd_at ddX11_text 7 rfl) rfl (lv_at hl 0 rfl) ?_
  refine lv_iconst (v := 0) S.1 S.2.1 (dd_at ddX11_text 8 rfl) (by decide) ?_
  refine r_putI S hw 11 5 (ty := .int) (v := 0) rfl inG11 tyX11 tyX11_ok nmX11 (by decide) (List.mem_cons_of_mem _ wg202) (by decide) rfl (by decide +kernel) rfl rfl ha0 (dd_at ddX11_text 9 rfl) (fun H locs hw => ?_)
  refine lv_aload_n S.1 S.2.1 (dd_at ddX11_text 10 rfl) rfl (lv_at hl 0 rfl) ?_
  refine lv_iload_n S.1 S.2.1 (dd_at ddX11_text 11 rfl) rfl (lv_at hl 1 rfl) ?_
  refine lv_iconst (v := 0) S.1 S.2.1 (dd_at ddX11_text 12 rfl) (by decide) ?_
  refine lv_iconst (v := 3) S.1 S.2.1 (dd_at ddX11_text 13 rfl) (by decide) ?_
  refine r_callI hw (r_runS (As := [.int p1, .int 0, .int 3]) (rest := [.ref a0]) S hw (m_X11_in l D cs E (pI (pI (pI d a0 0 0) a0 7 (gI (pI d a0 0 0) a0 5)) a0 5 0) H.size p1 0 3 _) (va_cwS 3 S.2.2.2.2 (gS wg418 wg419 wg5 wg420) rfl rfl rfl (by decide +kernel) ⟨Nat.le_of_ble_eq_true rfl, Nat.le_of_ble_eq_true rfl⟩) h rfl hl.1 rfl (Nat.le_of_ble_eq_true rfl) (dd_at ddX11_text 14 rfl) ⟨Nat.le_of_ble_eq_true rfl, Nat.le_of_ble_eq_true rfl⟩) (fun r_36 d_35 H locs h hw => ?_)
  refine lv_if_ne (tgt := 32) S.1 S.2.1 (dd_at ddX11_text 15 rfl) (by decide) (fun hc_37 => ?_) (fun hc_37 => ?_)
  · have h := h.1 hc_37
    refine lv_iconst (v := 0) S.1 S.2.1 (dd_at ddX11_text 18 rfl) (by decide) ?_
    exact tb33 a0 0 d_35 H locs ls h hw (lv_sub hl [0, 1] rfl)
  · have h := h.2 hc_37
    refine lv_iconst (v := 1) S.1 S.2.1 (dd_at ddX11_text 16 rfl) (by decide) ?_
    refine lv_goto (tgt := 33) S.1 S.2.1 (dd_at ddX11_text 17 rfl) (by decide) ?_
    exact tb33 a0 1 d_35 H locs ls h hw (lv_sub hl [0, 1] rfl)

def b_X11_holdsLine_238 (E : En) (a0 : Nat) (p1 : Int32) (p2 : Int32) (K : Int32 → Dy → Prop) (k20 : Int32 → Int32 → Int32 → Dy → Prop) (v3 : Int32) (v4 : Int32) (v5 : Int32) (v6 : Int32) (v7 : Int32) (v8 : Int32) (s0 : Int32) (d : Dy) : Prop := ∃ b_1 : Nat, eR E a0 15 = some b_1 ∧ okA E b_1 13 ∧ ((¬ v6 = 10 → ((s0 = 0 → vp_in (v3 - 1) (eN E b_1) ∧ k20 v3 v4 (v5 + 1) (pA d b_1 (v3 - 1).toNatClampNeg 0)) ∧ (¬ s0 = 0 → vp_in (v3 - 1) (eN E b_1) ∧ k20 v3 v4 (v5 + 1) (pA d b_1 (v3 - 1).toNatClampNeg 1)))) ∧ (v6 = 10 → vp_in (v3 - 1) (eN E b_1) ∧ k20 v3 v4 (v5 + 1) (pA d b_1 (v3 - 1).toNatClampNeg (v7 + v8))))
def b_X11_holdsLine_20 (E : En) (a0 : Nat) (p1 : Int32) (p2 : Int32) (K : Int32 → Dy → Prop) (k20 : Int32 → Int32 → Int32 → Dy → Prop) (v3 : Int32) (v4 : Int32) (v5 : Int32) (d : Dy) : Prop := ∃ b_9 : Nat, eR E a0 1 = some b_9 ∧ okA E b_9 13 ∧ vp_in (v4 + 4) (eN E b_9) ∧ (((gA d b_9 (v4 + 4).toNatClampNeg) ≤ v5 → ((v3 = 0 → K 1 d) ∧ (¬ v3 = 0 → ∃ b_15 : Nat, eR E a0 15 = some b_15 ∧ okA E b_15 13 ∧ vp_in 0 (eN E b_15) ∧ ((¬ (gA d b_15 ((0 : Int32)).toNatClampNeg) = 1 → K 0 d) ∧ ((gA d b_15 ((0 : Int32)).toNatClampNeg) = 1 → K 1 d))))) ∧ (¬ (gA d b_9 (v4 + 4).toNatClampNeg) ≤ v5 → ∃ b_20 : Nat, eR E a0 1 = some b_20 ∧ okA E b_20 13 ∧ w_X11_textAt E p1 d (fun r_24 d_23 => vp_in ((r_24 + 51) + (2 * v5)) (eN E b_20) ∧ ((9 < (gA d_23 b_20 ((r_24 + 51) + (2 * v5)).toNatClampNeg) → ((¬ (gA d_23 b_20 ((r_24 + 51) + (2 * v5)).toNatClampNeg) = 13 → ∃ b_28 : Nat, eR E a0 15 = some b_28 ∧ okA E b_28 13 ∧ vp_in ((v3 + (-1)) - 1) (eN E b_28) ∧ ∃ b_32 : Nat, eR E a0 15 = some b_32 ∧ okA E b_32 13 ∧ vp_in (v3 + (-1)) (eN E b_32) ∧ ((¬ (gA d_23 b_20 ((r_24 + 51) + (2 * v5)).toNatClampNeg) = 11 → ((¬ (gA d_23 b_20 ((r_24 + 51) + (2 * v5)).toNatClampNeg) = 12 → ((¬ (gA d_23 b_20 ((r_24 + 51) + (2 * v5)).toNatClampNeg) = 14 → ((((gA d_23 b_28 ((v3 + (-1)) - 1).toNatClampNeg) + (gA d_23 b_32 (v3 + (-1)).toNatClampNeg)) ≤ 0 → b_X11_holdsLine_238 E a0 p1 p2 K k20 (v3 + (-1)) v4 v5 (gA d_23 b_20 ((r_24 + 51) + (2 * v5)).toNatClampNeg) (gA d_23 b_28 ((v3 + (-1)) - 1).toNatClampNeg) (gA d_23 b_32 (v3 + (-1)).toNatClampNeg) 0 d_23) ∧ (¬ ((gA d_23 b_28 ((v3 + (-1)) - 1).toNatClampNeg) + (gA d_23 b_32 (v3 + (-1)).toNatClampNeg)) ≤ 0 → b_X11_holdsLine_238 E a0 p1 p2 K k20 (v3 + (-1)) v4 v5 (gA d_23 b_20 ((r_24 + 51) + (2 * v5)).toNatClampNeg) (gA d_23 b_28 ((v3 + (-1)) - 1).toNatClampNeg) (gA d_23 b_32 (v3 + (-1)).toNatClampNeg) 1 d_23))) ∧ ((gA d_23 b_20 ((r_24 + 51) + (2 * v5)).toNatClampNeg) = 14 → ((¬ ((gA d_23 b_28 ((v3 + (-1)) - 1).toNatClampNeg) + (gA d_23 b_32 (v3 + (-1)).toNatClampNeg)) = 2 → b_X11_holdsLine_238 E a0 p1 p2 K k20 (v3 + (-1)) v4 v5 (gA d_23 b_20 ((r_24 + 51) + (2 * v5)).toNatClampNeg) (gA d_23 b_28 ((v3 + (-1)) - 1).toNatClampNeg) (gA d_23 b_32 (v3 + (-1)).toNatClampNeg) 0 d_23) ∧ (((gA d_23 b_28 ((v3 + (-1)) - 1).toNatClampNeg) + (gA d_23 b_32 (v3 + (-1)).toNatClampNeg)) = 2 → b_X11_holdsLine_238 E a0 p1 p2 K k20 (v3 + (-1)) v4 v5 (gA d_23 b_20 ((r_24 + 51) + (2 * v5)).toNatClampNeg) (gA d_23 b_28 ((v3 + (-1)) - 1).toNatClampNeg) (gA d_23 b_32 (v3 + (-1)).toNatClampNeg) 1 d_23))))) ∧ ((gA d_23 b_20 ((r_24 + 51) + (2 * v5)).toNatClampNeg) = 12 → (((gA d_23 b_28 ((v3 + (-1)) - 1).toNatClampNeg) ≤ (gA d_23 b_32 (v3 + (-1)).toNatClampNeg) → b_X11_holdsLine_238 E a0 p1 p2 K k20 (v3 + (-1)) v4 v5 (gA d_23 b_20 ((r_24 + 51) + (2 * v5)).toNatClampNeg) (gA d_23 b_28 ((v3 + (-1)) - 1).toNatClampNeg) (gA d_23 b_32 (v3 + (-1)).toNatClampNeg) 0 d_23) ∧ (¬ (gA d_23 b_28 ((v3 + (-1)) - 1).toNatClampNeg) ≤ (gA d_23 b_32 (v3 + (-1)).toNatClampNeg) → b_X11_holdsLine_238 E a0 p1 p2 K k20 (v3 + (-1)) v4 v5 (gA d_23 b_20 ((r_24 + 51) + (2 * v5)).toNatClampNeg) (gA d_23 b_28 ((v3 + (-1)) - 1).toNatClampNeg) (gA d_23 b_32 (v3 + (-1)).toNatClampNeg) 1 d_23))))) ∧ ((gA d_23 b_20 ((r_24 + 51) + (2 * v5)).toNatClampNeg) = 11 → (((gA d_23 b_32 (v3 + (-1)).toNatClampNeg) ≤ (gA d_23 b_28 ((v3 + (-1)) - 1).toNatClampNeg) → b_X11_holdsLine_238 E a0 p1 p2 K k20 (v3 + (-1)) v4 v5 (gA d_23 b_20 ((r_24 + 51) + (2 * v5)).toNatClampNeg) (gA d_23 b_28 ((v3 + (-1)) - 1).toNatClampNeg) (gA d_23 b_32 (v3 + (-1)).toNatClampNeg) 0 d_23) ∧ (¬ (gA d_23 b_32 (v3 + (-1)).toNatClampNeg) ≤ (gA d_23 b_28 ((v3 + (-1)) - 1).toNatClampNeg) → b_X11_holdsLine_238 E a0 p1 p2 K k20 (v3 + (-1)) v4 v5 (gA d_23 b_20 ((r_24 + 51) + (2 * v5)).toNatClampNeg) (gA d_23 b_28 ((v3 + (-1)) - 1).toNatClampNeg) (gA d_23 b_32 (v3 + (-1)).toNatClampNeg) 1 d_23))))) ∧ ((gA d_23 b_20 ((r_24 + 51) + (2 * v5)).toNatClampNeg) = 13 → ∃ b_43 : Nat, eR E a0 15 = some b_43 ∧ okA E b_43 13 ∧ ∃ b_46 : Nat, eR E a0 15 = some b_46 ∧ okA E b_46 13 ∧ vp_in (v3 - 1) (eN E b_46) ∧ vp_in (v3 - 1) (eN E b_43) ∧ k20 v3 v4 (v5 + 1) (pA d_23 b_43 (v3 - 1).toNatClampNeg (1 - (gA d_23 b_46 (v3 - 1).toNatClampNeg)))))) ∧ (¬ 9 < (gA d_23 b_20 ((r_24 + 51) + (2 * v5)).toNatClampNeg) → ∃ b_51 : Nat, eR E a0 15 = some b_51 ∧ okA E b_51 13 ∧ ((¬ (gA d_23 b_20 ((r_24 + 51) + (2 * v5)).toNatClampNeg) = 9 → ∃ b_55 : Nat, eR E a0 14 = some b_55 ∧ okA E b_55 13 ∧ vp_in (gA d_23 b_20 ((r_24 + 51) + (2 * v5)).toNatClampNeg) (eN E b_55) ∧ vp_in v3 (eN E b_51) ∧ k20 (v3 + 1) v4 (v5 + 1) (pA d_23 b_51 (v3).toNatClampNeg (gA d_23 b_55 (gA d_23 b_20 ((r_24 + 51) + (2 * v5)).toNatClampNeg).toNatClampNeg))) ∧ ((gA d_23 b_20 ((r_24 + 51) + (2 * v5)).toNatClampNeg) = 9 → ∃ b_60 : Nat, eR E a0 1 = some b_60 ∧ okA E b_60 13 ∧ w_X11_textAt E p1 d_23 (fun r_64 d_63 => vp_in (((r_64 + 51) + (2 * v5)) + 1) (eN E b_60) ∧ vp_in v3 (eN E b_51) ∧ k20 (v3 + 1) v4 (v5 + 1) (pA d_63 b_51 (v3).toNatClampNeg (gA d_63 b_60 (((r_64 + 51) + (2 * v5)) + 1).toNatClampNeg))))))))))
def l_X11_holdsLine_20 (E : En) (a0 : Nat) (p1 : Int32) (p2 : Int32) (K : Int32 → Dy → Prop) : Nat → Int32 → Int32 → Int32 → Dy → Prop
  | 0 => fun _ _ _ _ => False
  | n + 1 => b_X11_holdsLine_20 E a0 p1 p2 K (l_X11_holdsLine_20 E a0 p1 p2 K n)
def w_X11_holdsLine (E : En) (a0 : Nat) (p1 : Int32) (p2 : Int32) (d : Dy) (K : Int32 → Dy → Prop) : Prop := okO E a0 11 ∧ w_X11_lineAt E p1 p2 d (fun r_68 d_67 => ∃ b_69 : Nat, eR E a0 1 = some b_69 ∧ okA E b_69 13 ∧ vp_in (r_68 + 3) (eN E b_69) ∧ (∃ n_73 : Nat, l_X11_holdsLine_20 E a0 p1 p2 K n_73 0 r_68 (gA d_67 b_69 (r_68 + 3).toNatClampNeg) d_67))
abbrev rm_X11_holdsLine : Room := { frames := 2, cells := 0, slots := 0, locals := 41 }
set_option maxRecDepth 100000 in
set_option maxHeartbeats 4000000 in
theorem m_X11_holdsLine (l : Launch) (D : va_G) (cs : Nat → ClassId) (E : En) (d : Dy) (sz : Nat) (a0 : Nat) (p1 : Int32) (p2 : Int32) (K : Int32 → Dy → Prop) : CI l yX11_holdsLine (.code yX11_holdsLine cX11_holdsLine 10 (some .boolean) :: wsL_law) rm_X11_holdsLine D cs E d sz [.ref a0, .int p1, .int p2] (w_X11_holdsLine E a0 p1 p2 d K) K := by
  refine e_of (cc := cX11_holdsLine) (maxL := 10) (ret := (some .boolean)) (own := RX11) (by decide) rfl rfl (Nat.le_of_ble_eq_true rfl) ?_
  intro p e s m below meth c S hr hlocks hsz H locs hw h ls hl
  have hl : lv_has ls 10 [(0, .ref a0), (1, .int p1), (2, .int p2)] := hl
  unfold w_X11_holdsLine at h
  obtain ⟨ha0, h⟩ := h
  have tl20 : ∀ (n : Nat) (v3 : Int32) (v4 : Int32) (v5 : Int32) (d : Dy) (H : Heap) (locs : List Loc) (ls : Array Slot), l_X11_holdsLine_20 E a0 p1 p2 K n v3 v4 v5 d → Wd D cs (AW E sz) s.heap s E d H locs → lv_has ls 10 [(0, .ref a0), (1, .int p1), (3, .int v3), (4, .int v4), (5, .int v5)] → W p l e rm_X11_holdsLine s m ([.ref a0, .int p1, .int p2] : List Value).toArray below meth c H locs 0 0 (MQ below (va_Qi K (OutW D cs E (AW E sz)) (AW E sz)) ([.ref a0, .int p1, .int p2] : List Value).toArray s rm_X11_holdsLine.cells rm_X11_holdsLine.slots (AW E sz)) (F0 m 20 ls []) := by
    intro n20
    induction n20 with
    | zero => intro v3 v4 v5 d H locs ls h; exact absurd h id
    | succ n20 ih20 =>
      have tb238 : ∀ (v3 : Int32) (v4 : Int32) (v5 : Int32) (v6 : Int32) (v7 : Int32) (v8 : Int32) (s0 : Int32) (d : Dy) (H : Heap) (locs : List Loc) (ls : Array Slot), b_X11_holdsLine_238 E a0 p1 p2 K (l_X11_holdsLine_20 E a0 p1 p2 K n20) v3 v4 v5 v6 v7 v8 s0 d → Wd D cs (AW E sz) s.heap s E d H locs → lv_has ls 10 [(0, .ref a0), (1, .int p1), (3, .int v3), (4, .int v4), (5, .int v5), (6, .int v6), (7, .int v7), (8, .int v8)] → W p l e rm_X11_holdsLine s m ([.ref a0, .int p1, .int p2] : List Value).toArray below meth c H locs 0 0 (MQ below (va_Qi K (OutW D cs E (AW E sz)) (AW E sz)) ([.ref a0, .int p1, .int p2] : List Value).toArray s rm_X11_holdsLine.cells rm_X11_holdsLine.slots (AW E sz)) (F0 m 238 ls [.int s0]) := by
        intro v3 v4 v5 v6 v7 v8 s0 d H locs ls h hw hl
        unfold b_X11_holdsLine_238 at h
        refine lv_istore (lv' := [(9, .int s0), (0, .ref a0), (1, .int p1), (3, .int v3), (4, .int v4), (5, .int v5), (6, .int v6), (7, .int v7), (8, .int v8)]) S.1 S.2.1 (dd_at ddX11_holdsLine 133 rfl) hl (by decide) rfl (fun ls hl => ?_)
        refine lv_aload_n S.1 S.2.1 (dd_at ddX11_holdsLine 134 rfl) rfl (lv_at hl 1 rfl) ?_
        obtain ⟨b_1, hb_2, ho_3, h⟩ := h
        refine r_getR S hw 11 15 rfl inG11 (by decide) (List.mem_cons_of_mem _ wg157) (by decide) ha0 hb_2 (dd_at ddX11_holdsLine 135 rfl) ?_
        refine lv_iload_n S.1 S.2.1 (dd_at ddX11_holdsLine 136 rfl) rfl (lv_at hl 3 rfl) ?_
        refine lv_iconst (v := 1) S.1 S.2.1 (dd_at ddX11_holdsLine 137 rfl) (by decide) ?_
        refine lv_isub S.1 S.2.1 (dd_at ddX11_holdsLine 138 rfl) ?_
        refine lv_iload S.1 S.2.1 (dd_at ddX11_holdsLine 139 rfl) (lv_at hl 6 rfl) ?_
        refine lv_bipush (v := 10) S.1 S.2.1 (dd_at ddX11_holdsLine 140 rfl) (by decide) ?_
        refine lv_icmp_ne (tgt := 262) S.1 S.2.1 (dd_at ddX11_holdsLine 141 rfl) (by decide) (fun hc_4 => ?_) (fun hc_4 => ?_)
        · have h := h.1 hc_4
          refine lv_iload S.1 S.2.1 (dd_at ddX11_holdsLine 146 rfl) (lv_at hl 0 rfl) ?_
          refine lv_if_eq (tgt := 271) S.1 S.2.1 (dd_at ddX11_holdsLine 147 rfl) (by decide) (fun hc_5 => ?_) (fun hc_5 => ?_)
          · have h := h.1 hc_5
            refine lv_iconst (v := 0) S.1 S.2.1 (dd_at ddX11_holdsLine 150 rfl) (by decide) ?_
            obtain ⟨hx_6, h⟩ := h
            refine r_iast S hw ho_3 hx_6 (dd_at ddX11_holdsLine 151 rfl) (fun H locs hw => ?_)
            refine lv_iinc (v := v5 + 1) (lv' := [(5, .int (v5 + 1)), (9, .int s0), (0, .ref a0), (1, .int p1), (3, .int v3), (4, .int v4), (6, .int v6), (7, .int v7), (8, .int v8)]) S.1 S.2.1 (dd_at ddX11_holdsLine 152 rfl) hl (k := 5) rfl rfl (by decide) rfl (fun ls hl => ?_)
            refine lv_goto (tgt := 20) S.1 S.2.1 (dd_at ddX11_holdsLine 153 rfl) (by decide) ?_
            exact ih20 v3 v4 (v5 + 1) (pA d b_1 (v3 - 1).toNatClampNeg 0) H locs ls h hw (lv_sub hl [2, 3, 4, 5, 0] rfl)
          · have h := h.2 hc_5
            refine lv_iconst (v := 1) S.1 S.2.1 (dd_at ddX11_holdsLine 148 rfl) (by decide) ?_
            refine lv_goto (tgt := 272) S.1 S.2.1 (dd_at ddX11_holdsLine 149 rfl) (by decide) ?_
            obtain ⟨hx_7, h⟩ := h
            refine r_iast S hw ho_3 hx_7 (dd_at ddX11_holdsLine 151 rfl) (fun H locs hw => ?_)
            refine lv_iinc (v := v5 + 1) (lv' := [(5, .int (v5 + 1)), (9, .int s0), (0, .ref a0), (1, .int p1), (3, .int v3), (4, .int v4), (6, .int v6), (7, .int v7), (8, .int v8)]) S.1 S.2.1 (dd_at ddX11_holdsLine 152 rfl) hl (k := 5) rfl rfl (by decide) rfl (fun ls hl => ?_)
            refine lv_goto (tgt := 20) S.1 S.2.1 (dd_at ddX11_holdsLine 153 rfl) (by decide) ?_
            exact ih20 v3 v4 (v5 + 1) (pA d b_1 (v3 - 1).toNatClampNeg 1) H locs ls h hw (lv_sub hl [2, 3, 4, 5, 0] rfl)
        · have h := h.2 hc_4
          refine lv_iload S.1 S.2.1 (dd_at ddX11_holdsLine 142 rfl) (lv_at hl 7 rfl) ?_
          refine lv_iload S.1 S.2.1 (dd_at ddX11_holdsLine 143 rfl) (lv_at hl 8 rfl) ?_
          refine lv_iadd S.1 S.2.1 (dd_at ddX11_holdsLine 144 rfl) ?_
          refine lv_goto (tgt := 272) S.1 S.2.1 (dd_at ddX11_holdsLine 145 rfl) (by decide) ?_
          obtain ⟨hx_8, h⟩ := h
          refine r_iast S hw ho_3 hx_8 (dd_at ddX11_holdsLine 151 rfl) (fun H locs hw => ?_)
          refine lv_iinc (v := v5 + 1) (lv' := [(5, .int (v5 + 1)), (9, .int s0), (0, .ref a0), (1, .int p1), (3, .int v3), (4, .int v4), (6, .int v6), (7, .int v7), (8, .int v8)]) S.1 S.2.1 (dd_at ddX11_holdsLine 152 rfl) hl (k := 5) rfl rfl (by decide) rfl (fun ls hl => ?_)
          refine lv_goto (tgt := 20) S.1 S.2.1 (dd_at ddX11_holdsLine 153 rfl) (by decide) ?_
          exact ih20 v3 v4 (v5 + 1) (pA d b_1 (v3 - 1).toNatClampNeg (v7 + v8)) H locs ls h hw (lv_sub hl [2, 3, 4, 5, 0] rfl)
      intro v3 v4 v5 d H locs ls h hw hl
      have h : b_X11_holdsLine_20 E a0 p1 p2 K (l_X11_holdsLine_20 E a0 p1 p2 K n20) v3 v4 v5 d := h
      unfold b_X11_holdsLine_20 at h
      refine lv_iload S.1 S.2.1 (dd_at ddX11_holdsLine 13 rfl) (lv_at hl 4 rfl) ?_
      refine lv_aload_n S.1 S.2.1 (dd_at ddX11_holdsLine 14 rfl) rfl (lv_at hl 0 rfl) ?_
      obtain ⟨b_9, hb_10, ho_11, h⟩ := h
      refine r_getR S hw 11 1 rfl inG11 (by decide) (List.mem_cons_of_mem _ wg150) (by decide) ha0 hb_10 (dd_at ddX11_holdsLine 15 rfl) ?_
      refine lv_iload S.1 S.2.1 (dd_at ddX11_holdsLine 16 rfl) (lv_at hl 3 rfl) ?_
      refine lv_iconst (v := 4) S.1 S.2.1 (dd_at ddX11_holdsLine 17 rfl) (by decide) ?_
      refine lv_iadd S.1 S.2.1 (dd_at ddX11_holdsLine 18 rfl) ?_
      obtain ⟨hx_12, h⟩ := h
      refine r_iald S hw ho_11 hx_12 (dd_at ddX11_holdsLine 19 rfl) ?_
      refine lv_icmp_ge (tgt := 279) S.1 S.2.1 (dd_at ddX11_holdsLine 20 rfl) (by decide) (fun hc_13 => ?_) (fun hc_13 => ?_)
      · have h := h.1 hc_13
        refine lv_iload_n S.1 S.2.1 (dd_at ddX11_holdsLine 154 rfl) rfl (lv_at hl 2 rfl) ?_
        refine lv_if_eq (tgt := 293) S.1 S.2.1 (dd_at ddX11_holdsLine 155 rfl) (by decide) (fun hc_14 => ?_) (fun hc_14 => ?_)
        · have h := h.1 hc_14
          refine lv_iconst (v := 1) S.1 S.2.1 (dd_at ddX11_holdsLine 162 rfl) (by decide) ?_
          refine lv_goto (tgt := 298) S.1 S.2.1 (dd_at ddX11_holdsLine 163 rfl) (by decide) ?_
          exact e_Z S hr hlocks hw (Or.inr rfl) h (dd_at ddX11_holdsLine 165 rfl)
        · have h := h.2 hc_14
          refine lv_aload_n S.1 S.2.1 (dd_at ddX11_holdsLine 156 rfl) rfl (lv_at hl 0 rfl) ?_
          obtain ⟨b_15, hb_16, ho_17, h⟩ := h
          refine r_getR S hw 11 15 rfl inG11 (by decide) (List.mem_cons_of_mem _ wg157) (by decide) ha0 hb_16 (dd_at ddX11_holdsLine 157 rfl) ?_
          refine lv_iconst (v := 0) S.1 S.2.1 (dd_at ddX11_holdsLine 158 rfl) (by decide) ?_
          obtain ⟨hx_18, h⟩ := h
          refine r_iald S hw ho_17 hx_18 (dd_at ddX11_holdsLine 159 rfl) ?_
          refine lv_iconst (v := 1) S.1 S.2.1 (dd_at ddX11_holdsLine 160 rfl) (by decide) ?_
          refine lv_icmp_ne (tgt := 297) S.1 S.2.1 (dd_at ddX11_holdsLine 161 rfl) (by decide) (fun hc_19 => ?_) (fun hc_19 => ?_)
          · have h := h.1 hc_19
            refine lv_iconst (v := 0) S.1 S.2.1 (dd_at ddX11_holdsLine 164 rfl) (by decide) ?_
            exact e_Z S hr hlocks hw (Or.inl rfl) h (dd_at ddX11_holdsLine 165 rfl)
          · have h := h.2 hc_19
            refine lv_iconst (v := 1) S.1 S.2.1 (dd_at ddX11_holdsLine 162 rfl) (by decide) ?_
            refine lv_goto (tgt := 298) S.1 S.2.1 (dd_at ddX11_holdsLine 163 rfl) (by decide) ?_
            exact e_Z S hr hlocks hw (Or.inr rfl) h (dd_at ddX11_holdsLine 165 rfl)
      · have h := h.2 hc_13
        refine lv_aload_n S.1 S.2.1 (dd_at ddX11_holdsLine 21 rfl) rfl (lv_at hl 0 rfl) ?_
        obtain ⟨b_20, hb_21, ho_22, h⟩ := h
        refine r_getR S hw 11 1 rfl inG11 (by decide) (List.mem_cons_of_mem _ wg150) (by decide) ha0 hb_21 (dd_at ddX11_holdsLine 22 rfl) ?_
        refine lv_iload_n S.1 S.2.1 (dd_at ddX11_holdsLine 23 rfl) rfl (lv_at hl 1 rfl) ?_
        refine r_callI hw (r_runS (As := [.int p1]) (rest := [.ref b_20]) S hw (m_X11_textAt l D cs E d H.size p1 _) (va_cwS 1 S.2.2.2.2 (gS wg449 wg450 wg5 wg451) rfl rfl rfl (by decide +kernel) ⟨Nat.le_of_ble_eq_true rfl, Nat.le_of_ble_eq_true rfl⟩) h rfl hl.1 rfl (Nat.le_of_ble_eq_true rfl) (dd_at ddX11_holdsLine 24 rfl) ⟨Nat.le_of_ble_eq_true rfl, Nat.le_of_ble_eq_true rfl⟩) (fun r_24 d_23 H locs h hw => ?_)
        refine lv_bipush (v := 51) S.1 S.2.1 (dd_at ddX11_holdsLine 25 rfl) (by decide) ?_
        refine lv_iadd S.1 S.2.1 (dd_at ddX11_holdsLine 26 rfl) ?_
        refine lv_iconst (v := 2) S.1 S.2.1 (dd_at ddX11_holdsLine 27 rfl) (by decide) ?_
        refine lv_iload S.1 S.2.1 (dd_at ddX11_holdsLine 28 rfl) (lv_at hl 4 rfl) ?_
        refine lv_imul S.1 S.2.1 (dd_at ddX11_holdsLine 29 rfl) ?_
        refine lv_iadd S.1 S.2.1 (dd_at ddX11_holdsLine 30 rfl) ?_
        obtain ⟨hx_25, h⟩ := h
        refine r_iald S hw ho_22 hx_25 (dd_at ddX11_holdsLine 31 rfl) ?_
        refine lv_istore (lv' := [(6, .int (gA d_23 b_20 ((r_24 + 51) + (2 * v5)).toNatClampNeg)), (0, .ref a0), (1, .int p1), (3, .int v3), (4, .int v4), (5, .int v5)]) S.1 S.2.1 (dd_at ddX11_holdsLine 32 rfl) hl (by decide) rfl (fun ls hl => ?_)
        refine lv_iload S.1 S.2.1 (dd_at ddX11_holdsLine 33 rfl) (lv_at hl 0 rfl) ?_
        refine lv_bipush (v := 9) S.1 S.2.1 (dd_at ddX11_holdsLine 34 rfl) (by decide) ?_
        refine lv_icmp_gt (tgt := 108) S.1 S.2.1 (dd_at ddX11_holdsLine 35 rfl) (by decide) (fun hc_26 => ?_) (fun hc_26 => ?_)
        · have h := h.1 hc_26
          refine lv_iload S.1 S.2.1 (dd_at ddX11_holdsLine 63 rfl) (lv_at hl 0 rfl) ?_
          refine lv_bipush (v := 13) S.1 S.2.1 (dd_at ddX11_holdsLine 64 rfl) (by decide) ?_
          refine lv_icmp_ne (tgt := 136) S.1 S.2.1 (dd_at ddX11_holdsLine 65 rfl) (by decide) (fun hc_27 => ?_) (fun hc_27 => ?_)
          · have h := h.1 hc_27
            refine lv_iinc (v := v3 + (-1)) (lv' := [(3, .int (v3 + (-1))), (6, .int (gA d_23 b_20 ((r_24 + 51) + (2 * v5)).toNatClampNeg)), (0, .ref a0), (1, .int p1), (4, .int v4), (5, .int v5)]) S.1 S.2.1 (dd_at ddX11_holdsLine 81 rfl) hl (k := 3) rfl rfl (by decide) rfl (fun ls hl => ?_)
            refine lv_aload_n S.1 S.2.1 (dd_at ddX11_holdsLine 82 rfl) rfl (lv_at hl 2 rfl) ?_
            obtain ⟨b_28, hb_29, ho_30, h⟩ := h
            refine r_getR S hw 11 15 rfl inG11 (by decide) (List.mem_cons_of_mem _ wg157) (by decide) ha0 hb_29 (dd_at ddX11_holdsLine 83 rfl) ?_
            refine lv_iload_n S.1 S.2.1 (dd_at ddX11_holdsLine 84 rfl) rfl (lv_at hl 0 rfl) ?_
            refine lv_iconst (v := 1) S.1 S.2.1 (dd_at ddX11_holdsLine 85 rfl) (by decide) ?_
            refine lv_isub S.1 S.2.1 (dd_at ddX11_holdsLine 86 rfl) ?_
            obtain ⟨hx_31, h⟩ := h
            refine r_iald S hw ho_30 hx_31 (dd_at ddX11_holdsLine 87 rfl) ?_
            refine lv_istore (lv' := [(7, .int (gA d_23 b_28 ((v3 + (-1)) - 1).toNatClampNeg)), (3, .int (v3 + (-1))), (6, .int (gA d_23 b_20 ((r_24 + 51) + (2 * v5)).toNatClampNeg)), (0, .ref a0), (1, .int p1), (4, .int v4), (5, .int v5)]) S.1 S.2.1 (dd_at ddX11_holdsLine 88 rfl) hl (by decide) rfl (fun ls hl => ?_)
            refine lv_aload_n S.1 S.2.1 (dd_at ddX11_holdsLine 89 rfl) rfl (lv_at hl 3 rfl) ?_
            obtain ⟨b_32, hb_33, ho_34, h⟩ := h
            refine r_getR S hw 11 15 rfl inG11 (by decide) (List.mem_cons_of_mem _ wg157) (by decide) ha0 hb_33 (dd_at ddX11_holdsLine 90 rfl) ?_
            refine lv_iload_n S.1 S.2.1 (dd_at ddX11_holdsLine 91 rfl) rfl (lv_at hl 1 rfl) ?_
            obtain ⟨hx_35, h⟩ := h
            refine r_iald S hw ho_34 hx_35 (dd_at ddX11_holdsLine 92 rfl) ?_
            refine lv_istore (lv' := [(8, .int (gA d_23 b_32 (v3 + (-1)).toNatClampNeg)), (7, .int (gA d_23 b_28 ((v3 + (-1)) - 1).toNatClampNeg)), (3, .int (v3 + (-1))), (6, .int (gA d_23 b_20 ((r_24 + 51) + (2 * v5)).toNatClampNeg)), (0, .ref a0), (1, .int p1), (4, .int v4), (5, .int v5)]) S.1 S.2.1 (dd_at ddX11_holdsLine 93 rfl) hl (by decide) rfl (fun ls hl => ?_)
            refine lv_iload S.1 S.2.1 (dd_at ddX11_holdsLine 94 rfl) (lv_at hl 3 rfl) ?_
            refine lv_bipush (v := 11) S.1 S.2.1 (dd_at ddX11_holdsLine 95 rfl) (by decide) ?_
            refine lv_icmp_ne (tgt := 179) S.1 S.2.1 (dd_at ddX11_holdsLine 96 rfl) (by decide) (fun hc_36 => ?_) (fun hc_36 => ?_)
            · have h := h.1 hc_36
              refine lv_iload S.1 S.2.1 (dd_at ddX11_holdsLine 104 rfl) (lv_at hl 3 rfl) ?_
              refine lv_bipush (v := 12) S.1 S.2.1 (dd_at ddX11_holdsLine 105 rfl) (by decide) ?_
              refine lv_icmp_ne (tgt := 201) S.1 S.2.1 (dd_at ddX11_holdsLine 106 rfl) (by decide) (fun hc_37 => ?_) (fun hc_37 => ?_)
              · have h := h.1 hc_37
                refine lv_iload S.1 S.2.1 (dd_at ddX11_holdsLine 114 rfl) (lv_at hl 3 rfl) ?_
                refine lv_bipush (v := 14) S.1 S.2.1 (dd_at ddX11_holdsLine 115 rfl) (by decide) ?_
                refine lv_icmp_ne (tgt := 225) S.1 S.2.1 (dd_at ddX11_holdsLine 116 rfl) (by decide) (fun hc_38 => ?_) (fun hc_38 => ?_)
                · have h := h.1 hc_38
                  refine lv_iload S.1 S.2.1 (dd_at ddX11_holdsLine 126 rfl) (lv_at hl 1 rfl) ?_
                  refine lv_iload S.1 S.2.1 (dd_at ddX11_holdsLine 127 rfl) (lv_at hl 0 rfl) ?_
                  refine lv_iadd S.1 S.2.1 (dd_at ddX11_holdsLine 128 rfl) ?_
                  refine lv_if_le (tgt := 237) S.1 S.2.1 (dd_at ddX11_holdsLine 129 rfl) (by decide) (fun hc_39 => ?_) (fun hc_39 => ?_)
                  · have h := h.1 hc_39
                    refine lv_iconst (v := 0) S.1 S.2.1 (dd_at ddX11_holdsLine 132 rfl) (by decide) ?_
                    exact tb238 (v3 + (-1)) v4 v5 (gA d_23 b_20 ((r_24 + 51) + (2 * v5)).toNatClampNeg) (gA d_23 b_28 ((v3 + (-1)) - 1).toNatClampNeg) (gA d_23 b_32 (v3 + (-1)).toNatClampNeg) 0 d_23 H locs ls h hw (lv_sub hl [4, 5, 2, 6, 7, 3, 1, 0] rfl)
                  · have h := h.2 hc_39
                    refine lv_iconst (v := 1) S.1 S.2.1 (dd_at ddX11_holdsLine 130 rfl) (by decide) ?_
                    refine lv_goto (tgt := 238) S.1 S.2.1 (dd_at ddX11_holdsLine 131 rfl) (by decide) ?_
                    exact tb238 (v3 + (-1)) v4 v5 (gA d_23 b_20 ((r_24 + 51) + (2 * v5)).toNatClampNeg) (gA d_23 b_28 ((v3 + (-1)) - 1).toNatClampNeg) (gA d_23 b_32 (v3 + (-1)).toNatClampNeg) 1 d_23 H locs ls h hw (lv_sub hl [4, 5, 2, 6, 7, 3, 1, 0] rfl)
                · have h := h.2 hc_38
                  refine lv_iload S.1 S.2.1 (dd_at ddX11_holdsLine 117 rfl) (lv_at hl 1 rfl) ?_
                  refine lv_iload S.1 S.2.1 (dd_at ddX11_holdsLine 118 rfl) (lv_at hl 0 rfl) ?_
                  refine lv_iadd S.1 S.2.1 (dd_at ddX11_holdsLine 119 rfl) ?_
                  refine lv_iconst (v := 2) S.1 S.2.1 (dd_at ddX11_holdsLine 120 rfl) (by decide) ?_
                  refine lv_icmp_ne (tgt := 221) S.1 S.2.1 (dd_at ddX11_holdsLine 121 rfl) (by decide) (fun hc_40 => ?_) (fun hc_40 => ?_)
                  · have h := h.1 hc_40
                    refine lv_iconst (v := 0) S.1 S.2.1 (dd_at ddX11_holdsLine 124 rfl) (by decide) ?_
                    refine lv_goto (tgt := 238) S.1 S.2.1 (dd_at ddX11_holdsLine 125 rfl) (by decide) ?_
                    exact tb238 (v3 + (-1)) v4 v5 (gA d_23 b_20 ((r_24 + 51) + (2 * v5)).toNatClampNeg) (gA d_23 b_28 ((v3 + (-1)) - 1).toNatClampNeg) (gA d_23 b_32 (v3 + (-1)).toNatClampNeg) 0 d_23 H locs ls h hw (lv_sub hl [4, 5, 2, 6, 7, 3, 1, 0] rfl)
                  · have h := h.2 hc_40
                    refine lv_iconst (v := 1) S.1 S.2.1 (dd_at ddX11_holdsLine 122 rfl) (by decide) ?_
                    refine lv_goto (tgt := 238) S.1 S.2.1 (dd_at ddX11_holdsLine 123 rfl) (by decide) ?_
                    exact tb238 (v3 + (-1)) v4 v5 (gA d_23 b_20 ((r_24 + 51) + (2 * v5)).toNatClampNeg) (gA d_23 b_28 ((v3 + (-1)) - 1).toNatClampNeg) (gA d_23 b_32 (v3 + (-1)).toNatClampNeg) 1 d_23 H locs ls h hw (lv_sub hl [4, 5, 2, 6, 7, 3, 1, 0] rfl)
              · have h := h.2 hc_37
                refine lv_iload S.1 S.2.1 (dd_at ddX11_holdsLine 107 rfl) (lv_at hl 1 rfl) ?_
                refine lv_iload S.1 S.2.1 (dd_at ddX11_holdsLine 108 rfl) (lv_at hl 0 rfl) ?_
                refine lv_icmp_le (tgt := 197) S.1 S.2.1 (dd_at ddX11_holdsLine 109 rfl) (by decide) (fun hc_41 => ?_) (fun hc_41 => ?_)
                · have h := h.1 hc_41
                  refine lv_iconst (v := 0) S.1 S.2.1 (dd_at ddX11_holdsLine 112 rfl) (by decide) ?_
                  refine lv_goto (tgt := 238) S.1 S.2.1 (dd_at ddX11_holdsLine 113 rfl) (by decide) ?_
                  exact tb238 (v3 + (-1)) v4 v5 (gA d_23 b_20 ((r_24 + 51) + (2 * v5)).toNatClampNeg) (gA d_23 b_28 ((v3 + (-1)) - 1).toNatClampNeg) (gA d_23 b_32 (v3 + (-1)).toNatClampNeg) 0 d_23 H locs ls h hw (lv_sub hl [4, 5, 2, 6, 7, 3, 1, 0] rfl)
                · have h := h.2 hc_41
                  refine lv_iconst (v := 1) S.1 S.2.1 (dd_at ddX11_holdsLine 110 rfl) (by decide) ?_
                  refine lv_goto (tgt := 238) S.1 S.2.1 (dd_at ddX11_holdsLine 111 rfl) (by decide) ?_
                  exact tb238 (v3 + (-1)) v4 v5 (gA d_23 b_20 ((r_24 + 51) + (2 * v5)).toNatClampNeg) (gA d_23 b_28 ((v3 + (-1)) - 1).toNatClampNeg) (gA d_23 b_32 (v3 + (-1)).toNatClampNeg) 1 d_23 H locs ls h hw (lv_sub hl [4, 5, 2, 6, 7, 3, 1, 0] rfl)
            · have h := h.2 hc_36
              refine lv_iload S.1 S.2.1 (dd_at ddX11_holdsLine 97 rfl) (lv_at hl 1 rfl) ?_
              refine lv_iload S.1 S.2.1 (dd_at ddX11_holdsLine 98 rfl) (lv_at hl 0 rfl) ?_
              refine lv_icmp_ge (tgt := 175) S.1 S.2.1 (dd_at ddX11_holdsLine 99 rfl) (by decide) (fun hc_42 => ?_) (fun hc_42 => ?_)
              · have h := h.1 hc_42
                refine lv_iconst (v := 0) S.1 S.2.1 (dd_at ddX11_holdsLine 102 rfl) (by decide) ?_
                refine lv_goto (tgt := 238) S.1 S.2.1 (dd_at ddX11_holdsLine 103 rfl) (by decide) ?_
                exact tb238 (v3 + (-1)) v4 v5 (gA d_23 b_20 ((r_24 + 51) + (2 * v5)).toNatClampNeg) (gA d_23 b_28 ((v3 + (-1)) - 1).toNatClampNeg) (gA d_23 b_32 (v3 + (-1)).toNatClampNeg) 0 d_23 H locs ls h hw (lv_sub hl [4, 5, 2, 6, 7, 3, 1, 0] rfl)
              · have h := h.2 hc_42
                refine lv_iconst (v := 1) S.1 S.2.1 (dd_at ddX11_holdsLine 100 rfl) (by decide) ?_
                refine lv_goto (tgt := 238) S.1 S.2.1 (dd_at ddX11_holdsLine 101 rfl) (by decide) ?_
                exact tb238 (v3 + (-1)) v4 v5 (gA d_23 b_20 ((r_24 + 51) + (2 * v5)).toNatClampNeg) (gA d_23 b_28 ((v3 + (-1)) - 1).toNatClampNeg) (gA d_23 b_32 (v3 + (-1)).toNatClampNeg) 1 d_23 H locs ls h hw (lv_sub hl [4, 5, 2, 6, 7, 3, 1, 0] rfl)
          · have h := h.2 hc_27
            refine lv_aload_n S.1 S.2.1 (dd_at ddX11_holdsLine 66 rfl) rfl (lv_at hl 1 rfl) ?_
            obtain ⟨b_43, hb_44, ho_45, h⟩ := h
            refine r_getR S hw 11 15 rfl inG11 (by decide) (List.mem_cons_of_mem _ wg157) (by decide) ha0 hb_44 (dd_at ddX11_holdsLine 67 rfl) ?_
            refine lv_iload_n S.1 S.2.1 (dd_at ddX11_holdsLine 68 rfl) rfl (lv_at hl 3 rfl) ?_
            refine lv_iconst (v := 1) S.1 S.2.1 (dd_at ddX11_holdsLine 69 rfl) (by decide) ?_
            refine lv_isub S.1 S.2.1 (dd_at ddX11_holdsLine 70 rfl) ?_
            refine lv_iconst (v := 1) S.1 S.2.1 (dd_at ddX11_holdsLine 71 rfl) (by decide) ?_
            refine lv_aload_n S.1 S.2.1 (dd_at ddX11_holdsLine 72 rfl) rfl (lv_at hl 1 rfl) ?_
            obtain ⟨b_46, hb_47, ho_48, h⟩ := h
            refine r_getR S hw 11 15 rfl inG11 (by decide) (List.mem_cons_of_mem _ wg157) (by decide) ha0 hb_47 (dd_at ddX11_holdsLine 73 rfl) ?_
            refine lv_iload_n S.1 S.2.1 (dd_at ddX11_holdsLine 74 rfl) rfl (lv_at hl 3 rfl) ?_
            refine lv_iconst (v := 1) S.1 S.2.1 (dd_at ddX11_holdsLine 75 rfl) (by decide) ?_
            refine lv_isub S.1 S.2.1 (dd_at ddX11_holdsLine 76 rfl) ?_
            obtain ⟨hx_49, h⟩ := h
            refine r_iald S hw ho_48 hx_49 (dd_at ddX11_holdsLine 77 rfl) ?_
            refine lv_isub S.1 S.2.1 (dd_at ddX11_holdsLine 78 rfl) ?_
            obtain ⟨hx_50, h⟩ := h
            refine r_iast S hw ho_45 hx_50 (dd_at ddX11_holdsLine 79 rfl) (fun H locs hw => ?_)
            refine lv_goto (tgt := 273) S.1 S.2.1 (dd_at ddX11_holdsLine 80 rfl) (by decide) ?_
            refine lv_iinc (v := v5 + 1) (lv' := [(5, .int (v5 + 1)), (6, .int (gA d_23 b_20 ((r_24 + 51) + (2 * v5)).toNatClampNeg)), (0, .ref a0), (1, .int p1), (3, .int v3), (4, .int v4)]) S.1 S.2.1 (dd_at ddX11_holdsLine 152 rfl) hl (k := 5) rfl rfl (by decide) rfl (fun ls hl => ?_)
            refine lv_goto (tgt := 20) S.1 S.2.1 (dd_at ddX11_holdsLine 153 rfl) (by decide) ?_
            exact ih20 v3 v4 (v5 + 1) (pA d_23 b_43 (v3 - 1).toNatClampNeg (1 - (gA d_23 b_46 (v3 - 1).toNatClampNeg))) H locs ls h hw (lv_sub hl [2, 3, 4, 5, 0] rfl)
        · have h := h.2 hc_26
          refine lv_aload_n S.1 S.2.1 (dd_at ddX11_holdsLine 36 rfl) rfl (lv_at hl 1 rfl) ?_
          obtain ⟨b_51, hb_52, ho_53, h⟩ := h
          refine r_getR S hw 11 15 rfl inG11 (by decide) (List.mem_cons_of_mem _ wg157) (by decide) ha0 hb_52 (dd_at ddX11_holdsLine 37 rfl) ?_
          refine lv_iload_n S.1 S.2.1 (dd_at ddX11_holdsLine 38 rfl) rfl (lv_at hl 3 rfl) ?_
          refine lv_iload S.1 S.2.1 (dd_at ddX11_holdsLine 39 rfl) (lv_at hl 0 rfl) ?_
          refine lv_bipush (v := 9) S.1 S.2.1 (dd_at ddX11_holdsLine 40 rfl) (by decide) ?_
          refine lv_icmp_ne (tgt := 94) S.1 S.2.1 (dd_at ddX11_holdsLine 41 rfl) (by decide) (fun hc_54 => ?_) (fun hc_54 => ?_)
          · have h := h.1 hc_54
            refine lv_aload_n S.1 S.2.1 (dd_at ddX11_holdsLine 56 rfl) rfl (lv_at hl 1 rfl) ?_
            obtain ⟨b_55, hb_56, ho_57, h⟩ := h
            refine r_getR S hw 11 14 rfl inG11 (by decide) (List.mem_cons_of_mem _ wg156) (by decide) ha0 hb_56 (dd_at ddX11_holdsLine 57 rfl) ?_
            refine lv_iload S.1 S.2.1 (dd_at ddX11_holdsLine 58 rfl) (lv_at hl 0 rfl) ?_
            obtain ⟨hx_58, h⟩ := h
            refine r_iald S hw ho_57 hx_58 (dd_at ddX11_holdsLine 59 rfl) ?_
            obtain ⟨hx_59, h⟩ := h
            refine r_iast S hw ho_53 hx_59 (dd_at ddX11_holdsLine 60 rfl) (fun H locs hw => ?_)
            refine lv_iinc (v := v3 + 1) (lv' := [(3, .int (v3 + 1)), (6, .int (gA d_23 b_20 ((r_24 + 51) + (2 * v5)).toNatClampNeg)), (0, .ref a0), (1, .int p1), (4, .int v4), (5, .int v5)]) S.1 S.2.1 (dd_at ddX11_holdsLine 61 rfl) hl (k := 3) rfl rfl (by decide) rfl (fun ls hl => ?_)
            refine lv_goto (tgt := 273) S.1 S.2.1 (dd_at ddX11_holdsLine 62 rfl) (by decide) ?_
            refine lv_iinc (v := v5 + 1) (lv' := [(5, .int (v5 + 1)), (3, .int (v3 + 1)), (6, .int (gA d_23 b_20 ((r_24 + 51) + (2 * v5)).toNatClampNeg)), (0, .ref a0), (1, .int p1), (4, .int v4)]) S.1 S.2.1 (dd_at ddX11_holdsLine 152 rfl) hl (k := 5) rfl rfl (by decide) rfl (fun ls hl => ?_)
            refine lv_goto (tgt := 20) S.1 S.2.1 (dd_at ddX11_holdsLine 153 rfl) (by decide) ?_
            exact ih20 (v3 + 1) v4 (v5 + 1) (pA d_23 b_51 (v3).toNatClampNeg (gA d_23 b_55 (gA d_23 b_20 ((r_24 + 51) + (2 * v5)).toNatClampNeg).toNatClampNeg)) H locs ls h hw (lv_sub hl [3, 4, 1, 5, 0] rfl)
          · have h := h.2 hc_54
            refine lv_aload_n S.1 S.2.1 (dd_at ddX11_holdsLine 42 rfl) rfl (lv_at hl 1 rfl) ?_
            obtain ⟨b_60, hb_61, ho_62, h⟩ := h
            refine r_getR S hw 11 1 rfl inG11 (by decide) (List.mem_cons_of_mem _ wg150) (by decide) ha0 hb_61 (dd_at ddX11_holdsLine 43 rfl) ?_
            refine lv_iload_n S.1 S.2.1 (dd_at ddX11_holdsLine 44 rfl) rfl (lv_at hl 2 rfl) ?_
            refine r_callI hw (r_runS (As := [.int p1]) (rest := [.ref b_60, .int v3, .ref b_51]) S hw (m_X11_textAt l D cs E d_23 H.size p1 _) (va_cwS 1 S.2.2.2.2 (gS wg449 wg450 wg5 wg451) rfl rfl rfl (by decide +kernel) ⟨Nat.le_of_ble_eq_true rfl, Nat.le_of_ble_eq_true rfl⟩) h rfl hl.1 rfl (Nat.le_of_ble_eq_true rfl) (dd_at ddX11_holdsLine 45 rfl) ⟨Nat.le_of_ble_eq_true rfl, Nat.le_of_ble_eq_true rfl⟩) (fun r_64 d_63 H locs h hw => ?_)
            refine lv_bipush (v := 51) S.1 S.2.1 (dd_at ddX11_holdsLine 46 rfl) (by decide) ?_
            refine lv_iadd S.1 S.2.1 (dd_at ddX11_holdsLine 47 rfl) ?_
            refine lv_iconst (v := 2) S.1 S.2.1 (dd_at ddX11_holdsLine 48 rfl) (by decide) ?_
            refine lv_iload S.1 S.2.1 (dd_at ddX11_holdsLine 49 rfl) (lv_at hl 5 rfl) ?_
            refine lv_imul S.1 S.2.1 (dd_at ddX11_holdsLine 50 rfl) ?_
            refine lv_iadd S.1 S.2.1 (dd_at ddX11_holdsLine 51 rfl) ?_
            refine lv_iconst (v := 1) S.1 S.2.1 (dd_at ddX11_holdsLine 52 rfl) (by decide) ?_
            refine lv_iadd S.1 S.2.1 (dd_at ddX11_holdsLine 53 rfl) ?_
            obtain ⟨hx_65, h⟩ := h
            refine r_iald S hw ho_62 hx_65 (dd_at ddX11_holdsLine 54 rfl) ?_
            refine lv_goto (tgt := 101) S.1 S.2.1 (dd_at ddX11_holdsLine 55 rfl) (by decide) ?_
            obtain ⟨hx_66, h⟩ := h
            refine r_iast S hw ho_53 hx_66 (dd_at ddX11_holdsLine 60 rfl) (fun H locs hw => ?_)
            refine lv_iinc (v := v3 + 1) (lv' := [(3, .int (v3 + 1)), (6, .int (gA d_23 b_20 ((r_24 + 51) + (2 * v5)).toNatClampNeg)), (0, .ref a0), (1, .int p1), (4, .int v4), (5, .int v5)]) S.1 S.2.1 (dd_at ddX11_holdsLine 61 rfl) hl (k := 3) rfl rfl (by decide) rfl (fun ls hl => ?_)
            refine lv_goto (tgt := 273) S.1 S.2.1 (dd_at ddX11_holdsLine 62 rfl) (by decide) ?_
            refine lv_iinc (v := v5 + 1) (lv' := [(5, .int (v5 + 1)), (3, .int (v3 + 1)), (6, .int (gA d_23 b_20 ((r_24 + 51) + (2 * v5)).toNatClampNeg)), (0, .ref a0), (1, .int p1), (4, .int v4)]) S.1 S.2.1 (dd_at ddX11_holdsLine 152 rfl) hl (k := 5) rfl rfl (by decide) rfl (fun ls hl => ?_)
            refine lv_goto (tgt := 20) S.1 S.2.1 (dd_at ddX11_holdsLine 153 rfl) (by decide) ?_
            exact ih20 (v3 + 1) v4 (v5 + 1) (pA d_63 b_51 (v3).toNatClampNeg (gA d_63 b_60 (((r_64 + 51) + (2 * v5)) + 1).toNatClampNeg)) H locs ls h hw (lv_sub hl [3, 4, 1, 5, 0] rfl)
  refine lv_iconst (v := 0) S.1 S.2.1 (dd_at ddX11_holdsLine 0 rfl) (by decide) ?_
  refine lv_istore_n (lv' := [(3, .int 0), (0, .ref a0), (1, .int p1), (2, .int p2)]) S.1 S.2.1 (dd_at ddX11_holdsLine 1 rfl) rfl hl (by decide) rfl (fun ls hl => ?_)
  refine lv_iload_n S.1 S.2.1 (dd_at ddX11_holdsLine 2 rfl) rfl (lv_at hl 2 rfl) ?_
  refine lv_iload_n S.1 S.2.1 (dd_at ddX11_holdsLine 3 rfl) rfl (lv_at hl 3 rfl) ?_
  refine r_callI hw (r_runS (As := [.int p1, .int p2]) (rest := []) S hw (m_X11_lineAt l D cs E d H.size p1 p2 _) (va_cwS 2 S.2.2.2.2 (gS wg446 wg447 wg5 wg448) rfl rfl rfl (by decide +kernel) ⟨Nat.le_of_ble_eq_true rfl, Nat.le_of_ble_eq_true rfl⟩) h rfl hl.1 rfl (Nat.le_of_ble_eq_true rfl) (dd_at ddX11_holdsLine 4 rfl) ⟨Nat.le_of_ble_eq_true rfl, Nat.le_of_ble_eq_true rfl⟩) (fun r_68 d_67 H locs h hw => ?_)
  refine lv_istore (lv' := [(4, .int r_68), (3, .int 0), (0, .ref a0), (1, .int p1), (2, .int p2)]) S.1 S.2.1 (dd_at ddX11_holdsLine 5 rfl) hl (by decide) rfl (fun ls hl => ?_)
  refine lv_aload_n S.1 S.2.1 (dd_at ddX11_holdsLine 6 rfl) rfl (lv_at hl 2 rfl) ?_
  obtain ⟨b_69, hb_70, ho_71, h⟩ := h
  refine r_getR S hw 11 1 rfl inG11 (by decide) (List.mem_cons_of_mem _ wg150) (by decide) ha0 hb_70 (dd_at ddX11_holdsLine 7 rfl) ?_
  refine lv_iload S.1 S.2.1 (dd_at ddX11_holdsLine 8 rfl) (lv_at hl 0 rfl) ?_
  refine lv_iconst (v := 3) S.1 S.2.1 (dd_at ddX11_holdsLine 9 rfl) (by decide) ?_
  refine lv_iadd S.1 S.2.1 (dd_at ddX11_holdsLine 10 rfl) ?_
  obtain ⟨hx_72, h⟩ := h
  refine r_iald S hw ho_71 hx_72 (dd_at ddX11_holdsLine 11 rfl) ?_
  refine lv_istore (lv' := [(5, .int (gA d_67 b_69 (r_68 + 3).toNatClampNeg)), (4, .int r_68), (3, .int 0), (0, .ref a0), (1, .int p1), (2, .int p2)]) S.1 S.2.1 (dd_at ddX11_holdsLine 12 rfl) hl (by decide) rfl (fun ls hl => ?_)
  obtain ⟨n_73, h⟩ := h
  exact tl20 n_73 0 r_68 (gA d_67 b_69 (r_68 + 3).toNatClampNeg) d_67 H locs ls h hw (lv_sub hl [3, 4, 2, 1, 0] rfl)
