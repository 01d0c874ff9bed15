def w_X11_ofHut (E : En) (a0 : Nat) (p1 : Int32) (p2 : Int32) (d : Dy) (K : Int32 → Dy → Prop) : Prop := okO E a0 11 ∧ ∃ b_1 : Nat, eR E a0 1 = some b_1 ∧ okA E b_1 13 ∧ vp_in ((50 + (7 * p1)) + p2) (eN E b_1) ∧ K (gA d b_1 ((50 + (7 * p1)) + p2).toNatClampNeg) d
abbrev rm_X11_ofHut : Room := { frames := 0, cells := 0, slots := 0, locals := 0 }
set_option maxRecDepth 100000 in
set_option maxHeartbeats 4000000 in
theorem m_X11_ofHut (l : Launch) (D : va_G) (cs : Nat → ClassId) (E : En) (d : Dy) (sz : Nat) (a0 : Nat) (p1 : Int32) (p2 : Int32) (K : Int32 → Dy → Prop) : CI l yX11_ofHut (.code yX11_ofHut cX11_ofHut 3 (some .int) :: wsL_law) rm_X11_ofHut D cs E d sz [.ref a0, .int p1, .int p2] (w_X11_ofHut E a0 p1 p2 d K) K := by
  refine e_of (cc := cX11_ofHut) (maxL := 3) (ret := (some .int)) (own := RX11) (by decide) rfl rfl (Nat.le_of_ble_eq_true rfl) ?_
  intro p e s m below meth c S hr hlocks hsz H locs hw h ls hl
  have hl : lv_has ls 3 [(0, .ref a0), (1, .int p1), (2, .int p2)] := hl
  unfold w_X11_ofHut at h
  obtain ⟨ha0, h⟩ := h
  refine lv_aload_n S.1 S.2.1 (dd_at ddX11_ofHut 0 rfl) rfl (lv_at hl 0 rfl) ?_
  obtain ⟨b_1, hb_2, ho_3, h⟩ := h
  refine r_getR S hw 11 1 rfl inG11 (by decide) (List.mem_cons_of_mem _ wg150) (by decide) ha0 hb_2 (dd_at ddX11_ofHut 1 rfl) ?_
  refine lv_bipush (v := 50) S.1 S.2.1 (dd_at ddX11_ofHut 2 rfl) (by decide) ?_
  refine lv_bipush (v := 7) S.1 S.2.1 (dd_at ddX11_ofHut 3 rfl) (by decide) ?_
  refine lv_iload_n S.1 S.2.1 (dd_at ddX11_ofHut 4 rfl) rfl (lv_at hl 1 rfl) ?_
  refine lv_imul S.1 S.2.1 (dd_at ddX11_ofHut 5 rfl) ?_
  refine lv_iadd S.1 S.2.1 (dd_at ddX11_ofHut 6 rfl) ?_
  refine lv_iload_n S.1 S.2.1 (dd_at ddX11_ofHut 7 rfl) rfl (lv_at hl 2 rfl) ?_
  refine lv_iadd S.1 S.2.1 (dd_at ddX11_ofHut 8 rfl) ?_
  obtain ⟨hx_4, h⟩ := h
  refine r_iald S hw ho_3 hx_4 (dd_at ddX11_ofHut 9 rfl) ?_
  exact e_I S hr hlocks hw h (dd_at ddX11_ofHut 10 rfl)

def w_X11_ofEvent (E : En) (a0 : Nat) (p1 : Int32) (p2 : Int32) (d : Dy) (K : Int32 → Dy → Prop) : Prop := okO E a0 11 ∧ ∃ b_1 : Nat, eR E a0 1 = some b_1 ∧ okA E b_1 13 ∧ vp_in ((120 + (6 * p1)) + p2) (eN E b_1) ∧ K (gA d b_1 ((120 + (6 * p1)) + p2).toNatClampNeg) d
abbrev rm_X11_ofEvent : Room := { frames := 0, cells := 0, slots := 0, locals := 0 }
set_option maxRecDepth 100000 in
set_option maxHeartbeats 4000000 in
theorem m_X11_ofEvent (l : Launch) (D : va_G) (cs : Nat → ClassId) (E : En) (d : Dy) (sz : Nat) (a0 : Nat) (p1 : Int32) (p2 : Int32) (K : Int32 → Dy → Prop) : CI l yX11_ofEvent (.code yX11_ofEvent cX11_ofEvent 3 (some .int) :: wsL_law) rm_X11_ofEvent D cs E d sz [.ref a0, .int p1, .int p2] (w_X11_ofEvent E a0 p1 p2 d K) K := by
  refine e_of (cc := cX11_ofEvent) (maxL := 3) (ret := (some .int)) (own := RX11) (by decide) rfl rfl (Nat.le_of_ble_eq_true rfl) ?_
  intro p e s m below meth c S hr hlocks hsz H locs hw h ls hl
  have hl : lv_has ls 3 [(0, .ref a0), (1, .int p1), (2, .int p2)] := hl
  unfold w_X11_ofEvent at h
  obtain ⟨ha0, h⟩ := h
  refine lv_aload_n S.1 S.2.1 (dd_at ddX11_ofEvent 0 rfl) rfl (lv_at hl 0 rfl) ?_
  obtain ⟨b_1, hb_2, ho_3, h⟩ := h
  refine r_getR S hw 11 1 rfl inG11 (by decide) (List.mem_cons_of_mem _ wg150) (by decide) ha0 hb_2 (dd_at ddX11_ofEvent 1 rfl) ?_
  refine lv_bipush (v := 120) S.1 S.2.1 (dd_at ddX11_ofEvent 2 rfl) (by decide) ?_
  refine lv_bipush (v := 6) S.1 S.2.1 (dd_at ddX11_ofEvent 3 rfl) (by decide) ?_
  refine lv_iload_n S.1 S.2.1 (dd_at ddX11_ofEvent 4 rfl) rfl (lv_at hl 1 rfl) ?_
  refine lv_imul S.1 S.2.1 (dd_at ddX11_ofEvent 5 rfl) ?_
  refine lv_iadd S.1 S.2.1 (dd_at ddX11_ofEvent 6 rfl) ?_
  refine lv_iload_n S.1 S.2.1 (dd_at ddX11_ofEvent 7 rfl) rfl (lv_at hl 2 rfl) ?_
  refine lv_iadd S.1 S.2.1 (dd_at ddX11_ofEvent 8 rfl) ?_
  obtain ⟨hx_4, h⟩ := h
  refine r_iald S hw ho_3 hx_4 (dd_at ddX11_ofEvent 9 rfl) ?_
  exact e_I S hr hlocks hw h (dd_at ddX11_ofEvent 10 rfl)

def w_X11_puts (E : En) (a0 : Nat) (p1 : Int32) (p2 : Int32) (p3 : Int32) (p4 : Int32) (p5 : Int32) (d : Dy) (K : Int32 → Dy → Prop) : Prop := okO E a0 11 ∧ ∃ b_1 : Nat, eR E a0 1 = some b_1 ∧ okA E b_1 13 ∧ vp_in p1 (eN E b_1) ∧ ∃ b_5 : Nat, eR E a0 1 = some b_5 ∧ okA E b_5 13 ∧ vp_in (p2 + (3 * (gA d b_1 (p1).toNatClampNeg))) (eN E b_5) ∧ ∃ b_9 : Nat, eR E a0 1 = some b_9 ∧ okA E b_9 13 ∧ vp_in ((p2 + (3 * (gA d b_1 (p1).toNatClampNeg))) + 1) (eN E b_9) ∧ ∃ b_13 : Nat, eR E a0 1 = some b_13 ∧ okA E b_13 13 ∧ vp_in ((p2 + (3 * (gA d b_1 (p1).toNatClampNeg))) + 2) (eN E b_13) ∧ ∃ b_17 : Nat, eR E a0 1 = some b_17 ∧ okA E b_17 13 ∧ vp_in p1 (eN E b_17) ∧ vp_in p1 (eN E b_17) ∧ ∃ b_22 : Nat, eR E a0 1 = some b_22 ∧ okA E b_22 13 ∧ vp_in p1 (eN E b_22) ∧ K (gA (pA (pA (pA (pA d b_5 (p2 + (3 * (gA d b_1 (p1).toNatClampNeg))).toNatClampNeg p3) b_9 ((p2 + (3 * (gA d b_1 (p1).toNatClampNeg))) + 1).toNatClampNeg p4) b_13 ((p2 + (3 * (gA d b_1 (p1).toNatClampNeg))) + 2).toNatClampNeg p5) b_17 (p1).toNatClampNeg ((gA (pA (pA (pA d b_5 (p2 + (3 * (gA d b_1 (p1).toNatClampNeg))).toNatClampNeg p3) b_9 ((p2 + (3 * (gA d b_1 (p1).toNatClampNeg))) + 1).toNatClampNeg p4) b_13 ((p2 + (3 * (gA d b_1 (p1).toNatClampNeg))) + 2).toNatClampNeg p5) b_17 (p1).toNatClampNeg) + 1)) b_22 (p1).toNatClampNeg) (pA (pA (pA (pA d b_5 (p2 + (3 * (gA d b_1 (p1).toNatClampNeg))).toNatClampNeg p3) b_9 ((p2 + (3 * (gA d b_1 (p1).toNatClampNeg))) + 1).toNatClampNeg p4) b_13 ((p2 + (3 * (gA d b_1 (p1).toNatClampNeg))) + 2).toNatClampNeg p5) b_17 (p1).toNatClampNeg ((gA (pA (pA (pA d b_5 (p2 + (3 * (gA d b_1 (p1).toNatClampNeg))).toNatClampNeg p3) b_9 ((p2 + (3 * (gA d b_1 (p1).toNatClampNeg))) + 1).toNatClampNeg p4) b_13 ((p2 + (3 * (gA d b_1 (p1).toNatClampNeg))) + 2).toNatClampNeg p5) b_17 (p1).toNatClampNeg) + 1))
abbrev rm_X11_puts : Room := { frames := 0, cells := 0, slots := 0, locals := 0 }
set_option maxRecDepth 100000 in
set_option maxHeartbeats 4000000 in
theorem m_X11_puts (l : Launch) (D : va_G) (cs : Nat → ClassId) (E : En) (d : Dy) (sz : Nat) (a0 : Nat) (p1 : Int32) (p2 : Int32) (p3 : Int32) (p4 : Int32) (p5 : Int32) (K : Int32 → Dy → Prop) : CI l yX11_puts (.code yX11_puts cX11_puts 7 (some .int) :: wsL_law) rm_X11_puts D cs E d sz [.ref a0, .int p1, .int p2, .int p3, .int p4, .int p5] (w_X11_puts E a0 p1 p2 p3 p4 p5 d K) K := by
  refine e_of (cc := cX11_puts) (maxL := 7) (ret := (some .int)) (own := RX11) (by decide) rfl rfl (Nat.le_of_ble_eq_true rfl) ?_
  intro p e s m below meth c S hr hlocks hsz H locs hw h ls hl
  have hl : lv_has ls 7 [(0, .ref a0), (1, .int p1), (2, .int p2), (3, .int p3), (4, .int p4), (5, .int p5)] := hl
  unfold w_X11_puts at h
  obtain ⟨ha0, h⟩ := h
  refine lv_iload_n S.1 S.2.1 (dd_at ddX11_puts 0 rfl) rfl (lv_at hl 2 rfl) ?_
  refine lv_iconst (v := 3) S.1 S.2.1 (dd_at ddX11_puts 1 rfl) (by decide) ?_
  refine lv_aload_n S.1 S.2.1 (dd_at ddX11_puts 2 rfl) rfl (lv_at hl 0 rfl) ?_
  obtain ⟨b_1, hb_2, ho_3, h⟩ := h
  refine r_getR S hw 11 1 rfl inG11 (by decide) (List.mem_cons_of_mem _ wg150) (by decide) ha0 hb_2 (dd_at ddX11_puts 3 rfl) ?_
  refine lv_iload_n S.1 S.2.1 (dd_at ddX11_puts 4 rfl) rfl (lv_at hl 1 rfl) ?_
  obtain ⟨hx_4, h⟩ := h
  refine r_iald S hw ho_3 hx_4 (dd_at ddX11_puts 5 rfl) ?_
  refine lv_imul S.1 S.2.1 (dd_at ddX11_puts 6 rfl) ?_
  refine lv_iadd S.1 S.2.1 (dd_at ddX11_puts 7 rfl) ?_
  refine lv_istore (lv' := [(6, .int (p2 + (3 * (gA d b_1 (p1).toNatClampNeg)))), (0, .ref a0), (1, .int p1), (2, .int p2), (3, .int p3), (4, .int p4), (5, .int p5)]) S.1 S.2.1 (dd_at ddX11_puts 8 rfl) hl (by decide) rfl (fun ls hl => ?_)
  refine lv_aload_n S.1 S.2.1 (dd_at ddX11_puts 9 rfl) rfl (lv_at hl 1 rfl) ?_
  obtain ⟨b_5, hb_6, ho_7, h⟩ := h
  refine r_getR S hw 11 1 rfl inG11 (by decide) (List.mem_cons_of_mem _ wg150) (by decide) ha0 hb_6 (dd_at ddX11_puts 10 rfl) ?_
  refine lv_iload S.1 S.2.1 (dd_at ddX11_puts 11 rfl) (lv_at hl 0 rfl) ?_
  refine lv_iload_n S.1 S.2.1 (dd_at ddX11_puts 12 rfl) rfl (lv_at hl 4 rfl) ?_
  obtain ⟨hx_8, h⟩ := h
  refine r_iast S hw ho_7 hx_8 (dd_at ddX11_puts 13 rfl) (fun H locs hw => ?_)
  refine lv_aload_n S.1 S.2.1 (dd_at ddX11_puts 14 rfl) rfl (lv_at hl 1 rfl) ?_
  obtain ⟨b_9, hb_10, ho_11, h⟩ := h
  refine r_getR S hw 11 1 rfl inG11 (by decide) (List.mem_cons_of_mem _ wg150) (by decide) ha0 hb_10 (dd_at ddX11_puts 15 rfl) ?_
  refine lv_iload S.1 S.2.1 (dd_at ddX11_puts 16 rfl) (lv_at hl 0 rfl) ?_
  refine lv_iconst (v := 1) S.1 S.2.1 (dd_at ddX11_puts 17 rfl) (by decide) ?_
  refine lv_iadd S.1 S.2.1 (dd_at ddX11_puts 18 rfl) ?_
  refine lv_iload S.1 S.2.1 (dd_at ddX11_puts 19 rfl) (lv_at hl 5 rfl) ?_
  obtain ⟨hx_12, h⟩ := h
  refine r_iast S hw ho_11 hx_12 (dd_at ddX11_puts 20 rfl) (fun H locs hw => ?_)
  refine lv_aload_n S.1 S.2.1 (dd_at ddX11_puts 21 rfl) rfl (lv_at hl 1 rfl) ?_
  obtain ⟨b_13, hb_14, ho_15, h⟩ := h
  refine r_getR S hw 11 1 rfl inG11 (by decide) (List.mem_cons_of_mem _ wg150) (by decide) ha0 hb_14 (dd_at ddX11_puts 22 rfl) ?_
  refine lv_iload S.1 S.2.1 (dd_at ddX11_puts 23 rfl) (lv_at hl 0 rfl) ?_
  refine lv_iconst (v := 2) S.1 S.2.1 (dd_at ddX11_puts 24 rfl) (by decide) ?_
  refine lv_iadd S.1 S.2.1 (dd_at ddX11_puts 25 rfl) ?_
  refine lv_iload S.1 S.2.1 (dd_at ddX11_puts 26 rfl) (lv_at hl 6 rfl) ?_
  obtain ⟨hx_16, h⟩ := h
  refine r_iast S hw ho_15 hx_16 (dd_at ddX11_puts 27 rfl) (fun H locs hw => ?_)
  refine lv_aload_n S.1 S.2.1 (dd_at ddX11_puts 28 rfl) rfl (lv_at hl 1 rfl) ?_
  obtain ⟨b_17, hb_18, ho_19, h⟩ := h
  refine r_getR S hw 11 1 rfl inG11 (by decide) (List.mem_cons_of_mem _ wg150) (by decide) ha0 hb_18 (dd_at ddX11_puts 29 rfl) ?_
  refine lv_iload_n S.1 S.2.1 (dd_at ddX11_puts 30 rfl) rfl (lv_at hl 2 rfl) ?_
  refine lv_dup2_11 S.1 S.2.1 (dd_at ddX11_puts 31 rfl) rfl rfl ?_
  obtain ⟨hx_20, h⟩ := h
  refine r_iald S hw ho_19 hx_20 (dd_at ddX11_puts 32 rfl) ?_
  refine lv_iconst (v := 1) S.1 S.2.1 (dd_at ddX11_puts 33 rfl) (by decide) ?_
  refine lv_iadd S.1 S.2.1 (dd_at ddX11_puts 34 rfl) ?_
  obtain ⟨hx_21, h⟩ := h
  refine r_iast S hw ho_19 hx_21 (dd_at ddX11_puts 35 rfl) (fun H locs hw => ?_)
  refine lv_aload_n S.1 S.2.1 (dd_at ddX11_puts 36 rfl) rfl (lv_at hl 1 rfl) ?_
  obtain ⟨b_22, hb_23, ho_24, h⟩ := h
  refine r_getR S hw 11 1 rfl inG11 (by decide) (List.mem_cons_of_mem _ wg150) (by decide) ha0 hb_23 (dd_at ddX11_puts 37 rfl) ?_
  refine lv_iload_n S.1 S.2.1 (dd_at ddX11_puts 38 rfl) rfl (lv_at hl 2 rfl) ?_
  obtain ⟨hx_25, h⟩ := h
  refine r_iald S hw ho_24 hx_25 (dd_at ddX11_puts 39 rfl) ?_
  exact e_I S hr hlocks hw h (dd_at ddX11_puts 40 rfl)

def b_X11_years_29 (E : En) (a0 : Nat) (p1 : Int32) (K : Int32 → Dy → Prop) (s0 : Nat) (s1 : Int32) (d : Dy) : Prop := okO E s0 11 ∧ w_X11_throwsIf E s0 s1 1 d (fun r_2 d_1 => ((r_2 = 0 → ∃ b_4 : Nat, eR E a0 1 = some b_4 ∧ okA E b_4 13 ∧ vp_in 3 (eN E b_4) ∧ vp_in 3 (eN E b_4) ∧ ∃ b_9 : Nat, eR E a0 1 = some b_9 ∧ okA E b_9 13 ∧ vp_in 3 (eN E b_9) ∧ K (gA (pA d_1 b_4 ((3 : Int32)).toNatClampNeg ((gA d_1 b_4 ((3 : Int32)).toNatClampNeg) + p1)) b_9 ((3 : Int32)).toNatClampNeg) (pA d_1 b_4 ((3 : Int32)).toNatClampNeg ((gA d_1 b_4 ((3 : Int32)).toNatClampNeg) + p1))) ∧ (¬ r_2 = 0 → K 0 d_1)))
def b_X11_years_24 (E : En) (a0 : Nat) (p1 : Int32) (K : Int32 → Dy → Prop) (s0 : Nat) (d : Dy) : Prop := okO E s0 11 ∧ b_X11_years_29 E a0 p1 K s0 1 d
def w_X11_years (E : En) (a0 : Nat) (p1 : Int32) (d : Dy) (K : Int32 → Dy → Prop) : Prop := okO E a0 11 ∧ ((p1 < 0 → b_X11_years_24 E a0 p1 K a0 (pI d a0 0 0)) ∧ (¬ p1 < 0 → ∃ b_14 : Nat, eR E a0 1 = some b_14 ∧ okA E b_14 13 ∧ vp_in 3 (eN E b_14) ∧ ((p1 ≤ (2099 - (gA (pI d a0 0 0) b_14 ((3 : Int32)).toNatClampNeg)) → b_X11_years_29 E a0 p1 K a0 0 (pI d a0 0 0)) ∧ (¬ p1 ≤ (2099 - (gA (pI d a0 0 0) b_14 ((3 : Int32)).toNatClampNeg)) → b_X11_years_24 E a0 p1 K a0 (pI d a0 0 0)))))
abbrev rm_X11_years : Room := { frames := 1, cells := 0, slots := 0, locals := 22 }
set_option maxRecDepth 100000 in
set_option maxHeartbeats 4000000 in
theorem m_X11_years (l : Launch) (D : va_G) (cs : Nat → ClassId) (E : En) (d : Dy) (sz : Nat) (a0 : Nat) (p1 : Int32) (K : Int32 → Dy → Prop) : CI l yX11_years (.code yX11_years cX11_years 2 (some .int) :: wsL_law) rm_X11_years D cs E d sz [.ref a0, .int p1] (w_X11_years E a0 p1 d K) K := by
  refine e_of (cc := cX11_years) (maxL := 2) (ret := (some .int)) (own := RX11) (by decide) rfl rfl (Nat.le_of_ble_eq_true rfl) ?_
  intro p e s m below meth c S hr hlocks hsz H locs hw h ls hl
  have hl : lv_has ls 2 [(0, .ref a0), (1, .int p1)] := hl
  unfold w_X11_years at h
  obtain ⟨ha0, h⟩ := h
  have tb29 : ∀ (s0 : Nat) (s1 : Int32) (d : Dy) (H : Heap) (locs : List Loc) (ls : Array Slot), b_X11_years_29 E a0 p1 K s0 s1 d → Wd D cs (AW E sz) s.heap s E d H locs → lv_has ls 2 [(0, .ref a0), (1, .int p1)] → W p l e rm_X11_years s m ([.ref a0, .int p1] : List Value).toArray below meth c H locs 0 0 (MQ below (va_Qi K (OutW D cs E (AW E sz)) (AW E sz)) ([.ref a0, .int p1] : List Value).toArray s rm_X11_years.cells rm_X11_years.slots (AW E sz)) (F0 m 29 ls [.int s1, .ref s0]) := by
    intro s0 s1 d H locs ls h hw hl
    unfold b_X11_years_29 at h
    obtain ⟨hos0, h⟩ := h
    refine lv_iconst (v := 1) S.1 S.2.1 (dd_at ddX11_years 17 rfl) (by decide) ?_
    refine r_callI hw (r_runV (As := [.int s1, .int 1]) (rest := []) S hw (m_X11_throwsIf l D cs E d H.size s0 s1 1 _) (cwV 2 S.2.2.2.2 (gV wg421 wg422 wg423 wg5 wg424) rfl rfl rfl (by decide +kernel) ⟨Nat.le_of_ble_eq_true rfl, Nat.le_of_ble_eq_true rfl⟩) (ci := 11) rfl hos0 h rfl hl.1 rfl (Nat.le_of_ble_eq_true rfl) (dd_at ddX11_years 18 rfl) ⟨Nat.le_of_ble_eq_true rfl, Nat.le_of_ble_eq_true rfl⟩) (fun r_2 d_1 H locs h hw => ?_)
    refine lv_if_eq (tgt := 38) S.1 S.2.1 (dd_at ddX11_years 19 rfl) (by decide) (fun hc_3 => ?_) (fun hc_3 => ?_)
    · have h := h.1 hc_3
      refine lv_aload_n S.1 S.2.1 (dd_at ddX11_years 22 rfl) rfl (lv_at hl 0 rfl) ?_
      obtain ⟨b_4, hb_5, ho_6, h⟩ := h
      refine r_getR S hw 11 1 rfl inG11 (by decide) (List.mem_cons_of_mem _ wg150) (by decide) ha0 hb_5 (dd_at ddX11_years 23 rfl) ?_
      refine lv_iconst (v := 3) S.1 S.2.1 (dd_at ddX11_years 24 rfl) (by decide) ?_
      refine lv_dup2_11 S.1 S.2.1 (dd_at ddX11_years 25 rfl) rfl rfl ?_
      obtain ⟨hx_7, h⟩ := h
      refine r_iald S hw ho_6 hx_7 (dd_at ddX11_years 26 rfl) ?_
      refine lv_iload_n S.1 S.2.1 (dd_at ddX11_years 27 rfl) rfl (lv_at hl 1 rfl) ?_
      refine lv_iadd S.1 S.2.1 (dd_at ddX11_years 28 rfl) ?_
      obtain ⟨hx_8, h⟩ := h
      refine r_iast S hw ho_6 hx_8 (dd_at ddX11_years 29 rfl) (fun H locs hw => ?_)
      refine lv_aload_n S.1 S.2.1 (dd_at ddX11_years 30 rfl) rfl (lv_at hl 0 rfl) ?_
      obtain ⟨b_9, hb_10, ho_11, h⟩ := h
      refine r_getR S hw 11 1 rfl inG11 (by decide) (List.mem_cons_of_mem _ wg150) (by decide) ha0 hb_10 (dd_at ddX11_years 31 rfl) ?_
      refine lv_iconst (v := 3) S.1 S.2.1 (dd_at ddX11_years 32 rfl) (by decide) ?_
      obtain ⟨hx_12, h⟩ := h
      refine r_iald S hw ho_11 hx_12 (dd_at ddX11_years 33 rfl) ?_
      exact e_I S hr hlocks hw h (dd_at ddX11_years 34 rfl)
    · have h := h.2 hc_3
      refine lv_iconst (v := 0) S.1 S.2.1 (dd_at ddX11_years 20 rfl) (by decide) ?_
      exact e_I S hr hlocks hw h (dd_at ddX11_years 21 rfl)
  have tb24 : ∀ (s0 : Nat) (d : Dy) (H : Heap) (locs : List Loc) (ls : Array Slot), b_X11_years_24 E a0 p1 K s0 d → Wd D cs (AW E sz) s.heap s E d H locs → lv_has ls 2 [(0, .ref a0), (1, .int p1)] → W p l e rm_X11_years s m ([.ref a0, .int p1] : List Value).toArray below meth c H locs 0 0 (MQ below (va_Qi K (OutW D cs E (AW E sz)) (AW E sz)) ([.ref a0, .int p1] : List Value).toArray s rm_X11_years.cells rm_X11_years.slots (AW E sz)) (F0 m 24 ls [.ref s0]) := by
    intro s0 d H locs ls h hw hl
    unfold b_X11_years_24 at h
    obtain ⟨hos0, h⟩ := h
    refine lv_iconst (v := 1) S.1 S.2.1 (dd_at ddX11_years 14 rfl) (by decide) ?_
    refine lv_goto (tgt := 29) S.1 S.2.1 (dd_at ddX11_years 15 rfl) (by decide) ?_
    exact tb29 s0 1 d H locs ls h hw (lv_sub hl [0, 1] rfl)
  refine lv_aload_n S.1 S.2.1 (dd_at ddX11_years 0 rfl) rfl (lv_at hl 0 rfl) ?_
  refine lv_iconst (v := 0) S.1 S.2.1 (dd_at ddX11_years 1 rfl) (by decide) ?_
  refine r_putI S hw 11 0 (ty := .int) (v := 0) rfl inG11 tyX11 tyX11_ok nmX11 (by decide) (List.mem_cons_of_mem _ wg201) (by decide) rfl (by decide +kernel) rfl rfl ha0 (dd_at ddX11_years 2 rfl) (fun H locs hw => ?_)
  refine lv_aload_n S.1 S.2.1 (dd_at ddX11_years 3 rfl) rfl (lv_at hl 0 rfl) ?_
  refine lv_iload_n S.1 S.2.1 (dd_at ddX11_years 4 rfl) rfl (lv_at hl 1 rfl) ?_
  refine lv_if_lt (tgt := 24) S.1 S.2.1 (dd_at ddX11_years 5 rfl) (by decide) (fun hc_13 => ?_) (fun hc_13 => ?_)
  · have h := h.1 hc_13
    exact tb24 a0 (pI d a0 0 0) H locs ls h hw (lv_sub hl [0, 1] rfl)
  · have h := h.2 hc_13
    refine lv_iload_n S.1 S.2.1 (dd_at ddX11_years 6 rfl) rfl (lv_at hl 1 rfl) ?_
    refine lv_sipush (v := 2099) S.1 S.2.1 (dd_at ddX11_years 7 rfl) (by decide) ?_
    refine lv_aload_n S.1 S.2.1 (dd_at ddX11_years 8 rfl) rfl (lv_at hl 0 rfl) ?_
    obtain ⟨b_14, hb_15, ho_16, h⟩ := h
    refine r_getR S hw 11 1 rfl inG11 (by decide) (List.mem_cons_of_mem _ wg150) (by decide) ha0 hb_15 (dd_at ddX11_years 9 rfl) ?_
    refine lv_iconst (v := 3) S.1 S.2.1 (dd_at ddX11_years 10 rfl) (by decide) ?_
    obtain ⟨hx_17, h⟩ := h
    refine r_iald S hw ho_16 hx_17 (dd_at ddX11_years 11 rfl) ?_
    refine lv_isub S.1 S.2.1 (dd_at ddX11_years 12 rfl) ?_
    refine lv_icmp_le (tgt := 28) S.1 S.2.1 (dd_at ddX11_years 13 rfl) (by decide) (fun hc_18 => ?_) (fun hc_18 => ?_)
    · have h := h.1 hc_18
      refine lv_iconst (v := 0) S.1 S.2.1 (dd_at ddX11_years 16 rfl) (by decide) ?_
      exact tb29 a0 0 (pI d a0 0 0) H locs ls h hw (lv_sub hl [0, 1] rfl)
    · have h := h.2 hc_18
      exact tb24 a0 (pI d a0 0 0) H locs ls h hw (lv_sub hl [0, 1] rfl)

def b_X11_person_51 (E : En) (a0 : Nat) (p1 : Int32) (p2 : Int32) (p3 : Int32) (K : Int32 → Dy → Prop) (s0 : Nat) (s1 : Int32) (d : Dy) : Prop := okO E s0 11 ∧ w_X11_throwsIf E s0 s1 2 d (fun r_2 d_1 => ((r_2 = 0 → ((p3 = 0 → w_X11_puts E a0 0 14 p1 p2 0 d_1 (fun r_6 d_5 => K (r_6 - 1) d_5)) ∧ (¬ p3 = 0 → w_X11_puts E a0 0 14 p1 p2 1 d_1 (fun r_8 d_7 => K (r_8 - 1) d_7)))) ∧ (¬ r_2 = 0 → K 0 d_1)))
def b_X11_person_29 (E : En) (a0 : Nat) (p1 : Int32) (p2 : Int32) (p3 : Int32) (K : Int32 → Dy → Prop) (s0 : Nat) (s1 : Int32) (d : Dy) : Prop := okO E s0 11 ∧ w_X11_throwsIf E s0 s1 1 d (fun r_10 d_9 => ((¬ r_10 = 0 → K 0 d_9) ∧ (r_10 = 0 → w_X11_persons E a0 d_9 (fun r_13 d_12 => ((¬ r_13 = 12 → b_X11_person_51 E a0 p1 p2 p3 K a0 0 d_12) ∧ (r_13 = 12 → b_X11_person_51 E a0 p1 p2 p3 K a0 1 d_12))))))
def b_X11_person_24 (E : En) (a0 : Nat) (p1 : Int32) (p2 : Int32) (p3 : Int32) (K : Int32 → Dy → Prop) (s0 : Nat) (d : Dy) : Prop := okO E s0 11 ∧ b_X11_person_29 E a0 p1 p2 p3 K s0 1 d
def w_X11_person (E : En) (a0 : Nat) (p1 : Int32) (p2 : Int32) (p3 : Int32) (d : Dy) (K : Int32 → Dy → Prop) : Prop := okO E a0 11 ∧ w_X11_noYear E p1 (pI d a0 0 0) (fun r_16 d_15 => ((¬ r_16 = 0 → b_X11_person_24 E a0 p1 p2 p3 K a0 d_15) ∧ (r_16 = 0 → w_X11_in E p2 0 9999 d_15 (fun r_19 d_18 => ((¬ r_19 = 0 → b_X11_person_29 E a0 p1 p2 p3 K a0 0 d_18) ∧ (r_19 = 0 → b_X11_person_24 E a0 p1 p2 p3 K a0 d_18))))))
abbrev rm_X11_person : Room := { frames := 2, cells := 0, slots := 0, locals := 42 }
set_option maxRecDepth 100000 in
set_option maxHeartbeats 4000000 in
theorem m_X11_person (l : Launch) (D : va_G) (cs : Nat → ClassId) (E : En) (d : Dy) (sz : Nat) (a0 : Nat) (p1 : Int32) (p2 : Int32) (p3 : Int32) (K : Int32 → Dy → Prop) : CI l yX11_person (.code yX11_person cX11_person 4 (some .int) :: wsL_law) rm_X11_person D cs E d sz [.ref a0, .int p1, .int p2, .int p3] (w_X11_person E a0 p1 p2 p3 d K) K := by
  refine e_of (cc := cX11_person) (maxL := 4) (ret := (some .int)) (own := RX11) (by decide) rfl rfl (Nat.le_of_ble_eq_true rfl) ?_
  intro p e s m below meth c S hr hlocks hsz H locs hw h ls hl
  have hl : lv_has ls 4 [(0, .ref a0), (1, .int p1), (2, .int p2), (3, .int p3)] := hl
  unfold w_X11_person at h
  obtain ⟨ha0, h⟩ := h
  have tb51 : ∀ (s0 : Nat) (s1 : Int32) (d : Dy) (H : Heap) (locs : List Loc) (ls : Array Slot), b_X11_person_51 E a0 p1 p2 p3 K s0 s1 d → Wd D cs (AW E sz) s.heap s E d H locs → lv_has ls 4 [(0, .ref a0), (1, .int p1), (2, .int p2), (3, .int p3)] → W p l e rm_X11_person s m ([.ref a0, .int p1, .int p2, .int p3] : List Value).toArray below meth c H locs 0 0 (MQ below (va_Qi K (OutW D cs E (AW E sz)) (AW E sz)) ([.ref a0, .int p1, .int p2, .int p3] : List Value).toArray s rm_X11_person.cells rm_X11_person.slots (AW E sz)) (F0 m 51 ls [.int s1, .ref s0]) := by
    intro s0 s1 d H locs ls h hw hl
    unfold b_X11_person_51 at h
    obtain ⟨hos0, h⟩ := h
    refine lv_iconst (v := 2) S.1 S.2.1 (dd_at ddX11_person 26 rfl) (by decide) ?_
    refine r_callI hw (r_runV (As := [.int s1, .int 2]) (rest := []) S hw (m_X11_throwsIf l D cs E d H.size s0 s1 2 _) (cwV 2 S.2.2.2.2 (gV wg421 wg422 wg423 wg5 wg424) rfl rfl rfl (by decide +kernel) ⟨Nat.le_of_ble_eq_true rfl, Nat.le_of_ble_eq_true rfl⟩) (ci := 11) rfl hos0 h rfl hl.1 rfl (Nat.le_of_ble_eq_true rfl) (dd_at ddX11_person 27 rfl) ⟨Nat.le_of_ble_eq_true rfl, Nat.le_of_ble_eq_true rfl⟩) (fun r_2 d_1 H locs h hw => ?_)
    refine lv_if_eq (tgt := 60) S.1 S.2.1 (dd_at ddX11_person 28 rfl) (by decide) (fun hc_3 => ?_) (fun hc_3 => ?_)
    · have h := h.1 hc_3
      refine lv_aload_n S.1 S.2.1 (dd_at ddX11_person 31 rfl) rfl (lv_at hl 0 rfl) ?_
      refine lv_iconst (v := 0) S.1 S.2.1 (dd_at ddX11_person 32 rfl) (by decide) ?_
      refine lv_bipush (v := 14) S.1 S.2.1 (dd_at ddX11_person 33 rfl) (by decide) ?_
      refine lv_iload_n S.1 S.2.1 (dd_at ddX11_person 34 rfl) rfl (lv_at hl 1 rfl) ?_
      refine lv_iload_n S.1 S.2.1 (dd_at ddX11_person 35 rfl) rfl (lv_at hl 2 rfl) ?_
      refine lv_iload_n S.1 S.2.1 (dd_at ddX11_person 36 rfl) rfl (lv_at hl 3 rfl) ?_
      refine lv_if_eq (tgt := 74) S.1 S.2.1 (dd_at ddX11_person 37 rfl) (by decide) (fun hc_4 => ?_) (fun hc_4 => ?_)
      · have h := h.1 hc_4
        refine lv_iconst (v := 0) S.1 S.2.1 (dd_at ddX11_person 40 rfl) (by decide) ?_
        refine r_callI hw (r_runV (As := [.int 0, .int 14, .int p1, .int p2, .int 0]) (rest := []) S hw (m_X11_puts l D cs E d_1 H.size a0 0 14 p1 p2 0 _) (cwV 5 S.2.2.2.2 (gV wg562 wg563 wg564 wg5 wg565) rfl rfl rfl (by decide +kernel) ⟨Nat.le_of_ble_eq_true rfl, Nat.le_of_ble_eq_true rfl⟩) (ci := 11) rfl ha0 h rfl hl.1 rfl (Nat.le_of_ble_eq_true rfl) (dd_at ddX11_person 41 rfl) ⟨Nat.le_of_ble_eq_true rfl, Nat.le_of_ble_eq_true rfl⟩) (fun r_6 d_5 H locs h hw => ?_)
        refine lv_iconst (v := 1) S.1 S.2.1 (dd_at ddX11_person 42 rfl) (by decide) ?_
        refine lv_isub S.1 S.2.1 (dd_at ddX11_person 43 rfl) ?_
        exact e_I S hr hlocks hw h (dd_at ddX11_person 44 rfl)
      · have h := h.2 hc_4
        refine lv_iconst (v := 1) S.1 S.2.1 (dd_at ddX11_person 38 rfl) (by decide) ?_
        refine lv_goto (tgt := 75) S.1 S.2.1 (dd_at ddX11_person 39 rfl) (by decide) ?_
        refine r_callI hw (r_runV (As := [.int 0, .int 14, .int p1, .int p2, .int 1]) (rest := []) S hw (m_X11_puts l D cs E d_1 H.size a0 0 14 p1 p2 1 _) (cwV 5 S.2.2.2.2 (gV wg562 wg563 wg564 wg5 wg565) rfl rfl rfl (by decide +kernel) ⟨Nat.le_of_ble_eq_true rfl, Nat.le_of_ble_eq_true rfl⟩) (ci := 11) rfl ha0 h rfl hl.1 rfl (Nat.le_of_ble_eq_true rfl) (dd_at ddX11_person 41 rfl) ⟨Nat.le_of_ble_eq_true rfl, Nat.le_of_ble_eq_true rfl⟩) (fun r_8 d_7 H locs h hw => ?_)
        refine lv_iconst (v := 1) S.1 S.2.1 (dd_at ddX11_person 42 rfl) (by decide) ?_
        refine lv_isub S.1 S.2.1 (dd_at ddX11_person 43 rfl) ?_
        exact e_I S hr hlocks hw h (dd_at ddX11_person 44 rfl)
    · have h := h.2 hc_3
      refine lv_iconst (v := 0) S.1 S.2.1 (dd_at ddX11_person 29 rfl) (by decide) ?_
      exact e_I S hr hlocks hw h (dd_at ddX11_person 30 rfl)
  have tb29 : ∀ (s0 : Nat) (s1 : Int32) (d : Dy) (H : Heap) (locs : List Loc) (ls : Array Slot), b_X11_person_29 E a0 p1 p2 p3 K s0 s1 d → Wd D cs (AW E sz) s.heap s E d H locs → lv_has ls 4 [(0, .ref a0), (1, .int p1), (2, .int p2), (3, .int p3)] → W p l e rm_X11_person s m ([.ref a0, .int p1, .int p2, .int p3] : List Value).toArray below meth c H locs 0 0 (MQ below (va_Qi K (OutW D cs E (AW E sz)) (AW E sz)) ([.ref a0, .int p1, .int p2, .int p3] : List Value).toArray s rm_X11_person.cells rm_X11_person.slots (AW E sz)) (F0 m 29 ls [.int s1, .ref s0]) := by
    intro s0 s1 d H locs ls h hw hl
    unfold b_X11_person_29 at h
    obtain ⟨hos0, h⟩ := h
    refine lv_iconst (v := 1) S.1 S.2.1 (dd_at ddX11_person 15 rfl) (by decide) ?_
    refine r_callI hw (r_runV (As := [.int s1, .int 1]) (rest := []) S hw (m_X11_throwsIf l D cs E d H.size s0 s1 1 _) (cwV 2 S.2.2.2.2 (gV wg421 wg422 wg423 wg5 wg424) rfl rfl rfl (by decide +kernel) ⟨Nat.le_of_ble_eq_true rfl, Nat.le_of_ble_eq_true rfl⟩) (ci := 11) rfl hos0 h rfl hl.1 rfl (Nat.le_of_ble_eq_true rfl) (dd_at ddX11_person 16 rfl) ⟨Nat.le_of_ble_eq_true rfl, Nat.le_of_ble_eq_true rfl⟩) (fun r_10 d_9 H locs h hw => ?_)
    refine lv_if_ne (tgt := 58) S.1 S.2.1 (dd_at ddX11_person 17 rfl) (by decide) (fun hc_11 => ?_) (fun hc_11 => ?_)
    · have h := h.1 hc_11
      refine lv_iconst (v := 0) S.1 S.2.1 (dd_at ddX11_person 29 rfl) (by decide) ?_
      exact e_I S hr hlocks hw h (dd_at ddX11_person 30 rfl)
    · have h := h.2 hc_11
      refine lv_aload_n S.1 S.2.1 (dd_at ddX11_person 18 rfl) rfl (lv_at hl 0 rfl) ?_
      refine lv_aload_n S.1 S.2.1 (dd_at ddX11_person 19 rfl) rfl (lv_at hl 0 rfl) ?_
      refine r_callI hw (r_runV (As := []) (rest := [.ref a0]) S hw (m_X11_persons l D cs E d_9 H.size a0 _) (cwV 0 S.2.2.2.2 (gV wg558 wg559 wg560 wg5 wg561) rfl rfl rfl (by decide +kernel) ⟨Nat.le_of_ble_eq_true rfl, Nat.le_of_ble_eq_true rfl⟩) (ci := 11) rfl ha0 h rfl hl.1 rfl (Nat.le_of_ble_eq_true rfl) (dd_at ddX11_person 20 rfl) ⟨Nat.le_of_ble_eq_true rfl, Nat.le_of_ble_eq_true rfl⟩) (fun r_13 d_12 H locs h hw => ?_)
      refine lv_bipush (v := 12) S.1 S.2.1 (dd_at ddX11_person 21 rfl) (by decide) ?_
      refine lv_icmp_ne (tgt := 50) S.1 S.2.1 (dd_at ddX11_person 22 rfl) (by decide) (fun hc_14 => ?_) (fun hc_14 => ?_)
      · have h := h.1 hc_14
        refine lv_iconst (v := 0) S.1 S.2.1 (dd_at ddX11_person 25 rfl) (by decide) ?_
        exact tb51 a0 0 d_12 H locs ls h hw (lv_sub hl [0, 1, 2, 3] rfl)
      · have h := h.2 hc_14
        refine lv_iconst (v := 1) S.1 S.2.1 (dd_at ddX11_person 23 rfl) (by decide) ?_
        refine lv_goto (tgt := 51) S.1 S.2.1 (dd_at ddX11_person 24 rfl) (by decide) ?_
        exact tb51 a0 1 d_12 H locs ls h hw (lv_sub hl [0, 1, 2, 3] rfl)
  have tb24 : ∀ (s0 : Nat) (d : Dy) (H : Heap) (locs : List Loc) (ls : Array Slot), b_X11_person_24 E a0 p1 p2 p3 K s0 d → Wd D cs (AW E sz) s.heap s E d H locs → lv_has ls 4 [(0, .ref a0), (1, .int p1), (2, .int p2), (3, .int p3)] → W p l e rm_X11_person s m ([.ref a0, .int p1, .int p2, .int p3] : List Value).toArray below meth c H locs 0 0 (MQ below (va_Qi K (OutW D cs E (AW E sz)) (AW E sz)) ([.ref a0, .int p1, .int p2, .int p3] : List Value).toArray s rm_X11_person.cells rm_X11_person.slots (AW E sz)) (F0 m 24 ls [.ref s0]) := by
    intro s0 d H locs ls h hw hl
    unfold b_X11_person_24 at h
    obtain ⟨hos0, h⟩ := h
    refine lv_iconst (v := 1) S.1 S.2.1 (dd_at ddX11_person 12 rfl) (by decide) ?_
    refine lv_goto (tgt := 29) S.1 S.2.1 (dd_at ddX11_person 13 rfl) (by decide) ?_
    exact tb29 s0 1 d H locs ls h hw (lv_sub hl [0, 1, 2, 3] rfl)
  refine lv_aload_n S.1 S.2.1 (dd_at ddX11_person 0 rfl) rfl (lv_at hl 0 rfl) ?_
  refine lv_iconst (v := 0) S.1 S.2.1 (dd_at ddX11_person 1 rfl) (by decide) ?_
  refine r_putI S hw 11 0 (ty := .int) (v := 0) rfl inG11 tyX11 tyX11_ok nmX11 (by decide) (List.mem_cons_of_mem _ wg201) (by decide) rfl (by decide +kernel) rfl rfl ha0 (dd_at ddX11_person 2 rfl) (fun H locs hw => ?_)
  refine lv_aload_n S.1 S.2.1 (dd_at ddX11_person 3 rfl) rfl (lv_at hl 0 rfl) ?_
  refine lv_iload_n S.1 S.2.1 (dd_at ddX11_person 4 rfl) rfl (lv_at hl 1 rfl) ?_
  refine r_callI hw (r_runS (As := [.int p1]) (rest := [.ref a0]) S hw (m_X11_noYear l D cs E (pI d a0 0 0) H.size p1 _) (va_cwS 1 S.2.2.2.2 (gS wg555 wg556 wg5 wg557) rfl rfl rfl (by decide +kernel) ⟨Nat.le_of_ble_eq_true rfl, Nat.le_of_ble_eq_true rfl⟩) h rfl hl.1 rfl (Nat.le_of_ble_eq_true rfl) (dd_at ddX11_person 5 rfl) ⟨Nat.le_of_ble_eq_true rfl, Nat.le_of_ble_eq_true rfl⟩) (fun r_16 d_15 H locs h hw => ?_)
  refine lv_if_ne (tgt := 24) S.1 S.2.1 (dd_at ddX11_person 6 rfl) (by decide) (fun hc_17 => ?_) (fun hc_17 => ?_)
  · have h := h.1 hc_17
    exact tb24 a0 d_15 H locs ls h hw (lv_sub hl [0, 1, 2, 3] rfl)
  · have h := h.2 hc_17
    refine lv_iload_n S.1 S.2.1 (dd_at ddX11_person 7 rfl) rfl (lv_at hl 2 rfl) ?_
    refine lv_iconst (v := 0) S.1 S.2.1 (dd_at ddX11_person 8 rfl) (by decide) ?_
    refine lv_sipush (v := 9999) S.1 S.2.1 (dd_at ddX11_person 9 rfl) (by decide) ?_
    refine r_callI hw (r_runS (As := [.int p2, .int 0, .int 9999]) (rest := [.ref a0]) S hw (m_X11_in l D cs E d_15 H.size p2 0 9999 _) (va_cwS 3 S.2.2.2.2 (gS wg418 wg419 wg5 wg420) rfl rfl rfl (by decide +kernel) ⟨Nat.le_of_ble_eq_true rfl, Nat.le_of_ble_eq_true rfl⟩) h rfl hl.1 rfl (Nat.le_of_ble_eq_true rfl) (dd_at ddX11_person 10 rfl) ⟨Nat.le_of_ble_eq_true rfl, Nat.le_of_ble_eq_true rfl⟩) (fun r_19 d_18 H locs h hw => ?_)
    refine lv_if_ne (tgt := 28) S.1 S.2.1 (dd_at ddX11_person 11 rfl) (by decide) (fun hc_20 => ?_) (fun hc_20 => ?_)
    · have h := h.1 hc_20
      refine lv_iconst (v := 0) S.1 S.2.1 (dd_at ddX11_person 14 rfl) (by decide) ?_
      exact tb29 a0 0 d_18 H locs ls h hw (lv_sub hl [0, 1, 2, 3] rfl)
    · have h := h.2 hc_20
      exact tb24 a0 d_18 H locs ls h hw (lv_sub hl [0, 1, 2, 3] rfl)

def b_X11_hut_79 (E : En) (a0 : Nat) (p1 : Int32) (p2 : Int32) (p3 : Int32) (K : Int32 → Dy → Prop) (s0 : Nat) (s1 : Int32) (d : Dy) : Prop := okO E s0 11 ∧ w_X11_throwsIf E s0 s1 3 d (fun r_2 d_1 => ((r_2 = 0 → w_X11_huts E a0 d_1 (fun r_5 d_4 => ∃ b_6 : Nat, eR E a0 1 = some b_6 ∧ okA E b_6 13 ∧ vp_in (50 + (7 * r_5)) (eN E b_6) ∧ ∃ b_10 : Nat, eR E a0 1 = some b_10 ∧ okA E b_10 13 ∧ vp_in ((50 + (7 * r_5)) + 1) (eN E b_10) ∧ ∃ b_14 : Nat, eR E a0 1 = some b_14 ∧ okA E b_14 13 ∧ vp_in ((50 + (7 * r_5)) + 2) (eN E b_14) ∧ ∃ b_18 : Nat, eR E a0 1 = some b_18 ∧ okA E b_18 13 ∧ vp_in ((50 + (7 * r_5)) + 3) (eN E b_18) ∧ ∃ b_22 : Nat, eR E a0 1 = some b_22 ∧ okA E b_22 13 ∧ vp_in ((50 + (7 * r_5)) + 4) (eN E b_22) ∧ ∃ b_26 : Nat, eR E a0 1 = some b_26 ∧ okA E b_26 13 ∧ vp_in ((50 + (7 * r_5)) + 5) (eN E b_26) ∧ ∃ b_30 : Nat, eR E a0 1 = some b_30 ∧ okA E b_30 13 ∧ vp_in ((50 + (7 * r_5)) + 6) (eN E b_30) ∧ ∃ b_34 : Nat, eR E a0 1 = some b_34 ∧ okA E b_34 13 ∧ vp_in 1 (eN E b_34) ∧ vp_in 1 (eN E b_34) ∧ K r_5 (pA (pA (pA (pA (pA (pA (pA (pA d_4 b_6 (50 + (7 * r_5)).toNatClampNeg p1) b_10 ((50 + (7 * r_5)) + 1).toNatClampNeg p2) b_14 ((50 + (7 * r_5)) + 2).toNatClampNeg p3) b_18 ((50 + (7 * r_5)) + 3).toNatClampNeg 0) b_22 ((50 + (7 * r_5)) + 4).toNatClampNeg 99) b_26 ((50 + (7 * r_5)) + 5).toNatClampNeg 0) b_30 ((50 + (7 * r_5)) + 6).toNatClampNeg 0) b_34 ((1 : Int32)).toNatClampNeg ((gA (pA (pA (pA (pA (pA (pA (pA d_4 b_6 (50 + (7 * r_5)).toNatClampNeg p1) b_10 ((50 + (7 * r_5)) + 1).toNatClampNeg p2) b_14 ((50 + (7 * r_5)) + 2).toNatClampNeg p3) b_18 ((50 + (7 * r_5)) + 3).toNatClampNeg 0) b_22 ((50 + (7 * r_5)) + 4).toNatClampNeg 99) b_26 ((50 + (7 * r_5)) + 5).toNatClampNeg 0) b_30 ((50 + (7 * r_5)) + 6).toNatClampNeg 0) b_34 ((1 : Int32)).toNatClampNeg) + 1)))) ∧ (¬ r_2 = 0 → K 0 d_1)))
def b_X11_hut_57 (E : En) (a0 : Nat) (p1 : Int32) (p2 : Int32) (p3 : Int32) (K : Int32 → Dy → Prop) (s0 : Nat) (s1 : Int32) (d : Dy) : Prop := okO E s0 11 ∧ w_X11_throwsIf E s0 s1 2 d (fun r_40 d_39 => ((¬ r_40 = 0 → K 0 d_39) ∧ (r_40 = 0 → w_X11_huts E a0 d_39 (fun r_43 d_42 => ((¬ r_43 = 10 → b_X11_hut_79 E a0 p1 p2 p3 K a0 0 d_42) ∧ (r_43 = 10 → b_X11_hut_79 E a0 p1 p2 p3 K a0 1 d_42))))))
def b_X11_hut_52 (E : En) (a0 : Nat) (p1 : Int32) (p2 : Int32) (p3 : Int32) (K : Int32 → Dy → Prop) (s0 : Nat) (d : Dy) : Prop := okO E s0 11 ∧ b_X11_hut_57 E a0 p1 p2 p3 K s0 1 d
def b_X11_hut_24 (E : En) (a0 : Nat) (p1 : Int32) (p2 : Int32) (p3 : Int32) (K : Int32 → Dy → Prop) (s0 : Nat) (s1 : Int32) (d : Dy) : Prop := okO E s0 11 ∧ w_X11_throwsIf E s0 s1 1 d (fun r_46 d_45 => ((¬ r_46 = 0 → K 0 d_45) ∧ (r_46 = 0 → w_X11_in E p1 1 9 d_45 (fun r_49 d_48 => ((r_49 = 0 → b_X11_hut_52 E a0 p1 p2 p3 K a0 d_48) ∧ (¬ r_49 = 0 → w_X11_in E p3 0 20 d_48 (fun r_52 d_51 => ((¬ r_52 = 0 → b_X11_hut_57 E a0 p1 p2 p3 K a0 0 d_51) ∧ (r_52 = 0 → b_X11_hut_52 E a0 p1 p2 p3 K a0 d_51)))))))))
def b_X11_hut_23 (E : En) (a0 : Nat) (p1 : Int32) (p2 : Int32) (p3 : Int32) (K : Int32 → Dy → Prop) (s0 : Nat) (d : Dy) : Prop := okO E s0 11 ∧ b_X11_hut_24 E a0 p1 p2 p3 K s0 0 d
def w_X11_hut (E : En) (a0 : Nat) (p1 : Int32) (p2 : Int32) (p3 : Int32) (d : Dy) (K : Int32 → Dy → Prop) : Prop := okO E a0 11 ∧ ((p2 = (-1) → b_X11_hut_23 E a0 p1 p2 p3 K a0 (pI d a0 0 0)) ∧ (¬ p2 = (-1) → w_X11_noPerson E a0 p2 (pI d a0 0 0) (fun r_56 d_55 => ((r_56 = 0 → b_X11_hut_23 E a0 p1 p2 p3 K a0 d_55) ∧ (¬ r_56 = 0 → b_X11_hut_24 E a0 p1 p2 p3 K a0 1 d_55)))))
abbrev rm_X11_hut : Room := { frames := 3, cells := 0, slots := 0, locals := 65 }
set_option maxRecDepth 100000 in
set_option maxHeartbeats 4000000 in
theorem m_X11_hut (l : Launch) (D : va_G) (cs : Nat → ClassId) (E : En) (d : Dy) (sz : Nat) (a0 : Nat) (p1 : Int32) (p2 : Int32) (p3 : Int32) (K : Int32 → Dy → Prop) : CI l yX11_hut (.code yX11_hut cX11_hut 6 (some .int) :: wsL_law) rm_X11_hut D cs E d sz [.ref a0, .int p1, .int p2, .int p3] (w_X11_hut E a0 p1 p2 p3 d K) K := by
  refine e_of (cc := cX11_hut) (maxL := 6) (ret := (some .int)) (own := RX11) (by decide) rfl rfl (Nat.le_of_ble_eq_true rfl) ?_
  intro p e s m below meth c S hr hlocks hsz H locs hw h ls hl
  have hl : lv_has ls 6 [(0, .ref a0), (1, .int p1), (2, .int p2), (3, .int p3)] := hl
  unfold w_X11_hut at h
  obtain ⟨ha0, h⟩ := h
  have tb79 : ∀ (s0 : Nat) (s1 : Int32) (d : Dy) (H : Heap) (locs : List Loc) (ls : Array Slot), b_X11_hut_79 E a0 p1 p2 p3 K s0 s1 d → Wd D cs (AW E sz) s.heap s E d H locs → lv_has ls 6 [(0, .ref a0), (1, .int p1), (2, .int p2), (3, .int p3)] → W p l e rm_X11_hut s m ([.ref a0, .int p1, .int p2, .int p3] : List Value).toArray below meth c H locs 0 0 (MQ below (va_Qi K (OutW D cs E (AW E sz)) (AW E sz)) ([.ref a0, .int p1, .int p2, .int p3] : List Value).toArray s rm_X11_hut.cells rm_X11_hut.slots (AW E sz)) (F0 m 79 ls [.int s1, .ref s0]) := by
    intro s0 s1 d H locs ls h hw hl
    unfold b_X11_hut_79 at h
    obtain ⟨hos0, h⟩ := h
    refine lv_iconst (v := 3) S.1 S.2.1 (dd_at ddX11_hut 42 rfl) (by decide) ?_
    refine r_callI hw (r_runV (As := [.int s1, .int 3]) (rest := []) S hw (m_X11_throwsIf l D cs E d H.size s0 s1 3 _) (cwV 2 S.2.2.2.2 (gV wg421 wg422 wg423 wg5 wg424) rfl rfl rfl (by decide +kernel) ⟨Nat.le_of_ble_eq_true rfl, Nat.le_of_ble_eq_true rfl⟩) (ci := 11) rfl hos0 h rfl hl.1 rfl (Nat.le_of_ble_eq_true rfl) (dd_at ddX11_hut 43 rfl) ⟨Nat.le_of_ble_eq_true rfl, Nat.le_of_ble_eq_true rfl⟩) (fun r_2 d_1 H locs h hw => ?_)
    refine lv_if_eq (tgt := 88) S.1 S.2.1 (dd_at ddX11_hut 44 rfl) (by decide) (fun hc_3 => ?_) (fun hc_3 => ?_)
    · have h := h.1 hc_3
      refine lv_aload_n S.1 S.2.1 (dd_at ddX11_hut 47 rfl) rfl (lv_at hl 0 rfl) ?_
      refine r_callI hw (r_runV (As := []) (rest := []) S hw (m_X11_huts l D cs E d_1 H.size a0 _) (cwV 0 S.2.2.2.2 (gV wg596 wg597 wg598 wg5 wg599) rfl rfl rfl (by decide +kernel) ⟨Nat.le_of_ble_eq_true rfl, Nat.le_of_ble_eq_true rfl⟩) (ci := 11) rfl ha0 h rfl hl.1 rfl (Nat.le_of_ble_eq_true rfl) (dd_at ddX11_hut 48 rfl) ⟨Nat.le_of_ble_eq_true rfl, Nat.le_of_ble_eq_true rfl⟩) (fun r_5 d_4 H locs h hw => ?_)
      refine lv_istore (lv' := [(4, .int r_5), (0, .ref a0), (1, .int p1), (2, .int p2), (3, .int p3)]) S.1 S.2.1 (dd_at ddX11_hut 49 rfl) hl (by decide) rfl (fun ls hl => ?_)
      refine lv_bipush (v := 50) S.1 S.2.1 (dd_at ddX11_hut 50 rfl) (by decide) ?_
      refine lv_bipush (v := 7) S.1 S.2.1 (dd_at ddX11_hut 51 rfl) (by decide) ?_
      refine lv_iload S.1 S.2.1 (dd_at ddX11_hut 52 rfl) (lv_at hl 0 rfl) ?_
      refine lv_imul S.1 S.2.1 (dd_at ddX11_hut 53 rfl) ?_
      refine lv_iadd S.1 S.2.1 (dd_at ddX11_hut 54 rfl) ?_
      refine lv_istore (lv' := [(5, .int (50 + (7 * r_5))), (4, .int r_5), (0, .ref a0), (1, .int p1), (2, .int p2), (3, .int p3)]) S.1 S.2.1 (dd_at ddX11_hut 55 rfl) hl (by decide) rfl (fun ls hl => ?_)
      refine lv_aload_n S.1 S.2.1 (dd_at ddX11_hut 56 rfl) rfl (lv_at hl 2 rfl) ?_
      obtain ⟨b_6, hb_7, ho_8, h⟩ := h
      refine r_getR S hw 11 1 rfl inG11 (by decide) (List.mem_cons_of_mem _ wg150) (by decide) ha0 hb_7 (dd_at ddX11_hut 57 rfl) ?_
      refine lv_iload S.1 S.2.1 (dd_at ddX11_hut 58 rfl) (lv_at hl 0 rfl) ?_
      refine lv_iload_n S.1 S.2.1 (dd_at ddX11_hut 59 rfl) rfl (lv_at hl 3 rfl) ?_
      obtain ⟨hx_9, h⟩ := h
      refine r_iast S hw ho_8 hx_9 (dd_at ddX11_hut 60 rfl) (fun H locs hw => ?_)
      refine lv_aload_n S.1 S.2.1 (dd_at ddX11_hut 61 rfl) rfl (lv_at hl 2 rfl) ?_
      obtain ⟨b_10, hb_11, ho_12, h⟩ := h
      refine r_getR S hw 11 1 rfl inG11 (by decide) (List.mem_cons_of_mem _ wg150) (by decide) ha0 hb_11 (dd_at ddX11_hut 62 rfl) ?_
      refine lv_iload S.1 S.2.1 (dd_at ddX11_hut 63 rfl) (lv_at hl 0 rfl) ?_
      refine lv_iconst (v := 1) S.1 S.2.1 (dd_at ddX11_hut 64 rfl) (by decide) ?_
      refine lv_iadd S.1 S.2.1 (dd_at ddX11_hut 65 rfl) ?_
      refine lv_iload_n S.1 S.2.1 (dd_at ddX11_hut 66 rfl) rfl (lv_at hl 4 rfl) ?_
      obtain ⟨hx_13, h⟩ := h
      refine r_iast S hw ho_12 hx_13 (dd_at ddX11_hut 67 rfl) (fun H locs hw => ?_)
      refine lv_aload_n S.1 S.2.1 (dd_at ddX11_hut 68 rfl) rfl (lv_at hl 2 rfl) ?_
      obtain ⟨b_14, hb_15, ho_16, h⟩ := h
      refine r_getR S hw 11 1 rfl inG11 (by decide) (List.mem_cons_of_mem _ wg150) (by decide) ha0 hb_15 (dd_at ddX11_hut 69 rfl) ?_
      refine lv_iload S.1 S.2.1 (dd_at ddX11_hut 70 rfl) (lv_at hl 0 rfl) ?_
      refine lv_iconst (v := 2) S.1 S.2.1 (dd_at ddX11_hut 71 rfl) (by decide) ?_
      refine lv_iadd S.1 S.2.1 (dd_at ddX11_hut 72 rfl) ?_
      refine lv_iload_n S.1 S.2.1 (dd_at ddX11_hut 73 rfl) rfl (lv_at hl 5 rfl) ?_
      obtain ⟨hx_17, h⟩ := h
      refine r_iast S hw ho_16 hx_17 (dd_at ddX11_hut 74 rfl) (fun H locs hw => ?_)
      refine lv_aload_n S.1 S.2.1 (dd_at ddX11_hut 75 rfl) rfl (lv_at hl 2 rfl) ?_
      obtain ⟨b_18, hb_19, ho_20, h⟩ := h
      refine r_getR S hw 11 1 rfl inG11 (by decide) (List.mem_cons_of_mem _ wg150) (by decide) ha0 hb_19 (dd_at ddX11_hut 76 rfl) ?_
      refine lv_iload S.1 S.2.1 (dd_at ddX11_hut 77 rfl) (lv_at hl 0 rfl) ?_
      refine lv_iconst (v := 3) S.1 S.2.1 (dd_at ddX11_hut 78 rfl) (by decide) ?_
      refine lv_iadd S.1 S.2.1 (dd_at ddX11_hut 79 rfl) ?_
      refine lv_iconst (v := 0) S.1 S.2.1 (dd_at ddX11_hut 80 rfl) (by decide) ?_
      obtain ⟨hx_21, h⟩ := h
      refine r_iast S hw ho_20 hx_21 (dd_at ddX11_hut 81 rfl) (fun H locs hw => ?_)
      refine lv_aload_n S.1 S.2.1 (dd_at ddX11_hut 82 rfl) rfl (lv_at hl 2 rfl) ?_
      obtain ⟨b_22, hb_23, ho_24, h⟩ := h
      refine r_getR S hw 11 1 rfl inG11 (by decide) (List.mem_cons_of_mem _ wg150) (by decide) ha0 hb_23 (dd_at ddX11_hut 83 rfl) ?_
      refine lv_iload S.1 S.2.1 (dd_at ddX11_hut 84 rfl) (lv_at hl 0 rfl) ?_
      refine lv_iconst (v := 4) S.1 S.2.1 (dd_at ddX11_hut 85 rfl) (by decide) ?_
      refine lv_iadd S.1 S.2.1 (dd_at ddX11_hut 86 rfl) ?_
      refine lv_bipush (v := 99) S.1 S.2.1 (dd_at ddX11_hut 87 rfl) (by decide) ?_
      obtain ⟨hx_25, h⟩ := h
      refine r_iast S hw ho_24 hx_25 (dd_at ddX11_hut 88 rfl) (fun H locs hw => ?_)
      refine lv_aload_n S.1 S.2.1 (dd_at ddX11_hut 89 rfl) rfl (lv_at hl 2 rfl) ?_
      obtain ⟨b_26, hb_27, ho_28, h⟩ := h
      refine r_getR S hw 11 1 rfl inG11 (by decide) (List.mem_cons_of_mem _ wg150) (by decide) ha0 hb_27 (dd_at ddX11_hut 90 rfl) ?_
      refine lv_iload S.1 S.2.1 (dd_at ddX11_hut 91 rfl) (lv_at hl 0 rfl) ?_
      refine lv_iconst (v := 5) S.1 S.2.1 (dd_at ddX11_hut 92 rfl) (by decide) ?_
      refine lv_iadd S.1 S.2.1 (dd_at ddX11_hut 93 rfl) ?_
      refine lv_iconst (v := 0) S.1 S.2.1 (dd_at ddX11_hut 94 rfl) (by decide) ?_
      obtain ⟨hx_29, h⟩ := h
      refine r_iast S hw ho_28 hx_29 (dd_at ddX11_hut 95 rfl) (fun H locs hw => ?_)
      refine lv_aload_n S.1 S.2.1 (dd_at ddX11_hut 96 rfl) rfl (lv_at hl 2 rfl) ?_
      obtain ⟨b_30, hb_31, ho_32, h⟩ := h
      refine r_getR S hw 11 1 rfl inG11 (by decide) (List.mem_cons_of_mem _ wg150) (by decide) ha0 hb_31 (dd_at ddX11_hut 97 rfl) ?_
      refine lv_iload S.1 S.2.1 (dd_at ddX11_hut 98 rfl) (lv_at hl 0 rfl) ?_
      refine lv_bipush (v := 6) S.1 S.2.1 (dd_at ddX11_hut 99 rfl) (by decide) ?_
      refine lv_iadd S.1 S.2.1 (dd_at ddX11_hut 100 rfl) ?_
      refine lv_iconst (v := 0) S.1 S.2.1 (dd_at ddX11_hut 101 rfl) (by decide) ?_
      obtain ⟨hx_33, h⟩ := h
      refine r_iast S hw ho_32 hx_33 (dd_at ddX11_hut 102 rfl) (fun H locs hw => ?_)
      refine lv_aload_n S.1 S.2.1 (dd_at ddX11_hut 103 rfl) rfl (lv_at hl 2 rfl) ?_
      obtain ⟨b_34, hb_35, ho_36, h⟩ := h
      refine r_getR S hw 11 1 rfl inG11 (by decide) (List.mem_cons_of_mem _ wg150) (by decide) ha0 hb_35 (dd_at ddX11_hut 104 rfl) ?_
      refine lv_iconst (v := 1) S.1 S.2.1 (dd_at ddX11_hut 105 rfl) (by decide) ?_
      refine lv_dup2_11 S.1 S.2.1 (dd_at ddX11_hut 106 rfl) rfl rfl ?_
      obtain ⟨hx_37, h⟩ := h
      refine r_iald S hw ho_36 hx_37 (dd_at ddX11_hut 107 rfl) ?_
      refine lv_iconst (v := 1) S.1 S.2.1 (dd_at ddX11_hut 108 rfl) (by decide) ?_
      refine lv_iadd S.1 S.2.1 (dd_at ddX11_hut 109 rfl) ?_
      obtain ⟨hx_38, h⟩ := h
      refine r_iast S hw ho_36 hx_38 (dd_at ddX11_hut 110 rfl) (fun H locs hw => ?_)
      refine lv_iload S.1 S.2.1 (dd_at ddX11_hut 111 rfl) (lv_at hl 1 rfl) ?_
      exact e_I S hr hlocks hw h (dd_at ddX11_hut 112 rfl)
    · have h := h.2 hc_3
      refine lv_iconst (v := 0) S.1 S.2.1 (dd_at ddX11_hut 45 rfl) (by decide) ?_
      exact e_I S hr hlocks hw h (dd_at ddX11_hut 46 rfl)
  have tb57 : ∀ (s0 : Nat) (s1 : Int32) (d : Dy) (H : Heap) (locs : List Loc) (ls : Array Slot), b_X11_hut_57 E a0 p1 p2 p3 K s0 s1 d → Wd D cs (AW E sz) s.heap s E d H locs → lv_has ls 6 [(0, .ref a0), (1, .int p1), (2, .int p2), (3, .int p3)] → W p l e rm_X11_hut s m ([.ref a0, .int p1, .int p2, .int p3] : List Value).toArray below meth c H locs 0 0 (MQ below (va_Qi K (OutW D cs E (AW E sz)) (AW E sz)) ([.ref a0, .int p1, .int p2, .int p3] : List Value).toArray s rm_X11_hut.cells rm_X11_hut.slots (AW E sz)) (F0 m 57 ls [.int s1, .ref s0]) := by
    intro s0 s1 d H locs ls h hw hl
    unfold b_X11_hut_57 at h
    obtain ⟨hos0, h⟩ := h
    refine lv_iconst (v := 2) S.1 S.2.1 (dd_at ddX11_hut 31 rfl) (by decide) ?_
    refine r_callI hw (r_runV (As := [.int s1, .int 2]) (rest := []) S hw (m_X11_throwsIf l D cs E d H.size s0 s1 2 _) (cwV 2 S.2.2.2.2 (gV wg421 wg422 wg423 wg5 wg424) rfl rfl rfl (by decide +kernel) ⟨Nat.le_of_ble_eq_true rfl, Nat.le_of_ble_eq_true rfl⟩) (ci := 11) rfl hos0 h rfl hl.1 rfl (Nat.le_of_ble_eq_true rfl) (dd_at ddX11_hut 32 rfl) ⟨Nat.le_of_ble_eq_true rfl, Nat.le_of_ble_eq_true rfl⟩) (fun r_40 d_39 H locs h hw => ?_)
    refine lv_if_ne (tgt := 86) S.1 S.2.1 (dd_at ddX11_hut 33 rfl) (by decide) (fun hc_41 => ?_) (fun hc_41 => ?_)
    · have h := h.1 hc_41
      refine lv_iconst (v := 0) S.1 S.2.1 (dd_at ddX11_hut 45 rfl) (by decide) ?_
      exact e_I S hr hlocks hw h (dd_at ddX11_hut 46 rfl)
    · have h := h.2 hc_41
      refine lv_aload_n S.1 S.2.1 (dd_at ddX11_hut 34 rfl) rfl (lv_at hl 0 rfl) ?_
      refine lv_aload_n S.1 S.2.1 (dd_at ddX11_hut 35 rfl) rfl (lv_at hl 0 rfl) ?_
      refine r_callI hw (r_runV (As := []) (rest := [.ref a0]) S hw (m_X11_huts l D cs E d_39 H.size a0 _) (cwV 0 S.2.2.2.2 (gV wg596 wg597 wg598 wg5 wg599) rfl rfl rfl (by decide +kernel) ⟨Nat.le_of_ble_eq_true rfl, Nat.le_of_ble_eq_true rfl⟩) (ci := 11) rfl ha0 h rfl hl.1 rfl (Nat.le_of_ble_eq_true rfl) (dd_at ddX11_hut 36 rfl) ⟨Nat.le_of_ble_eq_true rfl, Nat.le_of_ble_eq_true rfl⟩) (fun r_43 d_42 H locs h hw => ?_)
      refine lv_bipush (v := 10) S.1 S.2.1 (dd_at ddX11_hut 37 rfl) (by decide) ?_
      refine lv_icmp_ne (tgt := 78) S.1 S.2.1 (dd_at ddX11_hut 38 rfl) (by decide) (fun hc_44 => ?_) (fun hc_44 => ?_)
      · have h := h.1 hc_44
        refine lv_iconst (v := 0) S.1 S.2.1 (dd_at ddX11_hut 41 rfl) (by decide) ?_
        exact tb79 a0 0 d_42 H locs ls h hw (lv_sub hl [0, 1, 2, 3] rfl)
      · have h := h.2 hc_44
        refine lv_iconst (v := 1) S.1 S.2.1 (dd_at ddX11_hut 39 rfl) (by decide) ?_
        refine lv_goto (tgt := 79) S.1 S.2.1 (dd_at ddX11_hut 40 rfl) (by decide) ?_
        exact tb79 a0 1 d_42 H locs ls h hw (lv_sub hl [0, 1, 2, 3] rfl)
  have tb52 : ∀ (s0 : Nat) (d : Dy) (H : Heap) (locs : List Loc) (ls : Array Slot), b_X11_hut_52 E a0 p1 p2 p3 K s0 d → Wd D cs (AW E sz) s.heap s E d H locs → lv_has ls 6 [(0, .ref a0), (1, .int p1), (2, .int p2), (3, .int p3)] → W p l e rm_X11_hut s m ([.ref a0, .int p1, .int p2, .int p3] : List Value).toArray below meth c H locs 0 0 (MQ below (va_Qi K (OutW D cs E (AW E sz)) (AW E sz)) ([.ref a0, .int p1, .int p2, .int p3] : List Value).toArray s rm_X11_hut.cells rm_X11_hut.slots (AW E sz)) (F0 m 52 ls [.ref s0]) := by
    intro s0 d H locs ls h hw hl
    unfold b_X11_hut_52 at h
    obtain ⟨hos0, h⟩ := h
    refine lv_iconst (v := 1) S.1 S.2.1 (dd_at ddX11_hut 28 rfl) (by decide) ?_
    refine lv_goto (tgt := 57) S.1 S.2.1 (dd_at ddX11_hut 29 rfl) (by decide) ?_
    exact tb57 s0 1 d H locs ls h hw (lv_sub hl [0, 1, 2, 3] rfl)
  have tb24 : ∀ (s0 : Nat) (s1 : Int32) (d : Dy) (H : Heap) (locs : List Loc) (ls : Array Slot), b_X11_hut_24 E a0 p1 p2 p3 K s0 s1 d → Wd D cs (AW E sz) s.heap s E d H locs → lv_has ls 6 [(0, .ref a0), (1, .int p1), (2, .int p2), (3, .int p3)] → W p l e rm_X11_hut s m ([.ref a0, .int p1, .int p2, .int p3] : List Value).toArray below meth c H locs 0 0 (MQ below (va_Qi K (OutW D cs E (AW E sz)) (AW E sz)) ([.ref a0, .int p1, .int p2, .int p3] : List Value).toArray s rm_X11_hut.cells rm_X11_hut.slots (AW E sz)) (F0 m 24 ls [.int s1, .ref s0]) := by
    intro s0 s1 d H locs ls h hw hl
    unfold b_X11_hut_24 at h
    obtain ⟨hos0, h⟩ := h
    refine lv_iconst (v := 1) S.1 S.2.1 (dd_at ddX11_hut 14 rfl) (by decide) ?_
    refine r_callI hw (r_runV (As := [.int s1, .int 1]) (rest := []) S hw (m_X11_throwsIf l D cs E d H.size s0 s1 1 _) (cwV 2 S.2.2.2.2 (gV wg421 wg422 wg423 wg5 wg424) rfl rfl rfl (by decide +kernel) ⟨Nat.le_of_ble_eq_true rfl, Nat.le_of_ble_eq_true rfl⟩) (ci := 11) rfl hos0 h rfl hl.1 rfl (Nat.le_of_ble_eq_true rfl) (dd_at ddX11_hut 15 rfl) ⟨Nat.le_of_ble_eq_true rfl, Nat.le_of_ble_eq_true rfl⟩) (fun r_46 d_45 H locs h hw => ?_)
    refine lv_if_ne (tgt := 86) S.1 S.2.1 (dd_at ddX11_hut 16 rfl) (by decide) (fun hc_47 => ?_) (fun hc_47 => ?_)
    · have h := h.1 hc_47
      refine lv_iconst (v := 0) S.1 S.2.1 (dd_at ddX11_hut 45 rfl) (by decide) ?_
      exact e_I S hr hlocks hw h (dd_at ddX11_hut 46 rfl)
    · have h := h.2 hc_47
      refine lv_aload_n S.1 S.2.1 (dd_at ddX11_hut 17 rfl) rfl (lv_at hl 0 rfl) ?_
      refine lv_iload_n S.1 S.2.1 (dd_at ddX11_hut 18 rfl) rfl (lv_at hl 1 rfl) ?_
      refine lv_iconst (v := 1) S.1 S.2.1 (dd_at ddX11_hut 19 rfl) (by decide) ?_
      refine lv_bipush (v := 9) S.1 S.2.1 (dd_at ddX11_hut 20 rfl) (by decide) ?_
      refine r_callI hw (r_runS (As := [.int p1, .int 1, .int 9]) (rest := [.ref a0]) S hw (m_X11_in l D cs E d_45 H.size p1 1 9 _) (va_cwS 3 S.2.2.2.2 (gS wg418 wg419 wg5 wg420) rfl rfl rfl (by decide +kernel) ⟨Nat.le_of_ble_eq_true rfl, Nat.le_of_ble_eq_true rfl⟩) h rfl hl.1 rfl (Nat.le_of_ble_eq_true rfl) (dd_at ddX11_hut 21 rfl) ⟨Nat.le_of_ble_eq_true rfl, Nat.le_of_ble_eq_true rfl⟩) (fun r_49 d_48 H locs h hw => ?_)
      refine lv_if_eq (tgt := 52) S.1 S.2.1 (dd_at ddX11_hut 22 rfl) (by decide) (fun hc_50 => ?_) (fun hc_50 => ?_)
      · have h := h.1 hc_50
        exact tb52 a0 d_48 H locs ls h hw (lv_sub hl [0, 1, 2, 3] rfl)
      · have h := h.2 hc_50
        refine lv_iload_n S.1 S.2.1 (dd_at ddX11_hut 23 rfl) rfl (lv_at hl 3 rfl) ?_
        refine lv_iconst (v := 0) S.1 S.2.1 (dd_at ddX11_hut 24 rfl) (by decide) ?_
        refine lv_bipush (v := 20) S.1 S.2.1 (dd_at ddX11_hut 25 rfl) (by decide) ?_
        refine r_callI hw (r_runS (As := [.int p3, .int 0, .int 20]) (rest := [.ref a0]) S hw (m_X11_in l D cs E d_48 H.size p3 0 20 _) (va_cwS 3 S.2.2.2.2 (gS wg418 wg419 wg5 wg420) rfl rfl rfl (by decide +kernel) ⟨Nat.le_of_ble_eq_true rfl, Nat.le_of_ble_eq_true rfl⟩) h rfl hl.1 rfl (Nat.le_of_ble_eq_true rfl) (dd_at ddX11_hut 26 rfl) ⟨Nat.le_of_ble_eq_true rfl, Nat.le_of_ble_eq_true rfl⟩) (fun r_52 d_51 H locs h hw => ?_)
        refine lv_if_ne (tgt := 56) S.1 S.2.1 (dd_at ddX11_hut 27 rfl) (by decide) (fun hc_53 => ?_) (fun hc_53 => ?_)
        · have h := h.1 hc_53
          refine lv_iconst (v := 0) S.1 S.2.1 (dd_at ddX11_hut 30 rfl) (by decide) ?_
          exact tb57 a0 0 d_51 H locs ls h hw (lv_sub hl [0, 1, 2, 3] rfl)
        · have h := h.2 hc_53
          exact tb52 a0 d_51 H locs ls h hw (lv_sub hl [0, 1, 2, 3] rfl)
  have tb23 : ∀ (s0 : Nat) (d : Dy) (H : Heap) (locs : List Loc) (ls : Array Slot), b_X11_hut_23 E a0 p1 p2 p3 K s0 d → Wd D cs (AW E sz) s.heap s E d H locs → lv_has ls 6 [(0, .ref a0), (1, .int p1), (2, .int p2), (3, .int p3)] → W p l e rm_X11_hut s m ([.ref a0, .int p1, .int p2, .int p3] : List Value).toArray below meth c H locs 0 0 (MQ below (va_Qi K (OutW D cs E (AW E sz)) (AW E sz)) ([.ref a0, .int p1, .int p2, .int p3] : List Value).toArray s rm_X11_hut.cells rm_X11_hut.slots (AW E sz)) (F0 m 23 ls [.ref s0]) := by
    intro s0 d H locs ls h hw hl
    unfold b_X11_hut_23 at h
    obtain ⟨hos0, h⟩ := h
    refine lv_iconst (v := 0) S.1 S.2.1 (dd_at ddX11_hut 13 rfl) (by decide) ?_
    exact tb24 s0 0 d H locs ls h hw (lv_sub hl [0, 1, 2, 3] rfl)
  refine lv_aload_n S.1 S.2.1 (dd_at ddX11_hut 0 rfl) rfl (lv_at hl 0 rfl) ?_
  refine lv_iconst (v := 0) S.1 S.2.1 (dd_at ddX11_hut 1 rfl) (by decide) ?_
  refine r_putI S hw 11 0 (ty := .int) (v := 0) rfl inG11 tyX11 tyX11_ok nmX11 (by decide) (List.mem_cons_of_mem _ wg201) (by decide) rfl (by decide +kernel) rfl rfl ha0 (dd_at ddX11_hut 2 rfl) (fun H locs hw => ?_)
  refine lv_aload_n S.1 S.2.1 (dd_at ddX11_hut 3 rfl) rfl (lv_at hl 0 rfl) ?_
  refine lv_iload_n S.1 S.2.1 (dd_at ddX11_hut 4 rfl) rfl (lv_at hl 2 rfl) ?_
  refine lv_iconst (v := -1) S.1 S.2.1 (dd_at ddX11_hut 5 rfl) (by decide) ?_
  refine lv_icmp_eq (tgt := 23) S.1 S.2.1 (dd_at ddX11_hut 6 rfl) (by decide) (fun hc_54 => ?_) (fun hc_54 => ?_)
  · have h := h.1 hc_54
    exact tb23 a0 (pI d a0 0 0) H locs ls h hw (lv_sub hl [0, 1, 2, 3] rfl)
  · have h := h.2 hc_54
    refine lv_aload_n S.1 S.2.1 (dd_at ddX11_hut 7 rfl) rfl (lv_at hl 0 rfl) ?_
    refine lv_iload_n S.1 S.2.1 (dd_at ddX11_hut 8 rfl) rfl (lv_at hl 2 rfl) ?_
    refine r_callI hw (r_runV (As := [.int p2]) (rest := [.ref a0]) S hw (m_X11_noPerson l D cs E (pI d a0 0 0) H.size a0 p2 _) (cwV 1 S.2.2.2.2 (gV wg588 wg589 wg590 wg5 wg591) rfl rfl rfl (by decide +kernel) ⟨Nat.le_of_ble_eq_true rfl, Nat.le_of_ble_eq_true rfl⟩) (ci := 11) rfl ha0 h rfl hl.1 rfl (Nat.le_of_ble_eq_true rfl) (dd_at ddX11_hut 9 rfl) ⟨Nat.le_of_ble_eq_true rfl, Nat.le_of_ble_eq_true rfl⟩) (fun r_56 d_55 H locs h hw => ?_)
    refine lv_if_eq (tgt := 23) S.1 S.2.1 (dd_at ddX11_hut 10 rfl) (by decide) (fun hc_57 => ?_) (fun hc_57 => ?_)
    · have h := h.1 hc_57
      exact tb23 a0 d_55 H locs ls h hw (lv_sub hl [0, 1, 2, 3] rfl)
    · have h := h.2 hc_57
      refine lv_iconst (v := 1) S.1 S.2.1 (dd_at ddX11_hut 11 rfl) (by decide) ?_
      refine lv_goto (tgt := 24) S.1 S.2.1 (dd_at ddX11_hut 12 rfl) (by decide) ?_
      exact tb24 a0 1 d_55 H locs ls h hw (lv_sub hl [0, 1, 2, 3] rfl)

def w_X11_tells (E : En) (a0 : Nat) (p1 : Int32) (p2 : Int32) (p3 : Int32) (p4 : Int32) (p5 : Int32) (d : Dy) (K : Int32 → Dy → Prop) : Prop := okO E a0 11 ∧ ∃ b_1 : Nat, eR E a0 1 = some b_1 ∧ okA E b_1 13 ∧ vp_in 2 (eN E b_1) ∧ ∃ b_5 : Nat, eR E a0 1 = some b_5 ∧ okA E b_5 13 ∧ vp_in (120 + (6 * (gA d b_1 ((2 : Int32)).toNatClampNeg))) (eN E b_5) ∧ ∃ b_9 : Nat, eR E a0 1 = some b_9 ∧ okA E b_9 13 ∧ vp_in ((120 + (6 * (gA d b_1 ((2 : Int32)).toNatClampNeg))) + 1) (eN E b_9) ∧ ∃ b_13 : Nat, eR E a0 1 = some b_13 ∧ okA E b_13 13 ∧ vp_in ((120 + (6 * (gA d b_1 ((2 : Int32)).toNatClampNeg))) + 2) (eN E b_13) ∧ ∃ b_17 : Nat, eR E a0 1 = some b_17 ∧ okA E b_17 13 ∧ vp_in ((120 + (6 * (gA d b_1 ((2 : Int32)).toNatClampNeg))) + 3) (eN E b_17) ∧ ∃ b_21 : Nat, eR E a0 1 = some b_21 ∧ okA E b_21 13 ∧ vp_in ((120 + (6 * (gA d b_1 ((2 : Int32)).toNatClampNeg))) + 4) (eN E b_21) ∧ ∃ b_25 : Nat, eR E a0 1 = some b_25 ∧ okA E b_25 13 ∧ ∃ b_28 : Nat, eR E a0 1 = some b_28 ∧ okA E b_28 13 ∧ vp_in 3 (eN E b_28) ∧ vp_in ((120 + (6 * (gA d b_1 ((2 : Int32)).toNatClampNeg))) + 5) (eN E b_25) ∧ ∃ b_33 : Nat, eR E a0 1 = some b_33 ∧ okA E b_33 13 ∧ vp_in 2 (eN E b_33) ∧ vp_in 2 (eN E b_33) ∧ ∃ b_38 : Nat, eR E a0 1 = some b_38 ∧ okA E b_38 13 ∧ vp_in 2 (eN E b_38) ∧ K (gA (pA (pA (pA (pA (pA (pA (pA d b_5 (120 + (6 * (gA d b_1 ((2 : Int32)).toNatClampNeg))).toNatClampNeg p1) b_9 ((120 + (6 * (gA d b_1 ((2 : Int32)).toNatClampNeg))) + 1).toNatClampNeg p2) b_13 ((120 + (6 * (gA d b_1 ((2 : Int32)).toNatClampNeg))) + 2).toNatClampNeg p3) b_17 ((120 + (6 * (gA d b_1 ((2 : Int32)).toNatClampNeg))) + 3).toNatClampNeg p4) b_21 ((120 + (6 * (gA d b_1 ((2 : Int32)).toNatClampNeg))) + 4).toNatClampNeg p5) b_25 ((120 + (6 * (gA d b_1 ((2 : Int32)).toNatClampNeg))) + 5).toNatClampNeg (gA (pA (pA (pA (pA (pA d b_5 (120 + (6 * (gA d b_1 ((2 : Int32)).toNatClampNeg))).toNatClampNeg p1) b_9 ((120 + (6 * (gA d b_1 ((2 : Int32)).toNatClampNeg))) + 1).toNatClampNeg p2) b_13 ((120 + (6 * (gA d b_1 ((2 : Int32)).toNatClampNeg))) + 2).toNatClampNeg p3) b_17 ((120 + (6 * (gA d b_1 ((2 : Int32)).toNatClampNeg))) + 3).toNatClampNeg p4) b_21 ((120 + (6 * (gA d b_1 ((2 : Int32)).toNatClampNeg))) + 4).toNatClampNeg p5) b_28 ((3 : Int32)).toNatClampNeg)) b_33 ((2 : Int32)).toNatClampNeg ((gA (pA (pA (pA (pA (pA (pA d b_5 (120 + (6 * (gA d b_1 ((2 : Int32)).toNatClampNeg))).toNatClampNeg p1) b_9 ((120 + (6 * (gA d b_1 ((2 : Int32)).toNatClampNeg))) + 1).toNatClampNeg p2) b_13 ((120 + (6 * (gA d b_1 ((2 : Int32)).toNatClampNeg))) + 2).toNatClampNeg p3) b_17 ((120 + (6 * (gA d b_1 ((2 : Int32)).toNatClampNeg))) + 3).toNatClampNeg p4) b_21 ((120 + (6 * (gA d b_1 ((2 : Int32)).toNatClampNeg))) + 4).toNatClampNeg p5) b_25 ((120 + (6 * (gA d b_1 ((2 : Int32)).toNatClampNeg))) + 5).toNatClampNeg (gA (pA (pA (pA (pA (pA d b_5 (120 + (6 * (gA d b_1 ((2 : Int32)).toNatClampNeg))).toNatClampNeg p1) b_9 ((120 + (6 * (gA d b_1 ((2 : Int32)).toNatClampNeg))) + 1).toNatClampNeg p2) b_13 ((120 + (6 * (gA d b_1 ((2 : Int32)).toNatClampNeg))) + 2).toNatClampNeg p3) b_17 ((120 + (6 * (gA d b_1 ((2 : Int32)).toNatClampNeg))) + 3).toNatClampNeg p4) b_21 ((120 + (6 * (gA d b_1 ((2 : Int32)).toNatClampNeg))) + 4).toNatClampNeg p5) b_28 ((3 : Int32)).toNatClampNeg)) b_33 ((2 : Int32)).toNatClampNeg) + 1)) b_38 ((2 : Int32)).toNatClampNeg) (pA (pA (pA (pA (pA (pA (pA d b_5 (120 + (6 * (gA d b_1 ((2 : Int32)).toNatClampNeg))).toNatClampNeg p1) b_9 ((120 + (6 * (gA d b_1 ((2 : Int32)).toNatClampNeg))) + 1).toNatClampNeg p2) b_13 ((120 + (6 * (gA d b_1 ((2 : Int32)).toNatClampNeg))) + 2).toNatClampNeg p3) b_17 ((120 + (6 * (gA d b_1 ((2 : Int32)).toNatClampNeg))) + 3).toNatClampNeg p4) b_21 ((120 + (6 * (gA d b_1 ((2 : Int32)).toNatClampNeg))) + 4).toNatClampNeg p5) b_25 ((120 + (6 * (gA d b_1 ((2 : Int32)).toNatClampNeg))) + 5).toNatClampNeg (gA (pA (pA (pA (pA (pA d b_5 (120 + (6 * (gA d b_1 ((2 : Int32)).toNatClampNeg))).toNatClampNeg p1) b_9 ((120 + (6 * (gA d b_1 ((2 : Int32)).toNatClampNeg))) + 1).toNatClampNeg p2) b_13 ((120 + (6 * (gA d b_1 ((2 : Int32)).toNatClampNeg))) + 2).toNatClampNeg p3) b_17 ((120 + (6 * (gA d b_1 ((2 : Int32)).toNatClampNeg))) + 3).toNatClampNeg p4) b_21 ((120 + (6 * (gA d b_1 ((2 : Int32)).toNatClampNeg))) + 4).toNatClampNeg p5) b_28 ((3 : Int32)).toNatClampNeg)) b_33 ((2 : Int32)).toNatClampNeg ((gA (pA (pA (pA (pA (pA (pA d b_5 (120 + (6 * (gA d b_1 ((2 : Int32)).toNatClampNeg))).toNatClampNeg p1) b_9 ((120 + (6 * (gA d b_1 ((2 : Int32)).toNatClampNeg))) + 1).toNatClampNeg p2) b_13 ((120 + (6 * (gA d b_1 ((2 : Int32)).toNatClampNeg))) + 2).toNatClampNeg p3) b_17 ((120 + (6 * (gA d b_1 ((2 : Int32)).toNatClampNeg))) + 3).toNatClampNeg p4) b_21 ((120 + (6 * (gA d b_1 ((2 : Int32)).toNatClampNeg))) + 4).toNatClampNeg p5) b_25 ((120 + (6 * (gA d b_1 ((2 : Int32)).toNatClampNeg))) + 5).toNatClampNeg (gA (pA (pA (pA (pA (pA d b_5 (120 + (6 * (gA d b_1 ((2 : Int32)).toNatClampNeg))).toNatClampNeg p1) b_9 ((120 + (6 * (gA d b_1 ((2 : Int32)).toNatClampNeg))) + 1).toNatClampNeg p2) b_13 ((120 + (6 * (gA d b_1 ((2 : Int32)).toNatClampNeg))) + 2).toNatClampNeg p3) b_17 ((120 + (6 * (gA d b_1 ((2 : Int32)).toNatClampNeg))) + 3).toNatClampNeg p4) b_21 ((120 + (6 * (gA d b_1 ((2 : Int32)).toNatClampNeg))) + 4).toNatClampNeg p5) b_28 ((3 : Int32)).toNatClampNeg)) b_33 ((2 : Int32)).toNatClampNeg) + 1))
abbrev rm_X11_tells : Room := { frames := 0, cells := 0, slots := 0, locals := 0 }
set_option maxRecDepth 100000 in
set_option maxHeartbeats 4000000 in
theorem m_X11_tells (l : Launch) (D : va_G) (cs : Nat → ClassId) (E : En) (d : Dy) (sz : Nat) (a0 : Nat) (p1 : Int32) (p2 : Int32) (p3 : Int32) (p4 : Int32) (p5 : Int32) (K : Int32 → Dy → Prop) : CI l yX11_tells (.code yX11_tells cX11_tells 7 (some .int) :: wsL_law) rm_X11_tells D cs E d sz [.ref a0, .int p1, .int p2, .int p3, .int p4, .int p5] (w_X11_tells E a0 p1 p2 p3 p4 p5 d K) K := by
  refine e_of (cc := cX11_tells) (maxL := 7) (ret := (some .int)) (own := RX11) (by decide) rfl rfl (Nat.le_of_ble_eq_true rfl) ?_
  intro p e s m below meth c S hr hlocks hsz H locs hw h ls hl
  have hl : lv_has ls 7 [(0, .ref a0), (1, .int p1), (2, .int p2), (3, .int p3), (4, .int p4), (5, .int p5)] := hl
  unfold w_X11_tells at h
  obtain ⟨ha0, h⟩ := h
  refine lv_bipush (v := 120) S.1 S.2.1 (dd_at ddX11_tells 0 rfl) (by decide) ?_
  refine lv_bipush (v := 6) S.1 S.2.1 (dd_at ddX11_tells 1 rfl) (by decide) ?_
  refine lv_aload_n S.1 S.2.1 (dd_at ddX11_tells 2 rfl) rfl (lv_at hl 0 rfl) ?_
  obtain ⟨b_1, hb_2, ho_3, h⟩ := h
  refine r_getR S hw 11 1 rfl inG11 (by decide) (List.mem_cons_of_mem _ wg150) (by decide) ha0 hb_2 (dd_at ddX11_tells 3 rfl) ?_
  refine lv_iconst (v := 2) S.1 S.2.1 (dd_at ddX11_tells 4 rfl) (by decide) ?_
  obtain ⟨hx_4, h⟩ := h
  refine r_iald S hw ho_3 hx_4 (dd_at ddX11_tells 5 rfl) ?_
  refine lv_imul S.1 S.2.1 (dd_at ddX11_tells 6 rfl) ?_
  refine lv_iadd S.1 S.2.1 (dd_at ddX11_tells 7 rfl) ?_
  refine lv_istore (lv' := [(6, .int (120 + (6 * (gA d b_1 ((2 : Int32)).toNatClampNeg)))), (0, .ref a0), (1, .int p1), (2, .int p2), (3, .int p3), (4, .int p4), (5, .int p5)]) S.1 S.2.1 (dd_at ddX11_tells 8 rfl) hl (by decide) rfl (fun ls hl => ?_)
  refine lv_aload_n S.1 S.2.1 (dd_at ddX11_tells 9 rfl) rfl (lv_at hl 1 rfl) ?_
  obtain ⟨b_5, hb_6, ho_7, h⟩ := h
  refine r_getR S hw 11 1 rfl inG11 (by decide) (List.mem_cons_of_mem _ wg150) (by decide) ha0 hb_6 (dd_at ddX11_tells 10 rfl) ?_
  refine lv_iload S.1 S.2.1 (dd_at ddX11_tells 11 rfl) (lv_at hl 0 rfl) ?_
  refine lv_iload_n S.1 S.2.1 (dd_at ddX11_tells 12 rfl) rfl (lv_at hl 2 rfl) ?_
  obtain ⟨hx_8, h⟩ := h
  refine r_iast S hw ho_7 hx_8 (dd_at ddX11_tells 13 rfl) (fun H locs hw => ?_)
  refine lv_aload_n S.1 S.2.1 (dd_at ddX11_tells 14 rfl) rfl (lv_at hl 1 rfl) ?_
  obtain ⟨b_9, hb_10, ho_11, h⟩ := h
  refine r_getR S hw 11 1 rfl inG11 (by decide) (List.mem_cons_of_mem _ wg150) (by decide) ha0 hb_10 (dd_at ddX11_tells 15 rfl) ?_
  refine lv_iload S.1 S.2.1 (dd_at ddX11_tells 16 rfl) (lv_at hl 0 rfl) ?_
  refine lv_iconst (v := 1) S.1 S.2.1 (dd_at ddX11_tells 17 rfl) (by decide) ?_
  refine lv_iadd S.1 S.2.1 (dd_at ddX11_tells 18 rfl) ?_
  refine lv_iload_n S.1 S.2.1 (dd_at ddX11_tells 19 rfl) rfl (lv_at hl 3 rfl) ?_
  obtain ⟨hx_12, h⟩ := h
  refine r_iast S hw ho_11 hx_12 (dd_at ddX11_tells 20 rfl) (fun H locs hw => ?_)
  refine lv_aload_n S.1 S.2.1 (dd_at ddX11_tells 21 rfl) rfl (lv_at hl 1 rfl) ?_
  obtain ⟨b_13, hb_14, ho_15, h⟩ := h
  refine r_getR S hw 11 1 rfl inG11 (by decide) (List.mem_cons_of_mem _ wg150) (by decide) ha0 hb_14 (dd_at ddX11_tells 22 rfl) ?_
  refine lv_iload S.1 S.2.1 (dd_at ddX11_tells 23 rfl) (lv_at hl 0 rfl) ?_
  refine lv_iconst (v := 2) S.1 S.2.1 (dd_at ddX11_tells 24 rfl) (by decide) ?_
  refine lv_iadd S.1 S.2.1 (dd_at ddX11_tells 25 rfl) ?_
  refine lv_iload_n S.1 S.2.1 (dd_at ddX11_tells 26 rfl) rfl (lv_at hl 4 rfl) ?_
  obtain ⟨hx_16, h⟩ := h
  refine r_iast S hw ho_15 hx_16 (dd_at ddX11_tells 27 rfl) (fun H locs hw => ?_)
  refine lv_aload_n S.1 S.2.1 (dd_at ddX11_tells 28 rfl) rfl (lv_at hl 1 rfl) ?_
  obtain ⟨b_17, hb_18, ho_19, h⟩ := h
  refine r_getR S hw 11 1 rfl inG11 (by decide) (List.mem_cons_of_mem _ wg150) (by decide) ha0 hb_18 (dd_at ddX11_tells 29 rfl) ?_
  refine lv_iload S.1 S.2.1 (dd_at ddX11_tells 30 rfl) (lv_at hl 0 rfl) ?_
  refine lv_iconst (v := 3) S.1 S.2.1 (dd_at ddX11_tells 31 rfl) (by decide) ?_
  refine lv_iadd S.1 S.2.1 (dd_at ddX11_tells 32 rfl) ?_
  refine lv_iload S.1 S.2.1 (dd_at ddX11_tells 33 rfl) (lv_at hl 5 rfl) ?_
  obtain ⟨hx_20, h⟩ := h
  refine r_iast S hw ho_19 hx_20 (dd_at ddX11_tells 34 rfl) (fun H locs hw => ?_)
  refine lv_aload_n S.1 S.2.1 (dd_at ddX11_tells 35 rfl) rfl (lv_at hl 1 rfl) ?_
  obtain ⟨b_21, hb_22, ho_23, h⟩ := h
  refine r_getR S hw 11 1 rfl inG11 (by decide) (List.mem_cons_of_mem _ wg150) (by decide) ha0 hb_22 (dd_at ddX11_tells 36 rfl) ?_
  refine lv_iload S.1 S.2.1 (dd_at ddX11_tells 37 rfl) (lv_at hl 0 rfl) ?_
  refine lv_iconst (v := 4) S.1 S.2.1 (dd_at ddX11_tells 38 rfl) (by decide) ?_
  refine lv_iadd S.1 S.2.1 (dd_at ddX11_tells 39 rfl) ?_
  refine lv_iload S.1 S.2.1 (dd_at ddX11_tells 40 rfl) (lv_at hl 6 rfl) ?_
  obtain ⟨hx_24, h⟩ := h
  refine r_iast S hw ho_23 hx_24 (dd_at ddX11_tells 41 rfl) (fun H locs hw => ?_)
  refine lv_aload_n S.1 S.2.1 (dd_at ddX11_tells 42 rfl) rfl (lv_at hl 1 rfl) ?_
  obtain ⟨b_25, hb_26, ho_27, h⟩ := h
  refine r_getR S hw 11 1 rfl inG11 (by decide) (List.mem_cons_of_mem _ wg150) (by decide) ha0 hb_26 (dd_at ddX11_tells 43 rfl) ?_
  refine lv_iload S.1 S.2.1 (dd_at ddX11_tells 44 rfl) (lv_at hl 0 rfl) ?_
  refine lv_iconst (v := 5) S.1 S.2.1 (dd_at ddX11_tells 45 rfl) (by decide) ?_
  refine lv_iadd S.1 S.2.1 (dd_at ddX11_tells 46 rfl) ?_
  refine lv_aload_n S.1 S.2.1 (dd_at ddX11_tells 47 rfl) rfl (lv_at hl 1 rfl) ?_
  obtain ⟨b_28, hb_29, ho_30, h⟩ := h
  refine r_getR S hw 11 1 rfl inG11 (by decide) (List.mem_cons_of_mem _ wg150) (by decide) ha0 hb_29 (dd_at ddX11_tells 48 rfl) ?_
  refine lv_iconst (v := 3) S.1 S.2.1 (dd_at ddX11_tells 49 rfl) (by decide) ?_
  obtain ⟨hx_31, h⟩ := h
  refine r_iald S hw ho_30 hx_31 (dd_at ddX11_tells 50 rfl) ?_
  obtain ⟨hx_32, h⟩ := h
  refine r_iast S hw ho_27 hx_32 (dd_at ddX11_tells 51 rfl) (fun H locs hw => ?_)
  refine lv_aload_n S.1 S.2.1 (dd_at ddX11_tells 52 rfl) rfl (lv_at hl 1 rfl) ?_
  obtain ⟨b_33, hb_34, ho_35, h⟩ := h
  refine r_getR S hw 11 1 rfl inG11 (by decide) (List.mem_cons_of_mem _ wg150) (by decide) ha0 hb_34 (dd_at ddX11_tells 53 rfl) ?_
  refine lv_iconst (v := 2) S.1 S.2.1 (dd_at ddX11_tells 54 rfl) (by decide) ?_
  refine lv_dup2_11 S.1 S.2.1 (dd_at ddX11_tells 55 rfl) rfl rfl ?_
  obtain ⟨hx_36, h⟩ := h
  refine r_iald S hw ho_35 hx_36 (dd_at ddX11_tells 56 rfl) ?_
  refine lv_iconst (v := 1) S.1 S.2.1 (dd_at ddX11_tells 57 rfl) (by decide) ?_
  refine lv_iadd S.1 S.2.1 (dd_at ddX11_tells 58 rfl) ?_
  obtain ⟨hx_37, h⟩ := h
  refine r_iast S hw ho_35 hx_37 (dd_at ddX11_tells 59 rfl) (fun H locs hw => ?_)
  refine lv_aload_n S.1 S.2.1 (dd_at ddX11_tells 60 rfl) rfl (lv_at hl 1 rfl) ?_
  obtain ⟨b_38, hb_39, ho_40, h⟩ := h
  refine r_getR S hw 11 1 rfl inG11 (by decide) (List.mem_cons_of_mem _ wg150) (by decide) ha0 hb_39 (dd_at ddX11_tells 61 rfl) ?_
  refine lv_iconst (v := 2) S.1 S.2.1 (dd_at ddX11_tells 62 rfl) (by decide) ?_
  obtain ⟨hx_41, h⟩ := h
  refine r_iald S hw ho_40 hx_41 (dd_at ddX11_tells 63 rfl) ?_
  exact e_I S hr hlocks hw h (dd_at ddX11_tells 64 rfl)

def b_X11_event_215 (E : En) (a0 : Nat) (p1 : Int32) (p2 : Int32) (p3 : Int32) (p4 : Int32) (K : Int32 → Dy → Prop) (s0 : Nat) (s1 : Int32) (d : Dy) : Prop := okO E s0 11 ∧ w_X11_throwsIf E s0 s1 3 d (fun r_2 d_1 => ((r_2 = 0 → w_X11_tells E a0 p1 p2 p3 p4 0 d_1 (fun r_5 d_4 => K r_5 d_4)) ∧ (¬ r_2 = 0 → K 0 d_1)))
def b_X11_event_191 (E : En) (a0 : Nat) (p1 : Int32) (p2 : Int32) (p3 : Int32) (p4 : Int32) (K : Int32 → Dy → Prop) (s0 : Nat) (s1 : Int32) (d : Dy) : Prop := okO E s0 11 ∧ w_X11_throwsIf E s0 s1 2 d (fun r_7 d_6 => ((¬ r_7 = 0 → K 0 d_6) ∧ (r_7 = 0 → ∃ b_9 : Nat, eR E a0 1 = some b_9 ∧ okA E b_9 13 ∧ vp_in 2 (eN E b_9) ∧ ((¬ (gA d_6 b_9 ((2 : Int32)).toNatClampNeg) = 40 → b_X11_event_215 E a0 p1 p2 p3 p4 K a0 0 d_6) ∧ ((gA d_6 b_9 ((2 : Int32)).toNatClampNeg) = 40 → b_X11_event_215 E a0 p1 p2 p3 p4 K a0 1 d_6)))))
def b_X11_event_186 (E : En) (a0 : Nat) (p1 : Int32) (p2 : Int32) (p3 : Int32) (p4 : Int32) (K : Int32 → Dy → Prop) (s0 : Nat) (d : Dy) : Prop := okO E s0 11 ∧ b_X11_event_191 E a0 p1 p2 p3 p4 K s0 1 d
def b_X11_event_190 (E : En) (a0 : Nat) (p1 : Int32) (p2 : Int32) (p3 : Int32) (p4 : Int32) (K : Int32 → Dy → Prop) (s0 : Nat) (d : Dy) : Prop := okO E s0 11 ∧ b_X11_event_191 E a0 p1 p2 p3 p4 K s0 0 d
def b_X11_event_147 (E : En) (a0 : Nat) (p1 : Int32) (p2 : Int32) (p3 : Int32) (p4 : Int32) (K : Int32 → Dy → Prop) (v5 : Int32) (s0 : Int32) (d : Dy) : Prop := w_X11_throwsIf E a0 s0 1 d (fun r_15 d_14 => ((¬ r_15 = 0 → K 0 d_14) ∧ (r_15 = 0 → w_X11_in E p2 0 6 d_14 (fun r_18 d_17 => ((r_18 = 0 → b_X11_event_186 E a0 p1 p2 p3 p4 K a0 d_17) ∧ (¬ r_18 = 0 → ((p2 = 4 → b_X11_event_186 E a0 p1 p2 p3 p4 K a0 d_17) ∧ (¬ p2 = 4 → ((v5 = 0 → b_X11_event_190 E a0 p1 p2 p3 p4 K a0 d_17) ∧ (¬ v5 = 0 → ((¬ p3 = p4 → b_X11_event_190 E a0 p1 p2 p3 p4 K a0 d_17) ∧ (p3 = p4 → b_X11_event_186 E a0 p1 p2 p3 p4 K a0 d_17))))))))))))
def b_X11_event_75 (E : En) (a0 : Nat) (p1 : Int32) (p2 : Int32) (p3 : Int32) (p4 : Int32) (K : Int32 → Dy → Prop) (v5 : Int32) (d : Dy) : Prop := b_X11_event_147 E a0 p1 p2 p3 p4 K v5 1 d
def b_X11_event_105 (E : En) (a0 : Nat) (p1 : Int32) (p2 : Int32) (p3 : Int32) (p4 : Int32) (K : Int32 → Dy → Prop) (v5 : Int32) (d : Dy) : Prop := b_X11_event_147 E a0 p1 p2 p3 p4 K v5 1 d
def b_X11_event_142 (E : En) (a0 : Nat) (p1 : Int32) (p2 : Int32) (p3 : Int32) (p4 : Int32) (K : Int32 → Dy → Prop) (v5 : Int32) (d : Dy) : Prop := b_X11_event_147 E a0 p1 p2 p3 p4 K v5 1 d
def b_X11_event_146 (E : En) (a0 : Nat) (p1 : Int32) (p2 : Int32) (p3 : Int32) (p4 : Int32) (K : Int32 → Dy → Prop) (v5 : Int32) (d : Dy) : Prop := b_X11_event_147 E a0 p1 p2 p3 p4 K v5 0 d
def b_X11_event_39 (E : En) (a0 : Nat) (p1 : Int32) (p2 : Int32) (p3 : Int32) (p4 : Int32) (K : Int32 → Dy → Prop) (s0 : Int32) (d : Dy) : Prop := ((¬ p2 = 0 → ((s0 = 0 → ((¬ p2 = 5 → ((¬ p2 = 6 → b_X11_event_146 E a0 p1 p2 p3 p4 K s0 d) ∧ (p2 = 6 → w_X11_noHut E a0 p3 d (fun r_28 d_27 => ((¬ r_28 = 0 → b_X11_event_142 E a0 p1 p2 p3 p4 K s0 d_27) ∧ (r_28 = 0 → w_X11_huts E a0 d_27 (fun r_31 d_30 => w_X11_in E p4 0 (r_31 - 1) d_30 (fun r_33 d_32 => ((¬ r_33 = 0 → b_X11_event_146 E a0 p1 p2 p3 p4 K s0 d_32) ∧ (r_33 = 0 → b_X11_event_142 E a0 p1 p2 p3 p4 K s0 d_32)))))))))) ∧ (p2 = 5 → w_X11_noHut E a0 p3 d (fun r_36 d_35 => ((¬ r_36 = 0 → b_X11_event_105 E a0 p1 p2 p3 p4 K s0 d_35) ∧ (r_36 = 0 → w_X11_noPerson E a0 p4 d_35 (fun r_39 d_38 => ((r_39 = 0 → b_X11_event_147 E a0 p1 p2 p3 p4 K s0 0 d_38) ∧ (¬ r_39 = 0 → b_X11_event_105 E a0 p1 p2 p3 p4 K s0 d_38))))))))) ∧ (¬ s0 = 0 → w_X11_noPerson E a0 p3 d (fun r_42 d_41 => ((¬ r_42 = 0 → b_X11_event_75 E a0 p1 p2 p3 p4 K s0 d_41) ∧ (r_42 = 0 → w_X11_noPerson E a0 p4 d_41 (fun r_45 d_44 => ((r_45 = 0 → b_X11_event_147 E a0 p1 p2 p3 p4 K s0 0 d_44) ∧ (¬ r_45 = 0 → b_X11_event_75 E a0 p1 p2 p3 p4 K s0 d_44))))))))) ∧ (p2 = 0 → w_X11_noPerson E a0 p3 d (fun r_48 d_47 => b_X11_event_147 E a0 p1 p2 p3 p4 K s0 r_48 d_47)))
def b_X11_event_34 (E : En) (a0 : Nat) (p1 : Int32) (p2 : Int32) (p3 : Int32) (p4 : Int32) (K : Int32 → Dy → Prop) (d : Dy) : Prop := b_X11_event_39 E a0 p1 p2 p3 p4 K 1 d
def w_X11_event (E : En) (a0 : Nat) (p1 : Int32) (p2 : Int32) (p3 : Int32) (p4 : Int32) (d : Dy) (K : Int32 → Dy → Prop) : Prop := okO E a0 11 ∧ w_X11_noYear E p1 (pI d a0 0 0) (fun r_50 d_49 => w_X11_throwsIf E a0 r_50 1 d_49 (fun r_52 d_51 => ((r_52 = 0 → ((p2 = 1 → b_X11_event_34 E a0 p1 p2 p3 p4 K d_51) ∧ (¬ p2 = 1 → ((p2 = 2 → b_X11_event_34 E a0 p1 p2 p3 p4 K d_51) ∧ (¬ p2 = 2 → ((¬ p2 = 3 → b_X11_event_39 E a0 p1 p2 p3 p4 K 0 d_51) ∧ (p2 = 3 → b_X11_event_34 E a0 p1 p2 p3 p4 K d_51))))))) ∧ (¬ r_52 = 0 → K 0 d_51))))
abbrev rm_X11_event : Room := { frames := 3, cells := 0, slots := 0, locals := 65 }
set_option maxRecDepth 100000 in
set_option maxHeartbeats 4000000 in
theorem m_X11_event (l : Launch) (D : va_G) (cs : Nat → ClassId) (E : En) (d : Dy) (sz : Nat) (a0 : Nat) (p1 : Int32) (p2 : Int32) (p3 : Int32) (p4 : Int32) (K : Int32 → Dy → Prop) : CI l yX11_event (.code yX11_event cX11_event 7 (some .int) :: wsL_law) rm_X11_event D cs E d sz [.ref a0, .int p1, .int p2, .int p3, .int p4] (w_X11_event E a0 p1 p2 p3 p4 d K) K := by
  refine e_of (cc := cX11_event) (maxL := 7) (ret := (some .int)) (own := RX11) (by decide) rfl rfl (Nat.le_of_ble_eq_true rfl) ?_
  intro p e s m below meth c S hr hlocks hsz H locs hw h ls hl
  have hl : lv_has ls 7 [(0, .ref a0), (1, .int p1), (2, .int p2), (3, .int p3), (4, .int p4)] := hl
  unfold w_X11_event at h
  obtain ⟨ha0, h⟩ := h
  have tb215 : ∀ (s0 : Nat) (s1 : Int32) (d : Dy) (H : Heap) (locs : List Loc) (ls : Array Slot), b_X11_event_215 E a0 p1 p2 p3 p4 K s0 s1 d → Wd D cs (AW E sz) s.heap s E d H locs → lv_has ls 7 [(0, .ref a0), (1, .int p1), (2, .int p2), (3, .int p3), (4, .int p4)] → W p l e rm_X11_event s m ([.ref a0, .int p1, .int p2, .int p3, .int p4] : List Value).toArray below meth c H locs 0 0 (MQ below (va_Qi K (OutW D cs E (AW E sz)) (AW E sz)) ([.ref a0, .int p1, .int p2, .int p3, .int p4] : List Value).toArray s rm_X11_event.cells rm_X11_event.slots (AW E sz)) (F0 m 215 ls [.int s1, .ref s0]) := by
    intro s0 s1 d H locs ls h hw hl
    unfold b_X11_event_215 at h
    obtain ⟨hos0, h⟩ := h
    refine lv_iconst (v := 3) S.1 S.2.1 (dd_at ddX11_event 113 rfl) (by decide) ?_
    refine r_callI hw (r_runV (As := [.int s1, .int 3]) (rest := []) S hw (m_X11_throwsIf l D cs E d H.size s0 s1 3 _) (cwV 2 S.2.2.2.2 (gV wg421 wg422 wg423 wg5 wg424) rfl rfl rfl (by decide +kernel) ⟨Nat.le_of_ble_eq_true rfl, Nat.le_of_ble_eq_true rfl⟩) (ci := 11) rfl hos0 h rfl hl.1 rfl (Nat.le_of_ble_eq_true rfl) (dd_at ddX11_event 114 rfl) ⟨Nat.le_of_ble_eq_true rfl, Nat.le_of_ble_eq_true rfl⟩) (fun r_2 d_1 H locs h hw => ?_)
    refine lv_if_eq (tgt := 224) S.1 S.2.1 (dd_at ddX11_event 115 rfl) (by decide) (fun hc_3 => ?_) (fun hc_3 => ?_)
    · have h := h.1 hc_3
      refine lv_aload_n S.1 S.2.1 (dd_at ddX11_event 118 rfl) rfl (lv_at hl 0 rfl) ?_
      refine lv_iload_n S.1 S.2.1 (dd_at ddX11_event 119 rfl) rfl (lv_at hl 1 rfl) ?_
      refine lv_iload_n S.1 S.2.1 (dd_at ddX11_event 120 rfl) rfl (lv_at hl 2 rfl) ?_
      refine lv_iload_n S.1 S.2.1 (dd_at ddX11_event 121 rfl) rfl (lv_at hl 3 rfl) ?_
      refine lv_iload S.1 S.2.1 (dd_at ddX11_event 122 rfl) (lv_at hl 4 rfl) ?_
      refine lv_iconst (v := 0) S.1 S.2.1 (dd_at ddX11_event 123 rfl) (by decide) ?_
      refine r_callI hw (r_runV (As := [.int p1, .int p2, .int p3, .int p4, .int 0]) (rest := []) S hw (m_X11_tells l D cs E d_1 H.size a0 p1 p2 p3 p4 0 _) (cwV 5 S.2.2.2.2 (gV wg635 wg636 wg637 wg5 wg638) rfl rfl rfl (by decide +kernel) ⟨Nat.le_of_ble_eq_true rfl, Nat.le_of_ble_eq_true rfl⟩) (ci := 11) rfl ha0 h rfl hl.1 rfl (Nat.le_of_ble_eq_true rfl) (dd_at ddX11_event 124 rfl) ⟨Nat.le_of_ble_eq_true rfl, Nat.le_of_ble_eq_true rfl⟩) (fun r_5 d_4 H locs h hw => ?_)
      exact e_I S hr hlocks hw h (dd_at ddX11_event 125 rfl)
    · have h := h.2 hc_3
      refine lv_iconst (v := 0) S.1 S.2.1 (dd_at ddX11_event 116 rfl) (by decide) ?_
      exact e_I S hr hlocks hw h (dd_at ddX11_event 117 rfl)
  have tb191 : ∀ (s0 : Nat) (s1 : Int32) (d : Dy) (H : Heap) (locs : List Loc) (ls : Array Slot), b_X11_event_191 E a0 p1 p2 p3 p4 K s0 s1 d → Wd D cs (AW E sz) s.heap s E d H locs → lv_has ls 7 [(0, .ref a0), (1, .int p1), (2, .int p2), (3, .int p3), (4, .int p4)] → W p l e rm_X11_event s m ([.ref a0, .int p1, .int p2, .int p3, .int p4] : List Value).toArray below meth c H locs 0 0 (MQ below (va_Qi K (OutW D cs E (AW E sz)) (AW E sz)) ([.ref a0, .int p1, .int p2, .int p3, .int p4] : List Value).toArray s rm_X11_event.cells rm_X11_event.slots (AW E sz)) (F0 m 191 ls [.int s1, .ref s0]) := by
    intro s0 s1 d H locs ls h hw hl
    unfold b_X11_event_191 at h
    obtain ⟨hos0, h⟩ := h
    refine lv_iconst (v := 2) S.1 S.2.1 (dd_at ddX11_event 100 rfl) (by decide) ?_
    refine r_callI hw (r_runV (As := [.int s1, .int 2]) (rest := []) S hw (m_X11_throwsIf l D cs E d H.size s0 s1 2 _) (cwV 2 S.2.2.2.2 (gV wg421 wg422 wg423 wg5 wg424) rfl rfl rfl (by decide +kernel) ⟨Nat.le_of_ble_eq_true rfl, Nat.le_of_ble_eq_true rfl⟩) (ci := 11) rfl hos0 h rfl hl.1 rfl (Nat.le_of_ble_eq_true rfl) (dd_at ddX11_event 101 rfl) ⟨Nat.le_of_ble_eq_true rfl, Nat.le_of_ble_eq_true rfl⟩) (fun r_7 d_6 H locs h hw => ?_)
    refine lv_if_ne (tgt := 222) S.1 S.2.1 (dd_at ddX11_event 102 rfl) (by decide) (fun hc_8 => ?_) (fun hc_8 => ?_)
    · have h := h.1 hc_8
      refine lv_iconst (v := 0) S.1 S.2.1 (dd_at ddX11_event 116 rfl) (by decide) ?_
      exact e_I S hr hlocks hw h (dd_at ddX11_event 117 rfl)
    · have h := h.2 hc_8
      refine lv_aload_n S.1 S.2.1 (dd_at ddX11_event 103 rfl) rfl (lv_at hl 0 rfl) ?_
      refine lv_aload_n S.1 S.2.1 (dd_at ddX11_event 104 rfl) rfl (lv_at hl 0 rfl) ?_
      obtain ⟨b_9, hb_10, ho_11, h⟩ := h
      refine r_getR S hw 11 1 rfl inG11 (by decide) (List.mem_cons_of_mem _ wg150) (by decide) ha0 hb_10 (dd_at ddX11_event 105 rfl) ?_
      refine lv_iconst (v := 2) S.1 S.2.1 (dd_at ddX11_event 106 rfl) (by decide) ?_
      obtain ⟨hx_12, h⟩ := h
      refine r_iald S hw ho_11 hx_12 (dd_at ddX11_event 107 rfl) ?_
      refine lv_bipush (v := 40) S.1 S.2.1 (dd_at ddX11_event 108 rfl) (by decide) ?_
      refine lv_icmp_ne (tgt := 214) S.1 S.2.1 (dd_at ddX11_event 109 rfl) (by decide) (fun hc_13 => ?_) (fun hc_13 => ?_)
      · have h := h.1 hc_13
        refine lv_iconst (v := 0) S.1 S.2.1 (dd_at ddX11_event 112 rfl) (by decide) ?_
        exact tb215 a0 0 d_6 H locs ls h hw (lv_sub hl [0, 1, 2, 3, 4] rfl)
      · have h := h.2 hc_13
        refine lv_iconst (v := 1) S.1 S.2.1 (dd_at ddX11_event 110 rfl) (by decide) ?_
        refine lv_goto (tgt := 215) S.1 S.2.1 (dd_at ddX11_event 111 rfl) (by decide) ?_
        exact tb215 a0 1 d_6 H locs ls h hw (lv_sub hl [0, 1, 2, 3, 4] rfl)
  have tb186 : ∀ (s0 : Nat) (d : Dy) (H : Heap) (locs : List Loc) (ls : Array Slot), b_X11_event_186 E a0 p1 p2 p3 p4 K s0 d → Wd D cs (AW E sz) s.heap s E d H locs → lv_has ls 7 [(0, .ref a0), (1, .int p1), (2, .int p2), (3, .int p3), (4, .int p4)] → W p l e rm_X11_event s m ([.ref a0, .int p1, .int p2, .int p3, .int p4] : List Value).toArray below meth c H locs 0 0 (MQ below (va_Qi K (OutW D cs E (AW E sz)) (AW E sz)) ([.ref a0, .int p1, .int p2, .int p3, .int p4] : List Value).toArray s rm_X11_event.cells rm_X11_event.slots (AW E sz)) (F0 m 186 ls [.ref s0]) := by
    intro s0 d H locs ls h hw hl
    unfold b_X11_event_186 at h
    obtain ⟨hos0, h⟩ := h
    refine lv_iconst (v := 1) S.1 S.2.1 (dd_at ddX11_event 97 rfl) (by decide) ?_
    refine lv_goto (tgt := 191) S.1 S.2.1 (dd_at ddX11_event 98 rfl) (by decide) ?_
    exact tb191 s0 1 d H locs ls h hw (lv_sub hl [0, 1, 2, 3, 4] rfl)
  have tb190 : ∀ (s0 : Nat) (d : Dy) (H : Heap) (locs : List Loc) (ls : Array Slot), b_X11_event_190 E a0 p1 p2 p3 p4 K s0 d → Wd D cs (AW E sz) s.heap s E d H locs → lv_has ls 7 [(0, .ref a0), (1, .int p1), (2, .int p2), (3, .int p3), (4, .int p4)] → W p l e rm_X11_event s m ([.ref a0, .int p1, .int p2, .int p3, .int p4] : List Value).toArray below meth c H locs 0 0 (MQ below (va_Qi K (OutW D cs E (AW E sz)) (AW E sz)) ([.ref a0, .int p1, .int p2, .int p3, .int p4] : List Value).toArray s rm_X11_event.cells rm_X11_event.slots (AW E sz)) (F0 m 190 ls [.ref s0]) := by
    intro s0 d H locs ls h hw hl
    unfold b_X11_event_190 at h
    obtain ⟨hos0, h⟩ := h
    refine lv_iconst (v := 0) S.1 S.2.1 (dd_at ddX11_event 99 rfl) (by decide) ?_
    exact tb191 s0 0 d H locs ls h hw (lv_sub hl [0, 1, 2, 3, 4] rfl)
  have tb147 : ∀ (v5 : Int32) (s0 : Int32) (d : Dy) (H : Heap) (locs : List Loc) (ls : Array Slot), b_X11_event_147 E a0 p1 p2 p3 p4 K v5 s0 d → Wd D cs (AW E sz) s.heap s E d H locs → lv_has ls 7 [(0, .ref a0), (1, .int p1), (2, .int p2), (3, .int p3), (4, .int p4), (5, .int v5)] → W p l e rm_X11_event s m ([.ref a0, .int p1, .int p2, .int p3, .int p4] : List Value).toArray below meth c H locs 0 0 (MQ below (va_Qi K (OutW D cs E (AW E sz)) (AW E sz)) ([.ref a0, .int p1, .int p2, .int p3, .int p4] : List Value).toArray s rm_X11_event.cells rm_X11_event.slots (AW E sz)) (F0 m 147 ls [.int s0]) := by
    intro v5 s0 d H locs ls h hw hl
    unfold b_X11_event_147 at h
    refine lv_istore (lv' := [(6, .int s0), (0, .ref a0), (1, .int p1), (2, .int p2), (3, .int p3), (4, .int p4), (5, .int v5)]) S.1 S.2.1 (dd_at ddX11_event 77 rfl) hl (by decide) rfl (fun ls hl => ?_)
    refine lv_aload_n S.1 S.2.1 (dd_at ddX11_event 78 rfl) rfl (lv_at hl 1 rfl) ?_
    refine lv_iload S.1 S.2.1 (dd_at ddX11_event 79 rfl) (lv_at hl 0 rfl) ?_
    refine lv_iconst (v := 1) S.1 S.2.1 (dd_at ddX11_event 80 rfl) (by decide) ?_
    refine r_callI hw (r_runV (As := [.int s0, .int 1]) (rest := []) S hw (m_X11_throwsIf l D cs E d H.size a0 s0 1 _) (cwV 2 S.2.2.2.2 (gV wg421 wg422 wg423 wg5 wg424) rfl rfl rfl (by decide +kernel) ⟨Nat.le_of_ble_eq_true rfl, Nat.le_of_ble_eq_true rfl⟩) (ci := 11) rfl ha0 h rfl hl.1 rfl (Nat.le_of_ble_eq_true rfl) (dd_at ddX11_event 81 rfl) ⟨Nat.le_of_ble_eq_true rfl, Nat.le_of_ble_eq_true rfl⟩) (fun r_15 d_14 H locs h hw => ?_)
    refine lv_if_ne (tgt := 222) S.1 S.2.1 (dd_at ddX11_event 82 rfl) (by decide) (fun hc_16 => ?_) (fun hc_16 => ?_)
    · have h := h.1 hc_16
      refine lv_iconst (v := 0) S.1 S.2.1 (dd_at ddX11_event 116 rfl) (by decide) ?_
      exact e_I S hr hlocks hw h (dd_at ddX11_event 117 rfl)
    · have h := h.2 hc_16
      refine lv_aload_n S.1 S.2.1 (dd_at ddX11_event 83 rfl) rfl (lv_at hl 1 rfl) ?_
      refine lv_iload_n S.1 S.2.1 (dd_at ddX11_event 84 rfl) rfl (lv_at hl 3 rfl) ?_
      refine lv_iconst (v := 0) S.1 S.2.1 (dd_at ddX11_event 85 rfl) (by decide) ?_
      refine lv_bipush (v := 6) S.1 S.2.1 (dd_at ddX11_event 86 rfl) (by decide) ?_
      refine r_callI hw (r_runS (As := [.int p2, .int 0, .int 6]) (rest := [.ref a0]) S hw (m_X11_in l D cs E d_14 H.size p2 0 6 _) (va_cwS 3 S.2.2.2.2 (gS wg418 wg419 wg5 wg420) rfl rfl rfl (by decide +kernel) ⟨Nat.le_of_ble_eq_true rfl, Nat.le_of_ble_eq_true rfl⟩) h rfl hl.1 rfl (Nat.le_of_ble_eq_true rfl) (dd_at ddX11_event 87 rfl) ⟨Nat.le_of_ble_eq_true rfl, Nat.le_of_ble_eq_true rfl⟩) (fun r_18 d_17 H locs h hw => ?_)
      refine lv_if_eq (tgt := 186) S.1 S.2.1 (dd_at ddX11_event 88 rfl) (by decide) (fun hc_19 => ?_) (fun hc_19 => ?_)
      · have h := h.1 hc_19
        exact tb186 a0 d_17 H locs ls h hw (lv_sub hl [1, 2, 3, 4, 5] rfl)
      · have h := h.2 hc_19
        refine lv_iload_n S.1 S.2.1 (dd_at ddX11_event 89 rfl) rfl (lv_at hl 3 rfl) ?_
        refine lv_iconst (v := 4) S.1 S.2.1 (dd_at ddX11_event 90 rfl) (by decide) ?_
        refine lv_icmp_eq (tgt := 186) S.1 S.2.1 (dd_at ddX11_event 91 rfl) (by decide) (fun hc_20 => ?_) (fun hc_20 => ?_)
        · have h := h.1 hc_20
          exact tb186 a0 d_17 H locs ls h hw (lv_sub hl [1, 2, 3, 4, 5] rfl)
        · have h := h.2 hc_20
          refine lv_iload S.1 S.2.1 (dd_at ddX11_event 92 rfl) (lv_at hl 6 rfl) ?_
          refine lv_if_eq (tgt := 190) S.1 S.2.1 (dd_at ddX11_event 93 rfl) (by decide) (fun hc_21 => ?_) (fun hc_21 => ?_)
          · have h := h.1 hc_21
            exact tb190 a0 d_17 H locs ls h hw (lv_sub hl [1, 2, 3, 4, 5] rfl)
          · have h := h.2 hc_21
            refine lv_iload_n S.1 S.2.1 (dd_at ddX11_event 94 rfl) rfl (lv_at hl 4 rfl) ?_
            refine lv_iload S.1 S.2.1 (dd_at ddX11_event 95 rfl) (lv_at hl 5 rfl) ?_
            refine lv_icmp_ne (tgt := 190) S.1 S.2.1 (dd_at ddX11_event 96 rfl) (by decide) (fun hc_22 => ?_) (fun hc_22 => ?_)
            · have h := h.1 hc_22
              exact tb190 a0 d_17 H locs ls h hw (lv_sub hl [1, 2, 3, 4, 5] rfl)
            · have h := h.2 hc_22
              exact tb186 a0 d_17 H locs ls h hw (lv_sub hl [1, 2, 3, 4, 5] rfl)
  have tb75 : ∀ (v5 : Int32) (d : Dy) (H : Heap) (locs : List Loc) (ls : Array Slot), b_X11_event_75 E a0 p1 p2 p3 p4 K v5 d → Wd D cs (AW E sz) s.heap s E d H locs → lv_has ls 7 [(0, .ref a0), (1, .int p1), (2, .int p2), (3, .int p3), (4, .int p4), (5, .int v5)] → W p l e rm_X11_event s m ([.ref a0, .int p1, .int p2, .int p3, .int p4] : List Value).toArray below meth c H locs 0 0 (MQ below (va_Qi K (OutW D cs E (AW E sz)) (AW E sz)) ([.ref a0, .int p1, .int p2, .int p3, .int p4] : List Value).toArray s rm_X11_event.cells rm_X11_event.slots (AW E sz)) (F0 m 75 ls []) := by
    intro v5 d H locs ls h hw hl
    unfold b_X11_event_75 at h
    refine lv_iconst (v := 1) S.1 S.2.1 (dd_at ddX11_event 40 rfl) (by decide) ?_
    refine lv_goto (tgt := 147) S.1 S.2.1 (dd_at ddX11_event 41 rfl) (by decide) ?_
    exact tb147 v5 1 d H locs ls h hw (lv_sub hl [0, 1, 2, 3, 4, 5] rfl)
  have tb105 : ∀ (v5 : Int32) (d : Dy) (H : Heap) (locs : List Loc) (ls : Array Slot), b_X11_event_105 E a0 p1 p2 p3 p4 K v5 d → Wd D cs (AW E sz) s.heap s E d H locs → lv_has ls 7 [(0, .ref a0), (1, .int p1), (2, .int p2), (3, .int p3), (4, .int p4), (5, .int v5)] → W p l e rm_X11_event s m ([.ref a0, .int p1, .int p2, .int p3, .int p4] : List Value).toArray below meth c H locs 0 0 (MQ below (va_Qi K (OutW D cs E (AW E sz)) (AW E sz)) ([.ref a0, .int p1, .int p2, .int p3, .int p4] : List Value).toArray s rm_X11_event.cells rm_X11_event.slots (AW E sz)) (F0 m 105 ls []) := by
    intro v5 d H locs ls h hw hl
    unfold b_X11_event_105 at h
    refine lv_iconst (v := 1) S.1 S.2.1 (dd_at ddX11_event 55 rfl) (by decide) ?_
    refine lv_goto (tgt := 147) S.1 S.2.1 (dd_at ddX11_event 56 rfl) (by decide) ?_
    exact tb147 v5 1 d H locs ls h hw (lv_sub hl [0, 1, 2, 3, 4, 5] rfl)
  have tb142 : ∀ (v5 : Int32) (d : Dy) (H : Heap) (locs : List Loc) (ls : Array Slot), b_X11_event_142 E a0 p1 p2 p3 p4 K v5 d → Wd D cs (AW E sz) s.heap s E d H locs → lv_has ls 7 [(0, .ref a0), (1, .int p1), (2, .int p2), (3, .int p3), (4, .int p4), (5, .int v5)] → W p l e rm_X11_event s m ([.ref a0, .int p1, .int p2, .int p3, .int p4] : List Value).toArray below meth c H locs 0 0 (MQ below (va_Qi K (OutW D cs E (AW E sz)) (AW E sz)) ([.ref a0, .int p1, .int p2, .int p3, .int p4] : List Value).toArray s rm_X11_event.cells rm_X11_event.slots (AW E sz)) (F0 m 142 ls []) := by
    intro v5 d H locs ls h hw hl
    unfold b_X11_event_142 at h
    refine lv_iconst (v := 1) S.1 S.2.1 (dd_at ddX11_event 74 rfl) (by decide) ?_
    refine lv_goto (tgt := 147) S.1 S.2.1 (dd_at ddX11_event 75 rfl) (by decide) ?_
    exact tb147 v5 1 d H locs ls h hw (lv_sub hl [0, 1, 2, 3, 4, 5] rfl)
  have tb146 : ∀ (v5 : Int32) (d : Dy) (H : Heap) (locs : List Loc) (ls : Array Slot), b_X11_event_146 E a0 p1 p2 p3 p4 K v5 d → Wd D cs (AW E sz) s.heap s E d H locs → lv_has ls 7 [(0, .ref a0), (1, .int p1), (2, .int p2), (3, .int p3), (4, .int p4), (5, .int v5)] → W p l e rm_X11_event s m ([.ref a0, .int p1, .int p2, .int p3, .int p4] : List Value).toArray below meth c H locs 0 0 (MQ below (va_Qi K (OutW D cs E (AW E sz)) (AW E sz)) ([.ref a0, .int p1, .int p2, .int p3, .int p4] : List Value).toArray s rm_X11_event.cells rm_X11_event.slots (AW E sz)) (F0 m 146 ls []) := by
    intro v5 d H locs ls h hw hl
    unfold b_X11_event_146 at h
    refine lv_iconst (v := 0) S.1 S.2.1 (dd_at ddX11_event 76 rfl) (by decide) ?_
    exact tb147 v5 0 d H locs ls h hw (lv_sub hl [0, 1, 2, 3, 4, 5] rfl)
  have tb39 : ∀ (s0 : Int32) (d : Dy) (H : Heap) (locs : List Loc) (ls : Array Slot), b_X11_event_39 E a0 p1 p2 p3 p4 K s0 d → Wd D cs (AW E sz) s.heap s E d H locs → lv_has ls 7 [(0, .ref a0), (1, .int p1), (2, .int p2), (3, .int p3), (4, .int p4)] → W p l e rm_X11_event s m ([.ref a0, .int p1, .int p2, .int p3, .int p4] : List Value).toArray below meth c H locs 0 0 (MQ below (va_Qi K (OutW D cs E (AW E sz)) (AW E sz)) ([.ref a0, .int p1, .int p2, .int p3, .int p4] : List Value).toArray s rm_X11_event.cells rm_X11_event.slots (AW E sz)) (F0 m 39 ls [.int s0]) := by
    intro s0 d H locs ls h hw hl
    unfold b_X11_event_39 at h
    refine lv_istore (lv' := [(5, .int s0), (0, .ref a0), (1, .int p1), (2, .int p2), (3, .int p3), (4, .int p4)]) S.1 S.2.1 (dd_at ddX11_event 23 rfl) hl (by decide) rfl (fun ls hl => ?_)
    refine lv_iload_n S.1 S.2.1 (dd_at ddX11_event 24 rfl) rfl (lv_at hl 3 rfl) ?_
    refine lv_if_ne (tgt := 53) S.1 S.2.1 (dd_at ddX11_event 25 rfl) (by decide) (fun hc_23 => ?_) (fun hc_23 => ?_)
    · have h := h.1 hc_23
      refine lv_iload S.1 S.2.1 (dd_at ddX11_event 30 rfl) (lv_at hl 0 rfl) ?_
      refine lv_if_eq (tgt := 83) S.1 S.2.1 (dd_at ddX11_event 31 rfl) (by decide) (fun hc_24 => ?_) (fun hc_24 => ?_)
      · have h := h.1 hc_24
        refine lv_iload_n S.1 S.2.1 (dd_at ddX11_event 44 rfl) rfl (lv_at hl 3 rfl) ?_
        refine lv_iconst (v := 5) S.1 S.2.1 (dd_at ddX11_event 45 rfl) (by decide) ?_
        refine lv_icmp_ne (tgt := 113) S.1 S.2.1 (dd_at ddX11_event 46 rfl) (by decide) (fun hc_25 => ?_) (fun hc_25 => ?_)
        · have h := h.1 hc_25
          refine lv_iload_n S.1 S.2.1 (dd_at ddX11_event 59 rfl) rfl (lv_at hl 3 rfl) ?_
          refine lv_bipush (v := 6) S.1 S.2.1 (dd_at ddX11_event 60 rfl) (by decide) ?_
          refine lv_icmp_ne (tgt := 146) S.1 S.2.1 (dd_at ddX11_event 61 rfl) (by decide) (fun hc_26 => ?_) (fun hc_26 => ?_)
          · have h := h.1 hc_26
            exact tb146 s0 d H locs ls h hw (lv_sub hl [1, 2, 3, 4, 5, 0] rfl)
          · have h := h.2 hc_26
            refine lv_aload_n S.1 S.2.1 (dd_at ddX11_event 62 rfl) rfl (lv_at hl 1 rfl) ?_
            refine lv_iload_n S.1 S.2.1 (dd_at ddX11_event 63 rfl) rfl (lv_at hl 4 rfl) ?_
            refine r_callI hw (r_runV (As := [.int p3]) (rest := []) S hw (m_X11_noHut l D cs E d H.size a0 p3 _) (cwV 1 S.2.2.2.2 (gV wg631 wg632 wg633 wg5 wg634) rfl rfl rfl (by decide +kernel) ⟨Nat.le_of_ble_eq_true rfl, Nat.le_of_ble_eq_true rfl⟩) (ci := 11) rfl ha0 h rfl hl.1 rfl (Nat.le_of_ble_eq_true rfl) (dd_at ddX11_event 64 rfl) ⟨Nat.le_of_ble_eq_true rfl, Nat.le_of_ble_eq_true rfl⟩) (fun r_28 d_27 H locs h hw => ?_)
            refine lv_if_ne (tgt := 142) S.1 S.2.1 (dd_at ddX11_event 65 rfl) (by decide) (fun hc_29 => ?_) (fun hc_29 => ?_)
            · have h := h.1 hc_29
              exact tb142 s0 d_27 H locs ls h hw (lv_sub hl [1, 2, 3, 4, 5, 0] rfl)
            · have h := h.2 hc_29
              refine lv_iload S.1 S.2.1 (dd_at ddX11_event 66 rfl) (lv_at hl 5 rfl) ?_
              refine lv_iconst (v := 0) S.1 S.2.1 (dd_at ddX11_event 67 rfl) (by decide) ?_
              refine lv_aload_n S.1 S.2.1 (dd_at ddX11_event 68 rfl) rfl (lv_at hl 1 rfl) ?_
              refine r_callI hw (r_runV (As := []) (rest := [.int 0, .int p4]) S hw (m_X11_huts l D cs E d_27 H.size a0 _) (cwV 0 S.2.2.2.2 (gV wg596 wg597 wg598 wg5 wg599) rfl rfl rfl (by decide +kernel) ⟨Nat.le_of_ble_eq_true rfl, Nat.le_of_ble_eq_true rfl⟩) (ci := 11) rfl ha0 h rfl hl.1 rfl (Nat.le_of_ble_eq_true rfl) (dd_at ddX11_event 69 rfl) ⟨Nat.le_of_ble_eq_true rfl, Nat.le_of_ble_eq_true rfl⟩) (fun r_31 d_30 H locs h hw => ?_)
              refine lv_iconst (v := 1) S.1 S.2.1 (dd_at ddX11_event 70 rfl) (by decide) ?_
              refine lv_isub S.1 S.2.1 (dd_at ddX11_event 71 rfl) ?_
              refine r_callI hw (r_runS (As := [.int p4, .int 0, .int (r_31 - 1)]) (rest := []) S hw (m_X11_in l D cs E d_30 H.size p4 0 (r_31 - 1) _) (va_cwS 3 S.2.2.2.2 (gS wg418 wg419 wg5 wg420) rfl rfl rfl (by decide +kernel) ⟨Nat.le_of_ble_eq_true rfl, Nat.le_of_ble_eq_true rfl⟩) h rfl hl.1 rfl (Nat.le_of_ble_eq_true rfl) (dd_at ddX11_event 72 rfl) ⟨Nat.le_of_ble_eq_true rfl, Nat.le_of_ble_eq_true rfl⟩) (fun r_33 d_32 H locs h hw => ?_)
              refine lv_if_ne (tgt := 146) S.1 S.2.1 (dd_at ddX11_event 73 rfl) (by decide) (fun hc_34 => ?_) (fun hc_34 => ?_)
              · have h := h.1 hc_34
                exact tb146 s0 d_32 H locs ls h hw (lv_sub hl [1, 2, 3, 4, 5, 0] rfl)
              · have h := h.2 hc_34
                exact tb142 s0 d_32 H locs ls h hw (lv_sub hl [1, 2, 3, 4, 5, 0] rfl)
        · have h := h.2 hc_25
          refine lv_aload_n S.1 S.2.1 (dd_at ddX11_event 47 rfl) rfl (lv_at hl 1 rfl) ?_
          refine lv_iload_n S.1 S.2.1 (dd_at ddX11_event 48 rfl) rfl (lv_at hl 4 rfl) ?_
          refine r_callI hw (r_runV (As := [.int p3]) (rest := []) S hw (m_X11_noHut l D cs E d H.size a0 p3 _) (cwV 1 S.2.2.2.2 (gV wg631 wg632 wg633 wg5 wg634) rfl rfl rfl (by decide +kernel) ⟨Nat.le_of_ble_eq_true rfl, Nat.le_of_ble_eq_true rfl⟩) (ci := 11) rfl ha0 h rfl hl.1 rfl (Nat.le_of_ble_eq_true rfl) (dd_at ddX11_event 49 rfl) ⟨Nat.le_of_ble_eq_true rfl, Nat.le_of_ble_eq_true rfl⟩) (fun r_36 d_35 H locs h hw => ?_)
          refine lv_if_ne (tgt := 105) S.1 S.2.1 (dd_at ddX11_event 50 rfl) (by decide) (fun hc_37 => ?_) (fun hc_37 => ?_)
          · have h := h.1 hc_37
            exact tb105 s0 d_35 H locs ls h hw (lv_sub hl [1, 2, 3, 4, 5, 0] rfl)
          · have h := h.2 hc_37
            refine lv_aload_n S.1 S.2.1 (dd_at ddX11_event 51 rfl) rfl (lv_at hl 1 rfl) ?_
            refine lv_iload S.1 S.2.1 (dd_at ddX11_event 52 rfl) (lv_at hl 5 rfl) ?_
            refine r_callI hw (r_runV (As := [.int p4]) (rest := []) S hw (m_X11_noPerson l D cs E d_35 H.size a0 p4 _) (cwV 1 S.2.2.2.2 (gV wg588 wg589 wg590 wg5 wg591) rfl rfl rfl (by decide +kernel) ⟨Nat.le_of_ble_eq_true rfl, Nat.le_of_ble_eq_true rfl⟩) (ci := 11) rfl ha0 h rfl hl.1 rfl (Nat.le_of_ble_eq_true rfl) (dd_at ddX11_event 53 rfl) ⟨Nat.le_of_ble_eq_true rfl, Nat.le_of_ble_eq_true rfl⟩) (fun r_39 d_38 H locs h hw => ?_)
            refine lv_if_eq (tgt := 109) S.1 S.2.1 (dd_at ddX11_event 54 rfl) (by decide) (fun hc_40 => ?_) (fun hc_40 => ?_)
            · have h := h.1 hc_40
              refine lv_iconst (v := 0) S.1 S.2.1 (dd_at ddX11_event 57 rfl) (by decide) ?_
              refine lv_goto (tgt := 147) S.1 S.2.1 (dd_at ddX11_event 58 rfl) (by decide) ?_
              exact tb147 s0 0 d_38 H locs ls h hw (lv_sub hl [1, 2, 3, 4, 5, 0] rfl)
            · have h := h.2 hc_40
              exact tb105 s0 d_38 H locs ls h hw (lv_sub hl [1, 2, 3, 4, 5, 0] rfl)
      · have h := h.2 hc_24
        refine lv_aload_n S.1 S.2.1 (dd_at ddX11_event 32 rfl) rfl (lv_at hl 1 rfl) ?_
        refine lv_iload_n S.1 S.2.1 (dd_at ddX11_event 33 rfl) rfl (lv_at hl 4 rfl) ?_
        refine r_callI hw (r_runV (As := [.int p3]) (rest := []) S hw (m_X11_noPerson l D cs E d H.size a0 p3 _) (cwV 1 S.2.2.2.2 (gV wg588 wg589 wg590 wg5 wg591) rfl rfl rfl (by decide +kernel) ⟨Nat.le_of_ble_eq_true rfl, Nat.le_of_ble_eq_true rfl⟩) (ci := 11) rfl ha0 h rfl hl.1 rfl (Nat.le_of_ble_eq_true rfl) (dd_at ddX11_event 34 rfl) ⟨Nat.le_of_ble_eq_true rfl, Nat.le_of_ble_eq_true rfl⟩) (fun r_42 d_41 H locs h hw => ?_)
        refine lv_if_ne (tgt := 75) S.1 S.2.1 (dd_at ddX11_event 35 rfl) (by decide) (fun hc_43 => ?_) (fun hc_43 => ?_)
        · have h := h.1 hc_43
          exact tb75 s0 d_41 H locs ls h hw (lv_sub hl [1, 2, 3, 4, 5, 0] rfl)
        · have h := h.2 hc_43
          refine lv_aload_n S.1 S.2.1 (dd_at ddX11_event 36 rfl) rfl (lv_at hl 1 rfl) ?_
          refine lv_iload S.1 S.2.1 (dd_at ddX11_event 37 rfl) (lv_at hl 5 rfl) ?_
          refine r_callI hw (r_runV (As := [.int p4]) (rest := []) S hw (m_X11_noPerson l D cs E d_41 H.size a0 p4 _) (cwV 1 S.2.2.2.2 (gV wg588 wg589 wg590 wg5 wg591) rfl rfl rfl (by decide +kernel) ⟨Nat.le_of_ble_eq_true rfl, Nat.le_of_ble_eq_true rfl⟩) (ci := 11) rfl ha0 h rfl hl.1 rfl (Nat.le_of_ble_eq_true rfl) (dd_at ddX11_event 38 rfl) ⟨Nat.le_of_ble_eq_true rfl, Nat.le_of_ble_eq_true rfl⟩) (fun r_45 d_44 H locs h hw => ?_)
          refine lv_if_eq (tgt := 79) S.1 S.2.1 (dd_at ddX11_event 39 rfl) (by decide) (fun hc_46 => ?_) (fun hc_46 => ?_)
          · have h := h.1 hc_46
            refine lv_iconst (v := 0) S.1 S.2.1 (dd_at ddX11_event 42 rfl) (by decide) ?_
            refine lv_goto (tgt := 147) S.1 S.2.1 (dd_at ddX11_event 43 rfl) (by decide) ?_
            exact tb147 s0 0 d_44 H locs ls h hw (lv_sub hl [1, 2, 3, 4, 5, 0] rfl)
          · have h := h.2 hc_46
            exact tb75 s0 d_44 H locs ls h hw (lv_sub hl [1, 2, 3, 4, 5, 0] rfl)
    · have h := h.2 hc_23
      refine lv_aload_n S.1 S.2.1 (dd_at ddX11_event 26 rfl) rfl (lv_at hl 1 rfl) ?_
      refine lv_iload_n S.1 S.2.1 (dd_at ddX11_event 27 rfl) rfl (lv_at hl 4 rfl) ?_
      refine r_callI hw (r_runV (As := [.int p3]) (rest := []) S hw (m_X11_noPerson l D cs E d H.size a0 p3 _) (cwV 1 S.2.2.2.2 (gV wg588 wg589 wg590 wg5 wg591) rfl rfl rfl (by decide +kernel) ⟨Nat.le_of_ble_eq_true rfl, Nat.le_of_ble_eq_true rfl⟩) (ci := 11) rfl ha0 h rfl hl.1 rfl (Nat.le_of_ble_eq_true rfl) (dd_at ddX11_event 28 rfl) ⟨Nat.le_of_ble_eq_true rfl, Nat.le_of_ble_eq_true rfl⟩) (fun r_48 d_47 H locs h hw => ?_)
      refine lv_goto (tgt := 147) S.1 S.2.1 (dd_at ddX11_event 29 rfl) (by decide) ?_
      exact tb147 s0 r_48 d_47 H locs ls h hw (lv_sub hl [1, 2, 3, 4, 5, 0] rfl)
  have tb34 : ∀ (d : Dy) (H : Heap) (locs : List Loc) (ls : Array Slot), b_X11_event_34 E a0 p1 p2 p3 p4 K d → Wd D cs (AW E sz) s.heap s E d H locs → lv_has ls 7 [(0, .ref a0), (1, .int p1), (2, .int p2), (3, .int p3), (4, .int p4)] → W p l e rm_X11_event s m ([.ref a0, .int p1, .int p2, .int p3, .int p4] : List Value).toArray below meth c H locs 0 0 (MQ below (va_Qi K (OutW D cs E (AW E sz)) (AW E sz)) ([.ref a0, .int p1, .int p2, .int p3, .int p4] : List Value).toArray s rm_X11_event.cells rm_X11_event.slots (AW E sz)) (F0 m 34 ls []) := by
    intro d H locs ls h hw hl
    unfold b_X11_event_34 at h
    refine lv_iconst (v := 1) S.1 S.2.1 (dd_at ddX11_event 20 rfl) (by decide) ?_
    refine lv_goto (tgt := 39) S.1 S.2.1 (dd_at ddX11_event 21 rfl) (by decide) ?_
    exact tb39 1 d H locs ls h hw (lv_sub hl [0, 1, 2, 3, 4] rfl)
  refine lv_aload_n S.1 S.2.1 (dd_at ddX11_event 0 rfl) rfl (lv_at hl 0 rfl) ?_
  refine lv_iconst (v := 0) S.1 S.2.1 (dd_at ddX11_event 1 rfl) (by decide) ?_
  refine r_putI S hw 11 0 (ty := .int) (v := 0) rfl inG11 tyX11 tyX11_ok nmX11 (by decide) (List.mem_cons_of_mem _ wg201) (by decide) rfl (by decide +kernel) rfl rfl ha0 (dd_at ddX11_event 2 rfl) (fun H locs hw => ?_)
  refine lv_aload_n S.1 S.2.1 (dd_at ddX11_event 3 rfl) rfl (lv_at hl 0 rfl) ?_
  refine lv_iload_n S.1 S.2.1 (dd_at ddX11_event 4 rfl) rfl (lv_at hl 1 rfl) ?_
  refine r_callI hw (r_runS (As := [.int p1]) (rest := [.ref a0]) S hw (m_X11_noYear l D cs E (pI d a0 0 0) H.size p1 _) (va_cwS 1 S.2.2.2.2 (gS wg555 wg556 wg5 wg557) rfl rfl rfl (by decide +kernel) ⟨Nat.le_of_ble_eq_true rfl, Nat.le_of_ble_eq_true rfl⟩) h rfl hl.1 rfl (Nat.le_of_ble_eq_true rfl) (dd_at ddX11_event 5 rfl) ⟨Nat.le_of_ble_eq_true rfl, Nat.le_of_ble_eq_true rfl⟩) (fun r_50 d_49 H locs h hw => ?_)
  refine lv_iconst (v := 1) S.1 S.2.1 (dd_at ddX11_event 6 rfl) (by decide) ?_
  refine r_callI hw (r_runV (As := [.int r_50, .int 1]) (rest := []) S hw (m_X11_throwsIf l D cs E d_49 H.size a0 r_50 1 _) (cwV 2 S.2.2.2.2 (gV wg421 wg422 wg423 wg5 wg424) rfl rfl rfl (by decide +kernel) ⟨Nat.le_of_ble_eq_true rfl, Nat.le_of_ble_eq_true rfl⟩) (ci := 11) rfl ha0 h rfl hl.1 rfl (Nat.le_of_ble_eq_true rfl) (dd_at ddX11_event 7 rfl) ⟨Nat.le_of_ble_eq_true rfl, Nat.le_of_ble_eq_true rfl⟩) (fun r_52 d_51 H locs h hw => ?_)
  refine lv_if_eq (tgt := 19) S.1 S.2.1 (dd_at ddX11_event 8 rfl) (by decide) (fun hc_53 => ?_) (fun hc_53 => ?_)
  · have h := h.1 hc_53
    refine lv_iload_n S.1 S.2.1 (dd_at ddX11_event 11 rfl) rfl (lv_at hl 2 rfl) ?_
    refine lv_iconst (v := 1) S.1 S.2.1 (dd_at ddX11_event 12 rfl) (by decide) ?_
    refine lv_icmp_eq (tgt := 34) S.1 S.2.1 (dd_at ddX11_event 13 rfl) (by decide) (fun hc_54 => ?_) (fun hc_54 => ?_)
    · have h := h.1 hc_54
      exact tb34 d_51 H locs ls h hw (lv_sub hl [0, 1, 2, 3, 4] rfl)
    · have h := h.2 hc_54
      refine lv_iload_n S.1 S.2.1 (dd_at ddX11_event 14 rfl) rfl (lv_at hl 2 rfl) ?_
      refine lv_iconst (v := 2) S.1 S.2.1 (dd_at ddX11_event 15 rfl) (by decide) ?_
      refine lv_icmp_eq (tgt := 34) S.1 S.2.1 (dd_at ddX11_event 16 rfl) (by decide) (fun hc_55 => ?_) (fun hc_55 => ?_)
      · have h := h.1 hc_55
        exact tb34 d_51 H locs ls h hw (lv_sub hl [0, 1, 2, 3, 4] rfl)
      · have h := h.2 hc_55
        refine lv_iload_n S.1 S.2.1 (dd_at ddX11_event 17 rfl) rfl (lv_at hl 2 rfl) ?_
        refine lv_iconst (v := 3) S.1 S.2.1 (dd_at ddX11_event 18 rfl) (by decide) ?_
        refine lv_icmp_ne (tgt := 38) S.1 S.2.1 (dd_at ddX11_event 19 rfl) (by decide) (fun hc_56 => ?_) (fun hc_56 => ?_)
        · have h := h.1 hc_56
          refine lv_iconst (v := 0) S.1 S.2.1 (dd_at ddX11_event 22 rfl) (by decide) ?_
          exact tb39 0 d_51 H locs ls h hw (lv_sub hl [0, 1, 2, 3, 4] rfl)
        · have h := h.2 hc_56
          exact tb34 d_51 H locs ls h hw (lv_sub hl [0, 1, 2, 3, 4] rfl)
  · have h := h.2 hc_53
    refine lv_iconst (v := 0) S.1 S.2.1 (dd_at ddX11_event 9 rfl) (by decide) ?_
    exact e_I S hr hlocks hw h (dd_at ddX11_event 10 rfl)

def b_X11_sale_83 (E : En) (a0 : Nat) (p1 : Int32) (p2 : Int32) (p3 : Int32) (p4 : Int32) (K : Int32 → Dy → Prop) (s0 : Nat) (s1 : Int32) (d : Dy) : Prop := okO E s0 11 ∧ w_X11_throwsIf E s0 s1 3 d (fun r_2 d_1 => ((r_2 = 0 → w_X11_tells E a0 p1 4 p2 p3 p4 d_1 (fun r_5 d_4 => K r_5 d_4)) ∧ (¬ r_2 = 0 → K 0 d_1)))
def b_X11_sale_59 (E : En) (a0 : Nat) (p1 : Int32) (p2 : Int32) (p3 : Int32) (p4 : Int32) (K : Int32 → Dy → Prop) (s0 : Nat) (s1 : Int32) (d : Dy) : Prop := okO E s0 11 ∧ w_X11_throwsIf E s0 s1 2 d (fun r_7 d_6 => ((¬ r_7 = 0 → K 0 d_6) ∧ (r_7 = 0 → ∃ b_9 : Nat, eR E a0 1 = some b_9 ∧ okA E b_9 13 ∧ vp_in 2 (eN E b_9) ∧ ((¬ (gA d_6 b_9 ((2 : Int32)).toNatClampNeg) = 40 → b_X11_sale_83 E a0 p1 p2 p3 p4 K a0 0 d_6) ∧ ((gA d_6 b_9 ((2 : Int32)).toNatClampNeg) = 40 → b_X11_sale_83 E a0 p1 p2 p3 p4 K a0 1 d_6)))))
def b_X11_sale_34 (E : En) (a0 : Nat) (p1 : Int32) (p2 : Int32) (p3 : Int32) (p4 : Int32) (K : Int32 → Dy → Prop) (s0 : Nat) (s1 : Int32) (d : Dy) : Prop := okO E s0 11 ∧ w_X11_throwsIf E s0 s1 1 d (fun r_15 d_14 => ((¬ r_15 = 0 → K 0 d_14) ∧ (r_15 = 0 → w_X11_in E p4 0 9999 d_14 (fun r_18 d_17 => ((¬ r_18 = 0 → b_X11_sale_59 E a0 p1 p2 p3 p4 K a0 0 d_17) ∧ (r_18 = 0 → b_X11_sale_59 E a0 p1 p2 p3 p4 K a0 1 d_17))))))
def b_X11_sale_29 (E : En) (a0 : Nat) (p1 : Int32) (p2 : Int32) (p3 : Int32) (p4 : Int32) (K : Int32 → Dy → Prop) (s0 : Nat) (d : Dy) : Prop := okO E s0 11 ∧ b_X11_sale_34 E a0 p1 p2 p3 p4 K s0 1 d
def w_X11_sale (E : En) (a0 : Nat) (p1 : Int32) (p2 : Int32) (p3 : Int32) (p4 : Int32) (d : Dy) (K : Int32 → Dy → Prop) : Prop := okO E a0 11 ∧ w_X11_noYear E p1 (pI d a0 0 0) (fun r_21 d_20 => ((¬ r_21 = 0 → b_X11_sale_29 E a0 p1 p2 p3 p4 K a0 d_20) ∧ (r_21 = 0 → w_X11_noHut E a0 p2 d_20 (fun r_24 d_23 => ((¬ r_24 = 0 → b_X11_sale_29 E a0 p1 p2 p3 p4 K a0 d_23) ∧ (r_24 = 0 → w_X11_noPerson E a0 p3 d_23 (fun r_27 d_26 => ((r_27 = 0 → b_X11_sale_34 E a0 p1 p2 p3 p4 K a0 0 d_26) ∧ (¬ r_27 = 0 → b_X11_sale_29 E a0 p1 p2 p3 p4 K a0 d_26)))))))))
abbrev rm_X11_sale : Room := { frames := 3, cells := 0, slots := 0, locals := 65 }
set_option maxRecDepth 100000 in
set_option maxHeartbeats 4000000 in
theorem m_X11_sale (l : Launch) (D : va_G) (cs : Nat → ClassId) (E : En) (d : Dy) (sz : Nat) (a0 : Nat) (p1 : Int32) (p2 : Int32) (p3 : Int32) (p4 : Int32) (K : Int32 → Dy → Prop) : CI l yX11_sale (.code yX11_sale cX11_sale 5 (some .int) :: wsL_law) rm_X11_sale D cs E d sz [.ref a0, .int p1, .int p2, .int p3, .int p4] (w_X11_sale E a0 p1 p2 p3 p4 d K) K := by
  refine e_of (cc := cX11_sale) (maxL := 5) (ret := (some .int)) (own := RX11) (by decide) rfl rfl (Nat.le_of_ble_eq_true rfl) ?_
  intro p e s m below meth c S hr hlocks hsz H locs hw h ls hl
  have hl : lv_has ls 5 [(0, .ref a0), (1, .int p1), (2, .int p2), (3, .int p3), (4, .int p4)] := hl
  unfold w_X11_sale at h
  obtain ⟨ha0, h⟩ := h
  have tb83 : ∀ (s0 : Nat) (s1 : Int32) (d : Dy) (H : Heap) (locs : List Loc) (ls : Array Slot), b_X11_sale_83 E a0 p1 p2 p3 p4 K s0 s1 d → Wd D cs (AW E sz) s.heap s E d H locs → lv_has ls 5 [(0, .ref a0), (1, .int p1), (2, .int p2), (3, .int p3), (4, .int p4)] → W p l e rm_X11_sale s m ([.ref a0, .int p1, .int p2, .int p3, .int p4] : List Value).toArray below meth c H locs 0 0 (MQ below (va_Qi K (OutW D cs E (AW E sz)) (AW E sz)) ([.ref a0, .int p1, .int p2, .int p3, .int p4] : List Value).toArray s rm_X11_sale.cells rm_X11_sale.slots (AW E sz)) (F0 m 83 ls [.int s1, .ref s0]) := by
    intro s0 s1 d H locs ls h hw hl
    unfold b_X11_sale_83 at h
    obtain ⟨hos0, h⟩ := h
    refine lv_iconst (v := 3) S.1 S.2.1 (dd_at ddX11_sale 43 rfl) (by decide) ?_
    refine r_callI hw (r_runV (As := [.int s1, .int 3]) (rest := []) S hw (m_X11_throwsIf l D cs E d H.size s0 s1 3 _) (cwV 2 S.2.2.2.2 (gV wg421 wg422 wg423 wg5 wg424) rfl rfl rfl (by decide +kernel) ⟨Nat.le_of_ble_eq_true rfl, Nat.le_of_ble_eq_true rfl⟩) (ci := 11) rfl hos0 h rfl hl.1 rfl (Nat.le_of_ble_eq_true rfl) (dd_at ddX11_sale 44 rfl) ⟨Nat.le_of_ble_eq_true rfl, Nat.le_of_ble_eq_true rfl⟩) (fun r_2 d_1 H locs h hw => ?_)
    refine lv_if_eq (tgt := 92) S.1 S.2.1 (dd_at ddX11_sale 45 rfl) (by decide) (fun hc_3 => ?_) (fun hc_3 => ?_)
    · have h := h.1 hc_3
      refine lv_aload_n S.1 S.2.1 (dd_at ddX11_sale 48 rfl) rfl (lv_at hl 0 rfl) ?_
      refine lv_iload_n S.1 S.2.1 (dd_at ddX11_sale 49 rfl) rfl (lv_at hl 1 rfl) ?_
      refine lv_iconst (v := 4) S.1 S.2.1 (dd_at ddX11_sale 50 rfl) (by decide) ?_
      refine lv_iload_n S.1 S.2.1 (dd_at ddX11_sale 51 rfl) rfl (lv_at hl 2 rfl) ?_
      refine lv_iload_n S.1 S.2.1 (dd_at ddX11_sale 52 rfl) rfl (lv_at hl 3 rfl) ?_
      refine lv_iload S.1 S.2.1 (dd_at ddX11_sale 53 rfl) (lv_at hl 4 rfl) ?_
      refine r_callI hw (r_runV (As := [.int p1, .int 4, .int p2, .int p3, .int p4]) (rest := []) S hw (m_X11_tells l D cs E d_1 H.size a0 p1 4 p2 p3 p4 _) (cwV 5 S.2.2.2.2 (gV wg635 wg636 wg637 wg5 wg638) rfl rfl rfl (by decide +kernel) ⟨Nat.le_of_ble_eq_true rfl, Nat.le_of_ble_eq_true rfl⟩) (ci := 11) rfl ha0 h rfl hl.1 rfl (Nat.le_of_ble_eq_true rfl) (dd_at ddX11_sale 54 rfl) ⟨Nat.le_of_ble_eq_true rfl, Nat.le_of_ble_eq_true rfl⟩) (fun r_5 d_4 H locs h hw => ?_)
      exact e_I S hr hlocks hw h (dd_at ddX11_sale 55 rfl)
    · have h := h.2 hc_3
      refine lv_iconst (v := 0) S.1 S.2.1 (dd_at ddX11_sale 46 rfl) (by decide) ?_
      exact e_I S hr hlocks hw h (dd_at ddX11_sale 47 rfl)
  have tb59 : ∀ (s0 : Nat) (s1 : Int32) (d : Dy) (H : Heap) (locs : List Loc) (ls : Array Slot), b_X11_sale_59 E a0 p1 p2 p3 p4 K s0 s1 d → Wd D cs (AW E sz) s.heap s E d H locs → lv_has ls 5 [(0, .ref a0), (1, .int p1), (2, .int p2), (3, .int p3), (4, .int p4)] → W p l e rm_X11_sale s m ([.ref a0, .int p1, .int p2, .int p3, .int p4] : List Value).toArray below meth c H locs 0 0 (MQ below (va_Qi K (OutW D cs E (AW E sz)) (AW E sz)) ([.ref a0, .int p1, .int p2, .int p3, .int p4] : List Value).toArray s rm_X11_sale.cells rm_X11_sale.slots (AW E sz)) (F0 m 59 ls [.int s1, .ref s0]) := by
    intro s0 s1 d H locs ls h hw hl
    unfold b_X11_sale_59 at h
    obtain ⟨hos0, h⟩ := h
    refine lv_iconst (v := 2) S.1 S.2.1 (dd_at ddX11_sale 30 rfl) (by decide) ?_
    refine r_callI hw (r_runV (As := [.int s1, .int 2]) (rest := []) S hw (m_X11_throwsIf l D cs E d H.size s0 s1 2 _) (cwV 2 S.2.2.2.2 (gV wg421 wg422 wg423 wg5 wg424) rfl rfl rfl (by decide +kernel) ⟨Nat.le_of_ble_eq_true rfl, Nat.le_of_ble_eq_true rfl⟩) (ci := 11) rfl hos0 h rfl hl.1 rfl (Nat.le_of_ble_eq_true rfl) (dd_at ddX11_sale 31 rfl) ⟨Nat.le_of_ble_eq_true rfl, Nat.le_of_ble_eq_true rfl⟩) (fun r_7 d_6 H locs h hw => ?_)
    refine lv_if_ne (tgt := 90) S.1 S.2.1 (dd_at ddX11_sale 32 rfl) (by decide) (fun hc_8 => ?_) (fun hc_8 => ?_)
    · have h := h.1 hc_8
      refine lv_iconst (v := 0) S.1 S.2.1 (dd_at ddX11_sale 46 rfl) (by decide) ?_
      exact e_I S hr hlocks hw h (dd_at ddX11_sale 47 rfl)
    · have h := h.2 hc_8
      refine lv_aload_n S.1 S.2.1 (dd_at ddX11_sale 33 rfl) rfl (lv_at hl 0 rfl) ?_
      refine lv_aload_n S.1 S.2.1 (dd_at ddX11_sale 34 rfl) rfl (lv_at hl 0 rfl) ?_
      obtain ⟨b_9, hb_10, ho_11, h⟩ := h
      refine r_getR S hw 11 1 rfl inG11 (by decide) (List.mem_cons_of_mem _ wg150) (by decide) ha0 hb_10 (dd_at ddX11_sale 35 rfl) ?_
      refine lv_iconst (v := 2) S.1 S.2.1 (dd_at ddX11_sale 36 rfl) (by decide) ?_
      obtain ⟨hx_12, h⟩ := h
      refine r_iald S hw ho_11 hx_12 (dd_at ddX11_sale 37 rfl) ?_
      refine lv_bipush (v := 40) S.1 S.2.1 (dd_at ddX11_sale 38 rfl) (by decide) ?_
      refine lv_icmp_ne (tgt := 82) S.1 S.2.1 (dd_at ddX11_sale 39 rfl) (by decide) (fun hc_13 => ?_) (fun hc_13 => ?_)
      · have h := h.1 hc_13
        refine lv_iconst (v := 0) S.1 S.2.1 (dd_at ddX11_sale 42 rfl) (by decide) ?_
        exact tb83 a0 0 d_6 H locs ls h hw (lv_sub hl [0, 1, 2, 3, 4] rfl)
      · have h := h.2 hc_13
        refine lv_iconst (v := 1) S.1 S.2.1 (dd_at ddX11_sale 40 rfl) (by decide) ?_
        refine lv_goto (tgt := 83) S.1 S.2.1 (dd_at ddX11_sale 41 rfl) (by decide) ?_
        exact tb83 a0 1 d_6 H locs ls h hw (lv_sub hl [0, 1, 2, 3, 4] rfl)
  have tb34 : ∀ (s0 : Nat) (s1 : Int32) (d : Dy) (H : Heap) (locs : List Loc) (ls : Array Slot), b_X11_sale_34 E a0 p1 p2 p3 p4 K s0 s1 d → Wd D cs (AW E sz) s.heap s E d H locs → lv_has ls 5 [(0, .ref a0), (1, .int p1), (2, .int p2), (3, .int p3), (4, .int p4)] → W p l e rm_X11_sale s m ([.ref a0, .int p1, .int p2, .int p3, .int p4] : List Value).toArray below meth c H locs 0 0 (MQ below (va_Qi K (OutW D cs E (AW E sz)) (AW E sz)) ([.ref a0, .int p1, .int p2, .int p3, .int p4] : List Value).toArray s rm_X11_sale.cells rm_X11_sale.slots (AW E sz)) (F0 m 34 ls [.int s1, .ref s0]) := by
    intro s0 s1 d H locs ls h hw hl
    unfold b_X11_sale_34 at h
    obtain ⟨hos0, h⟩ := h
    refine lv_iconst (v := 1) S.1 S.2.1 (dd_at ddX11_sale 18 rfl) (by decide) ?_
    refine r_callI hw (r_runV (As := [.int s1, .int 1]) (rest := []) S hw (m_X11_throwsIf l D cs E d H.size s0 s1 1 _) (cwV 2 S.2.2.2.2 (gV wg421 wg422 wg423 wg5 wg424) rfl rfl rfl (by decide +kernel) ⟨Nat.le_of_ble_eq_true rfl, Nat.le_of_ble_eq_true rfl⟩) (ci := 11) rfl hos0 h rfl hl.1 rfl (Nat.le_of_ble_eq_true rfl) (dd_at ddX11_sale 19 rfl) ⟨Nat.le_of_ble_eq_true rfl, Nat.le_of_ble_eq_true rfl⟩) (fun r_15 d_14 H locs h hw => ?_)
    refine lv_if_ne (tgt := 90) S.1 S.2.1 (dd_at ddX11_sale 20 rfl) (by decide) (fun hc_16 => ?_) (fun hc_16 => ?_)
    · have h := h.1 hc_16
      refine lv_iconst (v := 0) S.1 S.2.1 (dd_at ddX11_sale 46 rfl) (by decide) ?_
      exact e_I S hr hlocks hw h (dd_at ddX11_sale 47 rfl)
    · have h := h.2 hc_16
      refine lv_aload_n S.1 S.2.1 (dd_at ddX11_sale 21 rfl) rfl (lv_at hl 0 rfl) ?_
      refine lv_iload S.1 S.2.1 (dd_at ddX11_sale 22 rfl) (lv_at hl 4 rfl) ?_
      refine lv_iconst (v := 0) S.1 S.2.1 (dd_at ddX11_sale 23 rfl) (by decide) ?_
      refine lv_sipush (v := 9999) S.1 S.2.1 (dd_at ddX11_sale 24 rfl) (by decide) ?_
      refine r_callI hw (r_runS (As := [.int p4, .int 0, .int 9999]) (rest := [.ref a0]) S hw (m_X11_in l D cs E d_14 H.size p4 0 9999 _) (va_cwS 3 S.2.2.2.2 (gS wg418 wg419 wg5 wg420) rfl rfl rfl (by decide +kernel) ⟨Nat.le_of_ble_eq_true rfl, Nat.le_of_ble_eq_true rfl⟩) h rfl hl.1 rfl (Nat.le_of_ble_eq_true rfl) (dd_at ddX11_sale 25 rfl) ⟨Nat.le_of_ble_eq_true rfl, Nat.le_of_ble_eq_true rfl⟩) (fun r_18 d_17 H locs h hw => ?_)
      refine lv_if_ne (tgt := 58) S.1 S.2.1 (dd_at ddX11_sale 26 rfl) (by decide) (fun hc_19 => ?_) (fun hc_19 => ?_)
      · have h := h.1 hc_19
        refine lv_iconst (v := 0) S.1 S.2.1 (dd_at ddX11_sale 29 rfl) (by decide) ?_
        exact tb59 a0 0 d_17 H locs ls h hw (lv_sub hl [0, 1, 2, 3, 4] rfl)
      · have h := h.2 hc_19
        refine lv_iconst (v := 1) S.1 S.2.1 (dd_at ddX11_sale 27 rfl) (by decide) ?_
        refine lv_goto (tgt := 59) S.1 S.2.1 (dd_at ddX11_sale 28 rfl) (by decide) ?_
        exact tb59 a0 1 d_17 H locs ls h hw (lv_sub hl [0, 1, 2, 3, 4] rfl)
  have tb29 : ∀ (s0 : Nat) (d : Dy) (H : Heap) (locs : List Loc) (ls : Array Slot), b_X11_sale_29 E a0 p1 p2 p3 p4 K s0 d → Wd D cs (AW E sz) s.heap s E d H locs → lv_has ls 5 [(0, .ref a0), (1, .int p1), (2, .int p2), (3, .int p3), (4, .int p4)] → W p l e rm_X11_sale s m ([.ref a0, .int p1, .int p2, .int p3, .int p4] : List Value).toArray below meth c H locs 0 0 (MQ below (va_Qi K (OutW D cs E (AW E sz)) (AW E sz)) ([.ref a0, .int p1, .int p2, .int p3, .int p4] : List Value).toArray s rm_X11_sale.cells rm_X11_sale.slots (AW E sz)) (F0 m 29 ls [.ref s0]) := by
    intro s0 d H locs ls h hw hl
    unfold b_X11_sale_29 at h
    obtain ⟨hos0, h⟩ := h
    refine lv_iconst (v := 1) S.1 S.2.1 (dd_at ddX11_sale 15 rfl) (by decide) ?_
    refine lv_goto (tgt := 34) S.1 S.2.1 (dd_at ddX11_sale 16 rfl) (by decide) ?_
    exact tb34 s0 1 d H locs ls h hw (lv_sub hl [0, 1, 2, 3, 4] rfl)
  refine lv_aload_n S.1 S.2.1 (dd_at ddX11_sale 0 rfl) rfl (lv_at hl 0 rfl) ?_
  refine lv_iconst (v := 0) S.1 S.2.1 (dd_at ddX11_sale 1 rfl) (by decide) ?_
  refine r_putI S hw 11 0 (ty := .int) (v := 0) rfl inG11 tyX11 tyX11_ok nmX11 (by decide) (List.mem_cons_of_mem _ wg201) (by decide) rfl (by decide +kernel) rfl rfl ha0 (dd_at ddX11_sale 2 rfl) (fun H locs hw => ?_)
  refine lv_aload_n S.1 S.2.1 (dd_at ddX11_sale 3 rfl) rfl (lv_at hl 0 rfl) ?_
  refine lv_iload_n S.1 S.2.1 (dd_at ddX11_sale 4 rfl) rfl (lv_at hl 1 rfl) ?_
  refine r_callI hw (r_runS (As := [.int p1]) (rest := [.ref a0]) S hw (m_X11_noYear l D cs E (pI d a0 0 0) H.size p1 _) (va_cwS 1 S.2.2.2.2 (gS wg555 wg556 wg5 wg557) rfl rfl rfl (by decide +kernel) ⟨Nat.le_of_ble_eq_true rfl, Nat.le_of_ble_eq_true rfl⟩) h rfl hl.1 rfl (Nat.le_of_ble_eq_true rfl) (dd_at ddX11_sale 5 rfl) ⟨Nat.le_of_ble_eq_true rfl, Nat.le_of_ble_eq_true rfl⟩) (fun r_21 d_20 H locs h hw => ?_)
  refine lv_if_ne (tgt := 29) S.1 S.2.1 (dd_at ddX11_sale 6 rfl) (by decide) (fun hc_22 => ?_) (fun hc_22 => ?_)
  · have h := h.1 hc_22
    exact tb29 a0 d_20 H locs ls h hw (lv_sub hl [0, 1, 2, 3, 4] rfl)
  · have h := h.2 hc_22
    refine lv_aload_n S.1 S.2.1 (dd_at ddX11_sale 7 rfl) rfl (lv_at hl 0 rfl) ?_
    refine lv_iload_n S.1 S.2.1 (dd_at ddX11_sale 8 rfl) rfl (lv_at hl 2 rfl) ?_
    refine r_callI hw (r_runV (As := [.int p2]) (rest := [.ref a0]) S hw (m_X11_noHut l D cs E d_20 H.size a0 p2 _) (cwV 1 S.2.2.2.2 (gV wg631 wg632 wg633 wg5 wg634) rfl rfl rfl (by decide +kernel) ⟨Nat.le_of_ble_eq_true rfl, Nat.le_of_ble_eq_true rfl⟩) (ci := 11) rfl ha0 h rfl hl.1 rfl (Nat.le_of_ble_eq_true rfl) (dd_at ddX11_sale 9 rfl) ⟨Nat.le_of_ble_eq_true rfl, Nat.le_of_ble_eq_true rfl⟩) (fun r_24 d_23 H locs h hw => ?_)
    refine lv_if_ne (tgt := 29) S.1 S.2.1 (dd_at ddX11_sale 10 rfl) (by decide) (fun hc_25 => ?_) (fun hc_25 => ?_)
    · have h := h.1 hc_25
      exact tb29 a0 d_23 H locs ls h hw (lv_sub hl [0, 1, 2, 3, 4] rfl)
    · have h := h.2 hc_25
      refine lv_aload_n S.1 S.2.1 (dd_at ddX11_sale 11 rfl) rfl (lv_at hl 0 rfl) ?_
      refine lv_iload_n S.1 S.2.1 (dd_at ddX11_sale 12 rfl) rfl (lv_at hl 3 rfl) ?_
      refine r_callI hw (r_runV (As := [.int p3]) (rest := [.ref a0]) S hw (m_X11_noPerson l D cs E d_23 H.size a0 p3 _) (cwV 1 S.2.2.2.2 (gV wg588 wg589 wg590 wg5 wg591) rfl rfl rfl (by decide +kernel) ⟨Nat.le_of_ble_eq_true rfl, Nat.le_of_ble_eq_true rfl⟩) (ci := 11) rfl ha0 h rfl hl.1 rfl (Nat.le_of_ble_eq_true rfl) (dd_at ddX11_sale 13 rfl) ⟨Nat.le_of_ble_eq_true rfl, Nat.le_of_ble_eq_true rfl⟩) (fun r_27 d_26 H locs h hw => ?_)
      refine lv_if_eq (tgt := 33) S.1 S.2.1 (dd_at ddX11_sale 14 rfl) (by decide) (fun hc_28 => ?_) (fun hc_28 => ?_)
      · have h := h.1 hc_28
        refine lv_iconst (v := 0) S.1 S.2.1 (dd_at ddX11_sale 17 rfl) (by decide) ?_
        exact tb34 a0 0 d_26 H locs ls h hw (lv_sub hl [0, 1, 2, 3, 4] rfl)
      · have h := h.2 hc_28
        exact tb29 a0 d_26 H locs ls h hw (lv_sub hl [0, 1, 2, 3, 4] rfl)

def b_X11_feed_60 (E : En) (a0 : Nat) (p1 : Int32) (p2 : Int32) (p3 : Int32) (p4 : Int32) (p5 : Int32) (K : Int32 → Dy → Prop) (k60 : Int32 → Dy → Prop) (v6 : Int32) (d : Dy) : Prop := ((20 ≤ v6 → K (gI (pI d a0 5 ((gI d a0 5) + 20)) a0 5) (pI d a0 5 ((gI d a0 5) + 20))) ∧ (¬ 20 ≤ v6 → ∃ b_2 : Nat, eR E a0 4 = some b_2 ∧ okA E b_2 12 ∧ ∃ b_5 : Nat, eR E a0 11 = some b_5 ∧ okA E b_5 13 ∧ vp_in (v6 / 4) (eN E b_5) ∧ vp_in ((gI d a0 5) + v6) (eN E b_2) ∧ k60 (v6 + 1) (pA d b_2 ((gI d a0 5) + v6).toNatClampNeg (vp_nar .byte (((gA d b_5 (v6 / 4).toNatClampNeg) >>> ((24 - (8 * (v6 - v6 / 4 * 4))) &&& 31)).toInt8.toInt32)))))
def l_X11_feed_60 (E : En) (a0 : Nat) (p1 : Int32) (p2 : Int32) (p3 : Int32) (p4 : Int32) (p5 : Int32) (K : Int32 → Dy → Prop) : Nat → Int32 → Dy → Prop
  | 0 => fun _ _ => False
  | n + 1 => b_X11_feed_60 E a0 p1 p2 p3 p4 p5 K (l_X11_feed_60 E a0 p1 p2 p3 p4 p5 K n)
def w_X11_feed (E : En) (a0 : Nat) (p1 : Int32) (p2 : Int32) (p3 : Int32) (p4 : Int32) (p5 : Int32) (d : Dy) (K : Int32 → Dy → Prop) : Prop := okO E a0 11 ∧ ((((gI (pI d a0 0 0) a0 5) + 20) ≤ 400 → ∃ b_13 : Nat, eR E a0 11 = some b_13 ∧ okA E b_13 13 ∧ vp_in 0 (eN E b_13) ∧ ∃ b_17 : Nat, eR E a0 11 = some b_17 ∧ okA E b_17 13 ∧ vp_in 1 (eN E b_17) ∧ ∃ b_21 : Nat, eR E a0 11 = some b_21 ∧ okA E b_21 13 ∧ vp_in 2 (eN E b_21) ∧ ∃ b_25 : Nat, eR E a0 11 = some b_25 ∧ okA E b_25 13 ∧ vp_in 3 (eN E b_25) ∧ ∃ b_29 : Nat, eR E a0 11 = some b_29 ∧ okA E b_29 13 ∧ vp_in 4 (eN E b_29) ∧ (∃ n_33 : Nat, l_X11_feed_60 E a0 p1 p2 p3 p4 p5 K n_33 0 (pA (pA (pA (pA (pA (pI d a0 0 0) b_13 ((0 : Int32)).toNatClampNeg p1) b_17 ((1 : Int32)).toNatClampNeg p2) b_21 ((2 : Int32)).toNatClampNeg p3) b_25 ((3 : Int32)).toNatClampNeg p4) b_29 ((4 : Int32)).toNatClampNeg p5))) ∧ (¬ ((gI (pI d a0 0 0) a0 5) + 20) ≤ 400 → K (-1) (pI d a0 0 0)))
abbrev rm_X11_feed : Room := { frames := 0, cells := 0, slots := 0, locals := 0 }
set_option maxRecDepth 100000 in
set_option maxHeartbeats 4000000 in
theorem m_X11_feed (l : Launch) (D : va_G) (cs : Nat → ClassId) (E : En) (d : Dy) (sz : Nat) (a0 : Nat) (p1 : Int32) (p2 : Int32) (p3 : Int32) (p4 : Int32) (p5 : Int32) (K : Int32 → Dy → Prop) : CI l yX11_feed (.code yX11_feed cX11_feed 7 (some .int) :: wsL_law) rm_X11_feed D cs E d sz [.ref a0, .int p1, .int p2, .int p3, .int p4, .int p5] (w_X11_feed E a0 p1 p2 p3 p4 p5 d K) K := by
  refine e_of (cc := cX11_feed) (maxL := 7) (ret := (some .int)) (own := RX11) (by decide) rfl rfl (Nat.le_of_ble_eq_true rfl) ?_
  intro p e s m below meth c S hr hlocks hsz H locs hw h ls hl
  have hl : lv_has ls 7 [(0, .ref a0), (1, .int p1), (2, .int p2), (3, .int p3), (4, .int p4), (5, .int p5)] := hl
  unfold w_X11_feed at h
  obtain ⟨ha0, h⟩ := h
  have tl60 : ∀ (n : Nat) (v6 : Int32) (d : Dy) (H : Heap) (locs : List Loc) (ls : Array Slot), l_X11_feed_60 E a0 p1 p2 p3 p4 p5 K n v6 d → Wd D cs (AW E sz) s.heap s E d H locs → lv_has ls 7 [(0, .ref a0), (6, .int v6)] → W p l e rm_X11_feed s m ([.ref a0, .int p1, .int p2, .int p3, .int p4, .int p5] : List Value).toArray below meth c H locs 0 0 (MQ below (va_Qi K (OutW D cs E (AW E sz)) (AW E sz)) ([.ref a0, .int p1, .int p2, .int p3, .int p4, .int p5] : List Value).toArray s rm_X11_feed.cells rm_X11_feed.slots (AW E sz)) (F0 m 60 ls []) := by
    intro n60
    induction n60 with
    | zero => intro v6 d H locs ls h; exact absurd h id
    | succ n60 ih60 =>
      intro v6 d H locs ls h hw hl
      have h : b_X11_feed_60 E a0 p1 p2 p3 p4 p5 K (l_X11_feed_60 E a0 p1 p2 p3 p4 p5 K n60) v6 d := h
      unfold b_X11_feed_60 at h
      refine lv_iload S.1 S.2.1 (dd_at ddX11_feed 38 rfl) (lv_at hl 1 rfl) ?_
      refine lv_bipush (v := 20) S.1 S.2.1 (dd_at ddX11_feed 39 rfl) (by decide) ?_
      refine lv_icmp_ge (tgt := 106) S.1 S.2.1 (dd_at ddX11_feed 40 rfl) (by decide) (fun hc_1 => ?_) (fun hc_1 => ?_)
      · have h := h.1 hc_1
        refine lv_aload_n S.1 S.2.1 (dd_at ddX11_feed 65 rfl) rfl (lv_at hl 0 rfl) ?_
        refine lv_dup S.1 S.2.1 (dd_at ddX11_feed 66 rfl) rfl ?_
        refine r_getI S hw 11 5 rfl inG11 (by decide) (List.mem_cons_of_mem _ wg202) (by decide) ha0 (dd_at ddX11_feed 67 rfl) ?_
        refine lv_bipush (v := 20) S.1 S.2.1 (dd_at ddX11_feed 68 rfl) (by decide) ?_
        refine lv_iadd S.1 S.2.1 (dd_at ddX11_feed 69 rfl) ?_
        refine r_putI S hw 11 5 (ty := .int) (v := (gI d a0 5) + 20) rfl inG11 tyX11 tyX11_ok nmX11 (by decide) (List.mem_cons_of_mem _ wg202) (by decide) rfl (by decide +kernel) rfl rfl ha0 (dd_at ddX11_feed 70 rfl) (fun H locs hw => ?_)
        refine lv_aload_n S.1 S.2.1 (dd_at ddX11_feed 71 rfl) rfl (lv_at hl 0 rfl) ?_
        refine r_getI S hw 11 5 rfl inG11 (by decide) (List.mem_cons_of_mem _ wg202) (by decide) ha0 (dd_at ddX11_feed 72 rfl) ?_
        exact e_I S hr hlocks hw h (dd_at ddX11_feed 73 rfl)
      · have h := h.2 hc_1
        refine lv_aload_n S.1 S.2.1 (dd_at ddX11_feed 41 rfl) rfl (lv_at hl 0 rfl) ?_
        obtain ⟨b_2, hb_3, ho_4, h⟩ := h
        refine r_getR S hw 11 4 rfl inG11 (by decide) (List.mem_cons_of_mem _ wg153) (by decide) ha0 hb_3 (dd_at ddX11_feed 42 rfl) ?_
        refine lv_aload_n S.1 S.2.1 (dd_at ddX11_feed 43 rfl) rfl (lv_at hl 0 rfl) ?_
        refine r_getI S hw 11 5 rfl inG11 (by decide) (List.mem_cons_of_mem _ wg202) (by decide) ha0 (dd_at ddX11_feed 44 rfl) ?_
        refine lv_iload S.1 S.2.1 (dd_at ddX11_feed 45 rfl) (lv_at hl 1 rfl) ?_
        refine lv_iadd S.1 S.2.1 (dd_at ddX11_feed 46 rfl) ?_
        refine lv_aload_n S.1 S.2.1 (dd_at ddX11_feed 47 rfl) rfl (lv_at hl 0 rfl) ?_
        obtain ⟨b_5, hb_6, ho_7, h⟩ := h
        refine r_getR S hw 11 11 rfl inG11 (by decide) (List.mem_cons_of_mem _ wg155) (by decide) ha0 hb_6 (dd_at ddX11_feed 48 rfl) ?_
        refine lv_iload S.1 S.2.1 (dd_at ddX11_feed 49 rfl) (lv_at hl 1 rfl) ?_
        refine lv_iconst (v := 4) S.1 S.2.1 (dd_at ddX11_feed 50 rfl) (by decide) ?_
        refine lv_idiv S.1 S.2.1 (dd_at ddX11_feed 51 rfl) (by decide) ?_
        obtain ⟨hx_9, h⟩ := h
        refine r_iald S hw ho_7 hx_9 (dd_at ddX11_feed 52 rfl) ?_
        refine lv_bipush (v := 24) S.1 S.2.1 (dd_at ddX11_feed 53 rfl) (by decide) ?_
        refine lv_bipush (v := 8) S.1 S.2.1 (dd_at ddX11_feed 54 rfl) (by decide) ?_
        refine lv_iload S.1 S.2.1 (dd_at ddX11_feed 55 rfl) (lv_at hl 1 rfl) ?_
        refine lv_iconst (v := 4) S.1 S.2.1 (dd_at ddX11_feed 56 rfl) (by decide) ?_
        refine lv_irem S.1 S.2.1 (dd_at ddX11_feed 57 rfl) (by decide) ?_
        refine lv_imul S.1 S.2.1 (dd_at ddX11_feed 58 rfl) ?_
        refine lv_isub S.1 S.2.1 (dd_at ddX11_feed 59 rfl) ?_
        refine lv_ishr S.1 S.2.1 (dd_at ddX11_feed 60 rfl) ?_
        refine lv_i2b S.1 S.2.1 (dd_at ddX11_feed 61 rfl) rfl ?_
        obtain ⟨hx_11, h⟩ := h
        refine r_bast S hw ho_4 hx_11 (dd_at ddX11_feed 62 rfl) (fun H locs hw => ?_)
        refine lv_iinc (v := v6 + 1) (lv' := [(6, .int (v6 + 1)), (0, .ref a0)]) S.1 S.2.1 (dd_at ddX11_feed 63 rfl) hl (k := 1) rfl rfl (by decide) rfl (fun ls hl => ?_)
        refine lv_goto (tgt := 60) S.1 S.2.1 (dd_at ddX11_feed 64 rfl) (by decide) ?_
        exact ih60 (v6 + 1) (pA d b_2 ((gI d a0 5) + v6).toNatClampNeg (vp_nar .byte (((gA d b_5 (v6 / 4).toNatClampNeg) >>> ((24 - (8 * (v6 - v6 / 4 * 4))) &&& 31)).toInt8.toInt32))) H locs ls h hw (lv_sub hl [1, 0] rfl)
  refine lv_aload_n S.1 S.2.1 (dd_at ddX11_feed 0 rfl) rfl (lv_at hl 0 rfl) ?_
  refine lv_iconst (v := 0) S.1 S.2.1 (dd_at ddX11_feed 1 rfl) (by decide) ?_
  refine r_putI S hw 11 0 (ty := .int) (v := 0) rfl inG11 tyX11 tyX11_ok nmX11 (by decide) (List.mem_cons_of_mem _ wg201) (by decide) rfl (by decide +kernel) rfl rfl ha0 (dd_at ddX11_feed 2 rfl) (fun H locs hw => ?_)
  refine lv_aload_n S.1 S.2.1 (dd_at ddX11_feed 3 rfl) rfl (lv_at hl 0 rfl) ?_
  refine r_getI S hw 11 5 rfl inG11 (by decide) (List.mem_cons_of_mem _ wg202) (by decide) ha0 (dd_at ddX11_feed 4 rfl) ?_
  refine lv_bipush (v := 20) S.1 S.2.1 (dd_at ddX11_feed 5 rfl) (by decide) ?_
  refine lv_iadd S.1 S.2.1 (dd_at ddX11_feed 6 rfl) ?_
  refine lv_sipush (v := 400) S.1 S.2.1 (dd_at ddX11_feed 7 rfl) (by decide) ?_
  refine lv_icmp_le (tgt := 20) S.1 S.2.1 (dd_at ddX11_feed 8 rfl) (by decide) (fun hc_12 => ?_) (fun hc_12 => ?_)
  · have h := h.1 hc_12
    refine lv_aload_n S.1 S.2.1 (dd_at ddX11_feed 11 rfl) rfl (lv_at hl 0 rfl) ?_
    obtain ⟨b_13, hb_14, ho_15, h⟩ := h
    refine r_getR S hw 11 11 rfl inG11 (by decide) (List.mem_cons_of_mem _ wg155) (by decide) ha0 hb_14 (dd_at ddX11_feed 12 rfl) ?_
    refine lv_iconst (v := 0) S.1 S.2.1 (dd_at ddX11_feed 13 rfl) (by decide) ?_
    refine lv_iload_n S.1 S.2.1 (dd_at ddX11_feed 14 rfl) rfl (lv_at hl 1 rfl) ?_
    obtain ⟨hx_16, h⟩ := h
    refine r_iast S hw ho_15 hx_16 (dd_at ddX11_feed 15 rfl) (fun H locs hw => ?_)
    refine lv_aload_n S.1 S.2.1 (dd_at ddX11_feed 16 rfl) rfl (lv_at hl 0 rfl) ?_
    obtain ⟨b_17, hb_18, ho_19, h⟩ := h
    refine r_getR S hw 11 11 rfl inG11 (by decide) (List.mem_cons_of_mem _ wg155) (by decide) ha0 hb_18 (dd_at ddX11_feed 17 rfl) ?_
    refine lv_iconst (v := 1) S.1 S.2.1 (dd_at ddX11_feed 18 rfl) (by decide) ?_
    refine lv_iload_n S.1 S.2.1 (dd_at ddX11_feed 19 rfl) rfl (lv_at hl 2 rfl) ?_
    obtain ⟨hx_20, h⟩ := h
    refine r_iast S hw ho_19 hx_20 (dd_at ddX11_feed 20 rfl) (fun H locs hw => ?_)
    refine lv_aload_n S.1 S.2.1 (dd_at ddX11_feed 21 rfl) rfl (lv_at hl 0 rfl) ?_
    obtain ⟨b_21, hb_22, ho_23, h⟩ := h
    refine r_getR S hw 11 11 rfl inG11 (by decide) (List.mem_cons_of_mem _ wg155) (by decide) ha0 hb_22 (dd_at ddX11_feed 22 rfl) ?_
    refine lv_iconst (v := 2) S.1 S.2.1 (dd_at ddX11_feed 23 rfl) (by decide) ?_
    refine lv_iload_n S.1 S.2.1 (dd_at ddX11_feed 24 rfl) rfl (lv_at hl 3 rfl) ?_
    obtain ⟨hx_24, h⟩ := h
    refine r_iast S hw ho_23 hx_24 (dd_at ddX11_feed 25 rfl) (fun H locs hw => ?_)
    refine lv_aload_n S.1 S.2.1 (dd_at ddX11_feed 26 rfl) rfl (lv_at hl 0 rfl) ?_
    obtain ⟨b_25, hb_26, ho_27, h⟩ := h
    refine r_getR S hw 11 11 rfl inG11 (by decide) (List.mem_cons_of_mem _ wg155) (by decide) ha0 hb_26 (dd_at ddX11_feed 27 rfl) ?_
    refine lv_iconst (v := 3) S.1 S.2.1 (dd_at ddX11_feed 28 rfl) (by decide) ?_
    refine lv_iload S.1 S.2.1 (dd_at ddX11_feed 29 rfl) (lv_at hl 4 rfl) ?_
    obtain ⟨hx_28, h⟩ := h
    refine r_iast S hw ho_27 hx_28 (dd_at ddX11_feed 30 rfl) (fun H locs hw => ?_)
    refine lv_aload_n S.1 S.2.1 (dd_at ddX11_feed 31 rfl) rfl (lv_at hl 0 rfl) ?_
    obtain ⟨b_29, hb_30, ho_31, h⟩ := h
    refine r_getR S hw 11 11 rfl inG11 (by decide) (List.mem_cons_of_mem _ wg155) (by decide) ha0 hb_30 (dd_at ddX11_feed 32 rfl) ?_
    refine lv_iconst (v := 4) S.1 S.2.1 (dd_at ddX11_feed 33 rfl) (by decide) ?_
    refine lv_iload S.1 S.2.1 (dd_at ddX11_feed 34 rfl) (lv_at hl 5 rfl) ?_
    obtain ⟨hx_32, h⟩ := h
    refine r_iast S hw ho_31 hx_32 (dd_at ddX11_feed 35 rfl) (fun H locs hw => ?_)
    refine lv_iconst (v := 0) S.1 S.2.1 (dd_at ddX11_feed 36 rfl) (by decide) ?_
    refine lv_istore (lv' := [(6, .int 0), (0, .ref a0), (1, .int p1), (2, .int p2), (3, .int p3), (4, .int p4), (5, .int p5)]) S.1 S.2.1 (dd_at ddX11_feed 37 rfl) hl (by decide) rfl (fun ls hl => ?_)
    obtain ⟨n_33, h⟩ := h
    exact tl60 n_33 0 (pA (pA (pA (pA (pA (pI d a0 0 0) b_13 ((0 : Int32)).toNatClampNeg p1) b_17 ((1 : Int32)).toNatClampNeg p2) b_21 ((2 : Int32)).toNatClampNeg p3) b_25 ((3 : Int32)).toNatClampNeg p4) b_29 ((4 : Int32)).toNatClampNeg p5) H locs ls h hw (lv_sub hl [1, 0] rfl)
  · have h := h.2 hc_12
    refine lv_iconst (v := -1) S.1 S.2.1 (dd_at ddX11_feed 9 rfl) (by decide) ?_
    exact e_I S hr hlocks hw h (dd_at ddX11_feed 10 rfl)

def w_X11_end (E : En) (a0 : Nat) (p1 : Int32) (d : Dy) (K : Int32 → Dy → Prop) : Prop := okO E a0 11 ∧ ((p1 < 0 → K 0 (pI d a0 0 0)) ∧ (¬ p1 < 0 → ((p1 ≤ (gI (pI d a0 0 0) a0 5) → K 1 (pI (pI d a0 0 0) a0 5 p1)) ∧ (¬ p1 ≤ (gI (pI d a0 0 0) a0 5) → K 0 (pI d a0 0 0)))))
abbrev rm_X11_end : Room := { frames := 0, cells := 0, slots := 0, locals := 0 }
set_option maxRecDepth 100000 in
set_option maxHeartbeats 4000000 in
theorem m_X11_end (l : Launch) (D : va_G) (cs : Nat → ClassId) (E : En) (d : Dy) (sz : Nat) (a0 : Nat) (p1 : Int32) (K : Int32 → Dy → Prop) : CI l yX11_end (.code yX11_end cX11_end 2 (some .boolean) :: wsL_law) rm_X11_end D cs E d sz [.ref a0, .int p1] (w_X11_end E a0 p1 d K) K := by
  refine e_of (cc := cX11_end) (maxL := 2) (ret := (some .boolean)) (own := RX11) (by decide) rfl rfl (Nat.le_of_ble_eq_true rfl) ?_
  intro p e s m below meth c S hr hlocks hsz H locs hw h ls hl
  have hl : lv_has ls 2 [(0, .ref a0), (1, .int p1)] := hl
  unfold w_X11_end at h
  obtain ⟨ha0, h⟩ := h
  refine lv_aload_n S.1 S.2.1 (dd_at ddX11_end 0 rfl) rfl (lv_at hl 0 rfl) ?_
  refine lv_iconst (v := 0) S.1 S.2.1 (dd_at ddX11_end 1 rfl) (by decide) ?_
  refine r_putI S hw 11 0 (ty := .int) (v := 0) rfl inG11 tyX11 tyX11_ok nmX11 (by decide) (List.mem_cons_of_mem _ wg201) (by decide) rfl (by decide +kernel) rfl rfl ha0 (dd_at ddX11_end 2 rfl) (fun H locs hw => ?_)
  refine lv_iload_n S.1 S.2.1 (dd_at ddX11_end 3 rfl) rfl (lv_at hl 1 rfl) ?_
  refine lv_if_lt (tgt := 17) S.1 S.2.1 (dd_at ddX11_end 4 rfl) (by decide) (fun hc_1 => ?_) (fun hc_1 => ?_)
  · have h := h.1 hc_1
    refine lv_iconst (v := 0) S.1 S.2.1 (dd_at ddX11_end 9 rfl) (by decide) ?_
    exact e_Z S hr hlocks hw (Or.inl rfl) h (dd_at ddX11_end 10 rfl)
  · have h := h.2 hc_1
    refine lv_iload_n S.1 S.2.1 (dd_at ddX11_end 5 rfl) rfl (lv_at hl 1 rfl) ?_
    refine lv_aload_n S.1 S.2.1 (dd_at ddX11_end 6 rfl) rfl (lv_at hl 0 rfl) ?_
    refine r_getI S hw 11 5 rfl inG11 (by decide) (List.mem_cons_of_mem _ wg202) (by decide) ha0 (dd_at ddX11_end 7 rfl) ?_
    refine lv_icmp_le (tgt := 19) S.1 S.2.1 (dd_at ddX11_end 8 rfl) (by decide) (fun hc_2 => ?_) (fun hc_2 => ?_)
    · have h := h.1 hc_2
      refine lv_aload_n S.1 S.2.1 (dd_at ddX11_end 11 rfl) rfl (lv_at hl 0 rfl) ?_
      refine lv_iload_n S.1 S.2.1 (dd_at ddX11_end 12 rfl) rfl (lv_at hl 1 rfl) ?_
      refine r_putI S hw 11 5 (ty := .int) (v := p1) rfl inG11 tyX11 tyX11_ok nmX11 (by decide) (List.mem_cons_of_mem _ wg202) (by decide) rfl (by decide +kernel) rfl rfl ha0 (dd_at ddX11_end 13 rfl) (fun H locs hw => ?_)
      refine lv_iconst (v := 1) S.1 S.2.1 (dd_at ddX11_end 14 rfl) (by decide) ?_
      exact e_Z S hr hlocks hw (Or.inr rfl) h (dd_at ddX11_end 15 rfl)
    · have h := h.2 hc_2
      refine lv_iconst (v := 0) S.1 S.2.1 (dd_at ddX11_end 9 rfl) (by decide) ?_
      exact e_Z S hr hlocks hw (Or.inl rfl) h (dd_at ddX11_end 10 rfl)

def w_X11_isAt (E : En) (a0 : Nat) (p1 : Int32) (p2 : Int32) (d : Dy) (K : Int32 → Dy → Prop) : Prop := okO E a0 11 ∧ (((gI d a0 7) ≤ (gI d a0 6) → K 0 d) ∧ (¬ (gI d a0 7) ≤ (gI d a0 6) → ∃ b_2 : Nat, eR E a0 4 = some b_2 ∧ okA E b_2 12 ∧ vp_in (gI d a0 6) (eN E b_2) ∧ (((gA d b_2 (gI d a0 6).toNatClampNeg) < p1 → K 0 d) ∧ (¬ (gA d b_2 (gI d a0 6).toNatClampNeg) < p1 → ∃ b_7 : Nat, eR E a0 4 = some b_7 ∧ okA E b_7 12 ∧ vp_in (gI d a0 6) (eN E b_7) ∧ ((p2 < (gA d b_7 (gI d a0 6).toNatClampNeg) → K 0 d) ∧ (¬ p2 < (gA d b_7 (gI d a0 6).toNatClampNeg) → K 1 d))))))
abbrev rm_X11_isAt : Room := { frames := 0, cells := 0, slots := 0, locals := 0 }
set_option maxRecDepth 100000 in
set_option maxHeartbeats 4000000 in
theorem m_X11_isAt (l : Launch) (D : va_G) (cs : Nat → ClassId) (E : En) (d : Dy) (sz : Nat) (a0 : Nat) (p1 : Int32) (p2 : Int32) (K : Int32 → Dy → Prop) : CI l yX11_isAt (.code yX11_isAt cX11_isAt 3 (some .boolean) :: wsL_law) rm_X11_isAt D cs E d sz [.ref a0, .int p1, .int p2] (w_X11_isAt E a0 p1 p2 d K) K := by
  refine e_of (cc := cX11_isAt) (maxL := 3) (ret := (some .boolean)) (own := RX11) (by decide) rfl rfl (Nat.le_of_ble_eq_true rfl) ?_
  intro p e s m below meth c S hr hlocks hsz H locs hw h ls hl
  have hl : lv_has ls 3 [(0, .ref a0), (1, .int p1), (2, .int p2)] := hl
  unfold w_X11_isAt at h
  obtain ⟨ha0, h⟩ := h
  refine lv_aload_n S.1 S.2.1 (dd_at ddX11_isAt 0 rfl) rfl (lv_at hl 0 rfl) ?_
  refine r_getI S hw 11 6 rfl inG11 (by decide) (List.mem_cons_of_mem _ wg414) (by decide) ha0 (dd_at ddX11_isAt 1 rfl) ?_
  refine lv_aload_n S.1 S.2.1 (dd_at ddX11_isAt 2 rfl) rfl (lv_at hl 0 rfl) ?_
  refine r_getI S hw 11 7 rfl inG11 (by decide) (List.mem_cons_of_mem _ wg413) (by decide) ha0 (dd_at ddX11_isAt 3 rfl) ?_
  refine lv_icmp_ge (tgt := 41) S.1 S.2.1 (dd_at ddX11_isAt 4 rfl) (by decide) (fun hc_1 => ?_) (fun hc_1 => ?_)
  · have h := h.1 hc_1
    refine lv_iconst (v := 0) S.1 S.2.1 (dd_at ddX11_isAt 21 rfl) (by decide) ?_
    exact e_Z S hr hlocks hw (Or.inl rfl) h (dd_at ddX11_isAt 22 rfl)
  · have h := h.2 hc_1
    refine lv_aload_n S.1 S.2.1 (dd_at ddX11_isAt 5 rfl) rfl (lv_at hl 0 rfl) ?_
    obtain ⟨b_2, hb_3, ho_4, h⟩ := h
    refine r_getR S hw 11 4 rfl inG11 (by decide) (List.mem_cons_of_mem _ wg153) (by decide) ha0 hb_3 (dd_at ddX11_isAt 6 rfl) ?_
    refine lv_aload_n S.1 S.2.1 (dd_at ddX11_isAt 7 rfl) rfl (lv_at hl 0 rfl) ?_
    refine r_getI S hw 11 6 rfl inG11 (by decide) (List.mem_cons_of_mem _ wg414) (by decide) ha0 (dd_at ddX11_isAt 8 rfl) ?_
    obtain ⟨hx_5, h⟩ := h
    refine r_bald S hw ho_4 hx_5 (dd_at ddX11_isAt 9 rfl) ?_
    refine lv_iload_n S.1 S.2.1 (dd_at ddX11_isAt 10 rfl) rfl (lv_at hl 1 rfl) ?_
    refine lv_icmp_lt (tgt := 41) S.1 S.2.1 (dd_at ddX11_isAt 11 rfl) (by decide) (fun hc_6 => ?_) (fun hc_6 => ?_)
    · have h := h.1 hc_6
      refine lv_iconst (v := 0) S.1 S.2.1 (dd_at ddX11_isAt 21 rfl) (by decide) ?_
      exact e_Z S hr hlocks hw (Or.inl rfl) h (dd_at ddX11_isAt 22 rfl)
    · have h := h.2 hc_6
      refine lv_aload_n S.1 S.2.1 (dd_at ddX11_isAt 12 rfl) rfl (lv_at hl 0 rfl) ?_
      obtain ⟨b_7, hb_8, ho_9, h⟩ := h
      refine r_getR S hw 11 4 rfl inG11 (by decide) (List.mem_cons_of_mem _ wg153) (by decide) ha0 hb_8 (dd_at ddX11_isAt 13 rfl) ?_
      refine lv_aload_n S.1 S.2.1 (dd_at ddX11_isAt 14 rfl) rfl (lv_at hl 0 rfl) ?_
      refine r_getI S hw 11 6 rfl inG11 (by decide) (List.mem_cons_of_mem _ wg414) (by decide) ha0 (dd_at ddX11_isAt 15 rfl) ?_
      obtain ⟨hx_10, h⟩ := h
      refine r_bald S hw ho_9 hx_10 (dd_at ddX11_isAt 16 rfl) ?_
      refine lv_iload_n S.1 S.2.1 (dd_at ddX11_isAt 17 rfl) rfl (lv_at hl 2 rfl) ?_
      refine lv_icmp_gt (tgt := 41) S.1 S.2.1 (dd_at ddX11_isAt 18 rfl) (by decide) (fun hc_11 => ?_) (fun hc_11 => ?_)
      · have h := h.1 hc_11
        refine lv_iconst (v := 0) S.1 S.2.1 (dd_at ddX11_isAt 21 rfl) (by decide) ?_
        exact e_Z S hr hlocks hw (Or.inl rfl) h (dd_at ddX11_isAt 22 rfl)
      · have h := h.2 hc_11
        refine lv_iconst (v := 1) S.1 S.2.1 (dd_at ddX11_isAt 19 rfl) (by decide) ?_
        refine lv_goto (tgt := 42) S.1 S.2.1 (dd_at ddX11_isAt 20 rfl) (by decide) ?_
        exact e_Z S hr hlocks hw (Or.inr rfl) h (dd_at ddX11_isAt 22 rfl)

def b_X11_blanks_0 (E : En) (a0 : Nat) (K : Dy → Prop) (k0 : Dy → Prop) (d : Dy) : Prop := w_X11_isAt E a0 32 32 d (fun r_2 d_1 => ((r_2 = 0 → K (pI d_1 a0 8 (gI d_1 a0 6))) ∧ (¬ r_2 = 0 → k0 (pI d_1 a0 6 ((gI d_1 a0 6) + 1)))))
def l_X11_blanks_0 (E : En) (a0 : Nat) (K : Dy → Prop) : Nat → Dy → Prop
  | 0 => fun _ => False
  | n + 1 => b_X11_blanks_0 E a0 K (l_X11_blanks_0 E a0 K n)
def w_X11_blanks (E : En) (a0 : Nat) (d : Dy) (K : Dy → Prop) : Prop := okO E a0 11 ∧ (∃ n_4 : Nat, l_X11_blanks_0 E a0 K n_4 d)
abbrev rm_X11_blanks : Room := { frames := 1, cells := 0, slots := 0, locals := 22 }
set_option maxRecDepth 100000 in
set_option maxHeartbeats 4000000 in
theorem m_X11_blanks (l : Launch) (D : va_G) (cs : Nat → ClassId) (E : En) (d : Dy) (sz : Nat) (a0 : Nat) (K : Dy → Prop) : CV l yX11_blanks (.code yX11_blanks cX11_blanks 1 none :: wsL_law) rm_X11_blanks D cs E d sz [.ref a0] (w_X11_blanks E a0 d K) K := by
  refine e_of (cc := cX11_blanks) (maxL := 1) (ret := none) (own := RX11) (by decide) rfl rfl (Nat.le_of_ble_eq_true rfl) ?_
  intro p e s m below meth c S hr hlocks hsz H locs hw h ls hl
  have hl : lv_has ls 1 [(0, .ref a0)] := hl
  unfold w_X11_blanks at h
  obtain ⟨ha0, h⟩ := h
  have tl0 : ∀ (n : Nat) (d : Dy) (H : Heap) (locs : List Loc) (ls : Array Slot), l_X11_blanks_0 E a0 K n d → Wd D cs (AW E sz) s.heap s E d H locs → lv_has ls 1 [(0, .ref a0)] → W p l e rm_X11_blanks s m ([.ref a0] : List Value).toArray below meth c H locs 0 0 (MQ below (va_Qv K (OutW D cs E (AW E sz)) (AW E sz)) ([.ref a0] : List Value).toArray s rm_X11_blanks.cells rm_X11_blanks.slots (AW E sz)) (F0 m 0 ls []) := by
    intro n0
    induction n0 with
    | zero => intro d H locs ls h; exact absurd h id
    | succ n0 ih0 =>
      intro d H locs ls h hw hl
      have h : b_X11_blanks_0 E a0 K (l_X11_blanks_0 E a0 K n0) d := h
      unfold b_X11_blanks_0 at h
      refine lv_aload_n S.1 S.2.1 (dd_at ddX11_blanks 0 rfl) rfl (lv_at hl 0 rfl) ?_
      refine lv_bipush (v := 32) S.1 S.2.1 (dd_at ddX11_blanks 1 rfl) (by decide) ?_
      refine lv_bipush (v := 32) S.1 S.2.1 (dd_at ddX11_blanks 2 rfl) (by decide) ?_
      refine r_callI hw (r_runV (As := [.int 32, .int 32]) (rest := []) S hw (m_X11_isAt l D cs E d H.size a0 32 32 _) (cwV 2 S.2.2.2.2 (gV wg433 wg434 wg435 wg5 wg436) rfl rfl rfl (by decide +kernel) ⟨Nat.le_of_ble_eq_true rfl, Nat.le_of_ble_eq_true rfl⟩) (ci := 11) rfl ha0 h rfl hl.1 rfl (Nat.le_of_ble_eq_true rfl) (dd_at ddX11_blanks 3 rfl) ⟨Nat.le_of_ble_eq_true rfl, Nat.le_of_ble_eq_true rfl⟩) (fun r_2 d_1 H locs h hw => ?_)
      refine lv_if_eq (tgt := 24) S.1 S.2.1 (dd_at ddX11_blanks 4 rfl) (by decide) (fun hc_3 => ?_) (fun hc_3 => ?_)
      · have h := h.1 hc_3
        refine lv_aload_n S.1 S.2.1 (dd_at ddX11_blanks 12 rfl) rfl (lv_at hl 0 rfl) ?_
        refine lv_aload_n S.1 S.2.1 (dd_at ddX11_blanks 13 rfl) rfl (lv_at hl 0 rfl) ?_
        refine r_getI S hw 11 6 rfl inG11 (by decide) (List.mem_cons_of_mem _ wg414) (by decide) ha0 (dd_at ddX11_blanks 14 rfl) ?_
        refine r_putI S hw 11 8 (ty := .int) (v := gI d_1 a0 6) rfl inG11 tyX11 tyX11_ok nmX11 (by decide) (List.mem_cons_of_mem _ wg417) (by decide) rfl (by decide +kernel) rfl rfl ha0 (dd_at ddX11_blanks 15 rfl) (fun H locs hw => ?_)
        exact e_V S hr hlocks hw h (dd_at ddX11_blanks 16 rfl)
      · have h := h.2 hc_3
        refine lv_aload_n S.1 S.2.1 (dd_at ddX11_blanks 5 rfl) rfl (lv_at hl 0 rfl) ?_
        refine lv_dup S.1 S.2.1 (dd_at ddX11_blanks 6 rfl) rfl ?_
        refine r_getI S hw 11 6 rfl inG11 (by decide) (List.mem_cons_of_mem _ wg414) (by decide) ha0 (dd_at ddX11_blanks 7 rfl) ?_
        refine lv_iconst (v := 1) S.1 S.2.1 (dd_at ddX11_blanks 8 rfl) (by decide) ?_
        refine lv_iadd S.1 S.2.1 (dd_at ddX11_blanks 9 rfl) ?_
        refine r_putI S hw 11 6 (ty := .int) (v := (gI d_1 a0 6) + 1) rfl inG11 tyX11 tyX11_ok nmX11 (by decide) (List.mem_cons_of_mem _ wg414) (by decide) rfl (by decide +kernel) rfl rfl ha0 (dd_at ddX11_blanks 10 rfl) (fun H locs hw => ?_)
        refine lv_goto (tgt := 0) S.1 S.2.1 (dd_at ddX11_blanks 11 rfl) (by decide) ?_
        exact ih0 (pI d_1 a0 6 ((gI d_1 a0 6) + 1)) H locs ls h hw (lv_sub hl [0] rfl)
  obtain ⟨n_4, h⟩ := h
  exact tl0 n_4 d H locs ls h hw (lv_sub hl [0] rfl)

def b_X11_letters_4 (E : En) (a0 : Nat) (K : Dy → Prop) (k4 : Dy → Prop) (d : Dy) : Prop := w_X11_isAt E a0 97 122 d (fun r_2 d_1 => ((r_2 = 0 → K d_1) ∧ (¬ r_2 = 0 → k4 (pI d_1 a0 6 ((gI d_1 a0 6) + 1)))))
def l_X11_letters_4 (E : En) (a0 : Nat) (K : Dy → Prop) : Nat → Dy → Prop
  | 0 => fun _ => False
  | n + 1 => b_X11_letters_4 E a0 K (l_X11_letters_4 E a0 K n)
def w_X11_letters (E : En) (a0 : Nat) (d : Dy) (K : Dy → Prop) : Prop := okO E a0 11 ∧ w_X11_blanks E a0 d (fun d_4 => (∃ n_6 : Nat, l_X11_letters_4 E a0 K n_6 d_4))
abbrev rm_X11_letters : Room := { frames := 2, cells := 0, slots := 0, locals := 42 }
set_option maxRecDepth 100000 in
set_option maxHeartbeats 4000000 in
theorem m_X11_letters (l : Launch) (D : va_G) (cs : Nat → ClassId) (E : En) (d : Dy) (sz : Nat) (a0 : Nat) (K : Dy → Prop) : CV l yX11_letters (.code yX11_letters cX11_letters 1 none :: wsL_law) rm_X11_letters D cs E d sz [.ref a0] (w_X11_letters E a0 d K) K := by
  refine e_of (cc := cX11_letters) (maxL := 1) (ret := none) (own := RX11) (by decide) rfl rfl (Nat.le_of_ble_eq_true rfl) ?_
  intro p e s m below meth c S hr hlocks hsz H locs hw h ls hl
  have hl : lv_has ls 1 [(0, .ref a0)] := hl
  unfold w_X11_letters at h
  obtain ⟨ha0, h⟩ := h
  have tl4 : ∀ (n : Nat) (d : Dy) (H : Heap) (locs : List Loc) (ls : Array Slot), l_X11_letters_4 E a0 K n d → Wd D cs (AW E sz) s.heap s E d H locs → lv_has ls 1 [(0, .ref a0)] → W p l e rm_X11_letters s m ([.ref a0] : List Value).toArray below meth c H locs 0 0 (MQ below (va_Qv K (OutW D cs E (AW E sz)) (AW E sz)) ([.ref a0] : List Value).toArray s rm_X11_letters.cells rm_X11_letters.slots (AW E sz)) (F0 m 4 ls []) := by
    intro n4
    induction n4 with
    | zero => intro d H locs ls h; exact absurd h id
    | succ n4 ih4 =>
      intro d H locs ls h hw hl
      have h : b_X11_letters_4 E a0 K (l_X11_letters_4 E a0 K n4) d := h
      unfold b_X11_letters_4 at h
      refine lv_aload_n S.1 S.2.1 (dd_at ddX11_letters 2 rfl) rfl (lv_at hl 0 rfl) ?_
      refine lv_bipush (v := 97) S.1 S.2.1 (dd_at ddX11_letters 3 rfl) (by decide) ?_
      refine lv_bipush (v := 122) S.1 S.2.1 (dd_at ddX11_letters 4 rfl) (by decide) ?_
      refine r_callI hw (r_runV (As := [.int 97, .int 122]) (rest := []) S hw (m_X11_isAt l D cs E d H.size a0 97 122 _) (cwV 2 S.2.2.2.2 (gV wg433 wg434 wg435 wg5 wg436) rfl rfl rfl (by decide +kernel) ⟨Nat.le_of_ble_eq_true rfl, Nat.le_of_ble_eq_true rfl⟩) (ci := 11) rfl ha0 h rfl hl.1 rfl (Nat.le_of_ble_eq_true rfl) (dd_at ddX11_letters 5 rfl) ⟨Nat.le_of_ble_eq_true rfl, Nat.le_of_ble_eq_true rfl⟩) (fun r_2 d_1 H locs h hw => ?_)
      refine lv_if_eq (tgt := 28) S.1 S.2.1 (dd_at ddX11_letters 6 rfl) (by decide) (fun hc_3 => ?_) (fun hc_3 => ?_)
      · have h := h.1 hc_3
        exact e_V S hr hlocks hw h (dd_at ddX11_letters 14 rfl)
      · have h := h.2 hc_3
        refine lv_aload_n S.1 S.2.1 (dd_at ddX11_letters 7 rfl) rfl (lv_at hl 0 rfl) ?_
        refine lv_dup S.1 S.2.1 (dd_at ddX11_letters 8 rfl) rfl ?_
        refine r_getI S hw 11 6 rfl inG11 (by decide) (List.mem_cons_of_mem _ wg414) (by decide) ha0 (dd_at ddX11_letters 9 rfl) ?_
        refine lv_iconst (v := 1) S.1 S.2.1 (dd_at ddX11_letters 10 rfl) (by decide) ?_
        refine lv_iadd S.1 S.2.1 (dd_at ddX11_letters 11 rfl) ?_
        refine r_putI S hw 11 6 (ty := .int) (v := (gI d_1 a0 6) + 1) rfl inG11 tyX11 tyX11_ok nmX11 (by decide) (List.mem_cons_of_mem _ wg414) (by decide) rfl (by decide +kernel) rfl rfl ha0 (dd_at ddX11_letters 12 rfl) (fun H locs hw => ?_)
        refine lv_goto (tgt := 4) S.1 S.2.1 (dd_at ddX11_letters 13 rfl) (by decide) ?_
        exact ih4 (pI d_1 a0 6 ((gI d_1 a0 6) + 1)) H locs ls h hw (lv_sub hl [0] rfl)
  refine lv_aload_n S.1 S.2.1 (dd_at ddX11_letters 0 rfl) rfl (lv_at hl 0 rfl) ?_
  refine r_callV hw (r_runV (As := []) (rest := []) S hw (m_X11_blanks l D cs E d H.size a0 _) (cwV 0 S.2.2.2.2 (gV wg429 wg430 wg431 wg5 wg432) rfl rfl rfl (by decide +kernel) ⟨Nat.le_of_ble_eq_true rfl, Nat.le_of_ble_eq_true rfl⟩) (ci := 11) rfl ha0 h rfl hl.1 rfl (Nat.le_of_ble_eq_true rfl) (dd_at ddX11_letters 1 rfl) ⟨Nat.le_of_ble_eq_true rfl, Nat.le_of_ble_eq_true rfl⟩) (fun d_4 H locs h hw => ?_)
  obtain ⟨n_6, h⟩ := h
  exact tl4 n_6 d_4 H locs ls h hw (lv_sub hl [0] rfl)

def b_X11_isWord_24 (E : En) (a0 : Nat) (t1 : Nat) (K : Int32 → Dy → Prop) (k24 : Int32 → Int32 → Dy → Prop) (v2 : Int32) (v3 : Int32) (d : Dy) : Prop := ((v2 = 0 → (v2 = 0 ∨ v2 = 1) ∧ K v2 d) ∧ (¬ v2 = 0 → w_J0_length_8abf5 E t1 d (fun r_3 d_2 => ((r_3 ≤ v3 → (v2 = 0 ∨ v2 = 1) ∧ K v2 d_2) ∧ (¬ r_3 ≤ v3 → ∃ b_5 : Nat, eR E a0 4 = some b_5 ∧ okA E b_5 12 ∧ vp_in ((gI d_2 a0 8) + v3) (eN E b_5) ∧ w_J0_charAt_5068e E t1 v3 d_2 (fun r_10 d_9 => ((¬ (gA d_2 b_5 ((gI d_2 a0 8) + v3).toNatClampNeg) = r_10 → k24 0 (v3 + 1) d_9) ∧ ((gA d_2 b_5 ((gI d_2 a0 8) + v3).toNatClampNeg) = r_10 → k24 1 (v3 + 1) d_9))))))))
def l_X11_isWord_24 (E : En) (a0 : Nat) (t1 : Nat) (K : Int32 → Dy → Prop) : Nat → Int32 → Int32 → Dy → Prop
  | 0 => fun _ _ _ => False
  | n + 1 => b_X11_isWord_24 E a0 t1 K (l_X11_isWord_24 E a0 t1 K n)
def w_X11_isWord (E : En) (a0 : Nat) (t1 : Nat) (d : Dy) (K : Int32 → Dy → Prop) : Prop := okO E a0 11 ∧ w_J0_length_8abf5 E t1 d (fun r_13 d_12 => ((¬ ((gI d a0 6) - (gI d a0 8)) = r_13 → (∃ n_15 : Nat, l_X11_isWord_24 E a0 t1 K n_15 0 0 d_12)) ∧ (((gI d a0 6) - (gI d a0 8)) = r_13 → (∃ n_16 : Nat, l_X11_isWord_24 E a0 t1 K n_16 1 0 d_12))))
abbrev rm_X11_isWord : Room := { frames := 4, cells := 0, slots := 0, locals := 91 }
set_option maxRecDepth 100000 in
set_option maxHeartbeats 4000000 in
theorem m_X11_isWord (l : Launch) (D : va_G) (cs : Nat → ClassId) (E : En) (d : Dy) (sz : Nat) (a0 : Nat) (t1 : Nat) (K : Int32 → Dy → Prop) : CI l yX11_isWord (.code yX11_isWord cX11_isWord 4 (some .boolean) :: wsL_law) rm_X11_isWord D cs E d sz [.ref a0, .ref (cs (100 + t1))] (w_X11_isWord E a0 t1 d K) K := by
  refine e_of (cc := cX11_isWord) (maxL := 4) (ret := (some .boolean)) (own := RX11) (by decide) rfl rfl (Nat.le_of_ble_eq_true rfl) ?_
  intro p e s m below meth c S hr hlocks hsz H locs hw h ls hl
  have hl : lv_has ls 4 [(0, .ref a0), (1, .ref (cs (100 + t1)))] := hl
  unfold w_X11_isWord at h
  obtain ⟨ha0, h⟩ := h
  have tl24 : ∀ (n : Nat) (v2 : Int32) (v3 : Int32) (d : Dy) (H : Heap) (locs : List Loc) (ls : Array Slot), l_X11_isWord_24 E a0 t1 K n v2 v3 d → Wd D cs (AW E sz) s.heap s E d H locs → lv_has ls 4 [(0, .ref a0), (1, .ref (cs (100 + t1))), (2, .int v2), (3, .int v3)] → W p l e rm_X11_isWord s m ([.ref a0, .ref (cs (100 + t1))] : List Value).toArray below meth c H locs 0 0 (MQ below (va_Qi K (OutW D cs E (AW E sz)) (AW E sz)) ([.ref a0, .ref (cs (100 + t1))] : List Value).toArray s rm_X11_isWord.cells rm_X11_isWord.slots (AW E sz)) (F0 m 24 ls []) := by
    intro n24
    induction n24 with
    | zero => intro v2 v3 d H locs ls h; exact absurd h id
    | succ n24 ih24 =>
      intro v2 v3 d H locs ls h hw hl
      have h : b_X11_isWord_24 E a0 t1 K (l_X11_isWord_24 E a0 t1 K n24) v2 v3 d := h
      unfold b_X11_isWord_24 at h
      refine lv_iload_n S.1 S.2.1 (dd_at ddX11_isWord 14 rfl) rfl (lv_at hl 2 rfl) ?_
      refine lv_if_eq (tgt := 67) S.1 S.2.1 (dd_at ddX11_isWord 15 rfl) (by decide) (fun hc_1 => ?_) (fun hc_1 => ?_)
      · have h := h.1 hc_1
        refine lv_iload_n S.1 S.2.1 (dd_at ddX11_isWord 37 rfl) rfl (lv_at hl 2 rfl) ?_
        exact e_Z S hr hlocks hw h.1 h.2 (dd_at ddX11_isWord 38 rfl)
      · have h := h.2 hc_1
        refine lv_iload_n S.1 S.2.1 (dd_at ddX11_isWord 16 rfl) rfl (lv_at hl 3 rfl) ?_
        refine lv_aload_n S.1 S.2.1 (dd_at ddX11_isWord 17 rfl) rfl (lv_at hl 1 rfl) ?_
        refine r_callI hw (r_runVS (As := []) (rest := [.int v3]) S hw h.1 (m_J0_length_8abf5 l D cs E d H.size t1 _) (cwV 0 S.2.2.2.2 (gV wg460 wg257 wg258 wg259 wg260) rfl rfl rfl (by decide +kernel) ⟨Nat.le_of_ble_eq_true rfl, Nat.le_of_ble_eq_true rfl⟩) h rfl hl.1 rfl (Nat.le_of_ble_eq_true rfl) (dd_at ddX11_isWord 18 rfl) ⟨Nat.le_of_ble_eq_true rfl, Nat.le_of_ble_eq_true rfl⟩) (fun r_3 d_2 H locs h hw => ?_)
        refine lv_icmp_ge (tgt := 67) S.1 S.2.1 (dd_at ddX11_isWord 19 rfl) (by decide) (fun hc_4 => ?_) (fun hc_4 => ?_)
        · have h := h.1 hc_4
          refine lv_iload_n S.1 S.2.1 (dd_at ddX11_isWord 37 rfl) rfl (lv_at hl 2 rfl) ?_
          exact e_Z S hr hlocks hw h.1 h.2 (dd_at ddX11_isWord 38 rfl)
        · have h := h.2 hc_4
          refine lv_aload_n S.1 S.2.1 (dd_at ddX11_isWord 20 rfl) rfl (lv_at hl 0 rfl) ?_
          obtain ⟨b_5, hb_6, ho_7, h⟩ := h
          refine r_getR S hw 11 4 rfl inG11 (by decide) (List.mem_cons_of_mem _ wg153) (by decide) ha0 hb_6 (dd_at ddX11_isWord 21 rfl) ?_
          refine lv_aload_n S.1 S.2.1 (dd_at ddX11_isWord 22 rfl) rfl (lv_at hl 0 rfl) ?_
          refine r_getI S hw 11 8 rfl inG11 (by decide) (List.mem_cons_of_mem _ wg417) (by decide) ha0 (dd_at ddX11_isWord 23 rfl) ?_
          refine lv_iload_n S.1 S.2.1 (dd_at ddX11_isWord 24 rfl) rfl (lv_at hl 3 rfl) ?_
          refine lv_iadd S.1 S.2.1 (dd_at ddX11_isWord 25 rfl) ?_
          obtain ⟨hx_8, h⟩ := h
          refine r_bald S hw ho_7 hx_8 (dd_at ddX11_isWord 26 rfl) ?_
          refine lv_aload_n S.1 S.2.1 (dd_at ddX11_isWord 27 rfl) rfl (lv_at hl 1 rfl) ?_
          refine lv_iload_n S.1 S.2.1 (dd_at ddX11_isWord 28 rfl) rfl (lv_at hl 3 rfl) ?_
          refine r_callI hw (r_runVS (As := [.int v3]) (rest := [.int (gA d_2 b_5 ((gI d_2 a0 8) + v3).toNatClampNeg)]) S hw h.1 (m_J0_charAt_5068e l D cs E d_2 H.size t1 v3 _) (cwV 1 S.2.2.2.2 (gV wg461 wg269 wg270 wg259 wg271) rfl rfl rfl (by decide +kernel) ⟨Nat.le_of_ble_eq_true rfl, Nat.le_of_ble_eq_true rfl⟩) h rfl hl.1 rfl (Nat.le_of_ble_eq_true rfl) (dd_at ddX11_isWord 29 rfl) ⟨Nat.le_of_ble_eq_true rfl, Nat.le_of_ble_eq_true rfl⟩) (fun r_10 d_9 H locs h hw => ?_)
          refine lv_icmp_ne (tgt := 59) S.1 S.2.1 (dd_at ddX11_isWord 30 rfl) (by decide) (fun hc_11 => ?_) (fun hc_11 => ?_)
          · have h := h.1 hc_11
            refine lv_iconst (v := 0) S.1 S.2.1 (dd_at ddX11_isWord 33 rfl) (by decide) ?_
            refine lv_istore_n (lv' := [(2, .int 0), (0, .ref a0), (1, .ref (cs (100 + t1))), (3, .int v3)]) S.1 S.2.1 (dd_at ddX11_isWord 34 rfl) rfl hl (by decide) rfl (fun ls hl => ?_)
            refine lv_iinc (v := v3 + 1) (lv' := [(3, .int (v3 + 1)), (2, .int 0), (0, .ref a0), (1, .ref (cs (100 + t1)))]) S.1 S.2.1 (dd_at ddX11_isWord 35 rfl) hl (k := 3) rfl rfl (by decide) rfl (fun ls hl => ?_)
            refine lv_goto (tgt := 24) S.1 S.2.1 (dd_at ddX11_isWord 36 rfl) (by decide) ?_
            exact ih24 0 (v3 + 1) d_9 H locs ls h hw (lv_sub hl [2, 3, 1, 0] rfl)
          · have h := h.2 hc_11
            refine lv_iconst (v := 1) S.1 S.2.1 (dd_at ddX11_isWord 31 rfl) (by decide) ?_
            refine lv_goto (tgt := 60) S.1 S.2.1 (dd_at ddX11_isWord 32 rfl) (by decide) ?_
            refine lv_istore_n (lv' := [(2, .int 1), (0, .ref a0), (1, .ref (cs (100 + t1))), (3, .int v3)]) S.1 S.2.1 (dd_at ddX11_isWord 34 rfl) rfl hl (by decide) rfl (fun ls hl => ?_)
            refine lv_iinc (v := v3 + 1) (lv' := [(3, .int (v3 + 1)), (2, .int 1), (0, .ref a0), (1, .ref (cs (100 + t1)))]) S.1 S.2.1 (dd_at ddX11_isWord 35 rfl) hl (k := 3) rfl rfl (by decide) rfl (fun ls hl => ?_)
            refine lv_goto (tgt := 24) S.1 S.2.1 (dd_at ddX11_isWord 36 rfl) (by decide) ?_
            exact ih24 1 (v3 + 1) d_9 H locs ls h hw (lv_sub hl [2, 3, 1, 0] rfl)
  refine lv_aload_n S.1 S.2.1 (dd_at ddX11_isWord 0 rfl) rfl (lv_at hl 0 rfl) ?_
  refine r_getI S hw 11 6 rfl inG11 (by decide) (List.mem_cons_of_mem _ wg414) (by decide) ha0 (dd_at ddX11_isWord 1 rfl) ?_
  refine lv_aload_n S.1 S.2.1 (dd_at ddX11_isWord 2 rfl) rfl (lv_at hl 0 rfl) ?_
  refine r_getI S hw 11 8 rfl inG11 (by decide) (List.mem_cons_of_mem _ wg417) (by decide) ha0 (dd_at ddX11_isWord 3 rfl) ?_
  refine lv_isub S.1 S.2.1 (dd_at ddX11_isWord 4 rfl) ?_
  refine lv_aload_n S.1 S.2.1 (dd_at ddX11_isWord 5 rfl) rfl (lv_at hl 1 rfl) ?_
  refine r_callI hw (r_runVS (As := []) (rest := [.int ((gI d a0 6) - (gI d a0 8))]) S hw h.1 (m_J0_length_8abf5 l D cs E d H.size t1 _) (cwV 0 S.2.2.2.2 (gV wg460 wg257 wg258 wg259 wg260) rfl rfl rfl (by decide +kernel) ⟨Nat.le_of_ble_eq_true rfl, Nat.le_of_ble_eq_true rfl⟩) h rfl hl.1 rfl (Nat.le_of_ble_eq_true rfl) (dd_at ddX11_isWord 6 rfl) ⟨Nat.le_of_ble_eq_true rfl, Nat.le_of_ble_eq_true rfl⟩) (fun r_13 d_12 H locs h hw => ?_)
  refine lv_icmp_ne (tgt := 20) S.1 S.2.1 (dd_at ddX11_isWord 7 rfl) (by decide) (fun hc_14 => ?_) (fun hc_14 => ?_)
  · have h := h.1 hc_14
    refine lv_iconst (v := 0) S.1 S.2.1 (dd_at ddX11_isWord 10 rfl) (by decide) ?_
    refine lv_istore_n (lv' := [(2, .int 0), (0, .ref a0), (1, .ref (cs (100 + t1)))]) S.1 S.2.1 (dd_at ddX11_isWord 11 rfl) rfl hl (by decide) rfl (fun ls hl => ?_)
    refine lv_iconst (v := 0) S.1 S.2.1 (dd_at ddX11_isWord 12 rfl) (by decide) ?_
    refine lv_istore_n (lv' := [(3, .int 0), (2, .int 0), (0, .ref a0), (1, .ref (cs (100 + t1)))]) S.1 S.2.1 (dd_at ddX11_isWord 13 rfl) rfl hl (by decide) rfl (fun ls hl => ?_)
    obtain ⟨n_15, h⟩ := h
    exact tl24 n_15 0 0 d_12 H locs ls h hw (lv_sub hl [2, 3, 1, 0] rfl)
  · have h := h.2 hc_14
    refine lv_iconst (v := 1) S.1 S.2.1 (dd_at ddX11_isWord 8 rfl) (by decide) ?_
    refine lv_goto (tgt := 21) S.1 S.2.1 (dd_at ddX11_isWord 9 rfl) (by decide) ?_
    refine lv_istore_n (lv' := [(2, .int 1), (0, .ref a0), (1, .ref (cs (100 + t1)))]) S.1 S.2.1 (dd_at ddX11_isWord 11 rfl) rfl hl (by decide) rfl (fun ls hl => ?_)
    refine lv_iconst (v := 0) S.1 S.2.1 (dd_at ddX11_isWord 12 rfl) (by decide) ?_
    refine lv_istore_n (lv' := [(3, .int 0), (2, .int 1), (0, .ref a0), (1, .ref (cs (100 + t1)))]) S.1 S.2.1 (dd_at ddX11_isWord 13 rfl) rfl hl (by decide) rfl (fun ls hl => ?_)
    obtain ⟨n_16, h⟩ := h
    exact tl24 n_16 1 0 d_12 H locs ls h hw (lv_sub hl [2, 3, 1, 0] rfl)

def w_X11_passes (E : En) (a0 : Nat) (t1 : Nat) (d : Dy) (K : Int32 → Dy → Prop) : Prop := okO E a0 11 ∧ w_X11_letters E a0 d (fun d_1 => w_X11_isWord E a0 t1 d_1 (fun r_4 d_3 => ((r_4 = 0 → K 0 (pI d_3 a0 6 (gI d_3 a0 8))) ∧ (¬ r_4 = 0 → K 1 d_3))))
abbrev rm_X11_passes : Room := { frames := 5, cells := 0, slots := 0, locals := 114 }
set_option maxRecDepth 100000 in
set_option maxHeartbeats 4000000 in
theorem m_X11_passes (l : Launch) (D : va_G) (cs : Nat → ClassId) (E : En) (d : Dy) (sz : Nat) (a0 : Nat) (t1 : Nat) (K : Int32 → Dy → Prop) : CI l yX11_passes (.code yX11_passes cX11_passes 2 (some .boolean) :: wsL_law) rm_X11_passes D cs E d sz [.ref a0, .ref (cs (100 + t1))] (w_X11_passes E a0 t1 d K) K := by
  refine e_of (cc := cX11_passes) (maxL := 2) (ret := (some .boolean)) (own := RX11) (by decide) rfl rfl (Nat.le_of_ble_eq_true rfl) ?_
  intro p e s m below meth c S hr hlocks hsz H locs hw h ls hl
  have hl : lv_has ls 2 [(0, .ref a0), (1, .ref (cs (100 + t1)))] := hl
  unfold w_X11_passes at h
  obtain ⟨ha0, h⟩ := h
  refine lv_aload_n S.1 S.2.1 (dd_at ddX11_passes 0 rfl) rfl (lv_at hl 0 rfl) ?_
  refine r_callV hw (r_runV (As := []) (rest := []) S hw (m_X11_letters l D cs E d H.size a0 _) (cwV 0 S.2.2.2.2 (gV wg442 wg443 wg444 wg5 wg445) rfl rfl rfl (by decide +kernel) ⟨Nat.le_of_ble_eq_true rfl, Nat.le_of_ble_eq_true rfl⟩) (ci := 11) rfl ha0 h rfl hl.1 rfl (Nat.le_of_ble_eq_true rfl) (dd_at ddX11_passes 1 rfl) ⟨Nat.le_of_ble_eq_true rfl, Nat.le_of_ble_eq_true rfl⟩) (fun d_1 H locs h hw => ?_)
  refine lv_aload_n S.1 S.2.1 (dd_at ddX11_passes 2 rfl) rfl (lv_at hl 0 rfl) ?_
  refine lv_aload_n S.1 S.2.1 (dd_at ddX11_passes 3 rfl) rfl (lv_at hl 1 rfl) ?_
  refine r_callI hw (r_runV (As := [.ref (cs (100 + t1))]) (rest := []) S hw (m_X11_isWord l D cs E d_1 H.size a0 t1 _) (cwV 1 S.2.2.2.2 (gV wg456 wg457 wg458 wg5 wg459) rfl rfl rfl (by decide +kernel) ⟨Nat.le_of_ble_eq_true rfl, Nat.le_of_ble_eq_true rfl⟩) (ci := 11) rfl ha0 h rfl hl.1 rfl (Nat.le_of_ble_eq_true rfl) (dd_at ddX11_passes 4 rfl) ⟨Nat.le_of_ble_eq_true rfl, Nat.le_of_ble_eq_true rfl⟩) (fun r_4 d_3 H locs h hw => ?_)
  refine lv_if_eq (tgt := 14) S.1 S.2.1 (dd_at ddX11_passes 5 rfl) (by decide) (fun hc_5 => ?_) (fun hc_5 => ?_)
  · have h := h.1 hc_5
    refine lv_aload_n S.1 S.2.1 (dd_at ddX11_passes 8 rfl) rfl (lv_at hl 0 rfl) ?_
    refine lv_aload_n S.1 S.2.1 (dd_at ddX11_passes 9 rfl) rfl (lv_at hl 0 rfl) ?_
    refine r_getI S hw 11 8 rfl inG11 (by decide) (List.mem_cons_of_mem _ wg417) (by decide) ha0 (dd_at ddX11_passes 10 rfl) ?_
    refine r_putI S hw 11 6 (ty := .int) (v := gI d_3 a0 8) rfl inG11 tyX11 tyX11_ok nmX11 (by decide) (List.mem_cons_of_mem _ wg414) (by decide) rfl (by decide +kernel) rfl rfl ha0 (dd_at ddX11_passes 11 rfl) (fun H locs hw => ?_)
    refine lv_iconst (v := 0) S.1 S.2.1 (dd_at ddX11_passes 12 rfl) (by decide) ?_
    exact e_Z S hr hlocks hw (Or.inl rfl) h (dd_at ddX11_passes 13 rfl)
  · have h := h.2 hc_5
    refine lv_iconst (v := 1) S.1 S.2.1 (dd_at ddX11_passes 6 rfl) (by decide) ?_
    exact e_Z S hr hlocks hw (Or.inr rfl) h (dd_at ddX11_passes 7 rfl)

def w_X11_sign (E : En) (a0 : Nat) (p1 : Int32) (d : Dy) (K : Int32 → Dy → Prop) : Prop := okO E a0 11 ∧ w_X11_blanks E a0 d (fun d_1 => w_X11_isAt E a0 p1 p1 d_1 (fun r_4 d_3 => ((¬ r_4 = 0 → K 1 (pI d_3 a0 6 ((gI d_3 a0 6) + 1))) ∧ (r_4 = 0 → K 0 d_3))))
abbrev rm_X11_sign : Room := { frames := 2, cells := 0, slots := 0, locals := 42 }
set_option maxRecDepth 100000 in
set_option maxHeartbeats 4000000 in
theorem m_X11_sign (l : Launch) (D : va_G) (cs : Nat → ClassId) (E : En) (d : Dy) (sz : Nat) (a0 : Nat) (p1 : Int32) (K : Int32 → Dy → Prop) : CI l yX11_sign (.code yX11_sign cX11_sign 2 (some .boolean) :: wsL_law) rm_X11_sign D cs E d sz [.ref a0, .int p1] (w_X11_sign E a0 p1 d K) K := by
  refine e_of (cc := cX11_sign) (maxL := 2) (ret := (some .boolean)) (own := RX11) (by decide) rfl rfl (Nat.le_of_ble_eq_true rfl) ?_
  intro p e s m below meth c S hr hlocks hsz H locs hw h ls hl
  have hl : lv_has ls 2 [(0, .ref a0), (1, .int p1)] := hl
  unfold w_X11_sign at h
  obtain ⟨ha0, h⟩ := h
  refine lv_aload_n S.1 S.2.1 (dd_at ddX11_sign 0 rfl) rfl (lv_at hl 0 rfl) ?_
  refine r_callV hw (r_runV (As := []) (rest := []) S hw (m_X11_blanks l D cs E d H.size a0 _) (cwV 0 S.2.2.2.2 (gV wg429 wg430 wg431 wg5 wg432) rfl rfl rfl (by decide +kernel) ⟨Nat.le_of_ble_eq_true rfl, Nat.le_of_ble_eq_true rfl⟩) (ci := 11) rfl ha0 h rfl hl.1 rfl (Nat.le_of_ble_eq_true rfl) (dd_at ddX11_sign 1 rfl) ⟨Nat.le_of_ble_eq_true rfl, Nat.le_of_ble_eq_true rfl⟩) (fun d_1 H locs h hw => ?_)
  refine lv_aload_n S.1 S.2.1 (dd_at ddX11_sign 2 rfl) rfl (lv_at hl 0 rfl) ?_
  refine lv_iload_n S.1 S.2.1 (dd_at ddX11_sign 3 rfl) rfl (lv_at hl 1 rfl) ?_
  refine lv_iload_n S.1 S.2.1 (dd_at ddX11_sign 4 rfl) rfl (lv_at hl 1 rfl) ?_
  refine r_callI hw (r_runV (As := [.int p1, .int p1]) (rest := []) S hw (m_X11_isAt l D cs E d_1 H.size a0 p1 p1 _) (cwV 2 S.2.2.2.2 (gV wg433 wg434 wg435 wg5 wg436) rfl rfl rfl (by decide +kernel) ⟨Nat.le_of_ble_eq_true rfl, Nat.le_of_ble_eq_true rfl⟩) (ci := 11) rfl ha0 h rfl hl.1 rfl (Nat.le_of_ble_eq_true rfl) (dd_at ddX11_sign 5 rfl) ⟨Nat.le_of_ble_eq_true rfl, Nat.le_of_ble_eq_true rfl⟩) (fun r_4 d_3 H locs h hw => ?_)
  refine lv_if_ne (tgt := 15) S.1 S.2.1 (dd_at ddX11_sign 6 rfl) (by decide) (fun hc_5 => ?_) (fun hc_5 => ?_)
  · have h := h.1 hc_5
    refine lv_aload_n S.1 S.2.1 (dd_at ddX11_sign 9 rfl) rfl (lv_at hl 0 rfl) ?_
    refine lv_dup S.1 S.2.1 (dd_at ddX11_sign 10 rfl) rfl ?_
    refine r_getI S hw 11 6 rfl inG11 (by decide) (List.mem_cons_of_mem _ wg414) (by decide) ha0 (dd_at ddX11_sign 11 rfl) ?_
    refine lv_iconst (v := 1) S.1 S.2.1 (dd_at ddX11_sign 12 rfl) (by decide) ?_
    refine lv_iadd S.1 S.2.1 (dd_at ddX11_sign 13 rfl) ?_
    refine r_putI S hw 11 6 (ty := .int) (v := (gI d_3 a0 6) + 1) rfl inG11 tyX11 tyX11_ok nmX11 (by decide) (List.mem_cons_of_mem _ wg414) (by decide) rfl (by decide +kernel) rfl rfl ha0 (dd_at ddX11_sign 14 rfl) (fun H locs hw => ?_)
    refine lv_iconst (v := 1) S.1 S.2.1 (dd_at ddX11_sign 15 rfl) (by decide) ?_
    exact e_Z S hr hlocks hw (Or.inr rfl) h (dd_at ddX11_sign 16 rfl)
  · have h := h.2 hc_5
    refine lv_iconst (v := 0) S.1 S.2.1 (dd_at ddX11_sign 7 rfl) (by decide) ?_
    exact e_Z S hr hlocks hw (Or.inl rfl) h (dd_at ddX11_sign 8 rfl)

def b_X11_number_51 (E : En) (a0 : Nat) (p1 : Int32) (K : Int32 → Dy → Prop) (k6 : Int32 → Dy → Prop) (s0 : Int32) (d : Dy) : Prop := k6 s0 (pI d a0 6 ((gI d a0 6) + 1))
def b_X11_number_6 (E : En) (a0 : Nat) (p1 : Int32) (K : Int32 → Dy → Prop) (k6 : Int32 → Dy → Prop) (v2 : Int32) (d : Dy) : Prop := w_X11_isAt E a0 48 57 d (fun r_2 d_1 => ((r_2 = 0 → (((gI d_1 a0 6) = (gI d_1 a0 8) → K (-1) d_1) ∧ (¬ (gI d_1 a0 6) = (gI d_1 a0 8) → ((4 < ((gI d_1 a0 6) - (gI d_1 a0 8)) → K (-1) d_1) ∧ (¬ 4 < ((gI d_1 a0 6) - (gI d_1 a0 8)) → ((v2 ≤ p1 → K v2 d_1) ∧ (¬ v2 ≤ p1 → K (-1) d_1))))))) ∧ (¬ r_2 = 0 → ((4 ≤ ((gI d_1 a0 6) - (gI d_1 a0 8)) → b_X11_number_51 E a0 p1 K k6 v2 d_1) ∧ (¬ 4 ≤ ((gI d_1 a0 6) - (gI d_1 a0 8)) → ∃ b_8 : Nat, eR E a0 4 = some b_8 ∧ okA E b_8 12 ∧ vp_in (gI d_1 a0 6) (eN E b_8) ∧ b_X11_number_51 E a0 p1 K k6 (((10 * v2) + (gA d_1 b_8 (gI d_1 a0 6).toNatClampNeg)) - 48) d_1)))))
def l_X11_number_6 (E : En) (a0 : Nat) (p1 : Int32) (K : Int32 → Dy → Prop) : Nat → Int32 → Dy → Prop
  | 0 => fun _ _ => False
  | n + 1 => b_X11_number_6 E a0 p1 K (l_X11_number_6 E a0 p1 K n)
def w_X11_number (E : En) (a0 : Nat) (p1 : Int32) (d : Dy) (K : Int32 → Dy → Prop) : Prop := okO E a0 11 ∧ w_X11_blanks E a0 d (fun d_12 => (∃ n_14 : Nat, l_X11_number_6 E a0 p1 K n_14 0 d_12))
abbrev rm_X11_number : Room := { frames := 2, cells := 0, slots := 0, locals := 42 }
set_option maxRecDepth 100000 in
set_option maxHeartbeats 4000000 in
theorem m_X11_number (l : Launch) (D : va_G) (cs : Nat → ClassId) (E : En) (d : Dy) (sz : Nat) (a0 : Nat) (p1 : Int32) (K : Int32 → Dy → Prop) : CI l yX11_number (.code yX11_number cX11_number 3 (some .int) :: wsL_law) rm_X11_number D cs E d sz [.ref a0, .int p1] (w_X11_number E a0 p1 d K) K := by
  refine e_of (cc := cX11_number) (maxL := 3) (ret := (some .int)) (own := RX11) (by decide) rfl rfl (Nat.le_of_ble_eq_true rfl) ?_
  intro p e s m below meth c S hr hlocks hsz H locs hw h ls hl
  have hl : lv_has ls 3 [(0, .ref a0), (1, .int p1)] := hl
  unfold w_X11_number at h
  obtain ⟨ha0, h⟩ := h
  have tl6 : ∀ (n : Nat) (v2 : Int32) (d : Dy) (H : Heap) (locs : List Loc) (ls : Array Slot), l_X11_number_6 E a0 p1 K n v2 d → Wd D cs (AW E sz) s.heap s E d H locs → lv_has ls 3 [(0, .ref a0), (1, .int p1), (2, .int v2)] → W p l e rm_X11_number s m ([.ref a0, .int p1] : List Value).toArray below meth c H locs 0 0 (MQ below (va_Qi K (OutW D cs E (AW E sz)) (AW E sz)) ([.ref a0, .int p1] : List Value).toArray s rm_X11_number.cells rm_X11_number.slots (AW E sz)) (F0 m 6 ls []) := by
    intro n6
    induction n6 with
    | zero => intro v2 d H locs ls h; exact absurd h id
    | succ n6 ih6 =>
      have tb51 : ∀ (s0 : Int32) (d : Dy) (H : Heap) (locs : List Loc) (ls : Array Slot), b_X11_number_51 E a0 p1 K (l_X11_number_6 E a0 p1 K n6) s0 d → Wd D cs (AW E sz) s.heap s E d H locs → lv_has ls 3 [(0, .ref a0), (1, .int p1)] → W p l e rm_X11_number s m ([.ref a0, .int p1] : List Value).toArray below meth c H locs 0 0 (MQ below (va_Qi K (OutW D cs E (AW E sz)) (AW E sz)) ([.ref a0, .int p1] : List Value).toArray s rm_X11_number.cells rm_X11_number.slots (AW E sz)) (F0 m 51 ls [.int s0]) := by
        intro s0 d H locs ls h hw hl
        unfold b_X11_number_51 at h
        refine lv_istore_n (lv' := [(2, .int s0), (0, .ref a0), (1, .int p1)]) S.1 S.2.1 (dd_at ddX11_number 29 rfl) rfl hl (by decide) rfl (fun ls hl => ?_)
        refine lv_aload_n S.1 S.2.1 (dd_at ddX11_number 30 rfl) rfl (lv_at hl 1 rfl) ?_
        refine lv_dup S.1 S.2.1 (dd_at ddX11_number 31 rfl) rfl ?_
        refine r_getI S hw 11 6 rfl inG11 (by decide) (List.mem_cons_of_mem _ wg414) (by decide) ha0 (dd_at ddX11_number 32 rfl) ?_
        refine lv_iconst (v := 1) S.1 S.2.1 (dd_at ddX11_number 33 rfl) (by decide) ?_
        refine lv_iadd S.1 S.2.1 (dd_at ddX11_number 34 rfl) ?_
        refine r_putI S hw 11 6 (ty := .int) (v := (gI d a0 6) + 1) rfl inG11 tyX11 tyX11_ok nmX11 (by decide) (List.mem_cons_of_mem _ wg414) (by decide) rfl (by decide +kernel) rfl rfl ha0 (dd_at ddX11_number 35 rfl) (fun H locs hw => ?_)
        refine lv_goto (tgt := 6) S.1 S.2.1 (dd_at ddX11_number 36 rfl) (by decide) ?_
        exact ih6 s0 (pI d a0 6 ((gI d a0 6) + 1)) H locs ls h hw (lv_sub hl [1, 2, 0] rfl)
      intro v2 d H locs ls h hw hl
      have h : b_X11_number_6 E a0 p1 K (l_X11_number_6 E a0 p1 K n6) v2 d := h
      unfold b_X11_number_6 at h
      refine lv_aload_n S.1 S.2.1 (dd_at ddX11_number 4 rfl) rfl (lv_at hl 0 rfl) ?_
      refine lv_bipush (v := 48) S.1 S.2.1 (dd_at ddX11_number 5 rfl) (by decide) ?_
      refine lv_bipush (v := 57) S.1 S.2.1 (dd_at ddX11_number 6 rfl) (by decide) ?_
      refine r_callI hw (r_runV (As := [.int 48, .int 57]) (rest := []) S hw (m_X11_isAt l D cs E d H.size a0 48 57 _) (cwV 2 S.2.2.2.2 (gV wg433 wg434 wg435 wg5 wg436) rfl rfl rfl (by decide +kernel) ⟨Nat.le_of_ble_eq_true rfl, Nat.le_of_ble_eq_true rfl⟩) (ci := 11) rfl ha0 h rfl hl.1 rfl (Nat.le_of_ble_eq_true rfl) (dd_at ddX11_number 7 rfl) ⟨Nat.le_of_ble_eq_true rfl, Nat.le_of_ble_eq_true rfl⟩) (fun r_2 d_1 H locs h hw => ?_)
      refine lv_if_eq (tgt := 65) S.1 S.2.1 (dd_at ddX11_number 8 rfl) (by decide) (fun hc_3 => ?_) (fun hc_3 => ?_)
      · have h := h.1 hc_3
        refine lv_aload_n S.1 S.2.1 (dd_at ddX11_number 37 rfl) rfl (lv_at hl 0 rfl) ?_
        refine r_getI S hw 11 6 rfl inG11 (by decide) (List.mem_cons_of_mem _ wg414) (by decide) ha0 (dd_at ddX11_number 38 rfl) ?_
        refine lv_aload_n S.1 S.2.1 (dd_at ddX11_number 39 rfl) rfl (lv_at hl 0 rfl) ?_
        refine r_getI S hw 11 8 rfl inG11 (by decide) (List.mem_cons_of_mem _ wg417) (by decide) ha0 (dd_at ddX11_number 40 rfl) ?_
        refine lv_icmp_eq (tgt := 94) S.1 S.2.1 (dd_at ddX11_number 41 rfl) (by decide) (fun hc_4 => ?_) (fun hc_4 => ?_)
        · have h := h.1 hc_4
          refine lv_iconst (v := -1) S.1 S.2.1 (dd_at ddX11_number 52 rfl) (by decide) ?_
          refine lv_goto (tgt := 99) S.1 S.2.1 (dd_at ddX11_number 53 rfl) (by decide) ?_
          exact e_I S hr hlocks hw h (dd_at ddX11_number 55 rfl)
        · have h := h.2 hc_4
          refine lv_aload_n S.1 S.2.1 (dd_at ddX11_number 42 rfl) rfl (lv_at hl 0 rfl) ?_
          refine r_getI S hw 11 6 rfl inG11 (by decide) (List.mem_cons_of_mem _ wg414) (by decide) ha0 (dd_at ddX11_number 43 rfl) ?_
          refine lv_aload_n S.1 S.2.1 (dd_at ddX11_number 44 rfl) rfl (lv_at hl 0 rfl) ?_
          refine r_getI S hw 11 8 rfl inG11 (by decide) (List.mem_cons_of_mem _ wg417) (by decide) ha0 (dd_at ddX11_number 45 rfl) ?_
          refine lv_isub S.1 S.2.1 (dd_at ddX11_number 46 rfl) ?_
          refine lv_iconst (v := 4) S.1 S.2.1 (dd_at ddX11_number 47 rfl) (by decide) ?_
          refine lv_icmp_gt (tgt := 94) S.1 S.2.1 (dd_at ddX11_number 48 rfl) (by decide) (fun hc_5 => ?_) (fun hc_5 => ?_)
          · have h := h.1 hc_5
            refine lv_iconst (v := -1) S.1 S.2.1 (dd_at ddX11_number 52 rfl) (by decide) ?_
            refine lv_goto (tgt := 99) S.1 S.2.1 (dd_at ddX11_number 53 rfl) (by decide) ?_
            exact e_I S hr hlocks hw h (dd_at ddX11_number 55 rfl)
          · have h := h.2 hc_5
            refine lv_iload_n S.1 S.2.1 (dd_at ddX11_number 49 rfl) rfl (lv_at hl 2 rfl) ?_
            refine lv_iload_n S.1 S.2.1 (dd_at ddX11_number 50 rfl) rfl (lv_at hl 1 rfl) ?_
            refine lv_icmp_le (tgt := 98) S.1 S.2.1 (dd_at ddX11_number 51 rfl) (by decide) (fun hc_6 => ?_) (fun hc_6 => ?_)
            · have h := h.1 hc_6
              refine lv_iload_n S.1 S.2.1 (dd_at ddX11_number 54 rfl) rfl (lv_at hl 2 rfl) ?_
              exact e_I S hr hlocks hw h (dd_at ddX11_number 55 rfl)
            · have h := h.2 hc_6
              refine lv_iconst (v := -1) S.1 S.2.1 (dd_at ddX11_number 52 rfl) (by decide) ?_
              refine lv_goto (tgt := 99) S.1 S.2.1 (dd_at ddX11_number 53 rfl) (by decide) ?_
              exact e_I S hr hlocks hw h (dd_at ddX11_number 55 rfl)
      · have h := h.2 hc_3
        refine lv_aload_n S.1 S.2.1 (dd_at ddX11_number 9 rfl) rfl (lv_at hl 0 rfl) ?_
        refine r_getI S hw 11 6 rfl inG11 (by decide) (List.mem_cons_of_mem _ wg414) (by decide) ha0 (dd_at ddX11_number 10 rfl) ?_
        refine lv_aload_n S.1 S.2.1 (dd_at ddX11_number 11 rfl) rfl (lv_at hl 0 rfl) ?_
        refine r_getI S hw 11 8 rfl inG11 (by decide) (List.mem_cons_of_mem _ wg417) (by decide) ha0 (dd_at ddX11_number 12 rfl) ?_
        refine lv_isub S.1 S.2.1 (dd_at ddX11_number 13 rfl) ?_
        refine lv_iconst (v := 4) S.1 S.2.1 (dd_at ddX11_number 14 rfl) (by decide) ?_
        refine lv_icmp_ge (tgt := 50) S.1 S.2.1 (dd_at ddX11_number 15 rfl) (by decide) (fun hc_7 => ?_) (fun hc_7 => ?_)
        · have h := h.1 hc_7
          refine lv_iload_n S.1 S.2.1 (dd_at ddX11_number 28 rfl) rfl (lv_at hl 2 rfl) ?_
          exact tb51 v2 d_1 H locs ls h hw (lv_sub hl [0, 1] rfl)
        · have h := h.2 hc_7
          refine lv_bipush (v := 10) S.1 S.2.1 (dd_at ddX11_number 16 rfl) (by decide) ?_
          refine lv_iload_n S.1 S.2.1 (dd_at ddX11_number 17 rfl) rfl (lv_at hl 2 rfl) ?_
          refine lv_imul S.1 S.2.1 (dd_at ddX11_number 18 rfl) ?_
          refine lv_aload_n S.1 S.2.1 (dd_at ddX11_number 19 rfl) rfl (lv_at hl 0 rfl) ?_
          obtain ⟨b_8, hb_9, ho_10, h⟩ := h
          refine r_getR S hw 11 4 rfl inG11 (by decide) (List.mem_cons_of_mem _ wg153) (by decide) ha0 hb_9 (dd_at ddX11_number 20 rfl) ?_
          refine lv_aload_n S.1 S.2.1 (dd_at ddX11_number 21 rfl) rfl (lv_at hl 0 rfl) ?_
          refine r_getI S hw 11 6 rfl inG11 (by decide) (List.mem_cons_of_mem _ wg414) (by decide) ha0 (dd_at ddX11_number 22 rfl) ?_
          obtain ⟨hx_11, h⟩ := h
          refine r_bald S hw ho_10 hx_11 (dd_at ddX11_number 23 rfl) ?_
          refine lv_iadd S.1 S.2.1 (dd_at ddX11_number 24 rfl) ?_
          refine lv_bipush (v := 48) S.1 S.2.1 (dd_at ddX11_number 25 rfl) (by decide) ?_
          refine lv_isub S.1 S.2.1 (dd_at ddX11_number 26 rfl) ?_
          refine lv_goto (tgt := 51) S.1 S.2.1 (dd_at ddX11_number 27 rfl) (by decide) ?_
          exact tb51 (((10 * v2) + (gA d_1 b_8 (gI d_1 a0 6).toNatClampNeg)) - 48) d_1 H locs ls h hw (lv_sub hl [0, 1] rfl)
  refine lv_aload_n S.1 S.2.1 (dd_at ddX11_number 0 rfl) rfl (lv_at hl 0 rfl) ?_
  refine r_callV hw (r_runV (As := []) (rest := []) S hw (m_X11_blanks l D cs E d H.size a0 _) (cwV 0 S.2.2.2.2 (gV wg429 wg430 wg431 wg5 wg432) rfl rfl rfl (by decide +kernel) ⟨Nat.le_of_ble_eq_true rfl, Nat.le_of_ble_eq_true rfl⟩) (ci := 11) rfl ha0 h rfl hl.1 rfl (Nat.le_of_ble_eq_true rfl) (dd_at ddX11_number 1 rfl) ⟨Nat.le_of_ble_eq_true rfl, Nat.le_of_ble_eq_true rfl⟩) (fun d_12 H locs h hw => ?_)
  refine lv_iconst (v := 0) S.1 S.2.1 (dd_at ddX11_number 2 rfl) (by decide) ?_
  refine lv_istore_n (lv' := [(2, .int 0), (0, .ref a0), (1, .int p1)]) S.1 S.2.1 (dd_at ddX11_number 3 rfl) rfl hl (by decide) rfl (fun ls hl => ?_)
  obtain ⟨n_14, h⟩ := h
  exact tl6 n_14 0 d_12 H locs ls h hw (lv_sub hl [1, 2, 0] rfl)
