def w_X6_init (E : En) (a0 : Nat) (p1 : Int32) (p2 : Int32) (d : Dy) (K : En → Dy → Prop) : Prop := okO E a0 6 ∧ ¬ ((gI (pI (pI d a0 1 (if p1 < 0 then 0 else p1)) a0 0 (if p2 < 1 then 1 else p2)) a0 1) * (gI (pI (pI d a0 1 (if p1 < 0 then 0 else p1)) a0 0 (if p2 < 1 then 1 else p2)) a0 0)) < 0 ∧ ((gI (pI (pI d a0 1 (if p1 < 0 then 0 else p1)) a0 0 (if p2 < 1 then 1 else p2)) a0 1) * (gI (pI (pI d a0 1 (if p1 < 0 then 0 else p1)) a0 0 (if p2 < 1 then 1 else p2)) a0 0)).toNatClampNeg ≤ 400 ∧ ∀ q_1 : Nat, q_1 ∉ eL E → K (sR (nE E q_1 13 ((gI (pI (pI d a0 1 (if p1 < 0 then 0 else p1)) a0 0 (if p2 < 1 then 1 else p2)) a0 1) * (gI (pI (pI d a0 1 (if p1 < 0 then 0 else p1)) a0 0 (if p2 < 1 then 1 else p2)) a0 0)).toNatClampNeg) a0 2 (some q_1)) (nD (pI (pI d a0 1 (if p1 < 0 then 0 else p1)) a0 0 (if p2 < 1 then 1 else p2)) q_1)
abbrev rm_X6_init : Room := { frames := 1, cells := 1, slots := 400, locals := 40 }
set_option maxRecDepth 100000 in
set_option maxHeartbeats 4000000 in
theorem m_X6_init (l : Launch) (D : va_G) (cs : Nat → ClassId) (E : En) (d : Dy) (sz : Nat) (a0 : Nat) (p1 : Int32) (p2 : Int32) (K : En → Dy → Prop) : LV l yX6_init (.code yX6_init cX6_init 3 none :: wsL_law) rm_X6_init D cs E d sz [.ref a0, .int p1, .int p2] (w_X6_init E a0 p1 p2 d K) K := by
  refine e_ofN (cc := cX6_init) (maxL := 3) (ret := none) (own := RX6) (by decide) rfl rfl (Nat.le_of_ble_eq_true rfl) ?_
  intro p e s m below meth c S hr hlocks hinit hsz H locs hw h ls hl
  have hx : Ext E E := Ext_rf E
  have hinit : meth.name = "<init>" := hinit
  have hl : lv_has ls 3 [(0, .ref a0), (1, .int p1), (2, .int p2)] := hl
  unfold w_X6_init at h
  obtain ⟨ha0, h⟩ := h
  refine lv_aload_n S.1 S.2.1 (dd_at ddX6_init 0 rfl) rfl (lv_at hl 0 rfl) ?_
  refine W.objInit S.1 S.2.1 S.2.2.2.1 (S.2.2.2.2 _ (List.mem_cons_of_mem _ wg67)) (S.2.2.2.2 _ (List.mem_cons_of_mem _ wg11)) (S.2.2.2.2 _ (List.mem_cons_of_mem _ wg12)) rfl (by rw [S.2.2.1]; exact hl.1) rfl (dd_at ddX6_init 1 rfl) (Nat.le_of_ble_eq_true rfl) (Nat.le_of_ble_eq_true rfl) ?_
  refine W.eq (g2 := F0 m 4 ls []) rfl ?_
  refine lv_aload_n S.1 S.2.1 (dd_at ddX6_init 2 rfl) rfl (lv_at hl 0 rfl) ?_
  refine lv_iload_n S.1 S.2.1 (dd_at ddX6_init 3 rfl) rfl (lv_at hl 1 rfl) ?_
  refine lv_iconst (v := 0) S.1 S.2.1 (dd_at ddX6_init 4 rfl) (by decide) ?_
  refine va_mmax S.1 S.2.1 (by rw [hl.1]; exact S.2.2.1) S.2.2.2.1 (S.2.2.2.2 _ (List.mem_cons_of_mem _ wg68)) (S.2.2.2.2 _ (List.mem_cons_of_mem _ wg69)) (S.2.2.2.2 _ (List.mem_cons_of_mem _ wg70)) (S.2.2.2.2 _ (List.mem_cons_of_mem _ wg71)) (Nat.le_of_ble_eq_true rfl) (Nat.le_of_ble_eq_true rfl) (Nat.le_of_ble_eq_true rfl) (Nat.le_of_ble_eq_true rfl) (dd_at ddX6_init 5 rfl) ?_
  refine r_putIF S hw hinit 6 1 (ty := .int) (v := if p1 < 0 then 0 else p1) rfl inG6 tyX6 tyX6_ok nmX6 (by decide) (List.mem_cons_of_mem _ wg72) (by decide) rfl rfl (by decide +kernel) rfl rfl ha0 (dd_at ddX6_init 6 rfl) (fun H locs hw => ?_)
  refine lv_aload_n S.1 S.2.1 (dd_at ddX6_init 7 rfl) rfl (lv_at hl 0 rfl) ?_
  refine lv_iload_n S.1 S.2.1 (dd_at ddX6_init 8 rfl) rfl (lv_at hl 2 rfl) ?_
  refine lv_iconst (v := 1) S.1 S.2.1 (dd_at ddX6_init 9 rfl) (by decide) ?_
  refine va_mmax S.1 S.2.1 (by rw [hl.1]; exact S.2.2.1) S.2.2.2.1 (S.2.2.2.2 _ (List.mem_cons_of_mem _ wg68)) (S.2.2.2.2 _ (List.mem_cons_of_mem _ wg69)) (S.2.2.2.2 _ (List.mem_cons_of_mem _ wg70)) (S.2.2.2.2 _ (List.mem_cons_of_mem _ wg71)) (Nat.le_of_ble_eq_true rfl) (Nat.le_of_ble_eq_true rfl) (Nat.le_of_ble_eq_true rfl) (Nat.le_of_ble_eq_true rfl) (dd_at ddX6_init 10 rfl) ?_
  refine r_putIF S hw hinit 6 0 (ty := .int) (v := if p2 < 1 then 1 else p2) rfl inG6 tyX6 tyX6_ok nmX6 (by decide) (List.mem_cons_of_mem _ wg73) (by decide) rfl rfl (by decide +kernel) rfl rfl ha0 (dd_at ddX6_init 11 rfl) (fun H locs hw => ?_)
  refine lv_aload_n S.1 S.2.1 (dd_at ddX6_init 12 rfl) rfl (lv_at hl 0 rfl) ?_
  refine lv_aload_n S.1 S.2.1 (dd_at ddX6_init 13 rfl) rfl (lv_at hl 0 rfl) ?_
  refine r_getI S hw 6 1 rfl inG6 (by decide) (List.mem_cons_of_mem _ wg72) (by decide) ha0 (dd_at ddX6_init 14 rfl) ?_
  refine lv_aload_n S.1 S.2.1 (dd_at ddX6_init 15 rfl) rfl (lv_at hl 0 rfl) ?_
  refine r_getI S hw 6 0 rfl inG6 (by decide) (List.mem_cons_of_mem _ wg73) (by decide) ha0 (dd_at ddX6_init 16 rfl) ?_
  refine lv_imul S.1 S.2.1 (dd_at ddX6_init 17 rfl) ?_
  obtain ⟨hn_4, hn_5, h⟩ := h
  refine r_newI S hw (List.mem_cons_of_mem _ wg74) hn_4 (by omega) (Nat.le_of_ble_eq_true rfl) (Nat.le_trans (Nat.add_le_add_left hn_5 _) (Nat.le_of_ble_eq_true rfl)) (dd_at ddX6_init 18 rfl) (fun q_1 H hq_2 hw => ?_)
  refine W.widen (k := 1) (n := 400) (Nat.le_of_ble_eq_true rfl) (Nat.add_le_add_left hn_5 _) ?_
  have h := h q_1 hq_2
  have ha0 := Ext_O (Ext_nE 13 ((gI (pI (pI d a0 1 (if p1 < 0 then 0 else p1)) a0 0 (if p2 < 1 then 1 else p2)) a0 1) * (gI (pI (pI d a0 1 (if p1 < 0 then 0 else p1)) a0 0 (if p2 < 1 then 1 else p2)) a0 0)).toNatClampNeg hq_2) ha0
  have hx := Ext_tr hx (Ext_nE 13 ((gI (pI (pI d a0 1 (if p1 < 0 then 0 else p1)) a0 0 (if p2 < 1 then 1 else p2)) a0 1) * (gI (pI (pI d a0 1 (if p1 < 0 then 0 else p1)) a0 0 (if p2 < 1 then 1 else p2)) a0 0)).toNatClampNeg hq_2)
  have ho_3 := okA_new E q_1 ((gI (pI (pI d a0 1 (if p1 < 0 then 0 else p1)) a0 0 (if p2 < 1 then 1 else p2)) a0 1) * (gI (pI (pI d a0 1 (if p1 < 0 then 0 else p1)) a0 0 (if p2 < 1 then 1 else p2)) a0 0)).toNatClampNeg (t := 13) (by decide)
  refine r_putRF S hw hinit 6 2 (ty := (.array .int)) rfl inG6 tyX6 tyX6_ok nmX6 (by decide) (List.mem_cons_of_mem _ wg75) (by decide) rfl rfl (by decide +kernel) rfl rfl ha0 (dd_at ddX6_init 19 rfl) (fun H locs hw => ?_)
  have ha0 := Ext_O (Ext_sR _ a0 2 (some q_1)) ha0
  have ho_3 := Ext_A (Ext_sR _ a0 2 (some q_1)) ho_3
  have hx := Ext_tr hx (Ext_sR _ a0 2 (some q_1))
  exact e_VL S hr hlocks hw hx h (dd_at ddX6_init 20 rfl)

def w_X6_clear (E : En) (a0 : Nat) (d : Dy) (K : Dy → Prop) : Prop := okO E a0 6 ∧ K (pI d a0 3 0)
abbrev rm_X6_clear : Room := { frames := 0, cells := 0, slots := 0, locals := 0 }
set_option maxRecDepth 100000 in
set_option maxHeartbeats 4000000 in
theorem m_X6_clear (l : Launch) (D : va_G) (cs : Nat → ClassId) (E : En) (d : Dy) (sz : Nat) (a0 : Nat) (K : Dy → Prop) : CV l yX6_clear (.code yX6_clear cX6_clear 1 none :: wsL_law) rm_X6_clear D cs E d sz [.ref a0] (w_X6_clear E a0 d K) K := by
  refine e_of (cc := cX6_clear) (maxL := 1) (ret := none) (own := RX6) (by decide) rfl rfl (Nat.le_of_ble_eq_true rfl) ?_
  intro p e s m below meth c S hr hlocks hsz H locs hw h ls hl
  have hl : lv_has ls 1 [(0, .ref a0)] := hl
  unfold w_X6_clear at h
  obtain ⟨ha0, h⟩ := h
  refine lv_aload_n S.1 S.2.1 (dd_at ddX6_clear 0 rfl) rfl (lv_at hl 0 rfl) ?_
  refine lv_iconst (v := 0) S.1 S.2.1 (dd_at ddX6_clear 1 rfl) (by decide) ?_
  refine r_putI S hw 6 3 (ty := .int) (v := 0) rfl inG6 tyX6 tyX6_ok nmX6 (by decide) (List.mem_cons_of_mem _ wg80) (by decide) rfl (by decide +kernel) rfl rfl ha0 (dd_at ddX6_clear 2 rfl) (fun H locs hw => ?_)
  exact e_V S hr hlocks hw h (dd_at ddX6_clear 3 rfl)

def w_X6_size (E : En) (a0 : Nat) (d : Dy) (K : Int32 → Dy → Prop) : Prop := okO E a0 6 ∧ K (gI d a0 3) d
abbrev rm_X6_size : Room := { frames := 0, cells := 0, slots := 0, locals := 0 }
set_option maxRecDepth 100000 in
set_option maxHeartbeats 4000000 in
theorem m_X6_size (l : Launch) (D : va_G) (cs : Nat → ClassId) (E : En) (d : Dy) (sz : Nat) (a0 : Nat) (K : Int32 → Dy → Prop) : CI l yX6_size (.code yX6_size cX6_size 1 (some .int) :: wsL_law) rm_X6_size D cs E d sz [.ref a0] (w_X6_size E a0 d K) K := by
  refine e_of (cc := cX6_size) (maxL := 1) (ret := (some .int)) (own := RX6) (by decide) rfl rfl (Nat.le_of_ble_eq_true rfl) ?_
  intro p e s m below meth c S hr hlocks hsz H locs hw h ls hl
  have hl : lv_has ls 1 [(0, .ref a0)] := hl
  unfold w_X6_size at h
  obtain ⟨ha0, h⟩ := h
  refine lv_aload_n S.1 S.2.1 (dd_at ddX6_size 0 rfl) rfl (lv_at hl 0 rfl) ?_
  refine r_getI S hw 6 3 rfl inG6 (by decide) (List.mem_cons_of_mem _ wg80) (by decide) ha0 (dd_at ddX6_size 1 rfl) ?_
  exact e_I S hr hlocks hw h (dd_at ddX6_size 2 rfl)

def b_X6_get_29 (E : En) (a0 : Nat) (p1 : Int32) (p2 : Int32) (K : Int32 → Dy → Prop) (s0 : Int32) (d : Dy) : Prop := ((s0 = 0 → K 0 d) ∧ (¬ s0 = 0 → ∃ b_2 : Nat, eR E a0 2 = some b_2 ∧ okA E b_2 13 ∧ vp_in ((p1 * (gI d a0 0)) + p2) (eN E b_2) ∧ K (gA d b_2 ((p1 * (gI d a0 0)) + p2).toNatClampNeg) d))
def b_X6_get_28 (E : En) (a0 : Nat) (p1 : Int32) (p2 : Int32) (K : Int32 → Dy → Prop) (d : Dy) : Prop := b_X6_get_29 E a0 p1 p2 K 0 d
def w_X6_get (E : En) (a0 : Nat) (p1 : Int32) (p2 : Int32) (d : Dy) (K : Int32 → Dy → Prop) : Prop := okO E a0 6 ∧ ((p1 < 0 → b_X6_get_28 E a0 p1 p2 K d) ∧ (¬ p1 < 0 → (((gI d a0 3) ≤ p1 → b_X6_get_28 E a0 p1 p2 K d) ∧ (¬ (gI d a0 3) ≤ p1 → ((p2 < 0 → b_X6_get_28 E a0 p1 p2 K d) ∧ (¬ p2 < 0 → (((gI d a0 0) ≤ p2 → b_X6_get_28 E a0 p1 p2 K d) ∧ (¬ (gI d a0 0) ≤ p2 → b_X6_get_29 E a0 p1 p2 K 1 d))))))))
abbrev rm_X6_get : Room := { frames := 0, cells := 0, slots := 0, locals := 0 }
set_option maxRecDepth 100000 in
set_option maxHeartbeats 4000000 in
theorem m_X6_get (l : Launch) (D : va_G) (cs : Nat → ClassId) (E : En) (d : Dy) (sz : Nat) (a0 : Nat) (p1 : Int32) (p2 : Int32) (K : Int32 → Dy → Prop) : CI l yX6_get (.code yX6_get cX6_get 4 (some .int) :: wsL_law) rm_X6_get D cs E d sz [.ref a0, .int p1, .int p2] (w_X6_get E a0 p1 p2 d K) K := by
  refine e_of (cc := cX6_get) (maxL := 4) (ret := (some .int)) (own := RX6) (by decide) rfl rfl (Nat.le_of_ble_eq_true rfl) ?_
  intro p e s m below meth c S hr hlocks hsz H locs hw h ls hl
  have hl : lv_has ls 4 [(0, .ref a0), (1, .int p1), (2, .int p2)] := hl
  unfold w_X6_get at h
  obtain ⟨ha0, h⟩ := h
  have tb29 : ∀ (s0 : Int32) (d : Dy) (H : Heap) (locs : List Loc) (ls : Array Slot), b_X6_get_29 E a0 p1 p2 K s0 d → Wd D cs (AW E sz) s.heap s E d H locs → lv_has ls 4 [(0, .ref a0), (1, .int p1), (2, .int p2)] → W p l e rm_X6_get s m ([.ref a0, .int p1, .int p2] : List Value).toArray below meth c H locs 0 0 (MQ below (va_Qi K (OutW D cs E (AW E sz)) (AW E sz)) ([.ref a0, .int p1, .int p2] : List Value).toArray s rm_X6_get.cells rm_X6_get.slots (AW E sz)) (F0 m 29 ls [.int s0]) := by
    intro s0 d H locs ls h hw hl
    unfold b_X6_get_29 at h
    refine lv_istore_n (lv' := [(3, .int s0), (0, .ref a0), (1, .int p1), (2, .int p2)]) S.1 S.2.1 (dd_at ddX6_get 15 rfl) rfl hl (by decide) rfl (fun ls hl => ?_)
    refine lv_iload_n S.1 S.2.1 (dd_at ddX6_get 16 rfl) rfl (lv_at hl 0 rfl) ?_
    refine lv_if_eq (tgt := 50) S.1 S.2.1 (dd_at ddX6_get 17 rfl) (by decide) (fun hc_1 => ?_) (fun hc_1 => ?_)
    · have h := h.1 hc_1
      refine lv_iconst (v := 0) S.1 S.2.1 (dd_at ddX6_get 28 rfl) (by decide) ?_
      exact e_I S hr hlocks hw h (dd_at ddX6_get 29 rfl)
    · have h := h.2 hc_1
      refine lv_aload_n S.1 S.2.1 (dd_at ddX6_get 18 rfl) rfl (lv_at hl 1 rfl) ?_
      obtain ⟨b_2, hb_3, ho_4, h⟩ := h
      refine r_getR S hw 6 2 rfl inG6 (by decide) (List.mem_cons_of_mem _ wg75) (by decide) ha0 hb_3 (dd_at ddX6_get 19 rfl) ?_
      refine lv_iload_n S.1 S.2.1 (dd_at ddX6_get 20 rfl) rfl (lv_at hl 2 rfl) ?_
      refine lv_aload_n S.1 S.2.1 (dd_at ddX6_get 21 rfl) rfl (lv_at hl 1 rfl) ?_
      refine r_getI S hw 6 0 rfl inG6 (by decide) (List.mem_cons_of_mem _ wg73) (by decide) ha0 (dd_at ddX6_get 22 rfl) ?_
      refine lv_imul S.1 S.2.1 (dd_at ddX6_get 23 rfl) ?_
      refine lv_iload_n S.1 S.2.1 (dd_at ddX6_get 24 rfl) rfl (lv_at hl 3 rfl) ?_
      refine lv_iadd S.1 S.2.1 (dd_at ddX6_get 25 rfl) ?_
      obtain ⟨hx_5, h⟩ := h
      refine r_iald S hw ho_4 hx_5 (dd_at ddX6_get 26 rfl) ?_
      refine lv_goto (tgt := 51) S.1 S.2.1 (dd_at ddX6_get 27 rfl) (by decide) ?_
      exact e_I S hr hlocks hw h (dd_at ddX6_get 29 rfl)
  have tb28 : ∀ (d : Dy) (H : Heap) (locs : List Loc) (ls : Array Slot), b_X6_get_28 E a0 p1 p2 K d → Wd D cs (AW E sz) s.heap s E d H locs → lv_has ls 4 [(0, .ref a0), (1, .int p1), (2, .int p2)] → W p l e rm_X6_get s m ([.ref a0, .int p1, .int p2] : List Value).toArray below meth c H locs 0 0 (MQ below (va_Qi K (OutW D cs E (AW E sz)) (AW E sz)) ([.ref a0, .int p1, .int p2] : List Value).toArray s rm_X6_get.cells rm_X6_get.slots (AW E sz)) (F0 m 28 ls []) := by
    intro d H locs ls h hw hl
    unfold b_X6_get_28 at h
    refine lv_iconst (v := 0) S.1 S.2.1 (dd_at ddX6_get 14 rfl) (by decide) ?_
    exact tb29 0 d H locs ls h hw (lv_sub hl [0, 1, 2] rfl)
  refine lv_iload_n S.1 S.2.1 (dd_at ddX6_get 0 rfl) rfl (lv_at hl 1 rfl) ?_
  refine lv_if_lt (tgt := 28) S.1 S.2.1 (dd_at ddX6_get 1 rfl) (by decide) (fun hc_6 => ?_) (fun hc_6 => ?_)
  · have h := h.1 hc_6
    exact tb28 d H locs ls h hw (lv_sub hl [0, 1, 2] rfl)
  · have h := h.2 hc_6
    refine lv_iload_n S.1 S.2.1 (dd_at ddX6_get 2 rfl) rfl (lv_at hl 1 rfl) ?_
    refine lv_aload_n S.1 S.2.1 (dd_at ddX6_get 3 rfl) rfl (lv_at hl 0 rfl) ?_
    refine r_getI S hw 6 3 rfl inG6 (by decide) (List.mem_cons_of_mem _ wg80) (by decide) ha0 (dd_at ddX6_get 4 rfl) ?_
    refine lv_icmp_ge (tgt := 28) S.1 S.2.1 (dd_at ddX6_get 5 rfl) (by decide) (fun hc_7 => ?_) (fun hc_7 => ?_)
    · have h := h.1 hc_7
      exact tb28 d H locs ls h hw (lv_sub hl [0, 1, 2] rfl)
    · have h := h.2 hc_7
      refine lv_iload_n S.1 S.2.1 (dd_at ddX6_get 6 rfl) rfl (lv_at hl 2 rfl) ?_
      refine lv_if_lt (tgt := 28) S.1 S.2.1 (dd_at ddX6_get 7 rfl) (by decide) (fun hc_8 => ?_) (fun hc_8 => ?_)
      · have h := h.1 hc_8
        exact tb28 d H locs ls h hw (lv_sub hl [0, 1, 2] rfl)
      · have h := h.2 hc_8
        refine lv_iload_n S.1 S.2.1 (dd_at ddX6_get 8 rfl) rfl (lv_at hl 2 rfl) ?_
        refine lv_aload_n S.1 S.2.1 (dd_at ddX6_get 9 rfl) rfl (lv_at hl 0 rfl) ?_
        refine r_getI S hw 6 0 rfl inG6 (by decide) (List.mem_cons_of_mem _ wg73) (by decide) ha0 (dd_at ddX6_get 10 rfl) ?_
        refine lv_icmp_ge (tgt := 28) S.1 S.2.1 (dd_at ddX6_get 11 rfl) (by decide) (fun hc_9 => ?_) (fun hc_9 => ?_)
        · have h := h.1 hc_9
          exact tb28 d H locs ls h hw (lv_sub hl [0, 1, 2] rfl)
        · have h := h.2 hc_9
          refine lv_iconst (v := 1) S.1 S.2.1 (dd_at ddX6_get 12 rfl) (by decide) ?_
          refine lv_goto (tgt := 29) S.1 S.2.1 (dd_at ddX6_get 13 rfl) (by decide) ?_
          exact tb29 1 d H locs ls h hw (lv_sub hl [0, 1, 2] rfl)

def b_X6_openAt_74 (E : En) (a0 : Nat) (p1 : Int32) (K : Int32 → Dy → Prop) (k74 : Int32 → Int32 → Dy → Prop) (v2 : Int32) (v3 : Int32) (d : Dy) : Prop := (((v2 + (gI d a0 0)) ≤ v3 → K p1 (pI d a0 3 ((gI d a0 3) + 1))) ∧ (¬ (v2 + (gI d a0 0)) ≤ v3 → ∃ b_2 : Nat, eR E a0 2 = some b_2 ∧ okA E b_2 13 ∧ vp_in v3 (eN E b_2) ∧ k74 v2 (v3 + 1) (pA d b_2 (v3).toNatClampNeg 0)))
def l_X6_openAt_74 (E : En) (a0 : Nat) (p1 : Int32) (K : Int32 → Dy → Prop) : Nat → Int32 → Int32 → Dy → Prop
  | 0 => fun _ _ _ => False
  | n + 1 => b_X6_openAt_74 E a0 p1 K (l_X6_openAt_74 E a0 p1 K n)
def b_X6_openAt_44 (E : En) (a0 : Nat) (p1 : Int32) (K : Int32 → Dy → Prop) (k44 : Int32 → Int32 → Dy → Prop) (v2 : Int32) (v3 : Int32) (d : Dy) : Prop := ((v3 < v2 → (∃ n_7 : Nat, l_X6_openAt_74 E a0 p1 K n_7 v2 v2 d)) ∧ (¬ v3 < v2 → ∃ b_8 : Nat, eR E a0 2 = some b_8 ∧ okA E b_8 13 ∧ ∃ b_11 : Nat, eR E a0 2 = some b_11 ∧ okA E b_11 13 ∧ vp_in v3 (eN E b_11) ∧ vp_in (v3 + (gI d a0 0)) (eN E b_8) ∧ k44 v2 (v3 + (-1)) (pA d b_8 (v3 + (gI d a0 0)).toNatClampNeg (gA d b_11 (v3).toNatClampNeg))))
def l_X6_openAt_44 (E : En) (a0 : Nat) (p1 : Int32) (K : Int32 → Dy → Prop) : Nat → Int32 → Int32 → Dy → Prop
  | 0 => fun _ _ _ => False
  | n + 1 => b_X6_openAt_44 E a0 p1 K (l_X6_openAt_44 E a0 p1 K n)
def w_X6_openAt (E : En) (a0 : Nat) (p1 : Int32) (d : Dy) (K : Int32 → Dy → Prop) : Prop := okO E a0 6 ∧ (((gI d a0 1) ≤ (gI d a0 3) → K (-1) d) ∧ (¬ (gI d a0 1) ≤ (gI d a0 3) → ((p1 < 0 → K (-1) d) ∧ (¬ p1 < 0 → ((p1 ≤ (gI d a0 3) → (∃ n_19 : Nat, l_X6_openAt_44 E a0 p1 K n_19 (p1 * (gI d a0 0)) (((gI d a0 3) * (gI d a0 0)) - 1) d)) ∧ (¬ p1 ≤ (gI d a0 3) → K (-1) d))))))
abbrev rm_X6_openAt : Room := { frames := 0, cells := 0, slots := 0, locals := 0 }
set_option maxRecDepth 100000 in
set_option maxHeartbeats 4000000 in
theorem m_X6_openAt (l : Launch) (D : va_G) (cs : Nat → ClassId) (E : En) (d : Dy) (sz : Nat) (a0 : Nat) (p1 : Int32) (K : Int32 → Dy → Prop) : CI l yX6_openAt (.code yX6_openAt cX6_openAt 4 (some .int) :: wsL_law) rm_X6_openAt D cs E d sz [.ref a0, .int p1] (w_X6_openAt E a0 p1 d K) K := by
  refine e_of (cc := cX6_openAt) (maxL := 4) (ret := (some .int)) (own := RX6) (by decide) rfl rfl (Nat.le_of_ble_eq_true rfl) ?_
  intro p e s m below meth c S hr hlocks hsz H locs hw h ls hl
  have hl : lv_has ls 4 [(0, .ref a0), (1, .int p1)] := hl
  unfold w_X6_openAt at h
  obtain ⟨ha0, h⟩ := h
  have tl74 : ∀ (n : Nat) (v2 : Int32) (v3 : Int32) (d : Dy) (H : Heap) (locs : List Loc) (ls : Array Slot), l_X6_openAt_74 E a0 p1 K n v2 v3 d → Wd D cs (AW E sz) s.heap s E d H locs → lv_has ls 4 [(0, .ref a0), (1, .int p1), (2, .int v2), (3, .int v3)] → W p l e rm_X6_openAt s m ([.ref a0, .int p1] : List Value).toArray below meth c H locs 0 0 (MQ below (va_Qi K (OutW D cs E (AW E sz)) (AW E sz)) ([.ref a0, .int p1] : List Value).toArray s rm_X6_openAt.cells rm_X6_openAt.slots (AW E sz)) (F0 m 74 ls []) := by
    intro n74
    induction n74 with
    | zero => intro v2 v3 d H locs ls h; exact absurd h id
    | succ n74 ih74 =>
      intro v2 v3 d H locs ls h hw hl
      have h : b_X6_openAt_74 E a0 p1 K (l_X6_openAt_74 E a0 p1 K n74) v2 v3 d := h
      unfold b_X6_openAt_74 at h
      refine lv_iload_n S.1 S.2.1 (dd_at ddX6_openAt 44 rfl) rfl (lv_at hl 3 rfl) ?_
      refine lv_iload_n S.1 S.2.1 (dd_at ddX6_openAt 45 rfl) rfl (lv_at hl 2 rfl) ?_
      refine lv_aload_n S.1 S.2.1 (dd_at ddX6_openAt 46 rfl) rfl (lv_at hl 0 rfl) ?_
      refine r_getI S hw 6 0 rfl inG6 (by decide) (List.mem_cons_of_mem _ wg73) (by decide) ha0 (dd_at ddX6_openAt 47 rfl) ?_
      refine lv_iadd S.1 S.2.1 (dd_at ddX6_openAt 48 rfl) ?_
      refine lv_icmp_ge (tgt := 97) S.1 S.2.1 (dd_at ddX6_openAt 49 rfl) (by decide) (fun hc_1 => ?_) (fun hc_1 => ?_)
      · have h := h.1 hc_1
        refine lv_aload_n S.1 S.2.1 (dd_at ddX6_openAt 57 rfl) rfl (lv_at hl 0 rfl) ?_
        refine lv_dup S.1 S.2.1 (dd_at ddX6_openAt 58 rfl) rfl ?_
        refine r_getI S hw 6 3 rfl inG6 (by decide) (List.mem_cons_of_mem _ wg80) (by decide) ha0 (dd_at ddX6_openAt 59 rfl) ?_
        refine lv_iconst (v := 1) S.1 S.2.1 (dd_at ddX6_openAt 60 rfl) (by decide) ?_
        refine lv_iadd S.1 S.2.1 (dd_at ddX6_openAt 61 rfl) ?_
        refine r_putI S hw 6 3 (ty := .int) (v := (gI d a0 3) + 1) rfl inG6 tyX6 tyX6_ok nmX6 (by decide) (List.mem_cons_of_mem _ wg80) (by decide) rfl (by decide +kernel) rfl rfl ha0 (dd_at ddX6_openAt 62 rfl) (fun H locs hw => ?_)
        refine lv_iload_n S.1 S.2.1 (dd_at ddX6_openAt 63 rfl) rfl (lv_at hl 1 rfl) ?_
        exact e_I S hr hlocks hw h (dd_at ddX6_openAt 64 rfl)
      · have h := h.2 hc_1
        refine lv_aload_n S.1 S.2.1 (dd_at ddX6_openAt 50 rfl) rfl (lv_at hl 0 rfl) ?_
        obtain ⟨b_2, hb_3, ho_4, h⟩ := h
        refine r_getR S hw 6 2 rfl inG6 (by decide) (List.mem_cons_of_mem _ wg75) (by decide) ha0 hb_3 (dd_at ddX6_openAt 51 rfl) ?_
        refine lv_iload_n S.1 S.2.1 (dd_at ddX6_openAt 52 rfl) rfl (lv_at hl 3 rfl) ?_
        refine lv_iconst (v := 0) S.1 S.2.1 (dd_at ddX6_openAt 53 rfl) (by decide) ?_
        obtain ⟨hx_5, h⟩ := h
        refine r_iast S hw ho_4 hx_5 (dd_at ddX6_openAt 54 rfl) (fun H locs hw => ?_)
        refine lv_iinc (v := v3 + 1) (lv' := [(3, .int (v3 + 1)), (0, .ref a0), (1, .int p1), (2, .int v2)]) S.1 S.2.1 (dd_at ddX6_openAt 55 rfl) hl (k := 3) rfl rfl (by decide) rfl (fun ls hl => ?_)
        refine lv_goto (tgt := 74) S.1 S.2.1 (dd_at ddX6_openAt 56 rfl) (by decide) ?_
        exact ih74 v2 (v3 + 1) (pA d b_2 (v3).toNatClampNeg 0) H locs ls h hw (lv_sub hl [1, 2, 3, 0] rfl)
  have tl44 : ∀ (n : Nat) (v2 : Int32) (v3 : Int32) (d : Dy) (H : Heap) (locs : List Loc) (ls : Array Slot), l_X6_openAt_44 E a0 p1 K n v2 v3 d → Wd D cs (AW E sz) s.heap s E d H locs → lv_has ls 4 [(0, .ref a0), (1, .int p1), (2, .int v2), (3, .int v3)] → W p l e rm_X6_openAt s m ([.ref a0, .int p1] : List Value).toArray below meth c H locs 0 0 (MQ below (va_Qi K (OutW D cs E (AW E sz)) (AW E sz)) ([.ref a0, .int p1] : List Value).toArray s rm_X6_openAt.cells rm_X6_openAt.slots (AW E sz)) (F0 m 44 ls []) := by
    intro n44
    induction n44 with
    | zero => intro v2 v3 d H locs ls h; exact absurd h id
    | succ n44 ih44 =>
      intro v2 v3 d H locs ls h hw hl
      have h : b_X6_openAt_44 E a0 p1 K (l_X6_openAt_44 E a0 p1 K n44) v2 v3 d := h
      unfold b_X6_openAt_44 at h
      refine lv_iload_n S.1 S.2.1 (dd_at ddX6_openAt 26 rfl) rfl (lv_at hl 3 rfl) ?_
      refine lv_iload_n S.1 S.2.1 (dd_at ddX6_openAt 27 rfl) rfl (lv_at hl 2 rfl) ?_
      refine lv_icmp_lt (tgt := 72) S.1 S.2.1 (dd_at ddX6_openAt 28 rfl) (by decide) (fun hc_6 => ?_) (fun hc_6 => ?_)
      · have h := h.1 hc_6
        refine lv_iload_n S.1 S.2.1 (dd_at ddX6_openAt 42 rfl) rfl (lv_at hl 2 rfl) ?_
        refine lv_istore_n (lv' := [(3, .int v2), (0, .ref a0), (1, .int p1), (2, .int v2)]) S.1 S.2.1 (dd_at ddX6_openAt 43 rfl) rfl hl (by decide) rfl (fun ls hl => ?_)
        obtain ⟨n_7, h⟩ := h
        exact tl74 n_7 v2 v2 d H locs ls h hw (lv_sub hl [1, 2, 3, 0] rfl)
      · have h := h.2 hc_6
        refine lv_aload_n S.1 S.2.1 (dd_at ddX6_openAt 29 rfl) rfl (lv_at hl 0 rfl) ?_
        obtain ⟨b_8, hb_9, ho_10, h⟩ := h
        refine r_getR S hw 6 2 rfl inG6 (by decide) (List.mem_cons_of_mem _ wg75) (by decide) ha0 hb_9 (dd_at ddX6_openAt 30 rfl) ?_
        refine lv_iload_n S.1 S.2.1 (dd_at ddX6_openAt 31 rfl) rfl (lv_at hl 3 rfl) ?_
        refine lv_aload_n S.1 S.2.1 (dd_at ddX6_openAt 32 rfl) rfl (lv_at hl 0 rfl) ?_
        refine r_getI S hw 6 0 rfl inG6 (by decide) (List.mem_cons_of_mem _ wg73) (by decide) ha0 (dd_at ddX6_openAt 33 rfl) ?_
        refine lv_iadd S.1 S.2.1 (dd_at ddX6_openAt 34 rfl) ?_
        refine lv_aload_n S.1 S.2.1 (dd_at ddX6_openAt 35 rfl) rfl (lv_at hl 0 rfl) ?_
        obtain ⟨b_11, hb_12, ho_13, h⟩ := h
        refine r_getR S hw 6 2 rfl inG6 (by decide) (List.mem_cons_of_mem _ wg75) (by decide) ha0 hb_12 (dd_at ddX6_openAt 36 rfl) ?_
        refine lv_iload_n S.1 S.2.1 (dd_at ddX6_openAt 37 rfl) rfl (lv_at hl 3 rfl) ?_
        obtain ⟨hx_14, h⟩ := h
        refine r_iald S hw ho_13 hx_14 (dd_at ddX6_openAt 38 rfl) ?_
        obtain ⟨hx_15, h⟩ := h
        refine r_iast S hw ho_10 hx_15 (dd_at ddX6_openAt 39 rfl) (fun H locs hw => ?_)
        refine lv_iinc (v := v3 + (-1)) (lv' := [(3, .int (v3 + (-1))), (0, .ref a0), (1, .int p1), (2, .int v2)]) S.1 S.2.1 (dd_at ddX6_openAt 40 rfl) hl (k := 3) rfl rfl (by decide) rfl (fun ls hl => ?_)
        refine lv_goto (tgt := 44) S.1 S.2.1 (dd_at ddX6_openAt 41 rfl) (by decide) ?_
        exact ih44 v2 (v3 + (-1)) (pA d b_8 (v3 + (gI d a0 0)).toNatClampNeg (gA d b_11 (v3).toNatClampNeg)) H locs ls h hw (lv_sub hl [1, 2, 3, 0] rfl)
  refine lv_aload_n S.1 S.2.1 (dd_at ddX6_openAt 0 rfl) rfl (lv_at hl 0 rfl) ?_
  refine r_getI S hw 6 3 rfl inG6 (by decide) (List.mem_cons_of_mem _ wg80) (by decide) ha0 (dd_at ddX6_openAt 1 rfl) ?_
  refine lv_aload_n S.1 S.2.1 (dd_at ddX6_openAt 2 rfl) rfl (lv_at hl 0 rfl) ?_
  refine r_getI S hw 6 1 rfl inG6 (by decide) (List.mem_cons_of_mem _ wg72) (by decide) ha0 (dd_at ddX6_openAt 3 rfl) ?_
  refine lv_icmp_ge (tgt := 23) S.1 S.2.1 (dd_at ddX6_openAt 4 rfl) (by decide) (fun hc_16 => ?_) (fun hc_16 => ?_)
  · have h := h.1 hc_16
    refine lv_iconst (v := -1) S.1 S.2.1 (dd_at ddX6_openAt 11 rfl) (by decide) ?_
    exact e_I S hr hlocks hw h (dd_at ddX6_openAt 12 rfl)
  · have h := h.2 hc_16
    refine lv_iload_n S.1 S.2.1 (dd_at ddX6_openAt 5 rfl) rfl (lv_at hl 1 rfl) ?_
    refine lv_if_lt (tgt := 23) S.1 S.2.1 (dd_at ddX6_openAt 6 rfl) (by decide) (fun hc_17 => ?_) (fun hc_17 => ?_)
    · have h := h.1 hc_17
      refine lv_iconst (v := -1) S.1 S.2.1 (dd_at ddX6_openAt 11 rfl) (by decide) ?_
      exact e_I S hr hlocks hw h (dd_at ddX6_openAt 12 rfl)
    · have h := h.2 hc_17
      refine lv_iload_n S.1 S.2.1 (dd_at ddX6_openAt 7 rfl) rfl (lv_at hl 1 rfl) ?_
      refine lv_aload_n S.1 S.2.1 (dd_at ddX6_openAt 8 rfl) rfl (lv_at hl 0 rfl) ?_
      refine r_getI S hw 6 3 rfl inG6 (by decide) (List.mem_cons_of_mem _ wg80) (by decide) ha0 (dd_at ddX6_openAt 9 rfl) ?_
      refine lv_icmp_le (tgt := 25) S.1 S.2.1 (dd_at ddX6_openAt 10 rfl) (by decide) (fun hc_18 => ?_) (fun hc_18 => ?_)
      · have h := h.1 hc_18
        refine lv_iload_n S.1 S.2.1 (dd_at ddX6_openAt 13 rfl) rfl (lv_at hl 1 rfl) ?_
        refine lv_aload_n S.1 S.2.1 (dd_at ddX6_openAt 14 rfl) rfl (lv_at hl 0 rfl) ?_
        refine r_getI S hw 6 0 rfl inG6 (by decide) (List.mem_cons_of_mem _ wg73) (by decide) ha0 (dd_at ddX6_openAt 15 rfl) ?_
        refine lv_imul S.1 S.2.1 (dd_at ddX6_openAt 16 rfl) ?_
        refine lv_istore_n (lv' := [(2, .int (p1 * (gI d a0 0))), (0, .ref a0), (1, .int p1)]) S.1 S.2.1 (dd_at ddX6_openAt 17 rfl) rfl hl (by decide) rfl (fun ls hl => ?_)
        refine lv_aload_n S.1 S.2.1 (dd_at ddX6_openAt 18 rfl) rfl (lv_at hl 1 rfl) ?_
        refine r_getI S hw 6 3 rfl inG6 (by decide) (List.mem_cons_of_mem _ wg80) (by decide) ha0 (dd_at ddX6_openAt 19 rfl) ?_
        refine lv_aload_n S.1 S.2.1 (dd_at ddX6_openAt 20 rfl) rfl (lv_at hl 1 rfl) ?_
        refine r_getI S hw 6 0 rfl inG6 (by decide) (List.mem_cons_of_mem _ wg73) (by decide) ha0 (dd_at ddX6_openAt 21 rfl) ?_
        refine lv_imul S.1 S.2.1 (dd_at ddX6_openAt 22 rfl) ?_
        refine lv_iconst (v := 1) S.1 S.2.1 (dd_at ddX6_openAt 23 rfl) (by decide) ?_
        refine lv_isub S.1 S.2.1 (dd_at ddX6_openAt 24 rfl) ?_
        refine lv_istore_n (lv' := [(3, .int (((gI d a0 3) * (gI d a0 0)) - 1)), (2, .int (p1 * (gI d a0 0))), (0, .ref a0), (1, .int p1)]) S.1 S.2.1 (dd_at ddX6_openAt 25 rfl) rfl hl (by decide) rfl (fun ls hl => ?_)
        obtain ⟨n_19, h⟩ := h
        exact tl44 n_19 (p1 * (gI d a0 0)) (((gI d a0 3) * (gI d a0 0)) - 1) d H locs ls h hw (lv_sub hl [2, 3, 1, 0] rfl)
      · have h := h.2 hc_18
        refine lv_iconst (v := -1) S.1 S.2.1 (dd_at ddX6_openAt 11 rfl) (by decide) ?_
        exact e_I S hr hlocks hw h (dd_at ddX6_openAt 12 rfl)

def w_X6_set (E : En) (a0 : Nat) (p1 : Int32) (p2 : Int32) (p3 : Int32) (d : Dy) (K : Dy → Prop) : Prop := okO E a0 6 ∧ ((p1 < 0 → K d) ∧ (¬ p1 < 0 → (((gI d a0 3) ≤ p1 → K d) ∧ (¬ (gI d a0 3) ≤ p1 → ((p2 < 0 → K d) ∧ (¬ p2 < 0 → (((gI d a0 0) ≤ p2 → K d) ∧ (¬ (gI d a0 0) ≤ p2 → ∃ b_5 : Nat, eR E a0 2 = some b_5 ∧ okA E b_5 13 ∧ vp_in ((p1 * (gI d a0 0)) + p2) (eN E b_5) ∧ K (pA d b_5 ((p1 * (gI d a0 0)) + p2).toNatClampNeg p3)))))))))
abbrev rm_X6_set : Room := { frames := 0, cells := 0, slots := 0, locals := 0 }
set_option maxRecDepth 100000 in
set_option maxHeartbeats 4000000 in
theorem m_X6_set (l : Launch) (D : va_G) (cs : Nat → ClassId) (E : En) (d : Dy) (sz : Nat) (a0 : Nat) (p1 : Int32) (p2 : Int32) (p3 : Int32) (K : Dy → Prop) : CV l yX6_set (.code yX6_set cX6_set 4 none :: wsL_law) rm_X6_set D cs E d sz [.ref a0, .int p1, .int p2, .int p3] (w_X6_set E a0 p1 p2 p3 d K) K := by
  refine e_of (cc := cX6_set) (maxL := 4) (ret := none) (own := RX6) (by decide) rfl rfl (Nat.le_of_ble_eq_true rfl) ?_
  intro p e s m below meth c S hr hlocks hsz H locs hw h ls hl
  have hl : lv_has ls 4 [(0, .ref a0), (1, .int p1), (2, .int p2), (3, .int p3)] := hl
  unfold w_X6_set at h
  obtain ⟨ha0, h⟩ := h
  refine lv_iload_n S.1 S.2.1 (dd_at ddX6_set 0 rfl) rfl (lv_at hl 1 rfl) ?_
  refine lv_if_lt (tgt := 38) S.1 S.2.1 (dd_at ddX6_set 1 rfl) (by decide) (fun hc_1 => ?_) (fun hc_1 => ?_)
  · have h := h.1 hc_1
    exact e_V S hr hlocks hw h (dd_at ddX6_set 22 rfl)
  · have h := h.2 hc_1
    refine lv_iload_n S.1 S.2.1 (dd_at ddX6_set 2 rfl) rfl (lv_at hl 1 rfl) ?_
    refine lv_aload_n S.1 S.2.1 (dd_at ddX6_set 3 rfl) rfl (lv_at hl 0 rfl) ?_
    refine r_getI S hw 6 3 rfl inG6 (by decide) (List.mem_cons_of_mem _ wg80) (by decide) ha0 (dd_at ddX6_set 4 rfl) ?_
    refine lv_icmp_ge (tgt := 38) S.1 S.2.1 (dd_at ddX6_set 5 rfl) (by decide) (fun hc_2 => ?_) (fun hc_2 => ?_)
    · have h := h.1 hc_2
      exact e_V S hr hlocks hw h (dd_at ddX6_set 22 rfl)
    · have h := h.2 hc_2
      refine lv_iload_n S.1 S.2.1 (dd_at ddX6_set 6 rfl) rfl (lv_at hl 2 rfl) ?_
      refine lv_if_lt (tgt := 38) S.1 S.2.1 (dd_at ddX6_set 7 rfl) (by decide) (fun hc_3 => ?_) (fun hc_3 => ?_)
      · have h := h.1 hc_3
        exact e_V S hr hlocks hw h (dd_at ddX6_set 22 rfl)
      · have h := h.2 hc_3
        refine lv_iload_n S.1 S.2.1 (dd_at ddX6_set 8 rfl) rfl (lv_at hl 2 rfl) ?_
        refine lv_aload_n S.1 S.2.1 (dd_at ddX6_set 9 rfl) rfl (lv_at hl 0 rfl) ?_
        refine r_getI S hw 6 0 rfl inG6 (by decide) (List.mem_cons_of_mem _ wg73) (by decide) ha0 (dd_at ddX6_set 10 rfl) ?_
        refine lv_icmp_ge (tgt := 38) S.1 S.2.1 (dd_at ddX6_set 11 rfl) (by decide) (fun hc_4 => ?_) (fun hc_4 => ?_)
        · have h := h.1 hc_4
          exact e_V S hr hlocks hw h (dd_at ddX6_set 22 rfl)
        · have h := h.2 hc_4
          refine lv_aload_n S.1 S.2.1 (dd_at ddX6_set 12 rfl) rfl (lv_at hl 0 rfl) ?_
          obtain ⟨b_5, hb_6, ho_7, h⟩ := h
          refine r_getR S hw 6 2 rfl inG6 (by decide) (List.mem_cons_of_mem _ wg75) (by decide) ha0 hb_6 (dd_at ddX6_set 13 rfl) ?_
          refine lv_iload_n S.1 S.2.1 (dd_at ddX6_set 14 rfl) rfl (lv_at hl 1 rfl) ?_
          refine lv_aload_n S.1 S.2.1 (dd_at ddX6_set 15 rfl) rfl (lv_at hl 0 rfl) ?_
          refine r_getI S hw 6 0 rfl inG6 (by decide) (List.mem_cons_of_mem _ wg73) (by decide) ha0 (dd_at ddX6_set 16 rfl) ?_
          refine lv_imul S.1 S.2.1 (dd_at ddX6_set 17 rfl) ?_
          refine lv_iload_n S.1 S.2.1 (dd_at ddX6_set 18 rfl) rfl (lv_at hl 2 rfl) ?_
          refine lv_iadd S.1 S.2.1 (dd_at ddX6_set 19 rfl) ?_
          refine lv_iload_n S.1 S.2.1 (dd_at ddX6_set 20 rfl) rfl (lv_at hl 3 rfl) ?_
          obtain ⟨hx_8, h⟩ := h
          refine r_iast S hw ho_7 hx_8 (dd_at ddX6_set 21 rfl) (fun H locs hw => ?_)
          exact e_V S hr hlocks hw h (dd_at ddX6_set 22 rfl)

def w_X6_copy (E : En) (a0 : Nat) (a1 : Nat) (d : Dy) (K : Dy → Prop) : Prop := okO E a0 6 ∧ okO E a1 6 ∧ ((¬ (gI d a1 0) = (gI d a0 0) → K d) ∧ ((gI d a1 0) = (gI d a0 0) → (((gI d a0 1) < (gI d a1 3) → K d) ∧ (¬ (gI d a0 1) < (gI d a1 3) → ∃ b_3 : Nat, eR E a1 2 = some b_3 ∧ okA E b_3 13 ∧ ∃ b_6 : Nat, eR E a0 2 = some b_6 ∧ okA E b_6 13 ∧ ¬ (0 : Int32) < 0 ∧ ¬ (0 : Int32) < 0 ∧ ¬ ((gI (pI d a0 3 (gI d a1 3)) a0 3) * (gI (pI d a0 3 (gI d a1 3)) a0 0)) < 0 ∧ ((0 : Int32)).toNatClampNeg + ((gI (pI d a0 3 (gI d a1 3)) a0 3) * (gI (pI d a0 3 (gI d a1 3)) a0 0)).toNatClampNeg ≤ eN E b_3 ∧ ((0 : Int32)).toNatClampNeg + ((gI (pI d a0 3 (gI d a1 3)) a0 3) * (gI (pI d a0 3 (gI d a1 3)) a0 0)).toNatClampNeg ≤ eN E b_6 ∧ K (sA (pI d a0 3 (gI d a1 3)) b_6 (va_cpy (gA (pI d a0 3 (gI d a1 3)) b_3) (gA (pI d a0 3 (gI d a1 3)) b_6) ((0 : Int32)).toNatClampNeg ((0 : Int32)).toNatClampNeg ((gI (pI d a0 3 (gI d a1 3)) a0 3) * (gI (pI d a0 3 (gI d a1 3)) a0 0)).toNatClampNeg))))))
abbrev rm_X6_copy : Room := { frames := 1, cells := 0, slots := 0, locals := 100 }
set_option maxRecDepth 100000 in
set_option maxHeartbeats 4000000 in
theorem m_X6_copy (l : Launch) (D : va_G) (cs : Nat → ClassId) (E : En) (d : Dy) (sz : Nat) (a0 : Nat) (a1 : Nat) (K : Dy → Prop) : CV l yX6_copy (.code yX6_copy cX6_copy 2 none :: wsL_law) rm_X6_copy D cs E d sz [.ref a0, .ref a1] (w_X6_copy E a0 a1 d K) K := by
  refine e_of (cc := cX6_copy) (maxL := 2) (ret := none) (own := RX6) (by decide) rfl rfl (Nat.le_of_ble_eq_true rfl) ?_
  intro p e s m below meth c S hr hlocks hsz H locs hw h ls hl
  have hl : lv_has ls 2 [(0, .ref a0), (1, .ref a1)] := hl
  unfold w_X6_copy at h
  obtain ⟨ha0, h⟩ := h
  obtain ⟨ha1, h⟩ := h
  refine lv_aload_n S.1 S.2.1 (dd_at ddX6_copy 0 rfl) rfl (lv_at hl 1 rfl) ?_
  refine lv_ifnull S.1 S.2.1 (dd_at ddX6_copy 1 rfl) ?_
  refine lv_aload_n S.1 S.2.1 (dd_at ddX6_copy 2 rfl) rfl (lv_at hl 1 rfl) ?_
  refine r_getI S hw 6 0 rfl inG6 (by decide) (List.mem_cons_of_mem _ wg73) (by decide) ha1 (dd_at ddX6_copy 3 rfl) ?_
  refine lv_aload_n S.1 S.2.1 (dd_at ddX6_copy 4 rfl) rfl (lv_at hl 0 rfl) ?_
  refine r_getI S hw 6 0 rfl inG6 (by decide) (List.mem_cons_of_mem _ wg73) (by decide) ha0 (dd_at ddX6_copy 5 rfl) ?_
  refine lv_icmp_ne (tgt := 56) S.1 S.2.1 (dd_at ddX6_copy 6 rfl) (by decide) (fun hc_1 => ?_) (fun hc_1 => ?_)
  · have h := h.1 hc_1
    exact e_V S hr hlocks hw h (dd_at ddX6_copy 28 rfl)
  · have h := h.2 hc_1
    refine lv_aload_n S.1 S.2.1 (dd_at ddX6_copy 7 rfl) rfl (lv_at hl 1 rfl) ?_
    refine r_getI S hw 6 3 rfl inG6 (by decide) (List.mem_cons_of_mem _ wg80) (by decide) ha1 (dd_at ddX6_copy 8 rfl) ?_
    refine lv_aload_n S.1 S.2.1 (dd_at ddX6_copy 9 rfl) rfl (lv_at hl 0 rfl) ?_
    refine r_getI S hw 6 1 rfl inG6 (by decide) (List.mem_cons_of_mem _ wg72) (by decide) ha0 (dd_at ddX6_copy 10 rfl) ?_
    refine lv_icmp_gt (tgt := 56) S.1 S.2.1 (dd_at ddX6_copy 11 rfl) (by decide) (fun hc_2 => ?_) (fun hc_2 => ?_)
    · have h := h.1 hc_2
      exact e_V S hr hlocks hw h (dd_at ddX6_copy 28 rfl)
    · have h := h.2 hc_2
      refine lv_aload_n S.1 S.2.1 (dd_at ddX6_copy 12 rfl) rfl (lv_at hl 0 rfl) ?_
      refine lv_aload_n S.1 S.2.1 (dd_at ddX6_copy 13 rfl) rfl (lv_at hl 1 rfl) ?_
      refine r_getI S hw 6 3 rfl inG6 (by decide) (List.mem_cons_of_mem _ wg80) (by decide) ha1 (dd_at ddX6_copy 14 rfl) ?_
      refine r_putI S hw 6 3 (ty := .int) (v := gI d a1 3) rfl inG6 tyX6 tyX6_ok nmX6 (by decide) (List.mem_cons_of_mem _ wg80) (by decide) rfl (by decide +kernel) rfl rfl ha0 (dd_at ddX6_copy 15 rfl) (fun H locs hw => ?_)
      refine lv_aload_n S.1 S.2.1 (dd_at ddX6_copy 16 rfl) rfl (lv_at hl 1 rfl) ?_
      obtain ⟨b_3, hb_4, ho_5, h⟩ := h
      refine r_getR S hw 6 2 rfl inG6 (by decide) (List.mem_cons_of_mem _ wg75) (by decide) ha1 hb_4 (dd_at ddX6_copy 17 rfl) ?_
      refine lv_iconst (v := 0) S.1 S.2.1 (dd_at ddX6_copy 18 rfl) (by decide) ?_
      refine lv_aload_n S.1 S.2.1 (dd_at ddX6_copy 19 rfl) rfl (lv_at hl 0 rfl) ?_
      obtain ⟨b_6, hb_7, ho_8, h⟩ := h
      refine r_getR S hw 6 2 rfl inG6 (by decide) (List.mem_cons_of_mem _ wg75) (by decide) ha0 hb_7 (dd_at ddX6_copy 20 rfl) ?_
      refine lv_iconst (v := 0) S.1 S.2.1 (dd_at ddX6_copy 21 rfl) (by decide) ?_
      refine lv_aload_n S.1 S.2.1 (dd_at ddX6_copy 22 rfl) rfl (lv_at hl 0 rfl) ?_
      refine r_getI S hw 6 3 rfl inG6 (by decide) (List.mem_cons_of_mem _ wg80) (by decide) ha0 (dd_at ddX6_copy 23 rfl) ?_
      refine lv_aload_n S.1 S.2.1 (dd_at ddX6_copy 24 rfl) rfl (lv_at hl 0 rfl) ?_
      refine r_getI S hw 6 0 rfl inG6 (by decide) (List.mem_cons_of_mem _ wg73) (by decide) ha0 (dd_at ddX6_copy 25 rfl) ?_
      refine lv_imul S.1 S.2.1 (dd_at ddX6_copy 26 rfl) ?_
      obtain ⟨hy_9, hy_10, hy_11, hy_12, hy_13, h⟩ := h
      refine r_copyi S hw hl.1 (List.mem_cons_of_mem _ wg379) (List.mem_cons_of_mem _ wg380) (List.mem_cons_of_mem _ wg381) (List.mem_cons_of_mem _ wg382) ho_5 ho_8 hy_9 hy_10 hy_11 hy_12 hy_13 (Nat.le_of_ble_eq_true rfl) (Nat.le_of_ble_eq_true rfl) (dd_at ddX6_copy 27 rfl) (fun H locs hw => ?_)
      exact e_V S hr hlocks hw h (dd_at ddX6_copy 28 rfl)

def w_X6_open (E : En) (a0 : Nat) (d : Dy) (K : Int32 → Dy → Prop) : Prop := okO E a0 6 ∧ w_X6_openAt E a0 (gI d a0 3) d (fun r_2 d_1 => K r_2 d_1)
abbrev rm_X6_open : Room := { frames := 1, cells := 0, slots := 0, locals := 23 }
set_option maxRecDepth 100000 in
set_option maxHeartbeats 4000000 in
theorem m_X6_open (l : Launch) (D : va_G) (cs : Nat → ClassId) (E : En) (d : Dy) (sz : Nat) (a0 : Nat) (K : Int32 → Dy → Prop) : CI l yX6_open (.code yX6_open cX6_open 1 (some .int) :: wsL_law) rm_X6_open D cs E d sz [.ref a0] (w_X6_open E a0 d K) K := by
  refine e_of (cc := cX6_open) (maxL := 1) (ret := (some .int)) (own := RX6) (by decide) rfl rfl (Nat.le_of_ble_eq_true rfl) ?_
  intro p e s m below meth c S hr hlocks hsz H locs hw h ls hl
  have hl : lv_has ls 1 [(0, .ref a0)] := hl
  unfold w_X6_open at h
  obtain ⟨ha0, h⟩ := h
  refine lv_aload_n S.1 S.2.1 (dd_at ddX6_open 0 rfl) rfl (lv_at hl 0 rfl) ?_
  refine lv_aload_n S.1 S.2.1 (dd_at ddX6_open 1 rfl) rfl (lv_at hl 0 rfl) ?_
  refine r_getI S hw 6 3 rfl inG6 (by decide) (List.mem_cons_of_mem _ wg80) (by decide) ha0 (dd_at ddX6_open 2 rfl) ?_
  refine r_callI hw (r_runV (As := [.int (gI d a0 3)]) (rest := []) S hw (m_X6_openAt l D cs E d H.size a0 (gI d a0 3) _) (cwV 1 S.2.2.2.2 (gV wg313 wg314 wg315 wg51 wg316) rfl rfl rfl (by decide +kernel) ⟨Nat.le_of_ble_eq_true rfl, Nat.le_of_ble_eq_true rfl⟩) (ci := 6) rfl ha0 h rfl hl.1 rfl (Nat.le_of_ble_eq_true rfl) (dd_at ddX6_open 3 rfl) ⟨Nat.le_of_ble_eq_true rfl, Nat.le_of_ble_eq_true rfl⟩) (fun r_2 d_1 H locs h hw => ?_)
  exact e_I S hr hlocks hw h (dd_at ddX6_open 4 rfl)

def w_X6_isFull (E : En) (a0 : Nat) (d : Dy) (K : Int32 → Dy → Prop) : Prop := okO E a0 6 ∧ (((gI d a0 3) < (gI d a0 1) → K 0 d) ∧ (¬ (gI d a0 3) < (gI d a0 1) → K 1 d))
abbrev rm_X6_isFull : Room := { frames := 0, cells := 0, slots := 0, locals := 0 }
set_option maxRecDepth 100000 in
set_option maxHeartbeats 4000000 in
theorem m_X6_isFull (l : Launch) (D : va_G) (cs : Nat → ClassId) (E : En) (d : Dy) (sz : Nat) (a0 : Nat) (K : Int32 → Dy → Prop) : CI l yX6_isFull (.code yX6_isFull cX6_isFull 1 (some .boolean) :: wsL_law) rm_X6_isFull D cs E d sz [.ref a0] (w_X6_isFull E a0 d K) K := by
  refine e_of (cc := cX6_isFull) (maxL := 1) (ret := (some .boolean)) (own := RX6) (by decide) rfl rfl (Nat.le_of_ble_eq_true rfl) ?_
  intro p e s m below meth c S hr hlocks hsz H locs hw h ls hl
  have hl : lv_has ls 1 [(0, .ref a0)] := hl
  unfold w_X6_isFull at h
  obtain ⟨ha0, h⟩ := h
  refine lv_aload_n S.1 S.2.1 (dd_at ddX6_isFull 0 rfl) rfl (lv_at hl 0 rfl) ?_
  refine r_getI S hw 6 3 rfl inG6 (by decide) (List.mem_cons_of_mem _ wg80) (by decide) ha0 (dd_at ddX6_isFull 1 rfl) ?_
  refine lv_aload_n S.1 S.2.1 (dd_at ddX6_isFull 2 rfl) rfl (lv_at hl 0 rfl) ?_
  refine r_getI S hw 6 1 rfl inG6 (by decide) (List.mem_cons_of_mem _ wg72) (by decide) ha0 (dd_at ddX6_isFull 3 rfl) ?_
  refine lv_icmp_lt (tgt := 15) S.1 S.2.1 (dd_at ddX6_isFull 4 rfl) (by decide) (fun hc_1 => ?_) (fun hc_1 => ?_)
  · have h := h.1 hc_1
    refine lv_iconst (v := 0) S.1 S.2.1 (dd_at ddX6_isFull 7 rfl) (by decide) ?_
    exact e_Z S hr hlocks hw (Or.inl rfl) h (dd_at ddX6_isFull 8 rfl)
  · have h := h.2 hc_1
    refine lv_iconst (v := 1) S.1 S.2.1 (dd_at ddX6_isFull 5 rfl) (by decide) ?_
    refine lv_goto (tgt := 16) S.1 S.2.1 (dd_at ddX6_isFull 6 rfl) (by decide) ?_
    exact e_Z S hr hlocks hw (Or.inr rfl) h (dd_at ddX6_isFull 8 rfl)

def b_X6_openByYear_27 (E : En) (a0 : Nat) (p1 : Int32) (K : Int32 → Dy → Prop) (v2 : Int32) (d : Dy) : Prop := w_X6_openAt E a0 v2 d (fun r_2 d_1 => w_X6_set E a0 v2 0 p1 d_1 (fun d_3 => K v2 d_3))
def b_X6_openByYear_5 (E : En) (a0 : Nat) (p1 : Int32) (K : Int32 → Dy → Prop) (k5 : Int32 → Dy → Prop) (v2 : Int32) (d : Dy) : Prop := ((v2 ≤ 0 → b_X6_openByYear_27 E a0 p1 K v2 d) ∧ (¬ v2 ≤ 0 → w_X6_get E a0 (v2 - 1) 0 d (fun r_7 d_6 => ((r_7 ≤ p1 → b_X6_openByYear_27 E a0 p1 K v2 d_6) ∧ (¬ r_7 ≤ p1 → k5 (v2 + (-1)) d_6)))))
def l_X6_openByYear_5 (E : En) (a0 : Nat) (p1 : Int32) (K : Int32 → Dy → Prop) : Nat → Int32 → Dy → Prop
  | 0 => fun _ _ => False
  | n + 1 => b_X6_openByYear_5 E a0 p1 K (l_X6_openByYear_5 E a0 p1 K n)
def w_X6_openByYear (E : En) (a0 : Nat) (p1 : Int32) (d : Dy) (K : Int32 → Dy → Prop) : Prop := okO E a0 6 ∧ (∃ n_9 : Nat, l_X6_openByYear_5 E a0 p1 K n_9 (gI d a0 3) d)
abbrev rm_X6_openByYear : Room := { frames := 1, cells := 0, slots := 0, locals := 23 }
set_option maxRecDepth 100000 in
set_option maxHeartbeats 4000000 in
theorem m_X6_openByYear (l : Launch) (D : va_G) (cs : Nat → ClassId) (E : En) (d : Dy) (sz : Nat) (a0 : Nat) (p1 : Int32) (K : Int32 → Dy → Prop) : CI l yX6_openByYear (.code yX6_openByYear cX6_openByYear 3 (some .int) :: wsL_law) rm_X6_openByYear D cs E d sz [.ref a0, .int p1] (w_X6_openByYear E a0 p1 d K) K := by
  refine e_of (cc := cX6_openByYear) (maxL := 3) (ret := (some .int)) (own := RX6) (by decide) rfl rfl (Nat.le_of_ble_eq_true rfl) ?_
  intro p e s m below meth c S hr hlocks hsz H locs hw h ls hl
  have hl : lv_has ls 3 [(0, .ref a0), (1, .int p1)] := hl
  unfold w_X6_openByYear at h
  obtain ⟨ha0, h⟩ := h
  have tb27 : ∀ (v2 : Int32) (d : Dy) (H : Heap) (locs : List Loc) (ls : Array Slot), b_X6_openByYear_27 E a0 p1 K v2 d → Wd D cs (AW E sz) s.heap s E d H locs → lv_has ls 3 [(0, .ref a0), (1, .int p1), (2, .int v2)] → W p l e rm_X6_openByYear s m ([.ref a0, .int p1] : List Value).toArray below meth c H locs 0 0 (MQ below (va_Qi K (OutW D cs E (AW E sz)) (AW E sz)) ([.ref a0, .int p1] : List Value).toArray s rm_X6_openByYear.cells rm_X6_openByYear.slots (AW E sz)) (F0 m 27 ls []) := by
    intro v2 d H locs ls h hw hl
    unfold b_X6_openByYear_27 at h
    refine lv_aload_n S.1 S.2.1 (dd_at ddX6_openByYear 15 rfl) rfl (lv_at hl 0 rfl) ?_
    refine lv_iload_n S.1 S.2.1 (dd_at ddX6_openByYear 16 rfl) rfl (lv_at hl 2 rfl) ?_
    refine r_callI hw (r_runV (As := [.int v2]) (rest := []) S hw (m_X6_openAt l D cs E d H.size a0 v2 _) (cwV 1 S.2.2.2.2 (gV wg313 wg314 wg315 wg51 wg316) rfl rfl rfl (by decide +kernel) ⟨Nat.le_of_ble_eq_true rfl, Nat.le_of_ble_eq_true rfl⟩) (ci := 6) rfl ha0 h rfl hl.1 rfl (Nat.le_of_ble_eq_true rfl) (dd_at ddX6_openByYear 17 rfl) ⟨Nat.le_of_ble_eq_true rfl, Nat.le_of_ble_eq_true rfl⟩) (fun r_2 d_1 H locs h hw => ?_)
    refine lv_pop S.1 S.2.1 (dd_at ddX6_openByYear 18 rfl) rfl ?_
    refine lv_aload_n S.1 S.2.1 (dd_at ddX6_openByYear 19 rfl) rfl (lv_at hl 0 rfl) ?_
    refine lv_iload_n S.1 S.2.1 (dd_at ddX6_openByYear 20 rfl) rfl (lv_at hl 2 rfl) ?_
    refine lv_iconst (v := 0) S.1 S.2.1 (dd_at ddX6_openByYear 21 rfl) (by decide) ?_
    refine lv_iload_n S.1 S.2.1 (dd_at ddX6_openByYear 22 rfl) rfl (lv_at hl 1 rfl) ?_
    refine r_callV hw (r_runV (As := [.int v2, .int 0, .int p1]) (rest := []) S hw (m_X6_set l D cs E d_1 H.size a0 v2 0 p1 _) (cwV 3 S.2.2.2.2 (gV wg626 wg318 wg319 wg51 wg320) rfl rfl rfl (by decide +kernel) ⟨Nat.le_of_ble_eq_true rfl, Nat.le_of_ble_eq_true rfl⟩) (ci := 6) rfl ha0 h rfl hl.1 rfl (Nat.le_of_ble_eq_true rfl) (dd_at ddX6_openByYear 23 rfl) ⟨Nat.le_of_ble_eq_true rfl, Nat.le_of_ble_eq_true rfl⟩) (fun d_3 H locs h hw => ?_)
    refine lv_iload_n S.1 S.2.1 (dd_at ddX6_openByYear 24 rfl) rfl (lv_at hl 2 rfl) ?_
    exact e_I S hr hlocks hw h (dd_at ddX6_openByYear 25 rfl)
  have tl5 : ∀ (n : Nat) (v2 : Int32) (d : Dy) (H : Heap) (locs : List Loc) (ls : Array Slot), l_X6_openByYear_5 E a0 p1 K n v2 d → Wd D cs (AW E sz) s.heap s E d H locs → lv_has ls 3 [(0, .ref a0), (1, .int p1), (2, .int v2)] → W p l e rm_X6_openByYear s m ([.ref a0, .int p1] : List Value).toArray below meth c H locs 0 0 (MQ below (va_Qi K (OutW D cs E (AW E sz)) (AW E sz)) ([.ref a0, .int p1] : List Value).toArray s rm_X6_openByYear.cells rm_X6_openByYear.slots (AW E sz)) (F0 m 5 ls []) := by
    intro n5
    induction n5 with
    | zero => intro v2 d H locs ls h; exact absurd h id
    | succ n5 ih5 =>
      intro v2 d H locs ls h hw hl
      have h : b_X6_openByYear_5 E a0 p1 K (l_X6_openByYear_5 E a0 p1 K n5) v2 d := h
      unfold b_X6_openByYear_5 at h
      refine lv_iload_n S.1 S.2.1 (dd_at ddX6_openByYear 3 rfl) rfl (lv_at hl 2 rfl) ?_
      refine lv_if_le (tgt := 27) S.1 S.2.1 (dd_at ddX6_openByYear 4 rfl) (by decide) (fun hc_5 => ?_) (fun hc_5 => ?_)
      · have h := h.1 hc_5
        exact tb27 v2 d H locs ls h hw (lv_sub hl [0, 1, 2] rfl)
      · have h := h.2 hc_5
        refine lv_aload_n S.1 S.2.1 (dd_at ddX6_openByYear 5 rfl) rfl (lv_at hl 0 rfl) ?_
        refine lv_iload_n S.1 S.2.1 (dd_at ddX6_openByYear 6 rfl) rfl (lv_at hl 2 rfl) ?_
        refine lv_iconst (v := 1) S.1 S.2.1 (dd_at ddX6_openByYear 7 rfl) (by decide) ?_
        refine lv_isub S.1 S.2.1 (dd_at ddX6_openByYear 8 rfl) ?_
        refine lv_iconst (v := 0) S.1 S.2.1 (dd_at ddX6_openByYear 9 rfl) (by decide) ?_
        refine r_callI hw (r_runV (As := [.int (v2 - 1), .int 0]) (rest := []) S hw (m_X6_get l D cs E d H.size a0 (v2 - 1) 0 _) (cwV 2 S.2.2.2.2 (gV wg622 wg623 wg624 wg51 wg625) rfl rfl rfl (by decide +kernel) ⟨Nat.le_of_ble_eq_true rfl, Nat.le_of_ble_eq_true rfl⟩) (ci := 6) rfl ha0 h rfl hl.1 rfl (Nat.le_of_ble_eq_true rfl) (dd_at ddX6_openByYear 10 rfl) ⟨Nat.le_of_ble_eq_true rfl, Nat.le_of_ble_eq_true rfl⟩) (fun r_7 d_6 H locs h hw => ?_)
        refine lv_iload_n S.1 S.2.1 (dd_at ddX6_openByYear 11 rfl) rfl (lv_at hl 1 rfl) ?_
        refine lv_icmp_le (tgt := 27) S.1 S.2.1 (dd_at ddX6_openByYear 12 rfl) (by decide) (fun hc_8 => ?_) (fun hc_8 => ?_)
        · have h := h.1 hc_8
          exact tb27 v2 d_6 H locs ls h hw (lv_sub hl [0, 1, 2] rfl)
        · have h := h.2 hc_8
          refine lv_iinc (v := v2 + (-1)) (lv' := [(2, .int (v2 + (-1))), (0, .ref a0), (1, .int p1)]) S.1 S.2.1 (dd_at ddX6_openByYear 13 rfl) hl (k := 2) rfl rfl (by decide) rfl (fun ls hl => ?_)
          refine lv_goto (tgt := 5) S.1 S.2.1 (dd_at ddX6_openByYear 14 rfl) (by decide) ?_
          exact ih5 (v2 + (-1)) d_6 H locs ls h hw (lv_sub hl [1, 2, 0] rfl)
  refine lv_aload_n S.1 S.2.1 (dd_at ddX6_openByYear 0 rfl) rfl (lv_at hl 0 rfl) ?_
  refine r_getI S hw 6 3 rfl inG6 (by decide) (List.mem_cons_of_mem _ wg80) (by decide) ha0 (dd_at ddX6_openByYear 1 rfl) ?_
  refine lv_istore_n (lv' := [(2, .int (gI d a0 3)), (0, .ref a0), (1, .int p1)]) S.1 S.2.1 (dd_at ddX6_openByYear 2 rfl) rfl hl (by decide) rfl (fun ls hl => ?_)
  obtain ⟨n_9, h⟩ := h
  exact tl5 n_9 (gI d a0 3) d H locs ls h hw (lv_sub hl [1, 2, 0] rfl)

def w_X6_openAll (E : En) (a0 : Nat) (d : Dy) (K : Dy → Prop) : Prop := okO E a0 6 ∧ ∃ b_1 : Nat, eR E a0 2 = some b_1 ∧ okA E b_1 13 ∧ w_J7_fill_53178 E b_1 0 (pI d a0 3 (gI d a0 1)) (fun d_4 => K d_4)
abbrev rm_X6_openAll : Room := { frames := 1, cells := 0, slots := 0, locals := 23 }
set_option maxRecDepth 100000 in
set_option maxHeartbeats 4000000 in
theorem m_X6_openAll (l : Launch) (D : va_G) (cs : Nat → ClassId) (E : En) (d : Dy) (sz : Nat) (a0 : Nat) (K : Dy → Prop) : CV l yX6_openAll (.code yX6_openAll cX6_openAll 1 none :: wsL_law) rm_X6_openAll D cs E d sz [.ref a0] (w_X6_openAll E a0 d K) K := by
  refine e_of (cc := cX6_openAll) (maxL := 1) (ret := none) (own := RX6) (by decide) rfl rfl (Nat.le_of_ble_eq_true rfl) ?_
  intro p e s m below meth c S hr hlocks hsz H locs hw h ls hl
  have hl : lv_has ls 1 [(0, .ref a0)] := hl
  unfold w_X6_openAll at h
  obtain ⟨ha0, h⟩ := h
  refine lv_aload_n S.1 S.2.1 (dd_at ddX6_openAll 0 rfl) rfl (lv_at hl 0 rfl) ?_
  refine lv_aload_n S.1 S.2.1 (dd_at ddX6_openAll 1 rfl) rfl (lv_at hl 0 rfl) ?_
  refine r_getI S hw 6 1 rfl inG6 (by decide) (List.mem_cons_of_mem _ wg72) (by decide) ha0 (dd_at ddX6_openAll 2 rfl) ?_
  refine r_putI S hw 6 3 (ty := .int) (v := gI d a0 1) rfl inG6 tyX6 tyX6_ok nmX6 (by decide) (List.mem_cons_of_mem _ wg80) (by decide) rfl (by decide +kernel) rfl rfl ha0 (dd_at ddX6_openAll 3 rfl) (fun H locs hw => ?_)
  refine lv_aload_n S.1 S.2.1 (dd_at ddX6_openAll 4 rfl) rfl (lv_at hl 0 rfl) ?_
  obtain ⟨b_1, hb_2, ho_3, h⟩ := h
  refine r_getR S hw 6 2 rfl inG6 (by decide) (List.mem_cons_of_mem _ wg75) (by decide) ha0 hb_2 (dd_at ddX6_openAll 5 rfl) ?_
  refine lv_iconst (v := 0) S.1 S.2.1 (dd_at ddX6_openAll 6 rfl) (by decide) ?_
  refine r_callV hw (r_runS (As := [.ref b_1, .int 0]) (rest := []) S hw (m_J7_fill_53178 l D cs E (pI d a0 3 (gI d a0 1)) H.size b_1 0 _) (va_cwS 2 S.2.2.2.2 (gS wg81 wg82 wg83 wg84) rfl rfl rfl (by decide +kernel) ⟨Nat.le_of_ble_eq_true rfl, Nat.le_of_ble_eq_true rfl⟩) h rfl hl.1 rfl (Nat.le_of_ble_eq_true rfl) (dd_at ddX6_openAll 7 rfl) ⟨Nat.le_of_ble_eq_true rfl, Nat.le_of_ble_eq_true rfl⟩) (fun d_4 H locs h hw => ?_)
  exact e_V S hr hlocks hw h (dd_at ddX6_openAll 8 rfl)
