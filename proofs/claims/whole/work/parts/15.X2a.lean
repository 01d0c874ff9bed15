def w_X2_init (E : En) (a0 : Nat) (d : Dy) (K : En → Dy → Prop) : Prop := okO E a0 2 ∧ ∀ q_1 : Nat, q_1 ∉ eL E → ∀ q_4 : Nat, q_4 ∉ eL (sR (nE E q_1 13 ((400 : Int32)).toNatClampNeg) a0 0 (some q_1)) → w_X6_init (nE (sR (nE E q_1 13 ((400 : Int32)).toNatClampNeg) a0 0 (some q_1)) q_4 6 0) q_4 10 5 (nD (nD d q_1) q_4) (fun E_7 d_8 => ∀ q_10 : Nat, q_10 ∉ eL (sR E_7 a0 7 (some q_4)) → K (sR (nE (sR E_7 a0 7 (some q_4)) q_10 13 ((400 : Int32)).toNatClampNeg) a0 8 (some q_10)) (nD d_8 q_10))
abbrev rm_X2_init : Room := { frames := 2, cells := 4, slots := 1204, locals := 62 }
set_option maxRecDepth 100000 in
set_option maxHeartbeats 4000000 in
theorem m_X2_init (l : Launch) (D : va_G) (cs : Nat → ClassId) (E : En) (d : Dy) (sz : Nat) (a0 : Nat) (K : En → Dy → Prop) : LV l yX2_init (.code yX2_init cX2_init 1 none :: wsL_law) rm_X2_init D cs E d sz [.ref a0] (w_X2_init E a0 d K) K := by
  refine e_ofN (cc := cX2_init) (maxL := 1) (ret := none) (own := RX2) (by decide) rfl rfl (Nat.le_of_ble_eq_true rfl) ?_
  intro p e s m below meth c S hr hlocks hinit hsz H locs hw h ls hl
  have hx : Ext E E := Ext_rf E
  have hinit : meth.name = "<init>" := hinit
  have hl : lv_has ls 1 [(0, .ref a0)] := hl
  unfold w_X2_init at h
  obtain ⟨ha0, h⟩ := h
  refine lv_aload_n S.1 S.2.1 (dd_at ddX2_init 0 rfl) rfl (lv_at hl 0 rfl) ?_
  refine W.objInit S.1 S.2.1 S.2.2.2.1 (S.2.2.2.2 _ (List.mem_cons_of_mem _ wg87)) (S.2.2.2.2 _ (List.mem_cons_of_mem _ wg11)) (S.2.2.2.2 _ (List.mem_cons_of_mem _ wg12)) rfl (by rw [S.2.2.1]; exact hl.1) rfl (dd_at ddX2_init 1 rfl) (Nat.le_of_ble_eq_true rfl) (Nat.le_of_ble_eq_true rfl) ?_
  refine W.eq (g2 := F0 m 4 ls []) rfl ?_
  refine lv_aload_n S.1 S.2.1 (dd_at ddX2_init 2 rfl) rfl (lv_at hl 0 rfl) ?_
  refine lv_sipush (v := 400) S.1 S.2.1 (dd_at ddX2_init 3 rfl) (by decide) ?_
  refine r_newI S hw (List.mem_cons_of_mem _ wg74) (n := 400) (by decide) (by decide) (Nat.le_of_ble_eq_true rfl) (by show _ ≤ _; exact Nat.le_of_ble_eq_true rfl) (dd_at ddX2_init 4 rfl) (fun q_1 H hq_2 hw => ?_)
  refine W.widen (k := 1) (n := 400) (Nat.le_of_ble_eq_true rfl) (Nat.le_of_ble_eq_true rfl) ?_
  have h := h q_1 hq_2
  have ha0 := Ext_O (Ext_nE 13 ((400 : Int32)).toNatClampNeg hq_2) ha0
  have hx := Ext_tr hx (Ext_nE 13 ((400 : Int32)).toNatClampNeg hq_2)
  have ho_3 := okA_new E q_1 ((400 : Int32)).toNatClampNeg (t := 13) (by decide)
  refine r_putRF S hw hinit 2 0 (ty := (.array .int)) rfl inG2 tyX2 tyX2_ok nmX2 (by decide) (List.mem_cons_of_mem _ wg88) (by decide) rfl rfl (by decide +kernel) rfl rfl ha0 (dd_at ddX2_init 5 rfl) (fun H locs hw => ?_)
  have ha0 := Ext_O (Ext_sR _ a0 0 (some q_1)) ha0
  have ho_3 := Ext_A (Ext_sR _ a0 0 (some q_1)) ho_3
  have hx := Ext_tr hx (Ext_sR _ a0 0 (some q_1))
  refine lv_aload_n S.1 S.2.1 (dd_at ddX2_init 6 rfl) rfl (lv_at hl 0 rfl) ?_
  refine r_new S hw 6 rfl (by decide) inG6 tyX6 tyX6_ok (List.mem_cons_of_mem _ wg89) (List.mem_cons_of_mem _ wg50) (List.mem_cons_of_mem _ wg51) dF6 (Nat.le_of_ble_eq_true rfl) (Nat.le_of_ble_eq_true rfl) (dd_at ddX2_init 7 rfl) (fun q_4 H hq_5 hw => ?_)
  refine W.widen (k := 2) (n := 404) (Nat.le_of_ble_eq_true rfl) (Nat.le_of_ble_eq_true rfl) ?_
  have h := h q_4 hq_5
  have ha0 := Ext_O (Ext_nE 6 0 hq_5) ha0
  have ho_3 := Ext_A (Ext_nE 6 0 hq_5) ho_3
  have hx := Ext_tr hx (Ext_nE 6 0 hq_5)
  have ho_6 := okO_new (sR (nE E q_1 13 ((400 : Int32)).toNatClampNeg) a0 0 (some q_1)) q_4 0 (ci := 6) (by decide)
  refine lv_dup S.1 S.2.1 (dd_at ddX2_init 8 rfl) rfl ?_
  refine lv_bipush (v := 10) S.1 S.2.1 (dd_at ddX2_init 9 rfl) (by decide) ?_
  refine lv_iconst (v := 5) S.1 S.2.1 (dd_at ddX2_init 10 rfl) (by decide) ?_
  refine r_callVL hw (r_runI (As := [.int 10, .int 5]) (rest := [.ref q_4, .ref a0]) S hw (m_X6_init l D cs (nE (sR (nE E q_1 13 ((400 : Int32)).toNatClampNeg) a0 0 (some q_1)) q_4 6 0) (nD (nD d q_1) q_4) H.size q_4 10 5 _) (cwI 2 S.2.2.2.2 (gC wg66) rfl rfl rfl (S.2.2.2.2 _ (List.mem_cons_of_mem _ wg51)) (S.2.2.2.2 _ (List.mem_cons_of_mem _ wg92)) (S.2.2.2.2 _ (List.mem_cons_of_mem _ wg65)) rfl (by decide +kernel) ⟨Nat.le_of_ble_eq_true rfl, Nat.le_of_ble_eq_true rfl⟩) h rfl hl.1 rfl (Nat.le_of_ble_eq_true rfl) (dd_at ddX2_init 11 rfl) ⟨Nat.le_of_ble_eq_true rfl, Nat.le_of_ble_eq_true rfl⟩) (fun E_7 d_8 H locs h hx_9 hw => ?_)
  have ha0 := Ext_O hx_9 ha0
  have ho_3 := Ext_A hx_9 ho_3
  have ho_6 := Ext_O hx_9 ho_6
  have hx := Ext_tr hx hx_9
  refine r_putRF S hw hinit 2 7 (ty := (.object "HutRow$Table")) rfl inG2 tyX2 tyX2_ok nmX2 (by decide) (List.mem_cons_of_mem _ wg90) (by decide) rfl rfl (by decide +kernel) rfl rfl ha0 (dd_at ddX2_init 12 rfl) (fun H locs hw => ?_)
  have ha0 := Ext_O (Ext_sR _ a0 7 (some q_4)) ha0
  have ho_3 := Ext_A (Ext_sR _ a0 7 (some q_4)) ho_3
  have ho_6 := Ext_O (Ext_sR _ a0 7 (some q_4)) ho_6
  have hx := Ext_tr hx (Ext_sR _ a0 7 (some q_4))
  refine lv_aload_n S.1 S.2.1 (dd_at ddX2_init 13 rfl) rfl (lv_at hl 0 rfl) ?_
  refine lv_sipush (v := 400) S.1 S.2.1 (dd_at ddX2_init 14 rfl) (by decide) ?_
  refine r_newI S hw (List.mem_cons_of_mem _ wg74) (n := 400) (by decide) (by decide) (Nat.le_of_ble_eq_true rfl) (by show _ ≤ _; exact Nat.le_of_ble_eq_true rfl) (dd_at ddX2_init 15 rfl) (fun q_10 H hq_11 hw => ?_)
  refine W.widen (k := 4) (n := 1204) (Nat.le_of_ble_eq_true rfl) (Nat.le_of_ble_eq_true rfl) ?_
  have h := h q_10 hq_11
  have ha0 := Ext_O (Ext_nE 13 ((400 : Int32)).toNatClampNeg hq_11) ha0
  have ho_3 := Ext_A (Ext_nE 13 ((400 : Int32)).toNatClampNeg hq_11) ho_3
  have ho_6 := Ext_O (Ext_nE 13 ((400 : Int32)).toNatClampNeg hq_11) ho_6
  have hx := Ext_tr hx (Ext_nE 13 ((400 : Int32)).toNatClampNeg hq_11)
  have ho_12 := okA_new (sR E_7 a0 7 (some q_4)) q_10 ((400 : Int32)).toNatClampNeg (t := 13) (by decide)
  refine r_putRF S hw hinit 2 8 (ty := (.array .int)) rfl inG2 tyX2 tyX2_ok nmX2 (by decide) (List.mem_cons_of_mem _ wg91) (by decide) rfl rfl (by decide +kernel) rfl rfl ha0 (dd_at ddX2_init 16 rfl) (fun H locs hw => ?_)
  have ha0 := Ext_O (Ext_sR _ a0 8 (some q_10)) ha0
  have ho_3 := Ext_A (Ext_sR _ a0 8 (some q_10)) ho_3
  have ho_6 := Ext_O (Ext_sR _ a0 8 (some q_10)) ho_6
  have ho_12 := Ext_A (Ext_sR _ a0 8 (some q_10)) ho_12
  have hx := Ext_tr hx (Ext_sR _ a0 8 (some q_10))
  exact e_VL S hr hlocks hw hx h (dd_at ddX2_init 17 rfl)

def w_X2_length (E : En) (a0 : Nat) (d : Dy) (K : Int32 → Dy → Prop) : Prop := okO E a0 2 ∧ K (gI d a0 1) d
abbrev rm_X2_length : Room := { frames := 0, cells := 0, slots := 0, locals := 0 }
set_option maxRecDepth 100000 in
set_option maxHeartbeats 4000000 in
theorem m_X2_length (l : Launch) (D : va_G) (cs : Nat → ClassId) (E : En) (d : Dy) (sz : Nat) (a0 : Nat) (K : Int32 → Dy → Prop) : CI l yX2_length (.code yX2_length cX2_length 1 (some .int) :: wsL_law) rm_X2_length D cs E d sz [.ref a0] (w_X2_length E a0 d K) K := by
  refine e_of (cc := cX2_length) (maxL := 1) (ret := (some .int)) (own := RX2) (by decide) rfl rfl (Nat.le_of_ble_eq_true rfl) ?_
  intro p e s m below meth c S hr hlocks hsz H locs hw h ls hl
  have hl : lv_has ls 1 [(0, .ref a0)] := hl
  unfold w_X2_length at h
  obtain ⟨ha0, h⟩ := h
  refine lv_aload_n S.1 S.2.1 (dd_at ddX2_length 0 rfl) rfl (lv_at hl 0 rfl) ?_
  refine r_getI S hw 2 1 rfl inG2 (by decide) (List.mem_cons_of_mem _ wg188) (by decide) ha0 (dd_at ddX2_length 1 rfl) ?_
  exact e_I S hr hlocks hw h (dd_at ddX2_length 2 rfl)

def w_X2_hasRoom (E : En) (a0 : Nat) (p1 : Int32) (d : Dy) (K : Int32 → Dy → Prop) : Prop := okO E a0 2 ∧ ((400 < ((gI d a0 1) + p1) → K 0 d) ∧ (¬ 400 < ((gI d a0 1) + p1) → K 1 d))
abbrev rm_X2_hasRoom : Room := { frames := 0, cells := 0, slots := 0, locals := 0 }
set_option maxRecDepth 100000 in
set_option maxHeartbeats 4000000 in
theorem m_X2_hasRoom (l : Launch) (D : va_G) (cs : Nat → ClassId) (E : En) (d : Dy) (sz : Nat) (a0 : Nat) (p1 : Int32) (K : Int32 → Dy → Prop) : CI l yX2_hasRoom (.code yX2_hasRoom cX2_hasRoom 2 (some .boolean) :: wsL_law) rm_X2_hasRoom D cs E d sz [.ref a0, .int p1] (w_X2_hasRoom E a0 p1 d K) K := by
  refine e_of (cc := cX2_hasRoom) (maxL := 2) (ret := (some .boolean)) (own := RX2) (by decide) rfl rfl (Nat.le_of_ble_eq_true rfl) ?_
  intro p e s m below meth c S hr hlocks hsz H locs hw h ls hl
  have hl : lv_has ls 2 [(0, .ref a0), (1, .int p1)] := hl
  unfold w_X2_hasRoom at h
  obtain ⟨ha0, h⟩ := h
  refine lv_aload_n S.1 S.2.1 (dd_at ddX2_hasRoom 0 rfl) rfl (lv_at hl 0 rfl) ?_
  refine r_getI S hw 2 1 rfl inG2 (by decide) (List.mem_cons_of_mem _ wg188) (by decide) ha0 (dd_at ddX2_hasRoom 1 rfl) ?_
  refine lv_iload_n S.1 S.2.1 (dd_at ddX2_hasRoom 2 rfl) rfl (lv_at hl 1 rfl) ?_
  refine lv_iadd S.1 S.2.1 (dd_at ddX2_hasRoom 3 rfl) ?_
  refine lv_sipush (v := 400) S.1 S.2.1 (dd_at ddX2_hasRoom 4 rfl) (by decide) ?_
  refine lv_icmp_gt (tgt := 16) S.1 S.2.1 (dd_at ddX2_hasRoom 5 rfl) (by decide) (fun hc_1 => ?_) (fun hc_1 => ?_)
  · have h := h.1 hc_1
    refine lv_iconst (v := 0) S.1 S.2.1 (dd_at ddX2_hasRoom 8 rfl) (by decide) ?_
    exact e_Z S hr hlocks hw (Or.inl rfl) h (dd_at ddX2_hasRoom 9 rfl)
  · have h := h.2 hc_1
    refine lv_iconst (v := 1) S.1 S.2.1 (dd_at ddX2_hasRoom 6 rfl) (by decide) ?_
    refine lv_goto (tgt := 17) S.1 S.2.1 (dd_at ddX2_hasRoom 7 rfl) (by decide) ?_
    exact e_Z S hr hlocks hw (Or.inr rfl) h (dd_at ddX2_hasRoom 9 rfl)

def b_X2_addNumber_3 (E : En) (a0 : Nat) (p1 : Int32) (K : Dy → Prop) (k3 : Int32 → Dy → Prop) (v2 : Int32) (d : Dy) : Prop := ((v2 < 0 → K d) ∧ (¬ v2 < 0 → ((400 ≤ (gI d a0 1) → K d) ∧ (¬ 400 ≤ (gI d a0 1) → ∃ b_3 : Nat, eR E a0 0 = some b_3 ∧ okA E b_3 13 ∧ vp_in (gI d a0 1) (eN E b_3) ∧ k3 (v2 + (-8)) (pI (pA d b_3 (gI d a0 1).toNatClampNeg ((p1 >>> (v2 &&& 31)) &&& 255)) a0 1 ((gI (pA d b_3 (gI d a0 1).toNatClampNeg ((p1 >>> (v2 &&& 31)) &&& 255)) a0 1) + 1))))))
def l_X2_addNumber_3 (E : En) (a0 : Nat) (p1 : Int32) (K : Dy → Prop) : Nat → Int32 → Dy → Prop
  | 0 => fun _ _ => False
  | n + 1 => b_X2_addNumber_3 E a0 p1 K (l_X2_addNumber_3 E a0 p1 K n)
def w_X2_addNumber (E : En) (a0 : Nat) (p1 : Int32) (d : Dy) (K : Dy → Prop) : Prop := okO E a0 2 ∧ (∃ n_7 : Nat, l_X2_addNumber_3 E a0 p1 K n_7 24 d)
abbrev rm_X2_addNumber : Room := { frames := 0, cells := 0, slots := 0, locals := 0 }
set_option maxRecDepth 100000 in
set_option maxHeartbeats 4000000 in
theorem m_X2_addNumber (l : Launch) (D : va_G) (cs : Nat → ClassId) (E : En) (d : Dy) (sz : Nat) (a0 : Nat) (p1 : Int32) (K : Dy → Prop) : CV l yX2_addNumber (.code yX2_addNumber cX2_addNumber 3 none :: wsL_law) rm_X2_addNumber D cs E d sz [.ref a0, .int p1] (w_X2_addNumber E a0 p1 d K) K := by
  refine e_of (cc := cX2_addNumber) (maxL := 3) (ret := none) (own := RX2) (by decide) rfl rfl (Nat.le_of_ble_eq_true rfl) ?_
  intro p e s m below meth c S hr hlocks hsz H locs hw h ls hl
  have hl : lv_has ls 3 [(0, .ref a0), (1, .int p1)] := hl
  unfold w_X2_addNumber at h
  obtain ⟨ha0, h⟩ := h
  have tl3 : ∀ (n : Nat) (v2 : Int32) (d : Dy) (H : Heap) (locs : List Loc) (ls : Array Slot), l_X2_addNumber_3 E a0 p1 K n v2 d → Wd D cs (AW E sz) s.heap s E d H locs → lv_has ls 3 [(0, .ref a0), (1, .int p1), (2, .int v2)] → W p l e rm_X2_addNumber s m ([.ref a0, .int p1] : List Value).toArray below meth c H locs 0 0 (MQ below (va_Qv K (OutW D cs E (AW E sz)) (AW E sz)) ([.ref a0, .int p1] : List Value).toArray s rm_X2_addNumber.cells rm_X2_addNumber.slots (AW E sz)) (F0 m 3 ls []) := by
    intro n3
    induction n3 with
    | zero => intro v2 d H locs ls h; exact absurd h id
    | succ n3 ih3 =>
      intro v2 d H locs ls h hw hl
      have h : b_X2_addNumber_3 E a0 p1 K (l_X2_addNumber_3 E a0 p1 K n3) v2 d := h
      unfold b_X2_addNumber_3 at h
      refine lv_iload_n S.1 S.2.1 (dd_at ddX2_addNumber 2 rfl) rfl (lv_at hl 2 rfl) ?_
      refine lv_if_lt (tgt := 49) S.1 S.2.1 (dd_at ddX2_addNumber 3 rfl) (by decide) (fun hc_1 => ?_) (fun hc_1 => ?_)
      · have h := h.1 hc_1
        exact e_V S hr hlocks hw h (dd_at ddX2_addNumber 26 rfl)
      · have h := h.2 hc_1
        refine lv_aload_n S.1 S.2.1 (dd_at ddX2_addNumber 4 rfl) rfl (lv_at hl 0 rfl) ?_
        refine r_getI S hw 2 1 rfl inG2 (by decide) (List.mem_cons_of_mem _ wg188) (by decide) ha0 (dd_at ddX2_addNumber 5 rfl) ?_
        refine lv_sipush (v := 400) S.1 S.2.1 (dd_at ddX2_addNumber 6 rfl) (by decide) ?_
        refine lv_icmp_ge (tgt := 49) S.1 S.2.1 (dd_at ddX2_addNumber 7 rfl) (by decide) (fun hc_2 => ?_) (fun hc_2 => ?_)
        · have h := h.1 hc_2
          exact e_V S hr hlocks hw h (dd_at ddX2_addNumber 26 rfl)
        · have h := h.2 hc_2
          refine lv_aload_n S.1 S.2.1 (dd_at ddX2_addNumber 8 rfl) rfl (lv_at hl 0 rfl) ?_
          obtain ⟨b_3, hb_4, ho_5, h⟩ := h
          refine r_getR S hw 2 0 rfl inG2 (by decide) (List.mem_cons_of_mem _ wg88) (by decide) ha0 hb_4 (dd_at ddX2_addNumber 9 rfl) ?_
          refine lv_aload_n S.1 S.2.1 (dd_at ddX2_addNumber 10 rfl) rfl (lv_at hl 0 rfl) ?_
          refine r_getI S hw 2 1 rfl inG2 (by decide) (List.mem_cons_of_mem _ wg188) (by decide) ha0 (dd_at ddX2_addNumber 11 rfl) ?_
          refine lv_iload_n S.1 S.2.1 (dd_at ddX2_addNumber 12 rfl) rfl (lv_at hl 1 rfl) ?_
          refine lv_iload_n S.1 S.2.1 (dd_at ddX2_addNumber 13 rfl) rfl (lv_at hl 2 rfl) ?_
          refine lv_ishr S.1 S.2.1 (dd_at ddX2_addNumber 14 rfl) ?_
          refine lv_sipush (v := 255) S.1 S.2.1 (dd_at ddX2_addNumber 15 rfl) (by decide) ?_
          refine lv_iand S.1 S.2.1 (dd_at ddX2_addNumber 16 rfl) ?_
          obtain ⟨hx_6, h⟩ := h
          refine r_iast S hw ho_5 hx_6 (dd_at ddX2_addNumber 17 rfl) (fun H locs hw => ?_)
          refine lv_aload_n S.1 S.2.1 (dd_at ddX2_addNumber 18 rfl) rfl (lv_at hl 0 rfl) ?_
          refine lv_dup S.1 S.2.1 (dd_at ddX2_addNumber 19 rfl) rfl ?_
          refine r_getI S hw 2 1 rfl inG2 (by decide) (List.mem_cons_of_mem _ wg188) (by decide) ha0 (dd_at ddX2_addNumber 20 rfl) ?_
          refine lv_iconst (v := 1) S.1 S.2.1 (dd_at ddX2_addNumber 21 rfl) (by decide) ?_
          refine lv_iadd S.1 S.2.1 (dd_at ddX2_addNumber 22 rfl) ?_
          refine r_putI S hw 2 1 (ty := .int) (v := (gI (pA d b_3 (gI d a0 1).toNatClampNeg ((p1 >>> (v2 &&& 31)) &&& 255)) a0 1) + 1) rfl inG2 tyX2 tyX2_ok nmX2 (by decide) (List.mem_cons_of_mem _ wg188) (by decide) rfl (by decide +kernel) rfl rfl ha0 (dd_at ddX2_addNumber 23 rfl) (fun H locs hw => ?_)
          refine lv_iinc (v := v2 + (-8)) (lv' := [(2, .int (v2 + (-8))), (0, .ref a0), (1, .int p1)]) S.1 S.2.1 (dd_at ddX2_addNumber 24 rfl) hl (k := 2) rfl rfl (by decide) rfl (fun ls hl => ?_)
          refine lv_goto (tgt := 3) S.1 S.2.1 (dd_at ddX2_addNumber 25 rfl) (by decide) ?_
          exact ih3 (v2 + (-8)) (pI (pA d b_3 (gI d a0 1).toNatClampNeg ((p1 >>> (v2 &&& 31)) &&& 255)) a0 1 ((gI (pA d b_3 (gI d a0 1).toNatClampNeg ((p1 >>> (v2 &&& 31)) &&& 255)) a0 1) + 1)) H locs ls h hw (lv_sub hl [1, 2, 0] rfl)
  refine lv_bipush (v := 24) S.1 S.2.1 (dd_at ddX2_addNumber 0 rfl) (by decide) ?_
  refine lv_istore_n (lv' := [(2, .int 24), (0, .ref a0), (1, .int p1)]) S.1 S.2.1 (dd_at ddX2_addNumber 1 rfl) rfl hl (by decide) rfl (fun ls hl => ?_)
  obtain ⟨n_7, h⟩ := h
  exact tl3 n_7 24 d H locs ls h hw (lv_sub hl [1, 2, 0] rfl)

def w_X2_cut (E : En) (a0 : Nat) (p1 : Int32) (d : Dy) (K : Dy → Prop) : Prop := okO E a0 2 ∧ K (pI d a0 1 (if 0 < (if (gI d a0 1) < p1 then (gI d a0 1) else p1) then (if (gI d a0 1) < p1 then (gI d a0 1) else p1) else 0))
abbrev rm_X2_cut : Room := { frames := 1, cells := 0, slots := 0, locals := 40 }
set_option maxRecDepth 100000 in
set_option maxHeartbeats 4000000 in
theorem m_X2_cut (l : Launch) (D : va_G) (cs : Nat → ClassId) (E : En) (d : Dy) (sz : Nat) (a0 : Nat) (p1 : Int32) (K : Dy → Prop) : CV l yX2_cut (.code yX2_cut cX2_cut 2 none :: wsL_law) rm_X2_cut D cs E d sz [.ref a0, .int p1] (w_X2_cut E a0 p1 d K) K := by
  refine e_of (cc := cX2_cut) (maxL := 2) (ret := none) (own := RX2) (by decide) rfl rfl (Nat.le_of_ble_eq_true rfl) ?_
  intro p e s m below meth c S hr hlocks hsz H locs hw h ls hl
  have hl : lv_has ls 2 [(0, .ref a0), (1, .int p1)] := hl
  unfold w_X2_cut at h
  obtain ⟨ha0, h⟩ := h
  refine lv_aload_n S.1 S.2.1 (dd_at ddX2_cut 0 rfl) rfl (lv_at hl 0 rfl) ?_
  refine lv_iconst (v := 0) S.1 S.2.1 (dd_at ddX2_cut 1 rfl) (by decide) ?_
  refine lv_iload_n S.1 S.2.1 (dd_at ddX2_cut 2 rfl) rfl (lv_at hl 1 rfl) ?_
  refine lv_aload_n S.1 S.2.1 (dd_at ddX2_cut 3 rfl) rfl (lv_at hl 0 rfl) ?_
  refine r_getI S hw 2 1 rfl inG2 (by decide) (List.mem_cons_of_mem _ wg188) (by decide) ha0 (dd_at ddX2_cut 4 rfl) ?_
  refine va_mmin S.1 S.2.1 (by rw [hl.1]; exact S.2.2.1) S.2.2.2.1 (S.2.2.2.2 _ (List.mem_cons_of_mem _ wg211)) (S.2.2.2.2 _ (List.mem_cons_of_mem _ wg212)) (S.2.2.2.2 _ (List.mem_cons_of_mem _ wg70)) (S.2.2.2.2 _ (List.mem_cons_of_mem _ wg213)) (Nat.le_of_ble_eq_true rfl) (Nat.le_of_ble_eq_true rfl) (Nat.le_of_ble_eq_true rfl) (Nat.le_of_ble_eq_true rfl) (dd_at ddX2_cut 5 rfl) ?_
  refine va_mmax S.1 S.2.1 (by rw [hl.1]; exact S.2.2.1) S.2.2.2.1 (S.2.2.2.2 _ (List.mem_cons_of_mem _ wg214)) (S.2.2.2.2 _ (List.mem_cons_of_mem _ wg69)) (S.2.2.2.2 _ (List.mem_cons_of_mem _ wg70)) (S.2.2.2.2 _ (List.mem_cons_of_mem _ wg71)) (Nat.le_of_ble_eq_true rfl) (Nat.le_of_ble_eq_true rfl) (Nat.le_of_ble_eq_true rfl) (Nat.le_of_ble_eq_true rfl) (dd_at ddX2_cut 6 rfl) ?_
  refine r_putI S hw 2 1 (ty := .int) (v := if 0 < (if (gI d a0 1) < p1 then (gI d a0 1) else p1) then (if (gI d a0 1) < p1 then (gI d a0 1) else p1) else 0) rfl inG2 tyX2 tyX2_ok nmX2 (by decide) (List.mem_cons_of_mem _ wg188) (by decide) rfl (by decide +kernel) rfl rfl ha0 (dd_at ddX2_cut 7 rfl) (fun H locs hw => ?_)
  exact e_V S hr hlocks hw h (dd_at ddX2_cut 8 rfl)

def w_X2_wrongAt (E : En) (a0 : Nat) (d : Dy) (K : Int32 → Dy → Prop) : Prop := okO E a0 2 ∧ K (gI d a0 3) d
abbrev rm_X2_wrongAt : Room := { frames := 0, cells := 0, slots := 0, locals := 0 }
set_option maxRecDepth 100000 in
set_option maxHeartbeats 4000000 in
theorem m_X2_wrongAt (l : Launch) (D : va_G) (cs : Nat → ClassId) (E : En) (d : Dy) (sz : Nat) (a0 : Nat) (K : Int32 → Dy → Prop) : CI l yX2_wrongAt (.code yX2_wrongAt cX2_wrongAt 1 (some .int) :: wsL_law) rm_X2_wrongAt D cs E d sz [.ref a0] (w_X2_wrongAt E a0 d K) K := by
  refine e_of (cc := cX2_wrongAt) (maxL := 1) (ret := (some .int)) (own := RX2) (by decide) rfl rfl (Nat.le_of_ble_eq_true rfl) ?_
  intro p e s m below meth c S hr hlocks hsz H locs hw h ls hl
  have hl : lv_has ls 1 [(0, .ref a0)] := hl
  unfold w_X2_wrongAt at h
  obtain ⟨ha0, h⟩ := h
  refine lv_aload_n S.1 S.2.1 (dd_at ddX2_wrongAt 0 rfl) rfl (lv_at hl 0 rfl) ?_
  refine r_getI S hw 2 3 rfl inG2 (by decide) (List.mem_cons_of_mem _ wg246) (by decide) ha0 (dd_at ddX2_wrongAt 1 rfl) ?_
  exact e_I S hr hlocks hw h (dd_at ddX2_wrongAt 2 rfl)

def w_X2_compiled (E : En) (a0 : Nat) (d : Dy) (K : Nat → En → Dy → Prop) : Prop := okO E a0 2 ∧ ∀ q_1 : Nat, q_1 ∉ eL E → ∃ b_4 : Nat, eR (nE E q_1 6 0) a0 7 = some b_4 ∧ okO (nE E q_1 6 0) b_4 6 ∧ w_X6_size (nE E q_1 6 0) b_4 (nD d q_1) (fun r_8 d_7 => w_X6_init (nE E q_1 6 0) q_1 r_8 5 d_7 (fun E_9 d_10 => ∃ b_12 : Nat, eR E_9 a0 7 = some b_12 ∧ okO E_9 b_12 6 ∧ w_X6_copy E_9 q_1 b_12 d_10 (fun d_15 => ∀ q_17 : Nat, q_17 ∉ eL E_9 → ∃ b_20 : Nat, eR (nE E_9 q_17 7 0) a0 8 = some b_20 ∧ okA (nE E_9 q_17 7 0) b_20 13 ∧ w_J7_copyOf_59c91 (nE E_9 q_17 7 0) b_20 (gI (nD d_15 q_17) a0 9) (nD d_15 q_17) (fun r_24 E_25 d_23 => okA E_25 r_24 13 ∧ w_X7_init E_25 q_17 q_1 r_24 d_23 (fun E_28 d_29 => K q_17 E_28 d_29)))))
abbrev rm_X2_compiled : Room := { frames := 2, cells := 4, slots := 806, locals := 122 }
set_option maxRecDepth 100000 in
set_option maxHeartbeats 4000000 in
theorem m_X2_compiled (l : Launch) (D : va_G) (cs : Nat → ClassId) (E : En) (d : Dy) (sz : Nat) (a0 : Nat) (K : Nat → En → Dy → Prop) : LR l yX2_compiled (.code yX2_compiled cX2_compiled 2 (some (.object "HutRow$Text")) :: wsL_law) rm_X2_compiled D cs E d sz [.ref a0] (w_X2_compiled E a0 d K) K := by
  refine e_ofN (cc := cX2_compiled) (maxL := 2) (ret := (some (.object "HutRow$Text"))) (own := RX2) (by decide) rfl rfl (Nat.le_of_ble_eq_true rfl) ?_
  intro p e s m below meth c S hr hlocks hinit hsz H locs hw h ls hl
  have hx : Ext E E := Ext_rf E
  have hl : lv_has ls 2 [(0, .ref a0)] := hl
  unfold w_X2_compiled at h
  obtain ⟨ha0, h⟩ := h
  refine r_new S hw 6 rfl (by decide) inG6 tyX6 tyX6_ok (List.mem_cons_of_mem _ wg89) (List.mem_cons_of_mem _ wg50) (List.mem_cons_of_mem _ wg51) dF6 (Nat.le_of_ble_eq_true rfl) (Nat.le_of_ble_eq_true rfl) (dd_at ddX2_compiled 0 rfl) (fun q_1 H hq_2 hw => ?_)
  refine W.widen (k := 1) (n := 4) (Nat.le_of_ble_eq_true rfl) (Nat.le_of_ble_eq_true rfl) ?_
  have h := h q_1 hq_2
  have ha0 := Ext_O (Ext_nE 6 0 hq_2) ha0
  have hx := Ext_tr hx (Ext_nE 6 0 hq_2)
  have ho_3 := okO_new E q_1 0 (ci := 6) (by decide)
  refine lv_dup S.1 S.2.1 (dd_at ddX2_compiled 1 rfl) rfl ?_
  refine lv_aload_n S.1 S.2.1 (dd_at ddX2_compiled 2 rfl) rfl (lv_at hl 0 rfl) ?_
  obtain ⟨b_4, hb_5, ho_6, h⟩ := h
  refine r_getR S hw 2 7 rfl inG2 (by decide) (List.mem_cons_of_mem _ wg90) (by decide) ha0 hb_5 (dd_at ddX2_compiled 3 rfl) ?_
  refine r_callI hw (r_runV (As := []) (rest := [.ref q_1, .ref q_1]) S hw (m_X6_size l D cs (nE E q_1 6 0) (nD d q_1) H.size b_4 _) (cwV 0 S.2.2.2.2 (gV wg371 wg372 wg373 wg51 wg374) rfl rfl rfl (by decide +kernel) ⟨Nat.le_of_ble_eq_true rfl, Nat.le_of_ble_eq_true rfl⟩) (ci := 6) rfl ho_6 h rfl hl.1 rfl (Nat.le_of_ble_eq_true rfl) (dd_at ddX2_compiled 4 rfl) ⟨Nat.le_of_ble_eq_true rfl, Nat.le_of_ble_eq_true rfl⟩) (fun r_8 d_7 H locs h hw => ?_)
  refine lv_iconst (v := 5) S.1 S.2.1 (dd_at ddX2_compiled 5 rfl) (by decide) ?_
  refine r_callVL hw (r_runI (As := [.int r_8, .int 5]) (rest := [.ref q_1]) S hw (m_X6_init l D cs (nE E q_1 6 0) d_7 H.size q_1 r_8 5 _) (cwI 2 S.2.2.2.2 (gC wg66) rfl rfl rfl (S.2.2.2.2 _ (List.mem_cons_of_mem _ wg51)) (S.2.2.2.2 _ (List.mem_cons_of_mem _ wg92)) (S.2.2.2.2 _ (List.mem_cons_of_mem _ wg65)) rfl (by decide +kernel) ⟨Nat.le_of_ble_eq_true rfl, Nat.le_of_ble_eq_true rfl⟩) h rfl hl.1 rfl (Nat.le_of_ble_eq_true rfl) (dd_at ddX2_compiled 6 rfl) ⟨Nat.le_of_ble_eq_true rfl, Nat.le_of_ble_eq_true rfl⟩) (fun E_9 d_10 H locs h hx_11 hw => ?_)
  have ha0 := Ext_O hx_11 ha0
  have ho_3 := Ext_O hx_11 ho_3
  have ho_6 := Ext_O hx_11 ho_6
  have hx := Ext_tr hx hx_11
  refine lv_astore_n (lv' := [(1, .ref q_1), (0, .ref a0)]) S.1 S.2.1 (dd_at ddX2_compiled 7 rfl) rfl hl (by decide) rfl (fun ls hl => ?_)
  refine lv_aload_n S.1 S.2.1 (dd_at ddX2_compiled 8 rfl) rfl (lv_at hl 0 rfl) ?_
  refine lv_aload_n S.1 S.2.1 (dd_at ddX2_compiled 9 rfl) rfl (lv_at hl 1 rfl) ?_
  obtain ⟨b_12, hb_13, ho_14, h⟩ := h
  refine r_getR S hw 2 7 rfl inG2 (by decide) (List.mem_cons_of_mem _ wg90) (by decide) ha0 hb_13 (dd_at ddX2_compiled 10 rfl) ?_
  refine r_callV hw (r_runV (As := [.ref b_12]) (rest := []) S hw (m_X6_copy l D cs E_9 d_10 H.size q_1 b_12 _) (cwV 1 S.2.2.2.2 (gV wg375 wg376 wg377 wg51 wg378) rfl rfl rfl (by decide +kernel) ⟨Nat.le_of_ble_eq_true rfl, Nat.le_of_ble_eq_true rfl⟩) (ci := 6) rfl ho_3 h rfl hl.1 rfl (Nat.le_of_ble_eq_true rfl) (dd_at ddX2_compiled 11 rfl) ⟨Nat.le_of_ble_eq_true rfl, Nat.le_of_ble_eq_true rfl⟩) (fun d_15 H locs h hw => ?_)
  refine r_new S hw 7 rfl (by decide) inG7 tyX7 tyX7_ok (List.mem_cons_of_mem _ wg368) (List.mem_cons_of_mem _ wg369) (List.mem_cons_of_mem _ wg370) dF7 (Nat.le_of_ble_eq_true rfl) (Nat.le_of_ble_eq_true rfl) (dd_at ddX2_compiled 12 rfl) (fun q_17 H hq_18 hw => ?_)
  refine W.widen (k := 3) (n := 406) (Nat.le_of_ble_eq_true rfl) (Nat.le_of_ble_eq_true rfl) ?_
  have h := h q_17 hq_18
  have ha0 := Ext_O (Ext_nE 7 0 hq_18) ha0
  have ho_3 := Ext_O (Ext_nE 7 0 hq_18) ho_3
  have ho_6 := Ext_O (Ext_nE 7 0 hq_18) ho_6
  have ho_14 := Ext_O (Ext_nE 7 0 hq_18) ho_14
  have hx := Ext_tr hx (Ext_nE 7 0 hq_18)
  have ho_19 := okO_new E_9 q_17 0 (ci := 7) (by decide)
  refine lv_dup S.1 S.2.1 (dd_at ddX2_compiled 13 rfl) rfl ?_
  refine lv_aload_n S.1 S.2.1 (dd_at ddX2_compiled 14 rfl) rfl (lv_at hl 0 rfl) ?_
  refine lv_aload_n S.1 S.2.1 (dd_at ddX2_compiled 15 rfl) rfl (lv_at hl 1 rfl) ?_
  obtain ⟨b_20, hb_21, ho_22, h⟩ := h
  refine r_getR S hw 2 8 rfl inG2 (by decide) (List.mem_cons_of_mem _ wg91) (by decide) ha0 hb_21 (dd_at ddX2_compiled 16 rfl) ?_
  refine lv_aload_n S.1 S.2.1 (dd_at ddX2_compiled 17 rfl) rfl (lv_at hl 1 rfl) ?_
  refine r_getI S hw 2 9 rfl inG2 (by decide) (List.mem_cons_of_mem _ wg235) (by decide) ha0 (dd_at ddX2_compiled 18 rfl) ?_
  refine r_callRL hw (r_runS (As := [.ref b_20, .int (gI (nD d_15 q_17) a0 9)]) (rest := [.ref q_1, .ref q_17, .ref q_17]) S hw (m_J7_copyOf_59c91 l D cs (nE E_9 q_17 7 0) (nD d_15 q_17) H.size b_20 (gI (nD d_15 q_17) a0 9) _) (va_cwS 2 S.2.2.2.2 (gS wg383 wg384 wg83 wg385) rfl rfl rfl (by decide +kernel) ⟨Nat.le_of_ble_eq_true rfl, Nat.le_of_ble_eq_true rfl⟩) h rfl hl.1 rfl (Nat.le_of_ble_eq_true rfl) (dd_at ddX2_compiled 19 rfl) ⟨Nat.le_of_ble_eq_true rfl, Nat.le_of_ble_eq_true rfl⟩) (fun r_24 E_25 d_23 H locs h hx_26 hw => ?_)
  have ha0 := Ext_O hx_26 ha0
  have ho_3 := Ext_O hx_26 ho_3
  have ho_6 := Ext_O hx_26 ho_6
  have ho_14 := Ext_O hx_26 ho_14
  have ho_19 := Ext_O hx_26 ho_19
  have ho_22 := Ext_A hx_26 ho_22
  have hx := Ext_tr hx hx_26
  obtain ⟨ho_27, h⟩ := h
  refine r_callVL hw (r_runI (As := [.ref q_1, .ref r_24]) (rest := [.ref q_17]) S hw (m_X7_init l D cs E_25 d_23 H.size q_17 q_1 r_24 _) (cwI 2 S.2.2.2.2 (gC wg396) rfl rfl rfl (S.2.2.2.2 _ (List.mem_cons_of_mem _ wg370)) (S.2.2.2.2 _ (List.mem_cons_of_mem _ wg394)) (S.2.2.2.2 _ (List.mem_cons_of_mem _ wg395)) rfl (by decide +kernel) ⟨Nat.le_of_ble_eq_true rfl, Nat.le_of_ble_eq_true rfl⟩) h rfl hl.1 rfl (Nat.le_of_ble_eq_true rfl) (dd_at ddX2_compiled 20 rfl) ⟨Nat.le_of_ble_eq_true rfl, Nat.le_of_ble_eq_true rfl⟩) (fun E_28 d_29 H locs h hx_30 hw => ?_)
  have ha0 := Ext_O hx_30 ha0
  have ho_3 := Ext_O hx_30 ho_3
  have ho_6 := Ext_O hx_30 ho_6
  have ho_14 := Ext_O hx_30 ho_14
  have ho_19 := Ext_O hx_30 ho_19
  have ho_22 := Ext_A hx_30 ho_22
  have ho_27 := Ext_A hx_30 ho_27
  have hx := Ext_tr hx hx_30
  exact e_RL S hr (Or.inl ⟨_, rfl⟩) hlocks hw hx h (dd_at ddX2_compiled 21 rfl)

def b_X2_takeNumber_87 (E : En) (a0 : Nat) (K : Dy → Prop) (d : Dy) : Prop := ((4 < ((gI d a0 4) - (gI d a0 3)) → K (pI d a0 5 32)) ∧ (¬ 4 < ((gI d a0 4) - (gI d a0 3)) → K (pI d a0 5 30)))
def b_X2_takeNumber_5 (E : En) (a0 : Nat) (K : Dy → Prop) (k5 : Dy → Prop) (d : Dy) : Prop := (((gI d a0 1) ≤ (gI d a0 4) → b_X2_takeNumber_87 E a0 K d) ∧ (¬ (gI d a0 1) ≤ (gI d a0 4) → ∃ b_3 : Nat, eR E a0 0 = some b_3 ∧ okA E b_3 13 ∧ vp_in (gI d a0 4) (eN E b_3) ∧ (((gA d b_3 (gI d a0 4).toNatClampNeg) < 48 → b_X2_takeNumber_87 E a0 K d) ∧ (¬ (gA d b_3 (gI d a0 4).toNatClampNeg) < 48 → ∃ b_8 : Nat, eR E a0 0 = some b_8 ∧ okA E b_8 13 ∧ vp_in (gI d a0 4) (eN E b_8) ∧ ((57 < (gA d b_8 (gI d a0 4).toNatClampNeg) → b_X2_takeNumber_87 E a0 K d) ∧ (¬ 57 < (gA d b_8 (gI d a0 4).toNatClampNeg) → ∃ b_13 : Nat, eR E a0 0 = some b_13 ∧ okA E b_13 13 ∧ vp_in (gI d a0 4) (eN E b_13) ∧ k5 (pI (pI d a0 6 ((((if 9999 < (gI d a0 6) then 9999 else (gI d a0 6)) * 10) + (gA d b_13 (gI d a0 4).toNatClampNeg)) - 48)) a0 4 ((gI (pI d a0 6 ((((if 9999 < (gI d a0 6) then 9999 else (gI d a0 6)) * 10) + (gA d b_13 (gI d a0 4).toNatClampNeg)) - 48)) a0 4) + 1))))))))
def l_X2_takeNumber_5 (E : En) (a0 : Nat) (K : Dy → Prop) : Nat → Dy → Prop
  | 0 => fun _ => False
  | n + 1 => b_X2_takeNumber_5 E a0 K (l_X2_takeNumber_5 E a0 K n)
def w_X2_takeNumber (E : En) (a0 : Nat) (d : Dy) (K : Dy → Prop) : Prop := okO E a0 2 ∧ (∃ n_17 : Nat, l_X2_takeNumber_5 E a0 K n_17 (pI d a0 6 0))
abbrev rm_X2_takeNumber : Room := { frames := 1, cells := 0, slots := 0, locals := 40 }
set_option maxRecDepth 100000 in
set_option maxHeartbeats 4000000 in
theorem m_X2_takeNumber (l : Launch) (D : va_G) (cs : Nat → ClassId) (E : En) (d : Dy) (sz : Nat) (a0 : Nat) (K : Dy → Prop) : CV l yX2_takeNumber (.code yX2_takeNumber cX2_takeNumber 1 none :: wsL_law) rm_X2_takeNumber D cs E d sz [.ref a0] (w_X2_takeNumber E a0 d K) K := by
  refine e_of (cc := cX2_takeNumber) (maxL := 1) (ret := none) (own := RX2) (by decide) rfl rfl (Nat.le_of_ble_eq_true rfl) ?_
  intro p e s m below meth c S hr hlocks hsz H locs hw h ls hl
  have hl : lv_has ls 1 [(0, .ref a0)] := hl
  unfold w_X2_takeNumber at h
  obtain ⟨ha0, h⟩ := h
  have tb87 : ∀ (d : Dy) (H : Heap) (locs : List Loc) (ls : Array Slot), b_X2_takeNumber_87 E a0 K d → Wd D cs (AW E sz) s.heap s E d H locs → lv_has ls 1 [(0, .ref a0)] → W p l e rm_X2_takeNumber s m ([.ref a0] : List Value).toArray below meth c H locs 0 0 (MQ below (va_Qv K (OutW D cs E (AW E sz)) (AW E sz)) ([.ref a0] : List Value).toArray s rm_X2_takeNumber.cells rm_X2_takeNumber.slots (AW E sz)) (F0 m 87 ls []) := by
    intro d H locs ls h hw hl
    unfold b_X2_takeNumber_87 at h
    refine lv_aload_n S.1 S.2.1 (dd_at ddX2_takeNumber 45 rfl) rfl (lv_at hl 0 rfl) ?_
    refine lv_aload_n S.1 S.2.1 (dd_at ddX2_takeNumber 46 rfl) rfl (lv_at hl 0 rfl) ?_
    refine r_getI S hw 2 4 rfl inG2 (by decide) (List.mem_cons_of_mem _ wg236) (by decide) ha0 (dd_at ddX2_takeNumber 47 rfl) ?_
    refine lv_aload_n S.1 S.2.1 (dd_at ddX2_takeNumber 48 rfl) rfl (lv_at hl 0 rfl) ?_
    refine r_getI S hw 2 3 rfl inG2 (by decide) (List.mem_cons_of_mem _ wg246) (by decide) ha0 (dd_at ddX2_takeNumber 49 rfl) ?_
    refine lv_isub S.1 S.2.1 (dd_at ddX2_takeNumber 50 rfl) ?_
    refine lv_iconst (v := 4) S.1 S.2.1 (dd_at ddX2_takeNumber 51 rfl) (by decide) ?_
    refine lv_icmp_gt (tgt := 106) S.1 S.2.1 (dd_at ddX2_takeNumber 52 rfl) (by decide) (fun hc_1 => ?_) (fun hc_1 => ?_)
    · have h := h.1 hc_1
      refine lv_bipush (v := 32) S.1 S.2.1 (dd_at ddX2_takeNumber 55 rfl) (by decide) ?_
      refine r_putI S hw 2 5 (ty := .int) (v := 32) rfl inG2 tyX2 tyX2_ok nmX2 (by decide) (List.mem_cons_of_mem _ wg237) (by decide) rfl (by decide +kernel) rfl rfl ha0 (dd_at ddX2_takeNumber 56 rfl) (fun H locs hw => ?_)
      exact e_V S hr hlocks hw h (dd_at ddX2_takeNumber 57 rfl)
    · have h := h.2 hc_1
      refine lv_bipush (v := 30) S.1 S.2.1 (dd_at ddX2_takeNumber 53 rfl) (by decide) ?_
      refine lv_goto (tgt := 108) S.1 S.2.1 (dd_at ddX2_takeNumber 54 rfl) (by decide) ?_
      refine r_putI S hw 2 5 (ty := .int) (v := 30) rfl inG2 tyX2 tyX2_ok nmX2 (by decide) (List.mem_cons_of_mem _ wg237) (by decide) rfl (by decide +kernel) rfl rfl ha0 (dd_at ddX2_takeNumber 56 rfl) (fun H locs hw => ?_)
      exact e_V S hr hlocks hw h (dd_at ddX2_takeNumber 57 rfl)
  have tl5 : ∀ (n : Nat) (d : Dy) (H : Heap) (locs : List Loc) (ls : Array Slot), l_X2_takeNumber_5 E a0 K n d → Wd D cs (AW E sz) s.heap s E d H locs → lv_has ls 1 [(0, .ref a0)] → W p l e rm_X2_takeNumber s m ([.ref a0] : List Value).toArray below meth c H locs 0 0 (MQ below (va_Qv K (OutW D cs E (AW E sz)) (AW E sz)) ([.ref a0] : List Value).toArray s rm_X2_takeNumber.cells rm_X2_takeNumber.slots (AW E sz)) (F0 m 5 ls []) := by
    intro n5
    induction n5 with
    | zero => intro d H locs ls h; exact absurd h id
    | succ n5 ih5 =>
      intro d H locs ls h hw hl
      have h : b_X2_takeNumber_5 E a0 K (l_X2_takeNumber_5 E a0 K n5) d := h
      unfold b_X2_takeNumber_5 at h
      refine lv_aload_n S.1 S.2.1 (dd_at ddX2_takeNumber 3 rfl) rfl (lv_at hl 0 rfl) ?_
      refine r_getI S hw 2 4 rfl inG2 (by decide) (List.mem_cons_of_mem _ wg236) (by decide) ha0 (dd_at ddX2_takeNumber 4 rfl) ?_
      refine lv_aload_n S.1 S.2.1 (dd_at ddX2_takeNumber 5 rfl) rfl (lv_at hl 0 rfl) ?_
      refine r_getI S hw 2 1 rfl inG2 (by decide) (List.mem_cons_of_mem _ wg188) (by decide) ha0 (dd_at ddX2_takeNumber 6 rfl) ?_
      refine lv_icmp_ge (tgt := 87) S.1 S.2.1 (dd_at ddX2_takeNumber 7 rfl) (by decide) (fun hc_2 => ?_) (fun hc_2 => ?_)
      · have h := h.1 hc_2
        exact tb87 d H locs ls h hw (lv_sub hl [0] rfl)
      · have h := h.2 hc_2
        refine lv_aload_n S.1 S.2.1 (dd_at ddX2_takeNumber 8 rfl) rfl (lv_at hl 0 rfl) ?_
        obtain ⟨b_3, hb_4, ho_5, h⟩ := h
        refine r_getR S hw 2 0 rfl inG2 (by decide) (List.mem_cons_of_mem _ wg88) (by decide) ha0 hb_4 (dd_at ddX2_takeNumber 9 rfl) ?_
        refine lv_aload_n S.1 S.2.1 (dd_at ddX2_takeNumber 10 rfl) rfl (lv_at hl 0 rfl) ?_
        refine r_getI S hw 2 4 rfl inG2 (by decide) (List.mem_cons_of_mem _ wg236) (by decide) ha0 (dd_at ddX2_takeNumber 11 rfl) ?_
        obtain ⟨hx_6, h⟩ := h
        refine r_iald S hw ho_5 hx_6 (dd_at ddX2_takeNumber 12 rfl) ?_
        refine lv_bipush (v := 48) S.1 S.2.1 (dd_at ddX2_takeNumber 13 rfl) (by decide) ?_
        refine lv_icmp_lt (tgt := 87) S.1 S.2.1 (dd_at ddX2_takeNumber 14 rfl) (by decide) (fun hc_7 => ?_) (fun hc_7 => ?_)
        · have h := h.1 hc_7
          exact tb87 d H locs ls h hw (lv_sub hl [0] rfl)
        · have h := h.2 hc_7
          refine lv_aload_n S.1 S.2.1 (dd_at ddX2_takeNumber 15 rfl) rfl (lv_at hl 0 rfl) ?_
          obtain ⟨b_8, hb_9, ho_10, h⟩ := h
          refine r_getR S hw 2 0 rfl inG2 (by decide) (List.mem_cons_of_mem _ wg88) (by decide) ha0 hb_9 (dd_at ddX2_takeNumber 16 rfl) ?_
          refine lv_aload_n S.1 S.2.1 (dd_at ddX2_takeNumber 17 rfl) rfl (lv_at hl 0 rfl) ?_
          refine r_getI S hw 2 4 rfl inG2 (by decide) (List.mem_cons_of_mem _ wg236) (by decide) ha0 (dd_at ddX2_takeNumber 18 rfl) ?_
          obtain ⟨hx_11, h⟩ := h
          refine r_iald S hw ho_10 hx_11 (dd_at ddX2_takeNumber 19 rfl) ?_
          refine lv_bipush (v := 57) S.1 S.2.1 (dd_at ddX2_takeNumber 20 rfl) (by decide) ?_
          refine lv_icmp_gt (tgt := 87) S.1 S.2.1 (dd_at ddX2_takeNumber 21 rfl) (by decide) (fun hc_12 => ?_) (fun hc_12 => ?_)
          · have h := h.1 hc_12
            exact tb87 d H locs ls h hw (lv_sub hl [0] rfl)
          · have h := h.2 hc_12
            refine lv_aload_n S.1 S.2.1 (dd_at ddX2_takeNumber 22 rfl) rfl (lv_at hl 0 rfl) ?_
            refine lv_aload_n S.1 S.2.1 (dd_at ddX2_takeNumber 23 rfl) rfl (lv_at hl 0 rfl) ?_
            refine r_getI S hw 2 6 rfl inG2 (by decide) (List.mem_cons_of_mem _ wg251) (by decide) ha0 (dd_at ddX2_takeNumber 24 rfl) ?_
            refine lv_sipush (v := 9999) S.1 S.2.1 (dd_at ddX2_takeNumber 25 rfl) (by decide) ?_
            refine va_mmin S.1 S.2.1 (by rw [hl.1]; exact S.2.2.1) S.2.2.2.1 (S.2.2.2.2 _ (List.mem_cons_of_mem _ wg211)) (S.2.2.2.2 _ (List.mem_cons_of_mem _ wg212)) (S.2.2.2.2 _ (List.mem_cons_of_mem _ wg70)) (S.2.2.2.2 _ (List.mem_cons_of_mem _ wg213)) (Nat.le_of_ble_eq_true rfl) (Nat.le_of_ble_eq_true rfl) (Nat.le_of_ble_eq_true rfl) (Nat.le_of_ble_eq_true rfl) (dd_at ddX2_takeNumber 26 rfl) ?_
            refine lv_bipush (v := 10) S.1 S.2.1 (dd_at ddX2_takeNumber 27 rfl) (by decide) ?_
            refine lv_imul S.1 S.2.1 (dd_at ddX2_takeNumber 28 rfl) ?_
            refine lv_aload_n S.1 S.2.1 (dd_at ddX2_takeNumber 29 rfl) rfl (lv_at hl 0 rfl) ?_
            obtain ⟨b_13, hb_14, ho_15, h⟩ := h
            refine r_getR S hw 2 0 rfl inG2 (by decide) (List.mem_cons_of_mem _ wg88) (by decide) ha0 hb_14 (dd_at ddX2_takeNumber 30 rfl) ?_
            refine lv_aload_n S.1 S.2.1 (dd_at ddX2_takeNumber 31 rfl) rfl (lv_at hl 0 rfl) ?_
            refine r_getI S hw 2 4 rfl inG2 (by decide) (List.mem_cons_of_mem _ wg236) (by decide) ha0 (dd_at ddX2_takeNumber 32 rfl) ?_
            obtain ⟨hx_16, h⟩ := h
            refine r_iald S hw ho_15 hx_16 (dd_at ddX2_takeNumber 33 rfl) ?_
            refine lv_iadd S.1 S.2.1 (dd_at ddX2_takeNumber 34 rfl) ?_
            refine lv_bipush (v := 48) S.1 S.2.1 (dd_at ddX2_takeNumber 35 rfl) (by decide) ?_
            refine lv_isub S.1 S.2.1 (dd_at ddX2_takeNumber 36 rfl) ?_
            refine r_putI S hw 2 6 (ty := .int) (v := (((if 9999 < (gI d a0 6) then 9999 else (gI d a0 6)) * 10) + (gA d b_13 (gI d a0 4).toNatClampNeg)) - 48) rfl inG2 tyX2 tyX2_ok nmX2 (by decide) (List.mem_cons_of_mem _ wg251) (by decide) rfl (by decide +kernel) rfl rfl ha0 (dd_at ddX2_takeNumber 37 rfl) (fun H locs hw => ?_)
            refine lv_aload_n S.1 S.2.1 (dd_at ddX2_takeNumber 38 rfl) rfl (lv_at hl 0 rfl) ?_
            refine lv_dup S.1 S.2.1 (dd_at ddX2_takeNumber 39 rfl) rfl ?_
            refine r_getI S hw 2 4 rfl inG2 (by decide) (List.mem_cons_of_mem _ wg236) (by decide) ha0 (dd_at ddX2_takeNumber 40 rfl) ?_
            refine lv_iconst (v := 1) S.1 S.2.1 (dd_at ddX2_takeNumber 41 rfl) (by decide) ?_
            refine lv_iadd S.1 S.2.1 (dd_at ddX2_takeNumber 42 rfl) ?_
            refine r_putI S hw 2 4 (ty := .int) (v := (gI (pI d a0 6 ((((if 9999 < (gI d a0 6) then 9999 else (gI d a0 6)) * 10) + (gA d b_13 (gI d a0 4).toNatClampNeg)) - 48)) a0 4) + 1) rfl inG2 tyX2 tyX2_ok nmX2 (by decide) (List.mem_cons_of_mem _ wg236) (by decide) rfl (by decide +kernel) rfl rfl ha0 (dd_at ddX2_takeNumber 43 rfl) (fun H locs hw => ?_)
            refine lv_goto (tgt := 5) S.1 S.2.1 (dd_at ddX2_takeNumber 44 rfl) (by decide) ?_
            exact ih5 (pI (pI d a0 6 ((((if 9999 < (gI d a0 6) then 9999 else (gI d a0 6)) * 10) + (gA d b_13 (gI d a0 4).toNatClampNeg)) - 48)) a0 4 ((gI (pI d a0 6 ((((if 9999 < (gI d a0 6) then 9999 else (gI d a0 6)) * 10) + (gA d b_13 (gI d a0 4).toNatClampNeg)) - 48)) a0 4) + 1)) H locs ls h hw (lv_sub hl [0] rfl)
  refine lv_aload_n S.1 S.2.1 (dd_at ddX2_takeNumber 0 rfl) rfl (lv_at hl 0 rfl) ?_
  refine lv_iconst (v := 0) S.1 S.2.1 (dd_at ddX2_takeNumber 1 rfl) (by decide) ?_
  refine r_putI S hw 2 6 (ty := .int) (v := 0) rfl inG2 tyX2 tyX2_ok nmX2 (by decide) (List.mem_cons_of_mem _ wg251) (by decide) rfl (by decide +kernel) rfl rfl ha0 (dd_at ddX2_takeNumber 2 rfl) (fun H locs hw => ?_)
  obtain ⟨n_17, h⟩ := h
  exact tl5 n_17 (pI d a0 6 0) H locs ls h hw (lv_sub hl [0] rfl)

def b_X2_takeWord_117 (E : En) (a0 : Nat) (K : Dy → Prop) (k64 : Int32 → Int32 → Int32 → Dy → Prop) (v1 : Int32) (v3 : Int32) (s0 : Nat) (s1 : Int32) (d : Dy) : Prop := okO E s0 2 ∧ k64 (v1 + 1) 0 (v3 + 1) (pI d s0 5 s1)
def b_X2_takeWord_64 (E : En) (a0 : Nat) (K : Dy → Prop) (k64 : Int32 → Int32 → Int32 → Dy → Prop) (v1 : Int32) (v2 : Int32) (v3 : Int32) (d : Dy) : Prop := w_J0_length_8abf5 E 0 d (fun r_2 d_1 => ((r_2 ≤ v3 → K d_1) ∧ (¬ r_2 ≤ v3 → ((¬ (gI d_1 a0 5) = 32 → K d_1) ∧ ((gI d_1 a0 5) = 32 → w_J0_charAt_5068e E 0 v3 d_1 (fun r_6 d_5 => ((¬ r_6 = 32 → ((v2 < 0 → k64 v1 (-1) (v3 + 1) d_5) ∧ (¬ v2 < 0 → ((((gI d_5 a0 4) - (gI d_5 a0 3)) ≤ v2 → k64 v1 (-1) (v3 + 1) d_5) ∧ (¬ ((gI d_5 a0 4) - (gI d_5 a0 3)) ≤ v2 → ∃ b_10 : Nat, eR E a0 0 = some b_10 ∧ okA E b_10 13 ∧ vp_in ((gI d_5 a0 3) + v2) (eN E b_10) ∧ ((¬ (gA d_5 b_10 ((gI d_5 a0 3) + v2).toNatClampNeg) = r_6 → k64 v1 (-1) (v3 + 1) d_5) ∧ ((gA d_5 b_10 ((gI d_5 a0 3) + v2).toNatClampNeg) = r_6 → k64 v1 (v2 + 1) (v3 + 1) d_5))))))) ∧ (r_6 = 32 → ((¬ v2 = ((gI d_5 a0 4) - (gI d_5 a0 3)) → b_X2_takeWord_117 E a0 K k64 v1 v3 a0 32 d_5) ∧ (v2 = ((gI d_5 a0 4) - (gI d_5 a0 3)) → b_X2_takeWord_117 E a0 K k64 v1 v3 a0 v1 d_5))))))))))
def l_X2_takeWord_64 (E : En) (a0 : Nat) (K : Dy → Prop) : Nat → Int32 → Int32 → Int32 → Dy → Prop
  | 0 => fun _ _ _ _ => False
  | n + 1 => b_X2_takeWord_64 E a0 K (l_X2_takeWord_64 E a0 K n)
def b_X2_takeWord_52 (E : En) (a0 : Nat) (K : Dy → Prop) (d : Dy) : Prop := (∃ n_16 : Nat, l_X2_takeWord_64 E a0 K n_16 0 0 0 (pI d a0 5 32))
def b_X2_takeWord_0 (E : En) (a0 : Nat) (K : Dy → Prop) (k0 : Dy → Prop) (d : Dy) : Prop := (((gI d a0 1) ≤ (gI d a0 4) → b_X2_takeWord_52 E a0 K d) ∧ (¬ (gI d a0 1) ≤ (gI d a0 4) → ∃ b_18 : Nat, eR E a0 0 = some b_18 ∧ okA E b_18 13 ∧ vp_in (gI d a0 4) (eN E b_18) ∧ (((gA d b_18 (gI d a0 4).toNatClampNeg) < 97 → b_X2_takeWord_52 E a0 K d) ∧ (¬ (gA d b_18 (gI d a0 4).toNatClampNeg) < 97 → ∃ b_23 : Nat, eR E a0 0 = some b_23 ∧ okA E b_23 13 ∧ vp_in (gI d a0 4) (eN E b_23) ∧ ((122 < (gA d b_23 (gI d a0 4).toNatClampNeg) → b_X2_takeWord_52 E a0 K d) ∧ (¬ 122 < (gA d b_23 (gI d a0 4).toNatClampNeg) → k0 (pI d a0 4 ((gI d a0 4) + 1))))))))
def l_X2_takeWord_0 (E : En) (a0 : Nat) (K : Dy → Prop) : Nat → Dy → Prop
  | 0 => fun _ => False
  | n + 1 => b_X2_takeWord_0 E a0 K (l_X2_takeWord_0 E a0 K n)
def w_X2_takeWord (E : En) (a0 : Nat) (d : Dy) (K : Dy → Prop) : Prop := okO E a0 2 ∧ (∃ n_28 : Nat, l_X2_takeWord_0 E a0 K n_28 d)
abbrev rm_X2_takeWord : Room := { frames := 4, cells := 0, slots := 0, locals := 91 }
set_option maxRecDepth 100000 in
set_option maxHeartbeats 4000000 in
theorem m_X2_takeWord (l : Launch) (D : va_G) (cs : Nat → ClassId) (E : En) (d : Dy) (sz : Nat) (a0 : Nat) (K : Dy → Prop) : CV l yX2_takeWord (.code yX2_takeWord cX2_takeWord 5 none :: wsL_law) rm_X2_takeWord D cs E d sz [.ref a0] (w_X2_takeWord E a0 d K) K := by
  refine e_of (cc := cX2_takeWord) (maxL := 5) (ret := none) (own := RX2) (by decide) rfl rfl (Nat.le_of_ble_eq_true rfl) ?_
  intro p e s m below meth c S hr hlocks hsz H locs hw h ls hl
  have hl : lv_has ls 5 [(0, .ref a0)] := hl
  unfold w_X2_takeWord at h
  obtain ⟨ha0, h⟩ := h
  have tl64 : ∀ (n : Nat) (v1 : Int32) (v2 : Int32) (v3 : Int32) (d : Dy) (H : Heap) (locs : List Loc) (ls : Array Slot), l_X2_takeWord_64 E a0 K n v1 v2 v3 d → Wd D cs (AW E sz) s.heap s E d H locs → lv_has ls 5 [(0, .ref a0), (1, .int v1), (2, .int v2), (3, .int v3)] → W p l e rm_X2_takeWord s m ([.ref a0] : List Value).toArray below meth c H locs 0 0 (MQ below (va_Qv K (OutW D cs E (AW E sz)) (AW E sz)) ([.ref a0] : List Value).toArray s rm_X2_takeWord.cells rm_X2_takeWord.slots (AW E sz)) (F0 m 64 ls []) := by
    intro n64
    induction n64 with
    | zero => intro v1 v2 v3 d H locs ls h; exact absurd h id
    | succ n64 ih64 =>
      have tb117 : ∀ (v1 : Int32) (v3 : Int32) (s0 : Nat) (s1 : Int32) (d : Dy) (H : Heap) (locs : List Loc) (ls : Array Slot), b_X2_takeWord_117 E a0 K (l_X2_takeWord_64 E a0 K n64) v1 v3 s0 s1 d → Wd D cs (AW E sz) s.heap s E d H locs → lv_has ls 5 [(0, .ref a0), (1, .int v1), (3, .int v3)] → W p l e rm_X2_takeWord s m ([.ref a0] : List Value).toArray below meth c H locs 0 0 (MQ below (va_Qv K (OutW D cs E (AW E sz)) (AW E sz)) ([.ref a0] : List Value).toArray s rm_X2_takeWord.cells rm_X2_takeWord.slots (AW E sz)) (F0 m 117 ls [.int s1, .ref s0]) := by
        intro v1 v3 s0 s1 d H locs ls h hw hl
        unfold b_X2_takeWord_117 at h
        obtain ⟨hos0, h⟩ := h
        refine r_putI S hw 2 5 (ty := .int) (v := s1) rfl inG2 tyX2 tyX2_ok nmX2 (by decide) (List.mem_cons_of_mem _ wg237) (by decide) rfl (by decide +kernel) rfl rfl hos0 (dd_at ddX2_takeWord 61 rfl) (fun H locs hw => ?_)
        refine lv_iinc (v := v1 + 1) (lv' := [(1, .int (v1 + 1)), (0, .ref a0), (3, .int v3)]) S.1 S.2.1 (dd_at ddX2_takeWord 62 rfl) hl (k := 1) rfl rfl (by decide) rfl (fun ls hl => ?_)
        refine lv_iconst (v := 0) S.1 S.2.1 (dd_at ddX2_takeWord 63 rfl) (by decide) ?_
        refine lv_istore_n (lv' := [(2, .int 0), (1, .int (v1 + 1)), (0, .ref a0), (3, .int v3)]) S.1 S.2.1 (dd_at ddX2_takeWord 64 rfl) rfl hl (by decide) rfl (fun ls hl => ?_)
        refine lv_goto (tgt := 169) S.1 S.2.1 (dd_at ddX2_takeWord 65 rfl) (by decide) ?_
        refine lv_iinc (v := v3 + 1) (lv' := [(3, .int (v3 + 1)), (2, .int 0), (1, .int (v1 + 1)), (0, .ref a0)]) S.1 S.2.1 (dd_at ddX2_takeWord 88 rfl) hl (k := 3) rfl rfl (by decide) rfl (fun ls hl => ?_)
        refine lv_goto (tgt := 64) S.1 S.2.1 (dd_at ddX2_takeWord 89 rfl) (by decide) ?_
        exact ih64 (v1 + 1) 0 (v3 + 1) (pI d s0 5 s1) H locs ls h hw (lv_sub hl [3, 2, 1, 0] rfl)
      intro v1 v2 v3 d H locs ls h hw hl
      have h : b_X2_takeWord_64 E a0 K (l_X2_takeWord_64 E a0 K n64) v1 v2 v3 d := h
      unfold b_X2_takeWord_64 at h
      refine lv_iload_n S.1 S.2.1 (dd_at ddX2_takeWord 35 rfl) rfl (lv_at hl 3 rfl) ?_
      refine r_ldcS S hw 0 rfl (dd_at ddX2_takeWord 36 rfl) ?_
      refine r_callI hw (r_runVS (As := []) (rest := [.int v3]) S hw h.1 (m_J0_length_8abf5 l D cs E d H.size 0 _) (cwV 0 S.2.2.2.2 (gV wg256 wg257 wg258 wg259 wg260) rfl rfl rfl (by decide +kernel) ⟨Nat.le_of_ble_eq_true rfl, Nat.le_of_ble_eq_true rfl⟩) h rfl hl.1 rfl (Nat.le_of_ble_eq_true rfl) (dd_at ddX2_takeWord 37 rfl) ⟨Nat.le_of_ble_eq_true rfl, Nat.le_of_ble_eq_true rfl⟩) (fun r_2 d_1 H locs h hw => ?_)
      refine lv_icmp_ge (tgt := 175) S.1 S.2.1 (dd_at ddX2_takeWord 38 rfl) (by decide) (fun hc_3 => ?_) (fun hc_3 => ?_)
      · have h := h.1 hc_3
        exact e_V S hr hlocks hw h (dd_at ddX2_takeWord 90 rfl)
      · have h := h.2 hc_3
        refine lv_aload_n S.1 S.2.1 (dd_at ddX2_takeWord 39 rfl) rfl (lv_at hl 0 rfl) ?_
        refine r_getI S hw 2 5 rfl inG2 (by decide) (List.mem_cons_of_mem _ wg237) (by decide) ha0 (dd_at ddX2_takeWord 40 rfl) ?_
        refine lv_bipush (v := 32) S.1 S.2.1 (dd_at ddX2_takeWord 41 rfl) (by decide) ?_
        refine lv_icmp_ne (tgt := 175) S.1 S.2.1 (dd_at ddX2_takeWord 42 rfl) (by decide) (fun hc_4 => ?_) (fun hc_4 => ?_)
        · have h := h.1 hc_4
          exact e_V S hr hlocks hw h (dd_at ddX2_takeWord 90 rfl)
        · have h := h.2 hc_4
          refine r_ldcS S hw 0 rfl (dd_at ddX2_takeWord 43 rfl) ?_
          refine lv_iload_n S.1 S.2.1 (dd_at ddX2_takeWord 44 rfl) rfl (lv_at hl 3 rfl) ?_
          refine r_callI hw (r_runVS (As := [.int v3]) (rest := []) S hw h.1 (m_J0_charAt_5068e l D cs E d_1 H.size 0 v3 _) (cwV 1 S.2.2.2.2 (gV wg268 wg269 wg270 wg259 wg271) rfl rfl rfl (by decide +kernel) ⟨Nat.le_of_ble_eq_true rfl, Nat.le_of_ble_eq_true rfl⟩) h rfl hl.1 rfl (Nat.le_of_ble_eq_true rfl) (dd_at ddX2_takeWord 45 rfl) ⟨Nat.le_of_ble_eq_true rfl, Nat.le_of_ble_eq_true rfl⟩) (fun r_6 d_5 H locs h hw => ?_)
          refine lv_istore (lv' := [(4, .int r_6), (0, .ref a0), (1, .int v1), (2, .int v2), (3, .int v3)]) S.1 S.2.1 (dd_at ddX2_takeWord 46 rfl) hl (by decide) rfl (fun ls hl => ?_)
          refine lv_iload S.1 S.2.1 (dd_at ddX2_takeWord 47 rfl) (lv_at hl 0 rfl) ?_
          refine lv_bipush (v := 32) S.1 S.2.1 (dd_at ddX2_takeWord 48 rfl) (by decide) ?_
          refine lv_icmp_ne (tgt := 128) S.1 S.2.1 (dd_at ddX2_takeWord 49 rfl) (by decide) (fun hc_7 => ?_) (fun hc_7 => ?_)
          · have h := h.1 hc_7
            refine lv_iload_n S.1 S.2.1 (dd_at ddX2_takeWord 66 rfl) rfl (lv_at hl 3 rfl) ?_
            refine lv_if_lt (tgt := 167) S.1 S.2.1 (dd_at ddX2_takeWord 67 rfl) (by decide) (fun hc_8 => ?_) (fun hc_8 => ?_)
            · have h := h.1 hc_8
              refine lv_iconst (v := -1) S.1 S.2.1 (dd_at ddX2_takeWord 86 rfl) (by decide) ?_
              refine lv_istore_n (lv' := [(2, .int (-1)), (4, .int r_6), (0, .ref a0), (1, .int v1), (3, .int v3)]) S.1 S.2.1 (dd_at ddX2_takeWord 87 rfl) rfl hl (by decide) rfl (fun ls hl => ?_)
              refine lv_iinc (v := v3 + 1) (lv' := [(3, .int (v3 + 1)), (2, .int (-1)), (4, .int r_6), (0, .ref a0), (1, .int v1)]) S.1 S.2.1 (dd_at ddX2_takeWord 88 rfl) hl (k := 4) rfl rfl (by decide) rfl (fun ls hl => ?_)
              refine lv_goto (tgt := 64) S.1 S.2.1 (dd_at ddX2_takeWord 89 rfl) (by decide) ?_
              exact ih64 v1 (-1) (v3 + 1) d_5 H locs ls h hw (lv_sub hl [3, 4, 1, 0] rfl)
            · have h := h.2 hc_8
              refine lv_iload_n S.1 S.2.1 (dd_at ddX2_takeWord 68 rfl) rfl (lv_at hl 3 rfl) ?_
              refine lv_aload_n S.1 S.2.1 (dd_at ddX2_takeWord 69 rfl) rfl (lv_at hl 1 rfl) ?_
              refine r_getI S hw 2 4 rfl inG2 (by decide) (List.mem_cons_of_mem _ wg236) (by decide) ha0 (dd_at ddX2_takeWord 70 rfl) ?_
              refine lv_aload_n S.1 S.2.1 (dd_at ddX2_takeWord 71 rfl) rfl (lv_at hl 1 rfl) ?_
              refine r_getI S hw 2 3 rfl inG2 (by decide) (List.mem_cons_of_mem _ wg246) (by decide) ha0 (dd_at ddX2_takeWord 72 rfl) ?_
              refine lv_isub S.1 S.2.1 (dd_at ddX2_takeWord 73 rfl) ?_
              refine lv_icmp_ge (tgt := 167) S.1 S.2.1 (dd_at ddX2_takeWord 74 rfl) (by decide) (fun hc_9 => ?_) (fun hc_9 => ?_)
              · have h := h.1 hc_9
                refine lv_iconst (v := -1) S.1 S.2.1 (dd_at ddX2_takeWord 86 rfl) (by decide) ?_
                refine lv_istore_n (lv' := [(2, .int (-1)), (4, .int r_6), (0, .ref a0), (1, .int v1), (3, .int v3)]) S.1 S.2.1 (dd_at ddX2_takeWord 87 rfl) rfl hl (by decide) rfl (fun ls hl => ?_)
                refine lv_iinc (v := v3 + 1) (lv' := [(3, .int (v3 + 1)), (2, .int (-1)), (4, .int r_6), (0, .ref a0), (1, .int v1)]) S.1 S.2.1 (dd_at ddX2_takeWord 88 rfl) hl (k := 4) rfl rfl (by decide) rfl (fun ls hl => ?_)
                refine lv_goto (tgt := 64) S.1 S.2.1 (dd_at ddX2_takeWord 89 rfl) (by decide) ?_
                exact ih64 v1 (-1) (v3 + 1) d_5 H locs ls h hw (lv_sub hl [3, 4, 1, 0] rfl)
              · have h := h.2 hc_9
                refine lv_aload_n S.1 S.2.1 (dd_at ddX2_takeWord 75 rfl) rfl (lv_at hl 1 rfl) ?_
                obtain ⟨b_10, hb_11, ho_12, h⟩ := h
                refine r_getR S hw 2 0 rfl inG2 (by decide) (List.mem_cons_of_mem _ wg88) (by decide) ha0 hb_11 (dd_at ddX2_takeWord 76 rfl) ?_
                refine lv_aload_n S.1 S.2.1 (dd_at ddX2_takeWord 77 rfl) rfl (lv_at hl 1 rfl) ?_
                refine r_getI S hw 2 3 rfl inG2 (by decide) (List.mem_cons_of_mem _ wg246) (by decide) ha0 (dd_at ddX2_takeWord 78 rfl) ?_
                refine lv_iload_n S.1 S.2.1 (dd_at ddX2_takeWord 79 rfl) rfl (lv_at hl 3 rfl) ?_
                refine lv_iadd S.1 S.2.1 (dd_at ddX2_takeWord 80 rfl) ?_
                obtain ⟨hx_13, h⟩ := h
                refine r_iald S hw ho_12 hx_13 (dd_at ddX2_takeWord 81 rfl) ?_
                refine lv_iload S.1 S.2.1 (dd_at ddX2_takeWord 82 rfl) (lv_at hl 0 rfl) ?_
                refine lv_icmp_ne (tgt := 167) S.1 S.2.1 (dd_at ddX2_takeWord 83 rfl) (by decide) (fun hc_14 => ?_) (fun hc_14 => ?_)
                · have h := h.1 hc_14
                  refine lv_iconst (v := -1) S.1 S.2.1 (dd_at ddX2_takeWord 86 rfl) (by decide) ?_
                  refine lv_istore_n (lv' := [(2, .int (-1)), (4, .int r_6), (0, .ref a0), (1, .int v1), (3, .int v3)]) S.1 S.2.1 (dd_at ddX2_takeWord 87 rfl) rfl hl (by decide) rfl (fun ls hl => ?_)
                  refine lv_iinc (v := v3 + 1) (lv' := [(3, .int (v3 + 1)), (2, .int (-1)), (4, .int r_6), (0, .ref a0), (1, .int v1)]) S.1 S.2.1 (dd_at ddX2_takeWord 88 rfl) hl (k := 4) rfl rfl (by decide) rfl (fun ls hl => ?_)
                  refine lv_goto (tgt := 64) S.1 S.2.1 (dd_at ddX2_takeWord 89 rfl) (by decide) ?_
                  exact ih64 v1 (-1) (v3 + 1) d_5 H locs ls h hw (lv_sub hl [3, 4, 1, 0] rfl)
                · have h := h.2 hc_14
                  refine lv_iinc (v := v2 + 1) (lv' := [(2, .int (v2 + 1)), (4, .int r_6), (0, .ref a0), (1, .int v1), (3, .int v3)]) S.1 S.2.1 (dd_at ddX2_takeWord 84 rfl) hl (k := 3) rfl rfl (by decide) rfl (fun ls hl => ?_)
                  refine lv_goto (tgt := 169) S.1 S.2.1 (dd_at ddX2_takeWord 85 rfl) (by decide) ?_
                  refine lv_iinc (v := v3 + 1) (lv' := [(3, .int (v3 + 1)), (2, .int (v2 + 1)), (4, .int r_6), (0, .ref a0), (1, .int v1)]) S.1 S.2.1 (dd_at ddX2_takeWord 88 rfl) hl (k := 4) rfl rfl (by decide) rfl (fun ls hl => ?_)
                  refine lv_goto (tgt := 64) S.1 S.2.1 (dd_at ddX2_takeWord 89 rfl) (by decide) ?_
                  exact ih64 v1 (v2 + 1) (v3 + 1) d_5 H locs ls h hw (lv_sub hl [3, 4, 1, 0] rfl)
          · have h := h.2 hc_7
            refine lv_aload_n S.1 S.2.1 (dd_at ddX2_takeWord 50 rfl) rfl (lv_at hl 1 rfl) ?_
            refine lv_iload_n S.1 S.2.1 (dd_at ddX2_takeWord 51 rfl) rfl (lv_at hl 3 rfl) ?_
            refine lv_aload_n S.1 S.2.1 (dd_at ddX2_takeWord 52 rfl) rfl (lv_at hl 1 rfl) ?_
            refine r_getI S hw 2 4 rfl inG2 (by decide) (List.mem_cons_of_mem _ wg236) (by decide) ha0 (dd_at ddX2_takeWord 53 rfl) ?_
            refine lv_aload_n S.1 S.2.1 (dd_at ddX2_takeWord 54 rfl) rfl (lv_at hl 1 rfl) ?_
            refine r_getI S hw 2 3 rfl inG2 (by decide) (List.mem_cons_of_mem _ wg246) (by decide) ha0 (dd_at ddX2_takeWord 55 rfl) ?_
            refine lv_isub S.1 S.2.1 (dd_at ddX2_takeWord 56 rfl) ?_
            refine lv_icmp_ne (tgt := 115) S.1 S.2.1 (dd_at ddX2_takeWord 57 rfl) (by decide) (fun hc_15 => ?_) (fun hc_15 => ?_)
            · have h := h.1 hc_15
              refine lv_bipush (v := 32) S.1 S.2.1 (dd_at ddX2_takeWord 60 rfl) (by decide) ?_
              exact tb117 v1 v3 a0 32 d_5 H locs ls h hw (lv_sub hl [1, 2, 4] rfl)
            · have h := h.2 hc_15
              refine lv_iload_n S.1 S.2.1 (dd_at ddX2_takeWord 58 rfl) rfl (lv_at hl 2 rfl) ?_
              refine lv_goto (tgt := 117) S.1 S.2.1 (dd_at ddX2_takeWord 59 rfl) (by decide) ?_
              exact tb117 v1 v3 a0 v1 d_5 H locs ls h hw (lv_sub hl [1, 2, 4] rfl)
  have tb52 : ∀ (d : Dy) (H : Heap) (locs : List Loc) (ls : Array Slot), b_X2_takeWord_52 E a0 K d → Wd D cs (AW E sz) s.heap s E d H locs → lv_has ls 5 [(0, .ref a0)] → W p l e rm_X2_takeWord s m ([.ref a0] : List Value).toArray below meth c H locs 0 0 (MQ below (va_Qv K (OutW D cs E (AW E sz)) (AW E sz)) ([.ref a0] : List Value).toArray s rm_X2_takeWord.cells rm_X2_takeWord.slots (AW E sz)) (F0 m 52 ls []) := by
    intro d H locs ls h hw hl
    unfold b_X2_takeWord_52 at h
    refine lv_aload_n S.1 S.2.1 (dd_at ddX2_takeWord 26 rfl) rfl (lv_at hl 0 rfl) ?_
    refine lv_bipush (v := 32) S.1 S.2.1 (dd_at ddX2_takeWord 27 rfl) (by decide) ?_
    refine r_putI S hw 2 5 (ty := .int) (v := 32) rfl inG2 tyX2 tyX2_ok nmX2 (by decide) (List.mem_cons_of_mem _ wg237) (by decide) rfl (by decide +kernel) rfl rfl ha0 (dd_at ddX2_takeWord 28 rfl) (fun H locs hw => ?_)
    refine lv_iconst (v := 0) S.1 S.2.1 (dd_at ddX2_takeWord 29 rfl) (by decide) ?_
    refine lv_istore_n (lv' := [(1, .int 0), (0, .ref a0)]) S.1 S.2.1 (dd_at ddX2_takeWord 30 rfl) rfl hl (by decide) rfl (fun ls hl => ?_)
    refine lv_iconst (v := 0) S.1 S.2.1 (dd_at ddX2_takeWord 31 rfl) (by decide) ?_
    refine lv_istore_n (lv' := [(2, .int 0), (1, .int 0), (0, .ref a0)]) S.1 S.2.1 (dd_at ddX2_takeWord 32 rfl) rfl hl (by decide) rfl (fun ls hl => ?_)
    refine lv_iconst (v := 0) S.1 S.2.1 (dd_at ddX2_takeWord 33 rfl) (by decide) ?_
    refine lv_istore_n (lv' := [(3, .int 0), (2, .int 0), (1, .int 0), (0, .ref a0)]) S.1 S.2.1 (dd_at ddX2_takeWord 34 rfl) rfl hl (by decide) rfl (fun ls hl => ?_)
    obtain ⟨n_16, h⟩ := h
    exact tl64 n_16 0 0 0 (pI d a0 5 32) H locs ls h hw (lv_sub hl [3, 2, 1, 0] rfl)
  have tl0 : ∀ (n : Nat) (d : Dy) (H : Heap) (locs : List Loc) (ls : Array Slot), l_X2_takeWord_0 E a0 K n d → Wd D cs (AW E sz) s.heap s E d H locs → lv_has ls 5 [(0, .ref a0)] → W p l e rm_X2_takeWord s m ([.ref a0] : List Value).toArray below meth c H locs 0 0 (MQ below (va_Qv K (OutW D cs E (AW E sz)) (AW E sz)) ([.ref a0] : List Value).toArray s rm_X2_takeWord.cells rm_X2_takeWord.slots (AW E sz)) (F0 m 0 ls []) := by
    intro n0
    induction n0 with
    | zero => intro d H locs ls h; exact absurd h id
    | succ n0 ih0 =>
      intro d H locs ls h hw hl
      have h : b_X2_takeWord_0 E a0 K (l_X2_takeWord_0 E a0 K n0) d := h
      unfold b_X2_takeWord_0 at h
      refine lv_aload_n S.1 S.2.1 (dd_at ddX2_takeWord 0 rfl) rfl (lv_at hl 0 rfl) ?_
      refine r_getI S hw 2 4 rfl inG2 (by decide) (List.mem_cons_of_mem _ wg236) (by decide) ha0 (dd_at ddX2_takeWord 1 rfl) ?_
      refine lv_aload_n S.1 S.2.1 (dd_at ddX2_takeWord 2 rfl) rfl (lv_at hl 0 rfl) ?_
      refine r_getI S hw 2 1 rfl inG2 (by decide) (List.mem_cons_of_mem _ wg188) (by decide) ha0 (dd_at ddX2_takeWord 3 rfl) ?_
      refine lv_icmp_ge (tgt := 52) S.1 S.2.1 (dd_at ddX2_takeWord 4 rfl) (by decide) (fun hc_17 => ?_) (fun hc_17 => ?_)
      · have h := h.1 hc_17
        exact tb52 d H locs ls h hw (lv_sub hl [0] rfl)
      · have h := h.2 hc_17
        refine lv_aload_n S.1 S.2.1 (dd_at ddX2_takeWord 5 rfl) rfl (lv_at hl 0 rfl) ?_
        obtain ⟨b_18, hb_19, ho_20, h⟩ := h
        refine r_getR S hw 2 0 rfl inG2 (by decide) (List.mem_cons_of_mem _ wg88) (by decide) ha0 hb_19 (dd_at ddX2_takeWord 6 rfl) ?_
        refine lv_aload_n S.1 S.2.1 (dd_at ddX2_takeWord 7 rfl) rfl (lv_at hl 0 rfl) ?_
        refine r_getI S hw 2 4 rfl inG2 (by decide) (List.mem_cons_of_mem _ wg236) (by decide) ha0 (dd_at ddX2_takeWord 8 rfl) ?_
        obtain ⟨hx_21, h⟩ := h
        refine r_iald S hw ho_20 hx_21 (dd_at ddX2_takeWord 9 rfl) ?_
        refine lv_bipush (v := 97) S.1 S.2.1 (dd_at ddX2_takeWord 10 rfl) (by decide) ?_
        refine lv_icmp_lt (tgt := 52) S.1 S.2.1 (dd_at ddX2_takeWord 11 rfl) (by decide) (fun hc_22 => ?_) (fun hc_22 => ?_)
        · have h := h.1 hc_22
          exact tb52 d H locs ls h hw (lv_sub hl [0] rfl)
        · have h := h.2 hc_22
          refine lv_aload_n S.1 S.2.1 (dd_at ddX2_takeWord 12 rfl) rfl (lv_at hl 0 rfl) ?_
          obtain ⟨b_23, hb_24, ho_25, h⟩ := h
          refine r_getR S hw 2 0 rfl inG2 (by decide) (List.mem_cons_of_mem _ wg88) (by decide) ha0 hb_24 (dd_at ddX2_takeWord 13 rfl) ?_
          refine lv_aload_n S.1 S.2.1 (dd_at ddX2_takeWord 14 rfl) rfl (lv_at hl 0 rfl) ?_
          refine r_getI S hw 2 4 rfl inG2 (by decide) (List.mem_cons_of_mem _ wg236) (by decide) ha0 (dd_at ddX2_takeWord 15 rfl) ?_
          obtain ⟨hx_26, h⟩ := h
          refine r_iald S hw ho_25 hx_26 (dd_at ddX2_takeWord 16 rfl) ?_
          refine lv_bipush (v := 122) S.1 S.2.1 (dd_at ddX2_takeWord 17 rfl) (by decide) ?_
          refine lv_icmp_gt (tgt := 52) S.1 S.2.1 (dd_at ddX2_takeWord 18 rfl) (by decide) (fun hc_27 => ?_) (fun hc_27 => ?_)
          · have h := h.1 hc_27
            exact tb52 d H locs ls h hw (lv_sub hl [0] rfl)
          · have h := h.2 hc_27
            refine lv_aload_n S.1 S.2.1 (dd_at ddX2_takeWord 19 rfl) rfl (lv_at hl 0 rfl) ?_
            refine lv_dup S.1 S.2.1 (dd_at ddX2_takeWord 20 rfl) rfl ?_
            refine r_getI S hw 2 4 rfl inG2 (by decide) (List.mem_cons_of_mem _ wg236) (by decide) ha0 (dd_at ddX2_takeWord 21 rfl) ?_
            refine lv_iconst (v := 1) S.1 S.2.1 (dd_at ddX2_takeWord 22 rfl) (by decide) ?_
            refine lv_iadd S.1 S.2.1 (dd_at ddX2_takeWord 23 rfl) ?_
            refine r_putI S hw 2 4 (ty := .int) (v := (gI d a0 4) + 1) rfl inG2 tyX2 tyX2_ok nmX2 (by decide) (List.mem_cons_of_mem _ wg236) (by decide) rfl (by decide +kernel) rfl rfl ha0 (dd_at ddX2_takeWord 24 rfl) (fun H locs hw => ?_)
            refine lv_goto (tgt := 0) S.1 S.2.1 (dd_at ddX2_takeWord 25 rfl) (by decide) ?_
            exact ih0 (pI d a0 4 ((gI d a0 4) + 1)) H locs ls h hw (lv_sub hl [0] rfl)
  obtain ⟨n_28, h⟩ := h
  exact tl0 n_28 d H locs ls h hw (lv_sub hl [0] rfl)

def b_X2_next_165 (E : En) (a0 : Nat) (K : Dy → Prop) (v1 : Int32) (s0 : Int32) (d : Dy) : Prop := ((s0 = 0 → K (pI d a0 5 32)) ∧ (¬ s0 = 0 → K (pI d a0 5 v1)))
def b_X2_next_160 (E : En) (a0 : Nat) (K : Dy → Prop) (v1 : Int32) (d : Dy) : Prop := b_X2_next_165 E a0 K v1 1 d
def b_X2_next_142 (E : En) (a0 : Nat) (K : Dy → Prop) (v1 : Int32) (d : Dy) : Prop := ((v1 = 59 → b_X2_next_160 E a0 K v1 d) ∧ (¬ v1 = 59 → ((v1 = 60 → b_X2_next_160 E a0 K v1 d) ∧ (¬ v1 = 60 → ((¬ v1 = 62 → b_X2_next_165 E a0 K v1 0 d) ∧ (v1 = 62 → b_X2_next_160 E a0 K v1 d))))))
def b_X2_next_120 (E : En) (a0 : Nat) (K : Dy → Prop) (v1 : Int32) (d : Dy) : Prop := ((v1 < 40 → b_X2_next_142 E a0 K v1 (pI d a0 4 ((gI d a0 3) + 1))) ∧ (¬ v1 < 40 → ((v1 ≤ 43 → b_X2_next_160 E a0 K v1 (pI d a0 4 ((gI d a0 3) + 1))) ∧ (¬ v1 ≤ 43 → b_X2_next_142 E a0 K v1 (pI d a0 4 ((gI d a0 3) + 1))))))
def b_X2_next_101 (E : En) (a0 : Nat) (K : Dy → Prop) (v1 : Int32) (d : Dy) : Prop := ((v1 < 97 → b_X2_next_120 E a0 K v1 d) ∧ (¬ v1 < 97 → ((122 < v1 → b_X2_next_120 E a0 K v1 d) ∧ (¬ 122 < v1 → w_X2_takeWord E a0 d (fun d_9 => K d_9)))))
def b_X2_next_46 (E : En) (a0 : Nat) (K : Dy → Prop) (d : Dy) : Prop := (((gI (pI d a0 4 (gI d a0 3)) a0 3) < (gI (pI d a0 4 (gI d a0 3)) a0 1) → ∃ b_12 : Nat, eR E a0 0 = some b_12 ∧ okA E b_12 13 ∧ vp_in (gI (pI d a0 4 (gI d a0 3)) a0 3) (eN E b_12) ∧ (((gA (pI d a0 4 (gI d a0 3)) b_12 (gI (pI d a0 4 (gI d a0 3)) a0 3).toNatClampNeg) < 48 → b_X2_next_101 E a0 K (gA (pI d a0 4 (gI d a0 3)) b_12 (gI (pI d a0 4 (gI d a0 3)) a0 3).toNatClampNeg) (pI d a0 4 (gI d a0 3))) ∧ (¬ (gA (pI d a0 4 (gI d a0 3)) b_12 (gI (pI d a0 4 (gI d a0 3)) a0 3).toNatClampNeg) < 48 → ((57 < (gA (pI d a0 4 (gI d a0 3)) b_12 (gI (pI d a0 4 (gI d a0 3)) a0 3).toNatClampNeg) → b_X2_next_101 E a0 K (gA (pI d a0 4 (gI d a0 3)) b_12 (gI (pI d a0 4 (gI d a0 3)) a0 3).toNatClampNeg) (pI d a0 4 (gI d a0 3))) ∧ (¬ 57 < (gA (pI d a0 4 (gI d a0 3)) b_12 (gI (pI d a0 4 (gI d a0 3)) a0 3).toNatClampNeg) → w_X2_takeNumber E a0 (pI d a0 4 (gI d a0 3)) (fun d_18 => K d_18)))))) ∧ (¬ (gI (pI d a0 4 (gI d a0 3)) a0 3) < (gI (pI d a0 4 (gI d a0 3)) a0 1) → K (pI (pI d a0 4 (gI d a0 3)) a0 5 31)))
def b_X2_next_8 (E : En) (a0 : Nat) (K : Dy → Prop) (k8 : Dy → Prop) (d : Dy) : Prop := (((gI d a0 1) ≤ (gI d a0 3) → b_X2_next_46 E a0 K d) ∧ (¬ (gI d a0 1) ≤ (gI d a0 3) → ∃ b_21 : Nat, eR E a0 0 = some b_21 ∧ okA E b_21 13 ∧ vp_in (gI d a0 3) (eN E b_21) ∧ ((¬ (gA d b_21 (gI d a0 3).toNatClampNeg) = 32 → b_X2_next_46 E a0 K d) ∧ ((gA d b_21 (gI d a0 3).toNatClampNeg) = 32 → k8 (pI d a0 3 ((gI d a0 3) + 1))))))
def l_X2_next_8 (E : En) (a0 : Nat) (K : Dy → Prop) : Nat → Dy → Prop
  | 0 => fun _ => False
  | n + 1 => b_X2_next_8 E a0 K (l_X2_next_8 E a0 K n)
def w_X2_next (E : En) (a0 : Nat) (d : Dy) (K : Dy → Prop) : Prop := okO E a0 2 ∧ (∃ n_26 : Nat, l_X2_next_8 E a0 K n_26 (pI d a0 3 (gI d a0 4)))
abbrev rm_X2_next : Room := { frames := 5, cells := 0, slots := 0, locals := 115 }
set_option maxRecDepth 100000 in
set_option maxHeartbeats 4000000 in
theorem m_X2_next (l : Launch) (D : va_G) (cs : Nat → ClassId) (E : En) (d : Dy) (sz : Nat) (a0 : Nat) (K : Dy → Prop) : CV l yX2_next (.code yX2_next cX2_next 3 none :: wsL_law) rm_X2_next D cs E d sz [.ref a0] (w_X2_next E a0 d K) K := by
  refine e_of (cc := cX2_next) (maxL := 3) (ret := none) (own := RX2) (by decide) rfl rfl (Nat.le_of_ble_eq_true rfl) ?_
  intro p e s m below meth c S hr hlocks hsz H locs hw h ls hl
  have hl : lv_has ls 3 [(0, .ref a0)] := hl
  unfold w_X2_next at h
  obtain ⟨ha0, h⟩ := h
  have tb165 : ∀ (v1 : Int32) (s0 : Int32) (d : Dy) (H : Heap) (locs : List Loc) (ls : Array Slot), b_X2_next_165 E a0 K v1 s0 d → Wd D cs (AW E sz) s.heap s E d H locs → lv_has ls 3 [(0, .ref a0), (1, .int v1)] → W p l e rm_X2_next s m ([.ref a0] : List Value).toArray below meth c H locs 0 0 (MQ below (va_Qv K (OutW D cs E (AW E sz)) (AW E sz)) ([.ref a0] : List Value).toArray s rm_X2_next.cells rm_X2_next.slots (AW E sz)) (F0 m 165 ls [.int s0]) := by
    intro v1 s0 d H locs ls h hw hl
    unfold b_X2_next_165 at h
    refine lv_istore_n (lv' := [(2, .int s0), (0, .ref a0), (1, .int v1)]) S.1 S.2.1 (dd_at ddX2_next 84 rfl) rfl hl (by decide) rfl (fun ls hl => ?_)
    refine lv_aload_n S.1 S.2.1 (dd_at ddX2_next 85 rfl) rfl (lv_at hl 1 rfl) ?_
    refine lv_iload_n S.1 S.2.1 (dd_at ddX2_next 86 rfl) rfl (lv_at hl 0 rfl) ?_
    refine lv_if_eq (tgt := 175) S.1 S.2.1 (dd_at ddX2_next 87 rfl) (by decide) (fun hc_1 => ?_) (fun hc_1 => ?_)
    · have h := h.1 hc_1
      refine lv_bipush (v := 32) S.1 S.2.1 (dd_at ddX2_next 90 rfl) (by decide) ?_
      refine r_putI S hw 2 5 (ty := .int) (v := 32) rfl inG2 tyX2 tyX2_ok nmX2 (by decide) (List.mem_cons_of_mem _ wg237) (by decide) rfl (by decide +kernel) rfl rfl ha0 (dd_at ddX2_next 91 rfl) (fun H locs hw => ?_)
      exact e_V S hr hlocks hw h (dd_at ddX2_next 92 rfl)
    · have h := h.2 hc_1
      refine lv_iload_n S.1 S.2.1 (dd_at ddX2_next 88 rfl) rfl (lv_at hl 2 rfl) ?_
      refine lv_goto (tgt := 177) S.1 S.2.1 (dd_at ddX2_next 89 rfl) (by decide) ?_
      refine r_putI S hw 2 5 (ty := .int) (v := v1) rfl inG2 tyX2 tyX2_ok nmX2 (by decide) (List.mem_cons_of_mem _ wg237) (by decide) rfl (by decide +kernel) rfl rfl ha0 (dd_at ddX2_next 91 rfl) (fun H locs hw => ?_)
      exact e_V S hr hlocks hw h (dd_at ddX2_next 92 rfl)
  have tb160 : ∀ (v1 : Int32) (d : Dy) (H : Heap) (locs : List Loc) (ls : Array Slot), b_X2_next_160 E a0 K v1 d → Wd D cs (AW E sz) s.heap s E d H locs → lv_has ls 3 [(0, .ref a0), (1, .int v1)] → W p l e rm_X2_next s m ([.ref a0] : List Value).toArray below meth c H locs 0 0 (MQ below (va_Qv K (OutW D cs E (AW E sz)) (AW E sz)) ([.ref a0] : List Value).toArray s rm_X2_next.cells rm_X2_next.slots (AW E sz)) (F0 m 160 ls []) := by
    intro v1 d H locs ls h hw hl
    unfold b_X2_next_160 at h
    refine lv_iconst (v := 1) S.1 S.2.1 (dd_at ddX2_next 81 rfl) (by decide) ?_
    refine lv_goto (tgt := 165) S.1 S.2.1 (dd_at ddX2_next 82 rfl) (by decide) ?_
    exact tb165 v1 1 d H locs ls h hw (lv_sub hl [0, 1] rfl)
  have tb142 : ∀ (v1 : Int32) (d : Dy) (H : Heap) (locs : List Loc) (ls : Array Slot), b_X2_next_142 E a0 K v1 d → Wd D cs (AW E sz) s.heap s E d H locs → lv_has ls 3 [(0, .ref a0), (1, .int v1)] → W p l e rm_X2_next s m ([.ref a0] : List Value).toArray below meth c H locs 0 0 (MQ below (va_Qv K (OutW D cs E (AW E sz)) (AW E sz)) ([.ref a0] : List Value).toArray s rm_X2_next.cells rm_X2_next.slots (AW E sz)) (F0 m 142 ls []) := by
    intro v1 d H locs ls h hw hl
    unfold b_X2_next_142 at h
    refine lv_iload_n S.1 S.2.1 (dd_at ddX2_next 72 rfl) rfl (lv_at hl 1 rfl) ?_
    refine lv_bipush (v := 59) S.1 S.2.1 (dd_at ddX2_next 73 rfl) (by decide) ?_
    refine lv_icmp_eq (tgt := 160) S.1 S.2.1 (dd_at ddX2_next 74 rfl) (by decide) (fun hc_2 => ?_) (fun hc_2 => ?_)
    · have h := h.1 hc_2
      exact tb160 v1 d H locs ls h hw (lv_sub hl [0, 1] rfl)
    · have h := h.2 hc_2
      refine lv_iload_n S.1 S.2.1 (dd_at ddX2_next 75 rfl) rfl (lv_at hl 1 rfl) ?_
      refine lv_bipush (v := 60) S.1 S.2.1 (dd_at ddX2_next 76 rfl) (by decide) ?_
      refine lv_icmp_eq (tgt := 160) S.1 S.2.1 (dd_at ddX2_next 77 rfl) (by decide) (fun hc_3 => ?_) (fun hc_3 => ?_)
      · have h := h.1 hc_3
        exact tb160 v1 d H locs ls h hw (lv_sub hl [0, 1] rfl)
      · have h := h.2 hc_3
        refine lv_iload_n S.1 S.2.1 (dd_at ddX2_next 78 rfl) rfl (lv_at hl 1 rfl) ?_
        refine lv_bipush (v := 62) S.1 S.2.1 (dd_at ddX2_next 79 rfl) (by decide) ?_
        refine lv_icmp_ne (tgt := 164) S.1 S.2.1 (dd_at ddX2_next 80 rfl) (by decide) (fun hc_4 => ?_) (fun hc_4 => ?_)
        · have h := h.1 hc_4
          refine lv_iconst (v := 0) S.1 S.2.1 (dd_at ddX2_next 83 rfl) (by decide) ?_
          exact tb165 v1 0 d H locs ls h hw (lv_sub hl [0, 1] rfl)
        · have h := h.2 hc_4
          exact tb160 v1 d H locs ls h hw (lv_sub hl [0, 1] rfl)
  have tb120 : ∀ (v1 : Int32) (d : Dy) (H : Heap) (locs : List Loc) (ls : Array Slot), b_X2_next_120 E a0 K v1 d → Wd D cs (AW E sz) s.heap s E d H locs → lv_has ls 3 [(0, .ref a0), (1, .int v1)] → W p l e rm_X2_next s m ([.ref a0] : List Value).toArray below meth c H locs 0 0 (MQ below (va_Qv K (OutW D cs E (AW E sz)) (AW E sz)) ([.ref a0] : List Value).toArray s rm_X2_next.cells rm_X2_next.slots (AW E sz)) (F0 m 120 ls []) := by
    intro v1 d H locs ls h hw hl
    unfold b_X2_next_120 at h
    refine lv_aload_n S.1 S.2.1 (dd_at ddX2_next 60 rfl) rfl (lv_at hl 0 rfl) ?_
    refine lv_aload_n S.1 S.2.1 (dd_at ddX2_next 61 rfl) rfl (lv_at hl 0 rfl) ?_
    refine r_getI S hw 2 3 rfl inG2 (by decide) (List.mem_cons_of_mem _ wg246) (by decide) ha0 (dd_at ddX2_next 62 rfl) ?_
    refine lv_iconst (v := 1) S.1 S.2.1 (dd_at ddX2_next 63 rfl) (by decide) ?_
    refine lv_iadd S.1 S.2.1 (dd_at ddX2_next 64 rfl) ?_
    refine r_putI S hw 2 4 (ty := .int) (v := (gI d a0 3) + 1) rfl inG2 tyX2 tyX2_ok nmX2 (by decide) (List.mem_cons_of_mem _ wg236) (by decide) rfl (by decide +kernel) rfl rfl ha0 (dd_at ddX2_next 65 rfl) (fun H locs hw => ?_)
    refine lv_iload_n S.1 S.2.1 (dd_at ddX2_next 66 rfl) rfl (lv_at hl 1 rfl) ?_
    refine lv_bipush (v := 40) S.1 S.2.1 (dd_at ddX2_next 67 rfl) (by decide) ?_
    refine lv_icmp_lt (tgt := 142) S.1 S.2.1 (dd_at ddX2_next 68 rfl) (by decide) (fun hc_5 => ?_) (fun hc_5 => ?_)
    · have h := h.1 hc_5
      exact tb142 v1 (pI d a0 4 ((gI d a0 3) + 1)) H locs ls h hw (lv_sub hl [0, 1] rfl)
    · have h := h.2 hc_5
      refine lv_iload_n S.1 S.2.1 (dd_at ddX2_next 69 rfl) rfl (lv_at hl 1 rfl) ?_
      refine lv_bipush (v := 43) S.1 S.2.1 (dd_at ddX2_next 70 rfl) (by decide) ?_
      refine lv_icmp_le (tgt := 160) S.1 S.2.1 (dd_at ddX2_next 71 rfl) (by decide) (fun hc_6 => ?_) (fun hc_6 => ?_)
      · have h := h.1 hc_6
        exact tb160 v1 (pI d a0 4 ((gI d a0 3) + 1)) H locs ls h hw (lv_sub hl [0, 1] rfl)
      · have h := h.2 hc_6
        exact tb142 v1 (pI d a0 4 ((gI d a0 3) + 1)) H locs ls h hw (lv_sub hl [0, 1] rfl)
  have tb101 : ∀ (v1 : Int32) (d : Dy) (H : Heap) (locs : List Loc) (ls : Array Slot), b_X2_next_101 E a0 K v1 d → Wd D cs (AW E sz) s.heap s E d H locs → lv_has ls 3 [(0, .ref a0), (1, .int v1)] → W p l e rm_X2_next s m ([.ref a0] : List Value).toArray below meth c H locs 0 0 (MQ below (va_Qv K (OutW D cs E (AW E sz)) (AW E sz)) ([.ref a0] : List Value).toArray s rm_X2_next.cells rm_X2_next.slots (AW E sz)) (F0 m 101 ls []) := by
    intro v1 d H locs ls h hw hl
    unfold b_X2_next_101 at h
    refine lv_iload_n S.1 S.2.1 (dd_at ddX2_next 51 rfl) rfl (lv_at hl 1 rfl) ?_
    refine lv_bipush (v := 97) S.1 S.2.1 (dd_at ddX2_next 52 rfl) (by decide) ?_
    refine lv_icmp_lt (tgt := 120) S.1 S.2.1 (dd_at ddX2_next 53 rfl) (by decide) (fun hc_7 => ?_) (fun hc_7 => ?_)
    · have h := h.1 hc_7
      exact tb120 v1 d H locs ls h hw (lv_sub hl [0, 1] rfl)
    · have h := h.2 hc_7
      refine lv_iload_n S.1 S.2.1 (dd_at ddX2_next 54 rfl) rfl (lv_at hl 1 rfl) ?_
      refine lv_bipush (v := 122) S.1 S.2.1 (dd_at ddX2_next 55 rfl) (by decide) ?_
      refine lv_icmp_gt (tgt := 120) S.1 S.2.1 (dd_at ddX2_next 56 rfl) (by decide) (fun hc_8 => ?_) (fun hc_8 => ?_)
      · have h := h.1 hc_8
        exact tb120 v1 d H locs ls h hw (lv_sub hl [0, 1] rfl)
      · have h := h.2 hc_8
        refine lv_aload_n S.1 S.2.1 (dd_at ddX2_next 57 rfl) rfl (lv_at hl 0 rfl) ?_
        refine r_callV hw (r_runV (As := []) (rest := []) S hw (m_X2_takeWord l D cs E d H.size a0 _) (cwV 0 S.2.2.2.2 (gV wg252 wg253 wg254 wg20 wg255) rfl rfl rfl (by decide +kernel) ⟨Nat.le_of_ble_eq_true rfl, Nat.le_of_ble_eq_true rfl⟩) (ci := 2) rfl ha0 h rfl hl.1 rfl (Nat.le_of_ble_eq_true rfl) (dd_at ddX2_next 58 rfl) ⟨Nat.le_of_ble_eq_true rfl, Nat.le_of_ble_eq_true rfl⟩) (fun d_9 H locs h hw => ?_)
        refine lv_goto (tgt := 180) S.1 S.2.1 (dd_at ddX2_next 59 rfl) (by decide) ?_
        exact e_V S hr hlocks hw h (dd_at ddX2_next 92 rfl)
  have tb46 : ∀ (d : Dy) (H : Heap) (locs : List Loc) (ls : Array Slot), b_X2_next_46 E a0 K d → Wd D cs (AW E sz) s.heap s E d H locs → lv_has ls 3 [(0, .ref a0)] → W p l e rm_X2_next s m ([.ref a0] : List Value).toArray below meth c H locs 0 0 (MQ below (va_Qv K (OutW D cs E (AW E sz)) (AW E sz)) ([.ref a0] : List Value).toArray s rm_X2_next.cells rm_X2_next.slots (AW E sz)) (F0 m 46 ls []) := by
    intro d H locs ls h hw hl
    unfold b_X2_next_46 at h
    refine lv_aload_n S.1 S.2.1 (dd_at ddX2_next 23 rfl) rfl (lv_at hl 0 rfl) ?_
    refine lv_aload_n S.1 S.2.1 (dd_at ddX2_next 24 rfl) rfl (lv_at hl 0 rfl) ?_
    refine r_getI S hw 2 3 rfl inG2 (by decide) (List.mem_cons_of_mem _ wg246) (by decide) ha0 (dd_at ddX2_next 25 rfl) ?_
    refine r_putI S hw 2 4 (ty := .int) (v := gI d a0 3) rfl inG2 tyX2 tyX2_ok nmX2 (by decide) (List.mem_cons_of_mem _ wg236) (by decide) rfl (by decide +kernel) rfl rfl ha0 (dd_at ddX2_next 26 rfl) (fun H locs hw => ?_)
    refine lv_aload_n S.1 S.2.1 (dd_at ddX2_next 27 rfl) rfl (lv_at hl 0 rfl) ?_
    refine r_getI S hw 2 3 rfl inG2 (by decide) (List.mem_cons_of_mem _ wg246) (by decide) ha0 (dd_at ddX2_next 28 rfl) ?_
    refine lv_aload_n S.1 S.2.1 (dd_at ddX2_next 29 rfl) rfl (lv_at hl 0 rfl) ?_
    refine r_getI S hw 2 1 rfl inG2 (by decide) (List.mem_cons_of_mem _ wg188) (by decide) ha0 (dd_at ddX2_next 30 rfl) ?_
    refine lv_icmp_lt (tgt := 72) S.1 S.2.1 (dd_at ddX2_next 31 rfl) (by decide) (fun hc_11 => ?_) (fun hc_11 => ?_)
    · have h := h.1 hc_11
      refine lv_aload_n S.1 S.2.1 (dd_at ddX2_next 36 rfl) rfl (lv_at hl 0 rfl) ?_
      obtain ⟨b_12, hb_13, ho_14, h⟩ := h
      refine r_getR S hw 2 0 rfl inG2 (by decide) (List.mem_cons_of_mem _ wg88) (by decide) ha0 hb_13 (dd_at ddX2_next 37 rfl) ?_
      refine lv_aload_n S.1 S.2.1 (dd_at ddX2_next 38 rfl) rfl (lv_at hl 0 rfl) ?_
      refine r_getI S hw 2 3 rfl inG2 (by decide) (List.mem_cons_of_mem _ wg246) (by decide) ha0 (dd_at ddX2_next 39 rfl) ?_
      obtain ⟨hx_15, h⟩ := h
      refine r_iald S hw ho_14 hx_15 (dd_at ddX2_next 40 rfl) ?_
      refine lv_istore_n (lv' := [(1, .int (gA (pI d a0 4 (gI d a0 3)) b_12 (gI (pI d a0 4 (gI d a0 3)) a0 3).toNatClampNeg)), (0, .ref a0)]) S.1 S.2.1 (dd_at ddX2_next 41 rfl) rfl hl (by decide) rfl (fun ls hl => ?_)
      refine lv_iload_n S.1 S.2.1 (dd_at ddX2_next 42 rfl) rfl (lv_at hl 0 rfl) ?_
      refine lv_bipush (v := 48) S.1 S.2.1 (dd_at ddX2_next 43 rfl) (by decide) ?_
      refine lv_icmp_lt (tgt := 101) S.1 S.2.1 (dd_at ddX2_next 44 rfl) (by decide) (fun hc_16 => ?_) (fun hc_16 => ?_)
      · have h := h.1 hc_16
        exact tb101 (gA (pI d a0 4 (gI d a0 3)) b_12 (gI (pI d a0 4 (gI d a0 3)) a0 3).toNatClampNeg) (pI d a0 4 (gI d a0 3)) H locs ls h hw (lv_sub hl [1, 0] rfl)
      · have h := h.2 hc_16
        refine lv_iload_n S.1 S.2.1 (dd_at ddX2_next 45 rfl) rfl (lv_at hl 0 rfl) ?_
        refine lv_bipush (v := 57) S.1 S.2.1 (dd_at ddX2_next 46 rfl) (by decide) ?_
        refine lv_icmp_gt (tgt := 101) S.1 S.2.1 (dd_at ddX2_next 47 rfl) (by decide) (fun hc_17 => ?_) (fun hc_17 => ?_)
        · have h := h.1 hc_17
          exact tb101 (gA (pI d a0 4 (gI d a0 3)) b_12 (gI (pI d a0 4 (gI d a0 3)) a0 3).toNatClampNeg) (pI d a0 4 (gI d a0 3)) H locs ls h hw (lv_sub hl [1, 0] rfl)
        · have h := h.2 hc_17
          refine lv_aload_n S.1 S.2.1 (dd_at ddX2_next 48 rfl) rfl (lv_at hl 1 rfl) ?_
          refine r_callV hw (r_runV (As := []) (rest := []) S hw (m_X2_takeNumber l D cs E (pI d a0 4 (gI d a0 3)) H.size a0 _) (cwV 0 S.2.2.2.2 (gV wg247 wg248 wg249 wg20 wg250) rfl rfl rfl (by decide +kernel) ⟨Nat.le_of_ble_eq_true rfl, Nat.le_of_ble_eq_true rfl⟩) (ci := 2) rfl ha0 h rfl hl.1 rfl (Nat.le_of_ble_eq_true rfl) (dd_at ddX2_next 49 rfl) ⟨Nat.le_of_ble_eq_true rfl, Nat.le_of_ble_eq_true rfl⟩) (fun d_18 H locs h hw => ?_)
          refine lv_goto (tgt := 180) S.1 S.2.1 (dd_at ddX2_next 50 rfl) (by decide) ?_
          exact e_V S hr hlocks hw h (dd_at ddX2_next 92 rfl)
    · have h := h.2 hc_11
      refine lv_aload_n S.1 S.2.1 (dd_at ddX2_next 32 rfl) rfl (lv_at hl 0 rfl) ?_
      refine lv_bipush (v := 31) S.1 S.2.1 (dd_at ddX2_next 33 rfl) (by decide) ?_
      refine r_putI S hw 2 5 (ty := .int) (v := 31) rfl inG2 tyX2 tyX2_ok nmX2 (by decide) (List.mem_cons_of_mem _ wg237) (by decide) rfl (by decide +kernel) rfl rfl ha0 (dd_at ddX2_next 34 rfl) (fun H locs hw => ?_)
      exact e_V S hr hlocks hw h (dd_at ddX2_next 35 rfl)
  have tl8 : ∀ (n : Nat) (d : Dy) (H : Heap) (locs : List Loc) (ls : Array Slot), l_X2_next_8 E a0 K n d → Wd D cs (AW E sz) s.heap s E d H locs → lv_has ls 3 [(0, .ref a0)] → W p l e rm_X2_next s m ([.ref a0] : List Value).toArray below meth c H locs 0 0 (MQ below (va_Qv K (OutW D cs E (AW E sz)) (AW E sz)) ([.ref a0] : List Value).toArray s rm_X2_next.cells rm_X2_next.slots (AW E sz)) (F0 m 8 ls []) := by
    intro n8
    induction n8 with
    | zero => intro d H locs ls h; exact absurd h id
    | succ n8 ih8 =>
      intro d H locs ls h hw hl
      have h : b_X2_next_8 E a0 K (l_X2_next_8 E a0 K n8) d := h
      unfold b_X2_next_8 at h
      refine lv_aload_n S.1 S.2.1 (dd_at ddX2_next 4 rfl) rfl (lv_at hl 0 rfl) ?_
      refine r_getI S hw 2 3 rfl inG2 (by decide) (List.mem_cons_of_mem _ wg246) (by decide) ha0 (dd_at ddX2_next 5 rfl) ?_
      refine lv_aload_n S.1 S.2.1 (dd_at ddX2_next 6 rfl) rfl (lv_at hl 0 rfl) ?_
      refine r_getI S hw 2 1 rfl inG2 (by decide) (List.mem_cons_of_mem _ wg188) (by decide) ha0 (dd_at ddX2_next 7 rfl) ?_
      refine lv_icmp_ge (tgt := 46) S.1 S.2.1 (dd_at ddX2_next 8 rfl) (by decide) (fun hc_20 => ?_) (fun hc_20 => ?_)
      · have h := h.1 hc_20
        exact tb46 d H locs ls h hw (lv_sub hl [0] rfl)
      · have h := h.2 hc_20
        refine lv_aload_n S.1 S.2.1 (dd_at ddX2_next 9 rfl) rfl (lv_at hl 0 rfl) ?_
        obtain ⟨b_21, hb_22, ho_23, h⟩ := h
        refine r_getR S hw 2 0 rfl inG2 (by decide) (List.mem_cons_of_mem _ wg88) (by decide) ha0 hb_22 (dd_at ddX2_next 10 rfl) ?_
        refine lv_aload_n S.1 S.2.1 (dd_at ddX2_next 11 rfl) rfl (lv_at hl 0 rfl) ?_
        refine r_getI S hw 2 3 rfl inG2 (by decide) (List.mem_cons_of_mem _ wg246) (by decide) ha0 (dd_at ddX2_next 12 rfl) ?_
        obtain ⟨hx_24, h⟩ := h
        refine r_iald S hw ho_23 hx_24 (dd_at ddX2_next 13 rfl) ?_
        refine lv_bipush (v := 32) S.1 S.2.1 (dd_at ddX2_next 14 rfl) (by decide) ?_
        refine lv_icmp_ne (tgt := 46) S.1 S.2.1 (dd_at ddX2_next 15 rfl) (by decide) (fun hc_25 => ?_) (fun hc_25 => ?_)
        · have h := h.1 hc_25
          exact tb46 d H locs ls h hw (lv_sub hl [0] rfl)
        · have h := h.2 hc_25
          refine lv_aload_n S.1 S.2.1 (dd_at ddX2_next 16 rfl) rfl (lv_at hl 0 rfl) ?_
          refine lv_dup S.1 S.2.1 (dd_at ddX2_next 17 rfl) rfl ?_
          refine r_getI S hw 2 3 rfl inG2 (by decide) (List.mem_cons_of_mem _ wg246) (by decide) ha0 (dd_at ddX2_next 18 rfl) ?_
          refine lv_iconst (v := 1) S.1 S.2.1 (dd_at ddX2_next 19 rfl) (by decide) ?_
          refine lv_iadd S.1 S.2.1 (dd_at ddX2_next 20 rfl) ?_
          refine r_putI S hw 2 3 (ty := .int) (v := (gI d a0 3) + 1) rfl inG2 tyX2 tyX2_ok nmX2 (by decide) (List.mem_cons_of_mem _ wg246) (by decide) rfl (by decide +kernel) rfl rfl ha0 (dd_at ddX2_next 21 rfl) (fun H locs hw => ?_)
          refine lv_goto (tgt := 8) S.1 S.2.1 (dd_at ddX2_next 22 rfl) (by decide) ?_
          exact ih8 (pI d a0 3 ((gI d a0 3) + 1)) H locs ls h hw (lv_sub hl [0] rfl)
  refine lv_aload_n S.1 S.2.1 (dd_at ddX2_next 0 rfl) rfl (lv_at hl 0 rfl) ?_
  refine lv_aload_n S.1 S.2.1 (dd_at ddX2_next 1 rfl) rfl (lv_at hl 0 rfl) ?_
  refine r_getI S hw 2 4 rfl inG2 (by decide) (List.mem_cons_of_mem _ wg236) (by decide) ha0 (dd_at ddX2_next 2 rfl) ?_
  refine r_putI S hw 2 3 (ty := .int) (v := gI d a0 4) rfl inG2 tyX2 tyX2_ok nmX2 (by decide) (List.mem_cons_of_mem _ wg246) (by decide) rfl (by decide +kernel) rfl rfl ha0 (dd_at ddX2_next 3 rfl) (fun H locs hw => ?_)
  obtain ⟨n_26, h⟩ := h
  exact tl8 n_26 (pI d a0 3 (gI d a0 4)) H locs ls h hw (lv_sub hl [0] rfl)

def w_X2_readRight (E : En) (a0 : Nat) (p1 : Int32) (d : Dy) (K : Int32 → Dy → Prop) : Prop := okO E a0 2 ∧ (((gI d a0 5) = 13 → w_X2_next E a0 d (fun d_2 => (((gI d_2 a0 5) < 9 → K 0 d_2) ∧ (¬ (gI d_2 a0 5) < 9 → (((gI d_2 a0 5) ≤ 12 → ∃ b_6 : Nat, eR E a0 7 = some b_6 ∧ okO E b_6 6 ∧ w_X6_set E b_6 p1 0 ((gI d_2 a0 5) - 9) d_2 (fun d_9 => w_X2_next E a0 d_9 (fun d_11 => K 1 d_11))) ∧ (¬ (gI d_2 a0 5) ≤ 12 → K 0 d_2)))))) ∧ (¬ (gI d a0 5) = 13 → K 0 d))
abbrev rm_X2_readRight : Room := { frames := 6, cells := 0, slots := 0, locals := 137 }
set_option maxRecDepth 100000 in
set_option maxHeartbeats 4000000 in
theorem m_X2_readRight (l : Launch) (D : va_G) (cs : Nat → ClassId) (E : En) (d : Dy) (sz : Nat) (a0 : Nat) (p1 : Int32) (K : Int32 → Dy → Prop) : CI l yX2_readRight (.code yX2_readRight cX2_readRight 2 (some .boolean) :: wsL_law) rm_X2_readRight D cs E d sz [.ref a0, .int p1] (w_X2_readRight E a0 p1 d K) K := by
  refine e_of (cc := cX2_readRight) (maxL := 2) (ret := (some .boolean)) (own := RX2) (by decide) rfl rfl (Nat.le_of_ble_eq_true rfl) ?_
  intro p e s m below meth c S hr hlocks hsz H locs hw h ls hl
  have hl : lv_has ls 2 [(0, .ref a0), (1, .int p1)] := hl
  unfold w_X2_readRight at h
  obtain ⟨ha0, h⟩ := h
  refine lv_aload_n S.1 S.2.1 (dd_at ddX2_readRight 0 rfl) rfl (lv_at hl 0 rfl) ?_
  refine r_getI S hw 2 5 rfl inG2 (by decide) (List.mem_cons_of_mem _ wg237) (by decide) ha0 (dd_at ddX2_readRight 1 rfl) ?_
  refine lv_bipush (v := 13) S.1 S.2.1 (dd_at ddX2_readRight 2 rfl) (by decide) ?_
  refine lv_icmp_eq (tgt := 11) S.1 S.2.1 (dd_at ddX2_readRight 3 rfl) (by decide) (fun hc_1 => ?_) (fun hc_1 => ?_)
  · have h := h.1 hc_1
    refine lv_aload_n S.1 S.2.1 (dd_at ddX2_readRight 6 rfl) rfl (lv_at hl 0 rfl) ?_
    refine r_callV hw (r_runV (As := []) (rest := []) S hw (m_X2_next l D cs E d H.size a0 _) (cwV 0 S.2.2.2.2 (gV wg242 wg243 wg244 wg20 wg245) rfl rfl rfl (by decide +kernel) ⟨Nat.le_of_ble_eq_true rfl, Nat.le_of_ble_eq_true rfl⟩) (ci := 2) rfl ha0 h rfl hl.1 rfl (Nat.le_of_ble_eq_true rfl) (dd_at ddX2_readRight 7 rfl) ⟨Nat.le_of_ble_eq_true rfl, Nat.le_of_ble_eq_true rfl⟩) (fun d_2 H locs h hw => ?_)
    refine lv_aload_n S.1 S.2.1 (dd_at ddX2_readRight 8 rfl) rfl (lv_at hl 0 rfl) ?_
    refine r_getI S hw 2 5 rfl inG2 (by decide) (List.mem_cons_of_mem _ wg237) (by decide) ha0 (dd_at ddX2_readRight 9 rfl) ?_
    refine lv_bipush (v := 9) S.1 S.2.1 (dd_at ddX2_readRight 10 rfl) (by decide) ?_
    refine lv_icmp_lt (tgt := 33) S.1 S.2.1 (dd_at ddX2_readRight 11 rfl) (by decide) (fun hc_4 => ?_) (fun hc_4 => ?_)
    · have h := h.1 hc_4
      refine lv_iconst (v := 0) S.1 S.2.1 (dd_at ddX2_readRight 16 rfl) (by decide) ?_
      exact e_Z S hr hlocks hw (Or.inl rfl) h (dd_at ddX2_readRight 17 rfl)
    · have h := h.2 hc_4
      refine lv_aload_n S.1 S.2.1 (dd_at ddX2_readRight 12 rfl) rfl (lv_at hl 0 rfl) ?_
      refine r_getI S hw 2 5 rfl inG2 (by decide) (List.mem_cons_of_mem _ wg237) (by decide) ha0 (dd_at ddX2_readRight 13 rfl) ?_
      refine lv_bipush (v := 12) S.1 S.2.1 (dd_at ddX2_readRight 14 rfl) (by decide) ?_
      refine lv_icmp_le (tgt := 35) S.1 S.2.1 (dd_at ddX2_readRight 15 rfl) (by decide) (fun hc_5 => ?_) (fun hc_5 => ?_)
      · have h := h.1 hc_5
        refine lv_aload_n S.1 S.2.1 (dd_at ddX2_readRight 18 rfl) rfl (lv_at hl 0 rfl) ?_
        obtain ⟨b_6, hb_7, ho_8, h⟩ := h
        refine r_getR S hw 2 7 rfl inG2 (by decide) (List.mem_cons_of_mem _ wg90) (by decide) ha0 hb_7 (dd_at ddX2_readRight 19 rfl) ?_
        refine lv_iload_n S.1 S.2.1 (dd_at ddX2_readRight 20 rfl) rfl (lv_at hl 1 rfl) ?_
        refine lv_iconst (v := 0) S.1 S.2.1 (dd_at ddX2_readRight 21 rfl) (by decide) ?_
        refine lv_aload_n S.1 S.2.1 (dd_at ddX2_readRight 22 rfl) rfl (lv_at hl 0 rfl) ?_
        refine r_getI S hw 2 5 rfl inG2 (by decide) (List.mem_cons_of_mem _ wg237) (by decide) ha0 (dd_at ddX2_readRight 23 rfl) ?_
        refine lv_bipush (v := 9) S.1 S.2.1 (dd_at ddX2_readRight 24 rfl) (by decide) ?_
        refine lv_isub S.1 S.2.1 (dd_at ddX2_readRight 25 rfl) ?_
        refine r_callV hw (r_runV (As := [.int p1, .int 0, .int ((gI d_2 a0 5) - 9)]) (rest := []) S hw (m_X6_set l D cs E d_2 H.size b_6 p1 0 ((gI d_2 a0 5) - 9) _) (cwV 3 S.2.2.2.2 (gV wg317 wg318 wg319 wg51 wg320) rfl rfl rfl (by decide +kernel) ⟨Nat.le_of_ble_eq_true rfl, Nat.le_of_ble_eq_true rfl⟩) (ci := 6) rfl ho_8 h rfl hl.1 rfl (Nat.le_of_ble_eq_true rfl) (dd_at ddX2_readRight 26 rfl) ⟨Nat.le_of_ble_eq_true rfl, Nat.le_of_ble_eq_true rfl⟩) (fun d_9 H locs h hw => ?_)
        refine lv_aload_n S.1 S.2.1 (dd_at ddX2_readRight 27 rfl) rfl (lv_at hl 0 rfl) ?_
        refine r_callV hw (r_runV (As := []) (rest := []) S hw (m_X2_next l D cs E d_9 H.size a0 _) (cwV 0 S.2.2.2.2 (gV wg242 wg243 wg244 wg20 wg245) rfl rfl rfl (by decide +kernel) ⟨Nat.le_of_ble_eq_true rfl, Nat.le_of_ble_eq_true rfl⟩) (ci := 2) rfl ha0 h rfl hl.1 rfl (Nat.le_of_ble_eq_true rfl) (dd_at ddX2_readRight 28 rfl) ⟨Nat.le_of_ble_eq_true rfl, Nat.le_of_ble_eq_true rfl⟩) (fun d_11 H locs h hw => ?_)
        refine lv_iconst (v := 1) S.1 S.2.1 (dd_at ddX2_readRight 29 rfl) (by decide) ?_
        exact e_Z S hr hlocks hw (Or.inr rfl) h (dd_at ddX2_readRight 30 rfl)
      · have h := h.2 hc_5
        refine lv_iconst (v := 0) S.1 S.2.1 (dd_at ddX2_readRight 16 rfl) (by decide) ?_
        exact e_Z S hr hlocks hw (Or.inl rfl) h (dd_at ddX2_readRight 17 rfl)
  · have h := h.2 hc_1
    refine lv_iconst (v := 0) S.1 S.2.1 (dd_at ddX2_readRight 4 rfl) (by decide) ?_
    exact e_Z S hr hlocks hw (Or.inl rfl) h (dd_at ddX2_readRight 5 rfl)

def w_X2_readColour (E : En) (a0 : Nat) (p1 : Int32) (d : Dy) (K : Int32 → Dy → Prop) : Prop := okO E a0 2 ∧ (((gI d a0 5) = 17 → w_X2_next E a0 d (fun d_2 => ((¬ (gI d_2 a0 5) = 30 → K 0 d_2) ∧ ((gI d_2 a0 5) = 30 → (((gI d_2 a0 6) ≤ 7 → ∃ b_6 : Nat, eR E a0 7 = some b_6 ∧ okO E b_6 6 ∧ w_X6_set E b_6 p1 0 (gI d_2 a0 6) d_2 (fun d_9 => w_X2_next E a0 d_9 (fun d_11 => K 1 d_11))) ∧ (¬ (gI d_2 a0 6) ≤ 7 → K 0 d_2)))))) ∧ (¬ (gI d a0 5) = 17 → K 0 d))
abbrev rm_X2_readColour : Room := { frames := 6, cells := 0, slots := 0, locals := 137 }
set_option maxRecDepth 100000 in
set_option maxHeartbeats 4000000 in
theorem m_X2_readColour (l : Launch) (D : va_G) (cs : Nat → ClassId) (E : En) (d : Dy) (sz : Nat) (a0 : Nat) (p1 : Int32) (K : Int32 → Dy → Prop) : CI l yX2_readColour (.code yX2_readColour cX2_readColour 2 (some .boolean) :: wsL_law) rm_X2_readColour D cs E d sz [.ref a0, .int p1] (w_X2_readColour E a0 p1 d K) K := by
  refine e_of (cc := cX2_readColour) (maxL := 2) (ret := (some .boolean)) (own := RX2) (by decide) rfl rfl (Nat.le_of_ble_eq_true rfl) ?_
  intro p e s m below meth c S hr hlocks hsz H locs hw h ls hl
  have hl : lv_has ls 2 [(0, .ref a0), (1, .int p1)] := hl
  unfold w_X2_readColour at h
  obtain ⟨ha0, h⟩ := h
  refine lv_aload_n S.1 S.2.1 (dd_at ddX2_readColour 0 rfl) rfl (lv_at hl 0 rfl) ?_
  refine r_getI S hw 2 5 rfl inG2 (by decide) (List.mem_cons_of_mem _ wg237) (by decide) ha0 (dd_at ddX2_readColour 1 rfl) ?_
  refine lv_bipush (v := 17) S.1 S.2.1 (dd_at ddX2_readColour 2 rfl) (by decide) ?_
  refine lv_icmp_eq (tgt := 11) S.1 S.2.1 (dd_at ddX2_readColour 3 rfl) (by decide) (fun hc_1 => ?_) (fun hc_1 => ?_)
  · have h := h.1 hc_1
    refine lv_aload_n S.1 S.2.1 (dd_at ddX2_readColour 6 rfl) rfl (lv_at hl 0 rfl) ?_
    refine r_callV hw (r_runV (As := []) (rest := []) S hw (m_X2_next l D cs E d H.size a0 _) (cwV 0 S.2.2.2.2 (gV wg242 wg243 wg244 wg20 wg245) rfl rfl rfl (by decide +kernel) ⟨Nat.le_of_ble_eq_true rfl, Nat.le_of_ble_eq_true rfl⟩) (ci := 2) rfl ha0 h rfl hl.1 rfl (Nat.le_of_ble_eq_true rfl) (dd_at ddX2_readColour 7 rfl) ⟨Nat.le_of_ble_eq_true rfl, Nat.le_of_ble_eq_true rfl⟩) (fun d_2 H locs h hw => ?_)
    refine lv_aload_n S.1 S.2.1 (dd_at ddX2_readColour 8 rfl) rfl (lv_at hl 0 rfl) ?_
    refine r_getI S hw 2 5 rfl inG2 (by decide) (List.mem_cons_of_mem _ wg237) (by decide) ha0 (dd_at ddX2_readColour 9 rfl) ?_
    refine lv_bipush (v := 30) S.1 S.2.1 (dd_at ddX2_readColour 10 rfl) (by decide) ?_
    refine lv_icmp_ne (tgt := 33) S.1 S.2.1 (dd_at ddX2_readColour 11 rfl) (by decide) (fun hc_4 => ?_) (fun hc_4 => ?_)
    · have h := h.1 hc_4
      refine lv_iconst (v := 0) S.1 S.2.1 (dd_at ddX2_readColour 16 rfl) (by decide) ?_
      exact e_Z S hr hlocks hw (Or.inl rfl) h (dd_at ddX2_readColour 17 rfl)
    · have h := h.2 hc_4
      refine lv_aload_n S.1 S.2.1 (dd_at ddX2_readColour 12 rfl) rfl (lv_at hl 0 rfl) ?_
      refine r_getI S hw 2 6 rfl inG2 (by decide) (List.mem_cons_of_mem _ wg251) (by decide) ha0 (dd_at ddX2_readColour 13 rfl) ?_
      refine lv_bipush (v := 7) S.1 S.2.1 (dd_at ddX2_readColour 14 rfl) (by decide) ?_
      refine lv_icmp_le (tgt := 35) S.1 S.2.1 (dd_at ddX2_readColour 15 rfl) (by decide) (fun hc_5 => ?_) (fun hc_5 => ?_)
      · have h := h.1 hc_5
        refine lv_aload_n S.1 S.2.1 (dd_at ddX2_readColour 18 rfl) rfl (lv_at hl 0 rfl) ?_
        obtain ⟨b_6, hb_7, ho_8, h⟩ := h
        refine r_getR S hw 2 7 rfl inG2 (by decide) (List.mem_cons_of_mem _ wg90) (by decide) ha0 hb_7 (dd_at ddX2_readColour 19 rfl) ?_
        refine lv_iload_n S.1 S.2.1 (dd_at ddX2_readColour 20 rfl) rfl (lv_at hl 1 rfl) ?_
        refine lv_iconst (v := 0) S.1 S.2.1 (dd_at ddX2_readColour 21 rfl) (by decide) ?_
        refine lv_aload_n S.1 S.2.1 (dd_at ddX2_readColour 22 rfl) rfl (lv_at hl 0 rfl) ?_
        refine r_getI S hw 2 6 rfl inG2 (by decide) (List.mem_cons_of_mem _ wg251) (by decide) ha0 (dd_at ddX2_readColour 23 rfl) ?_
        refine r_callV hw (r_runV (As := [.int p1, .int 0, .int (gI d_2 a0 6)]) (rest := []) S hw (m_X6_set l D cs E d_2 H.size b_6 p1 0 (gI d_2 a0 6) _) (cwV 3 S.2.2.2.2 (gV wg317 wg318 wg319 wg51 wg320) rfl rfl rfl (by decide +kernel) ⟨Nat.le_of_ble_eq_true rfl, Nat.le_of_ble_eq_true rfl⟩) (ci := 6) rfl ho_8 h rfl hl.1 rfl (Nat.le_of_ble_eq_true rfl) (dd_at ddX2_readColour 24 rfl) ⟨Nat.le_of_ble_eq_true rfl, Nat.le_of_ble_eq_true rfl⟩) (fun d_9 H locs h hw => ?_)
        refine lv_aload_n S.1 S.2.1 (dd_at ddX2_readColour 25 rfl) rfl (lv_at hl 0 rfl) ?_
        refine r_callV hw (r_runV (As := []) (rest := []) S hw (m_X2_next l D cs E d_9 H.size a0 _) (cwV 0 S.2.2.2.2 (gV wg242 wg243 wg244 wg20 wg245) rfl rfl rfl (by decide +kernel) ⟨Nat.le_of_ble_eq_true rfl, Nat.le_of_ble_eq_true rfl⟩) (ci := 2) rfl ha0 h rfl hl.1 rfl (Nat.le_of_ble_eq_true rfl) (dd_at ddX2_readColour 26 rfl) ⟨Nat.le_of_ble_eq_true rfl, Nat.le_of_ble_eq_true rfl⟩) (fun d_11 H locs h hw => ?_)
        refine lv_iconst (v := 1) S.1 S.2.1 (dd_at ddX2_readColour 27 rfl) (by decide) ?_
        exact e_Z S hr hlocks hw (Or.inr rfl) h (dd_at ddX2_readColour 28 rfl)
      · have h := h.2 hc_5
        refine lv_iconst (v := 0) S.1 S.2.1 (dd_at ddX2_readColour 16 rfl) (by decide) ?_
        exact e_Z S hr hlocks hw (Or.inl rfl) h (dd_at ddX2_readColour 17 rfl)
  · have h := h.2 hc_1
    refine lv_iconst (v := 0) S.1 S.2.1 (dd_at ddX2_readColour 4 rfl) (by decide) ?_
    exact e_Z S hr hlocks hw (Or.inl rfl) h (dd_at ddX2_readColour 5 rfl)

def b_X2_isFact_39 (E : En) (a0 : Nat) (K : Int32 → Dy → Prop) (s0 : Int32) (d : Dy) : Prop := ((s0 = 0 → K 0 d) ∧ (¬ s0 = 0 → vp_in (gI d a0 2) 4 ∧ (((((fosV.getD (gI d a0 2).toNatClampNeg 0) >>> ((gI d a0 5) &&& 31)) &&& 1) = 0 → K 0 d) ∧ (¬ (((fosV.getD (gI d a0 2).toNatClampNeg 0) >>> ((gI d a0 5) &&& 31)) &&& 1) = 0 → K 1 d))))
def b_X2_isFact_38 (E : En) (a0 : Nat) (K : Int32 → Dy → Prop) (d : Dy) : Prop := b_X2_isFact_39 E a0 K 0 d
def w_X2_isFact (E : En) (a0 : Nat) (d : Dy) (K : Int32 → Dy → Prop) : Prop := okO E a0 2 ∧ (((gI d a0 5) < 0 → b_X2_isFact_38 E a0 K d) ∧ (¬ (gI d a0 5) < 0 → ((8 ≤ (gI d a0 5) → b_X2_isFact_38 E a0 K d) ∧ (¬ 8 ≤ (gI d a0 5) → (((gI d a0 2) < 0 → b_X2_isFact_38 E a0 K d) ∧ (¬ (gI d a0 2) < 0 → ((4 ≤ (gI d a0 2) → b_X2_isFact_38 E a0 K d) ∧ (¬ 4 ≤ (gI d a0 2) → b_X2_isFact_39 E a0 K 1 d))))))))
abbrev rm_X2_isFact : Room := { frames := 0, cells := 0, slots := 0, locals := 0 }
set_option maxRecDepth 100000 in
set_option maxHeartbeats 4000000 in
theorem m_X2_isFact (l : Launch) (D : va_G) (cs : Nat → ClassId) (E : En) (d : Dy) (sz : Nat) (a0 : Nat) (K : Int32 → Dy → Prop) : CI l yX2_isFact (.code yX2_isFact cX2_isFact 2 (some .boolean) :: wsL_law) rm_X2_isFact D cs E d sz [.ref a0] (w_X2_isFact E a0 d K) K := by
  refine e_of (cc := cX2_isFact) (maxL := 2) (ret := (some .boolean)) (own := RX2) (by decide) rfl rfl (Nat.le_of_ble_eq_true rfl) ?_
  intro p e s m below meth c S hr hlocks hsz H locs hw h ls hl
  have hl : lv_has ls 2 [(0, .ref a0)] := hl
  unfold w_X2_isFact at h
  obtain ⟨ha0, h⟩ := h
  have tb39 : ∀ (s0 : Int32) (d : Dy) (H : Heap) (locs : List Loc) (ls : Array Slot), b_X2_isFact_39 E a0 K s0 d → Wd D cs (AW E sz) s.heap s E d H locs → lv_has ls 2 [(0, .ref a0)] → W p l e rm_X2_isFact s m ([.ref a0] : List Value).toArray below meth c H locs 0 0 (MQ below (va_Qi K (OutW D cs E (AW E sz)) (AW E sz)) ([.ref a0] : List Value).toArray s rm_X2_isFact.cells rm_X2_isFact.slots (AW E sz)) (F0 m 39 ls [.int s0]) := by
    intro s0 d H locs ls h hw hl
    unfold b_X2_isFact_39 at h
    refine lv_istore_n (lv' := [(1, .int s0), (0, .ref a0)]) S.1 S.2.1 (dd_at ddX2_isFact 18 rfl) rfl hl (by decide) rfl (fun ls hl => ?_)
    refine lv_iload_n S.1 S.2.1 (dd_at ddX2_isFact 19 rfl) rfl (lv_at hl 0 rfl) ?_
    refine lv_if_eq (tgt := 66) S.1 S.2.1 (dd_at ddX2_isFact 20 rfl) (by decide) (fun hc_1 => ?_) (fun hc_1 => ?_)
    · have h := h.1 hc_1
      refine lv_iconst (v := 0) S.1 S.2.1 (dd_at ddX2_isFact 33 rfl) (by decide) ?_
      exact e_Z S hr hlocks hw (Or.inl rfl) h (dd_at ddX2_isFact 34 rfl)
    · have h := h.2 hc_1
      refine r_gets S hw nx21 (dd_at ddX2_isFact 21 rfl) ?_
      refine lv_aload_n S.1 S.2.1 (dd_at ddX2_isFact 22 rfl) rfl (lv_at hl 1 rfl) ?_
      refine r_getI S hw 2 2 rfl inG2 (by decide) (List.mem_cons_of_mem _ wg234) (by decide) ha0 (dd_at ddX2_isFact 23 rfl) ?_
      obtain ⟨hx_2, h⟩ := h
      refine r_getsi S hw hx_2 (dd_at ddX2_isFact 24 rfl) ?_
      refine lv_aload_n S.1 S.2.1 (dd_at ddX2_isFact 25 rfl) rfl (lv_at hl 1 rfl) ?_
      refine r_getI S hw 2 5 rfl inG2 (by decide) (List.mem_cons_of_mem _ wg237) (by decide) ha0 (dd_at ddX2_isFact 26 rfl) ?_
      refine lv_ishr S.1 S.2.1 (dd_at ddX2_isFact 27 rfl) ?_
      refine lv_iconst (v := 1) S.1 S.2.1 (dd_at ddX2_isFact 28 rfl) (by decide) ?_
      refine lv_iand S.1 S.2.1 (dd_at ddX2_isFact 29 rfl) ?_
      refine lv_if_eq (tgt := 66) S.1 S.2.1 (dd_at ddX2_isFact 30 rfl) (by decide) (fun hc_3 => ?_) (fun hc_3 => ?_)
      · have h := h.1 hc_3
        refine lv_iconst (v := 0) S.1 S.2.1 (dd_at ddX2_isFact 33 rfl) (by decide) ?_
        exact e_Z S hr hlocks hw (Or.inl rfl) h (dd_at ddX2_isFact 34 rfl)
      · have h := h.2 hc_3
        refine lv_iconst (v := 1) S.1 S.2.1 (dd_at ddX2_isFact 31 rfl) (by decide) ?_
        refine lv_goto (tgt := 67) S.1 S.2.1 (dd_at ddX2_isFact 32 rfl) (by decide) ?_
        exact e_Z S hr hlocks hw (Or.inr rfl) h (dd_at ddX2_isFact 34 rfl)
  have tb38 : ∀ (d : Dy) (H : Heap) (locs : List Loc) (ls : Array Slot), b_X2_isFact_38 E a0 K d → Wd D cs (AW E sz) s.heap s E d H locs → lv_has ls 2 [(0, .ref a0)] → W p l e rm_X2_isFact s m ([.ref a0] : List Value).toArray below meth c H locs 0 0 (MQ below (va_Qi K (OutW D cs E (AW E sz)) (AW E sz)) ([.ref a0] : List Value).toArray s rm_X2_isFact.cells rm_X2_isFact.slots (AW E sz)) (F0 m 38 ls []) := by
    intro d H locs ls h hw hl
    unfold b_X2_isFact_38 at h
    refine lv_iconst (v := 0) S.1 S.2.1 (dd_at ddX2_isFact 17 rfl) (by decide) ?_
    exact tb39 0 d H locs ls h hw (lv_sub hl [0] rfl)
  refine lv_aload_n S.1 S.2.1 (dd_at ddX2_isFact 0 rfl) rfl (lv_at hl 0 rfl) ?_
  refine r_getI S hw 2 5 rfl inG2 (by decide) (List.mem_cons_of_mem _ wg237) (by decide) ha0 (dd_at ddX2_isFact 1 rfl) ?_
  refine lv_if_lt (tgt := 38) S.1 S.2.1 (dd_at ddX2_isFact 2 rfl) (by decide) (fun hc_4 => ?_) (fun hc_4 => ?_)
  · have h := h.1 hc_4
    exact tb38 d H locs ls h hw (lv_sub hl [0] rfl)
  · have h := h.2 hc_4
    refine lv_aload_n S.1 S.2.1 (dd_at ddX2_isFact 3 rfl) rfl (lv_at hl 0 rfl) ?_
    refine r_getI S hw 2 5 rfl inG2 (by decide) (List.mem_cons_of_mem _ wg237) (by decide) ha0 (dd_at ddX2_isFact 4 rfl) ?_
    refine lv_bipush (v := 8) S.1 S.2.1 (dd_at ddX2_isFact 5 rfl) (by decide) ?_
    refine lv_icmp_ge (tgt := 38) S.1 S.2.1 (dd_at ddX2_isFact 6 rfl) (by decide) (fun hc_5 => ?_) (fun hc_5 => ?_)
    · have h := h.1 hc_5
      exact tb38 d H locs ls h hw (lv_sub hl [0] rfl)
    · have h := h.2 hc_5
      refine lv_aload_n S.1 S.2.1 (dd_at ddX2_isFact 7 rfl) rfl (lv_at hl 0 rfl) ?_
      refine r_getI S hw 2 2 rfl inG2 (by decide) (List.mem_cons_of_mem _ wg234) (by decide) ha0 (dd_at ddX2_isFact 8 rfl) ?_
      refine lv_if_lt (tgt := 38) S.1 S.2.1 (dd_at ddX2_isFact 9 rfl) (by decide) (fun hc_6 => ?_) (fun hc_6 => ?_)
      · have h := h.1 hc_6
        exact tb38 d H locs ls h hw (lv_sub hl [0] rfl)
      · have h := h.2 hc_6
        refine lv_aload_n S.1 S.2.1 (dd_at ddX2_isFact 10 rfl) rfl (lv_at hl 0 rfl) ?_
        refine r_getI S hw 2 2 rfl inG2 (by decide) (List.mem_cons_of_mem _ wg234) (by decide) ha0 (dd_at ddX2_isFact 11 rfl) ?_
        refine r_gets S hw nx21 (dd_at ddX2_isFact 12 rfl) ?_
        refine r_getsl S hw (dd_at ddX2_isFact 13 rfl) ?_
        refine lv_icmp_ge (tgt := 38) S.1 S.2.1 (dd_at ddX2_isFact 14 rfl) (by decide) (fun hc_7 => ?_) (fun hc_7 => ?_)
        · have h := h.1 hc_7
          exact tb38 d H locs ls h hw (lv_sub hl [0] rfl)
        · have h := h.2 hc_7
          refine lv_iconst (v := 1) S.1 S.2.1 (dd_at ddX2_isFact 15 rfl) (by decide) ?_
          refine lv_goto (tgt := 39) S.1 S.2.1 (dd_at ddX2_isFact 16 rfl) (by decide) ?_
          exact tb39 1 d H locs ls h hw (lv_sub hl [0] rfl)

def b_X2_readAmount_40 (E : En) (a0 : Nat) (p1 : Int32) (K : Int32 → Dy → Prop) (s0 : Nat) (s1 : Int32) (s2 : Int32) (s3 : Int32) (d : Dy) : Prop := okO E s0 6 ∧ w_X6_set E s0 s1 s2 s3 d (fun d_1 => w_X2_next E a0 d_1 (fun d_3 => (((gI d_3 a0 5) = 30 → ∃ b_6 : Nat, eR E a0 7 = some b_6 ∧ okO E b_6 6 ∧ w_X6_set E b_6 p1 1 (gI d_3 a0 6) d_3 (fun d_9 => w_X2_next E a0 d_9 (fun d_11 => (((gI d_11 a0 5) = 42 → w_X2_next E a0 d_11 (fun d_14 => w_X2_isFact E a0 d_14 (fun r_17 d_16 => ((¬ r_17 = 0 → ∃ b_19 : Nat, eR E a0 7 = some b_19 ∧ okO E b_19 6 ∧ w_X6_set E b_19 p1 2 (gI d_16 a0 5) d_16 (fun d_22 => w_X2_next E a0 d_22 (fun d_24 => K 1 d_24))) ∧ (r_17 = 0 → K 0 d_16))))) ∧ (¬ (gI d_11 a0 5) = 42 → K 1 d_11))))) ∧ (¬ (gI d_3 a0 5) = 30 → K 0 d_3))))
def b_X2_readAmount_20 (E : En) (a0 : Nat) (p1 : Int32) (K : Int32 → Dy → Prop) (d : Dy) : Prop := ∃ b_26 : Nat, eR E a0 7 = some b_26 ∧ okO E b_26 6 ∧ ((¬ (gI d a0 5) = 15 → b_X2_readAmount_40 E a0 p1 K b_26 p1 0 (-1) d) ∧ ((gI d a0 5) = 15 → b_X2_readAmount_40 E a0 p1 K b_26 p1 0 1 d))
def w_X2_readAmount (E : En) (a0 : Nat) (p1 : Int32) (d : Dy) (K : Int32 → Dy → Prop) : Prop := okO E a0 2 ∧ (((gI d a0 5) = 15 → b_X2_readAmount_20 E a0 p1 K d) ∧ (¬ (gI d a0 5) = 15 → (((gI d a0 5) = 16 → b_X2_readAmount_20 E a0 p1 K d) ∧ (¬ (gI d a0 5) = 16 → K 0 d))))
abbrev rm_X2_readAmount : Room := { frames := 6, cells := 0, slots := 0, locals := 137 }
set_option maxRecDepth 100000 in
set_option maxHeartbeats 4000000 in
theorem m_X2_readAmount (l : Launch) (D : va_G) (cs : Nat → ClassId) (E : En) (d : Dy) (sz : Nat) (a0 : Nat) (p1 : Int32) (K : Int32 → Dy → Prop) : CI l yX2_readAmount (.code yX2_readAmount cX2_readAmount 2 (some .boolean) :: wsL_law) rm_X2_readAmount D cs E d sz [.ref a0, .int p1] (w_X2_readAmount E a0 p1 d K) K := by
  refine e_of (cc := cX2_readAmount) (maxL := 2) (ret := (some .boolean)) (own := RX2) (by decide) rfl rfl (Nat.le_of_ble_eq_true rfl) ?_
  intro p e s m below meth c S hr hlocks hsz H locs hw h ls hl
  have hl : lv_has ls 2 [(0, .ref a0), (1, .int p1)] := hl
  unfold w_X2_readAmount at h
  obtain ⟨ha0, h⟩ := h
  have tb40 : ∀ (s0 : Nat) (s1 : Int32) (s2 : Int32) (s3 : Int32) (d : Dy) (H : Heap) (locs : List Loc) (ls : Array Slot), b_X2_readAmount_40 E a0 p1 K s0 s1 s2 s3 d → Wd D cs (AW E sz) s.heap s E d H locs → lv_has ls 2 [(0, .ref a0), (1, .int p1)] → W p l e rm_X2_readAmount s m ([.ref a0, .int p1] : List Value).toArray below meth c H locs 0 0 (MQ below (va_Qi K (OutW D cs E (AW E sz)) (AW E sz)) ([.ref a0, .int p1] : List Value).toArray s rm_X2_readAmount.cells rm_X2_readAmount.slots (AW E sz)) (F0 m 40 ls [.int s3, .int s2, .int s1, .ref s0]) := by
    intro s0 s1 s2 s3 d H locs ls h hw hl
    unfold b_X2_readAmount_40 at h
    obtain ⟨hos0, h⟩ := h
    refine r_callV hw (r_runV (As := [.int s1, .int s2, .int s3]) (rest := []) S hw (m_X6_set l D cs E d H.size s0 s1 s2 s3 _) (cwV 3 S.2.2.2.2 (gV wg317 wg318 wg319 wg51 wg320) rfl rfl rfl (by decide +kernel) ⟨Nat.le_of_ble_eq_true rfl, Nat.le_of_ble_eq_true rfl⟩) (ci := 6) rfl hos0 h rfl hl.1 rfl (Nat.le_of_ble_eq_true rfl) (dd_at ddX2_readAmount 21 rfl) ⟨Nat.le_of_ble_eq_true rfl, Nat.le_of_ble_eq_true rfl⟩) (fun d_1 H locs h hw => ?_)
    refine lv_aload_n S.1 S.2.1 (dd_at ddX2_readAmount 22 rfl) rfl (lv_at hl 0 rfl) ?_
    refine r_callV hw (r_runV (As := []) (rest := []) S hw (m_X2_next l D cs E d_1 H.size a0 _) (cwV 0 S.2.2.2.2 (gV wg242 wg243 wg244 wg20 wg245) rfl rfl rfl (by decide +kernel) ⟨Nat.le_of_ble_eq_true rfl, Nat.le_of_ble_eq_true rfl⟩) (ci := 2) rfl ha0 h rfl hl.1 rfl (Nat.le_of_ble_eq_true rfl) (dd_at ddX2_readAmount 23 rfl) ⟨Nat.le_of_ble_eq_true rfl, Nat.le_of_ble_eq_true rfl⟩) (fun d_3 H locs h hw => ?_)
    refine lv_aload_n S.1 S.2.1 (dd_at ddX2_readAmount 24 rfl) rfl (lv_at hl 0 rfl) ?_
    refine r_getI S hw 2 5 rfl inG2 (by decide) (List.mem_cons_of_mem _ wg237) (by decide) ha0 (dd_at ddX2_readAmount 25 rfl) ?_
    refine lv_bipush (v := 30) S.1 S.2.1 (dd_at ddX2_readAmount 26 rfl) (by decide) ?_
    refine lv_icmp_eq (tgt := 58) S.1 S.2.1 (dd_at ddX2_readAmount 27 rfl) (by decide) (fun hc_5 => ?_) (fun hc_5 => ?_)
    · have h := h.1 hc_5
      refine lv_aload_n S.1 S.2.1 (dd_at ddX2_readAmount 30 rfl) rfl (lv_at hl 0 rfl) ?_
      obtain ⟨b_6, hb_7, ho_8, h⟩ := h
      refine r_getR S hw 2 7 rfl inG2 (by decide) (List.mem_cons_of_mem _ wg90) (by decide) ha0 hb_7 (dd_at ddX2_readAmount 31 rfl) ?_
      refine lv_iload_n S.1 S.2.1 (dd_at ddX2_readAmount 32 rfl) rfl (lv_at hl 1 rfl) ?_
      refine lv_iconst (v := 1) S.1 S.2.1 (dd_at ddX2_readAmount 33 rfl) (by decide) ?_
      refine lv_aload_n S.1 S.2.1 (dd_at ddX2_readAmount 34 rfl) rfl (lv_at hl 0 rfl) ?_
      refine r_getI S hw 2 6 rfl inG2 (by decide) (List.mem_cons_of_mem _ wg251) (by decide) ha0 (dd_at ddX2_readAmount 35 rfl) ?_
      refine r_callV hw (r_runV (As := [.int p1, .int 1, .int (gI d_3 a0 6)]) (rest := []) S hw (m_X6_set l D cs E d_3 H.size b_6 p1 1 (gI d_3 a0 6) _) (cwV 3 S.2.2.2.2 (gV wg317 wg318 wg319 wg51 wg320) rfl rfl rfl (by decide +kernel) ⟨Nat.le_of_ble_eq_true rfl, Nat.le_of_ble_eq_true rfl⟩) (ci := 6) rfl ho_8 h rfl hl.1 rfl (Nat.le_of_ble_eq_true rfl) (dd_at ddX2_readAmount 36 rfl) ⟨Nat.le_of_ble_eq_true rfl, Nat.le_of_ble_eq_true rfl⟩) (fun d_9 H locs h hw => ?_)
      refine lv_aload_n S.1 S.2.1 (dd_at ddX2_readAmount 37 rfl) rfl (lv_at hl 0 rfl) ?_
      refine r_callV hw (r_runV (As := []) (rest := []) S hw (m_X2_next l D cs E d_9 H.size a0 _) (cwV 0 S.2.2.2.2 (gV wg242 wg243 wg244 wg20 wg245) rfl rfl rfl (by decide +kernel) ⟨Nat.le_of_ble_eq_true rfl, Nat.le_of_ble_eq_true rfl⟩) (ci := 2) rfl ha0 h rfl hl.1 rfl (Nat.le_of_ble_eq_true rfl) (dd_at ddX2_readAmount 38 rfl) ⟨Nat.le_of_ble_eq_true rfl, Nat.le_of_ble_eq_true rfl⟩) (fun d_11 H locs h hw => ?_)
      refine lv_aload_n S.1 S.2.1 (dd_at ddX2_readAmount 39 rfl) rfl (lv_at hl 0 rfl) ?_
      refine r_getI S hw 2 5 rfl inG2 (by decide) (List.mem_cons_of_mem _ wg237) (by decide) ha0 (dd_at ddX2_readAmount 40 rfl) ?_
      refine lv_bipush (v := 42) S.1 S.2.1 (dd_at ddX2_readAmount 41 rfl) (by decide) ?_
      refine lv_icmp_eq (tgt := 86) S.1 S.2.1 (dd_at ddX2_readAmount 42 rfl) (by decide) (fun hc_13 => ?_) (fun hc_13 => ?_)
      · have h := h.1 hc_13
        refine lv_aload_n S.1 S.2.1 (dd_at ddX2_readAmount 45 rfl) rfl (lv_at hl 0 rfl) ?_
        refine r_callV hw (r_runV (As := []) (rest := []) S hw (m_X2_next l D cs E d_11 H.size a0 _) (cwV 0 S.2.2.2.2 (gV wg242 wg243 wg244 wg20 wg245) rfl rfl rfl (by decide +kernel) ⟨Nat.le_of_ble_eq_true rfl, Nat.le_of_ble_eq_true rfl⟩) (ci := 2) rfl ha0 h rfl hl.1 rfl (Nat.le_of_ble_eq_true rfl) (dd_at ddX2_readAmount 46 rfl) ⟨Nat.le_of_ble_eq_true rfl, Nat.le_of_ble_eq_true rfl⟩) (fun d_14 H locs h hw => ?_)
        refine lv_aload_n S.1 S.2.1 (dd_at ddX2_readAmount 47 rfl) rfl (lv_at hl 0 rfl) ?_
        refine r_callI hw (r_runV (As := []) (rest := []) S hw (m_X2_isFact l D cs E d_14 H.size a0 _) (cwV 0 S.2.2.2.2 (gV wg333 wg334 wg335 wg20 wg336) rfl rfl rfl (by decide +kernel) ⟨Nat.le_of_ble_eq_true rfl, Nat.le_of_ble_eq_true rfl⟩) (ci := 2) rfl ha0 h rfl hl.1 rfl (Nat.le_of_ble_eq_true rfl) (dd_at ddX2_readAmount 48 rfl) ⟨Nat.le_of_ble_eq_true rfl, Nat.le_of_ble_eq_true rfl⟩) (fun r_17 d_16 H locs h hw => ?_)
        refine lv_if_ne (tgt := 99) S.1 S.2.1 (dd_at ddX2_readAmount 49 rfl) (by decide) (fun hc_18 => ?_) (fun hc_18 => ?_)
        · have h := h.1 hc_18
          refine lv_aload_n S.1 S.2.1 (dd_at ddX2_readAmount 52 rfl) rfl (lv_at hl 0 rfl) ?_
          obtain ⟨b_19, hb_20, ho_21, h⟩ := h
          refine r_getR S hw 2 7 rfl inG2 (by decide) (List.mem_cons_of_mem _ wg90) (by decide) ha0 hb_20 (dd_at ddX2_readAmount 53 rfl) ?_
          refine lv_iload_n S.1 S.2.1 (dd_at ddX2_readAmount 54 rfl) rfl (lv_at hl 1 rfl) ?_
          refine lv_iconst (v := 2) S.1 S.2.1 (dd_at ddX2_readAmount 55 rfl) (by decide) ?_
          refine lv_aload_n S.1 S.2.1 (dd_at ddX2_readAmount 56 rfl) rfl (lv_at hl 0 rfl) ?_
          refine r_getI S hw 2 5 rfl inG2 (by decide) (List.mem_cons_of_mem _ wg237) (by decide) ha0 (dd_at ddX2_readAmount 57 rfl) ?_
          refine r_callV hw (r_runV (As := [.int p1, .int 2, .int (gI d_16 a0 5)]) (rest := []) S hw (m_X6_set l D cs E d_16 H.size b_19 p1 2 (gI d_16 a0 5) _) (cwV 3 S.2.2.2.2 (gV wg317 wg318 wg319 wg51 wg320) rfl rfl rfl (by decide +kernel) ⟨Nat.le_of_ble_eq_true rfl, Nat.le_of_ble_eq_true rfl⟩) (ci := 6) rfl ho_21 h rfl hl.1 rfl (Nat.le_of_ble_eq_true rfl) (dd_at ddX2_readAmount 58 rfl) ⟨Nat.le_of_ble_eq_true rfl, Nat.le_of_ble_eq_true rfl⟩) (fun d_22 H locs h hw => ?_)
          refine lv_aload_n S.1 S.2.1 (dd_at ddX2_readAmount 59 rfl) rfl (lv_at hl 0 rfl) ?_
          refine r_callV hw (r_runV (As := []) (rest := []) S hw (m_X2_next l D cs E d_22 H.size a0 _) (cwV 0 S.2.2.2.2 (gV wg242 wg243 wg244 wg20 wg245) rfl rfl rfl (by decide +kernel) ⟨Nat.le_of_ble_eq_true rfl, Nat.le_of_ble_eq_true rfl⟩) (ci := 2) rfl ha0 h rfl hl.1 rfl (Nat.le_of_ble_eq_true rfl) (dd_at ddX2_readAmount 60 rfl) ⟨Nat.le_of_ble_eq_true rfl, Nat.le_of_ble_eq_true rfl⟩) (fun d_24 H locs h hw => ?_)
          refine lv_iconst (v := 1) S.1 S.2.1 (dd_at ddX2_readAmount 61 rfl) (by decide) ?_
          exact e_Z S hr hlocks hw (Or.inr rfl) h (dd_at ddX2_readAmount 62 rfl)
        · have h := h.2 hc_18
          refine lv_iconst (v := 0) S.1 S.2.1 (dd_at ddX2_readAmount 50 rfl) (by decide) ?_
          exact e_Z S hr hlocks hw (Or.inl rfl) h (dd_at ddX2_readAmount 51 rfl)
      · have h := h.2 hc_13
        refine lv_iconst (v := 1) S.1 S.2.1 (dd_at ddX2_readAmount 43 rfl) (by decide) ?_
        exact e_Z S hr hlocks hw (Or.inr rfl) h (dd_at ddX2_readAmount 44 rfl)
    · have h := h.2 hc_5
      refine lv_iconst (v := 0) S.1 S.2.1 (dd_at ddX2_readAmount 28 rfl) (by decide) ?_
      exact e_Z S hr hlocks hw (Or.inl rfl) h (dd_at ddX2_readAmount 29 rfl)
  have tb20 : ∀ (d : Dy) (H : Heap) (locs : List Loc) (ls : Array Slot), b_X2_readAmount_20 E a0 p1 K d → Wd D cs (AW E sz) s.heap s E d H locs → lv_has ls 2 [(0, .ref a0), (1, .int p1)] → W p l e rm_X2_readAmount s m ([.ref a0, .int p1] : List Value).toArray below meth c H locs 0 0 (MQ below (va_Qi K (OutW D cs E (AW E sz)) (AW E sz)) ([.ref a0, .int p1] : List Value).toArray s rm_X2_readAmount.cells rm_X2_readAmount.slots (AW E sz)) (F0 m 20 ls []) := by
    intro d H locs ls h hw hl
    unfold b_X2_readAmount_20 at h
    refine lv_aload_n S.1 S.2.1 (dd_at ddX2_readAmount 10 rfl) rfl (lv_at hl 0 rfl) ?_
    obtain ⟨b_26, hb_27, ho_28, h⟩ := h
    refine r_getR S hw 2 7 rfl inG2 (by decide) (List.mem_cons_of_mem _ wg90) (by decide) ha0 hb_27 (dd_at ddX2_readAmount 11 rfl) ?_
    refine lv_iload_n S.1 S.2.1 (dd_at ddX2_readAmount 12 rfl) rfl (lv_at hl 1 rfl) ?_
    refine lv_iconst (v := 0) S.1 S.2.1 (dd_at ddX2_readAmount 13 rfl) (by decide) ?_
    refine lv_aload_n S.1 S.2.1 (dd_at ddX2_readAmount 14 rfl) rfl (lv_at hl 0 rfl) ?_
    refine r_getI S hw 2 5 rfl inG2 (by decide) (List.mem_cons_of_mem _ wg237) (by decide) ha0 (dd_at ddX2_readAmount 15 rfl) ?_
    refine lv_bipush (v := 15) S.1 S.2.1 (dd_at ddX2_readAmount 16 rfl) (by decide) ?_
    refine lv_icmp_ne (tgt := 39) S.1 S.2.1 (dd_at ddX2_readAmount 17 rfl) (by decide) (fun hc_29 => ?_) (fun hc_29 => ?_)
    · have h := h.1 hc_29
      refine lv_iconst (v := -1) S.1 S.2.1 (dd_at ddX2_readAmount 20 rfl) (by decide) ?_
      exact tb40 b_26 p1 0 (-1) d H locs ls h hw (lv_sub hl [0, 1] rfl)
    · have h := h.2 hc_29
      refine lv_iconst (v := 1) S.1 S.2.1 (dd_at ddX2_readAmount 18 rfl) (by decide) ?_
      refine lv_goto (tgt := 40) S.1 S.2.1 (dd_at ddX2_readAmount 19 rfl) (by decide) ?_
      exact tb40 b_26 p1 0 1 d H locs ls h hw (lv_sub hl [0, 1] rfl)
  refine lv_aload_n S.1 S.2.1 (dd_at ddX2_readAmount 0 rfl) rfl (lv_at hl 0 rfl) ?_
  refine r_getI S hw 2 5 rfl inG2 (by decide) (List.mem_cons_of_mem _ wg237) (by decide) ha0 (dd_at ddX2_readAmount 1 rfl) ?_
  refine lv_bipush (v := 15) S.1 S.2.1 (dd_at ddX2_readAmount 2 rfl) (by decide) ?_
  refine lv_icmp_eq (tgt := 20) S.1 S.2.1 (dd_at ddX2_readAmount 3 rfl) (by decide) (fun hc_30 => ?_) (fun hc_30 => ?_)
  · have h := h.1 hc_30
    exact tb20 d H locs ls h hw (lv_sub hl [0, 1] rfl)
  · have h := h.2 hc_30
    refine lv_aload_n S.1 S.2.1 (dd_at ddX2_readAmount 4 rfl) rfl (lv_at hl 0 rfl) ?_
    refine r_getI S hw 2 5 rfl inG2 (by decide) (List.mem_cons_of_mem _ wg237) (by decide) ha0 (dd_at ddX2_readAmount 5 rfl) ?_
    refine lv_bipush (v := 16) S.1 S.2.1 (dd_at ddX2_readAmount 6 rfl) (by decide) ?_
    refine lv_icmp_eq (tgt := 20) S.1 S.2.1 (dd_at ddX2_readAmount 7 rfl) (by decide) (fun hc_31 => ?_) (fun hc_31 => ?_)
    · have h := h.1 hc_31
      exact tb20 d H locs ls h hw (lv_sub hl [0, 1] rfl)
    · have h := h.2 hc_31
      refine lv_iconst (v := 0) S.1 S.2.1 (dd_at ddX2_readAmount 8 rfl) (by decide) ?_
      exact e_Z S hr hlocks hw (Or.inl rfl) h (dd_at ddX2_readAmount 9 rfl)

def w_X2_emit (E : En) (a0 : Nat) (p1 : Int32) (d : Dy) (K : Dy → Prop) : Prop := okO E a0 2 ∧ ∃ b_1 : Nat, eR E a0 8 = some b_1 ∧ okA E b_1 13 ∧ (((nI (eN E b_1)) ≤ (gI d a0 9) → K d) ∧ (¬ (nI (eN E b_1)) ≤ (gI d a0 9) → ∃ b_5 : Nat, eR E a0 8 = some b_5 ∧ okA E b_5 13 ∧ vp_in (gI d a0 9) (eN E b_5) ∧ K (pI (pA d b_5 (gI d a0 9).toNatClampNeg p1) a0 9 ((gI (pA d b_5 (gI d a0 9).toNatClampNeg p1) a0 9) + 1))))
abbrev rm_X2_emit : Room := { frames := 0, cells := 0, slots := 0, locals := 0 }
set_option maxRecDepth 100000 in
set_option maxHeartbeats 4000000 in
theorem m_X2_emit (l : Launch) (D : va_G) (cs : Nat → ClassId) (E : En) (d : Dy) (sz : Nat) (a0 : Nat) (p1 : Int32) (K : Dy → Prop) : CV l yX2_emit (.code yX2_emit cX2_emit 2 none :: wsL_law) rm_X2_emit D cs E d sz [.ref a0, .int p1] (w_X2_emit E a0 p1 d K) K := by
  refine e_of (cc := cX2_emit) (maxL := 2) (ret := none) (own := RX2) (by decide) rfl rfl (Nat.le_of_ble_eq_true rfl) ?_
  intro p e s m below meth c S hr hlocks hsz H locs hw h ls hl
  have hl : lv_has ls 2 [(0, .ref a0), (1, .int p1)] := hl
  unfold w_X2_emit at h
  obtain ⟨ha0, h⟩ := h
  refine lv_aload_n S.1 S.2.1 (dd_at ddX2_emit 0 rfl) rfl (lv_at hl 0 rfl) ?_
  refine r_getI S hw 2 9 rfl inG2 (by decide) (List.mem_cons_of_mem _ wg235) (by decide) ha0 (dd_at ddX2_emit 1 rfl) ?_
  refine lv_aload_n S.1 S.2.1 (dd_at ddX2_emit 2 rfl) rfl (lv_at hl 0 rfl) ?_
  obtain ⟨b_1, hb_2, ho_3, h⟩ := h
  refine r_getR S hw 2 8 rfl inG2 (by decide) (List.mem_cons_of_mem _ wg91) (by decide) ha0 hb_2 (dd_at ddX2_emit 3 rfl) ?_
  refine r_alenI S hw ho_3 (dd_at ddX2_emit 4 rfl) ?_
  refine lv_icmp_ge (tgt := 32) S.1 S.2.1 (dd_at ddX2_emit 5 rfl) (by decide) (fun hc_4 => ?_) (fun hc_4 => ?_)
  · have h := h.1 hc_4
    exact e_V S hr hlocks hw h (dd_at ddX2_emit 18 rfl)
  · have h := h.2 hc_4
    refine lv_aload_n S.1 S.2.1 (dd_at ddX2_emit 6 rfl) rfl (lv_at hl 0 rfl) ?_
    obtain ⟨b_5, hb_6, ho_7, h⟩ := h
    refine r_getR S hw 2 8 rfl inG2 (by decide) (List.mem_cons_of_mem _ wg91) (by decide) ha0 hb_6 (dd_at ddX2_emit 7 rfl) ?_
    refine lv_aload_n S.1 S.2.1 (dd_at ddX2_emit 8 rfl) rfl (lv_at hl 0 rfl) ?_
    refine r_getI S hw 2 9 rfl inG2 (by decide) (List.mem_cons_of_mem _ wg235) (by decide) ha0 (dd_at ddX2_emit 9 rfl) ?_
    refine lv_iload_n S.1 S.2.1 (dd_at ddX2_emit 10 rfl) rfl (lv_at hl 1 rfl) ?_
    obtain ⟨hx_8, h⟩ := h
    refine r_iast S hw ho_7 hx_8 (dd_at ddX2_emit 11 rfl) (fun H locs hw => ?_)
    refine lv_aload_n S.1 S.2.1 (dd_at ddX2_emit 12 rfl) rfl (lv_at hl 0 rfl) ?_
    refine lv_dup S.1 S.2.1 (dd_at ddX2_emit 13 rfl) rfl ?_
    refine r_getI S hw 2 9 rfl inG2 (by decide) (List.mem_cons_of_mem _ wg235) (by decide) ha0 (dd_at ddX2_emit 14 rfl) ?_
    refine lv_iconst (v := 1) S.1 S.2.1 (dd_at ddX2_emit 15 rfl) (by decide) ?_
    refine lv_iadd S.1 S.2.1 (dd_at ddX2_emit 16 rfl) ?_
    refine r_putI S hw 2 9 (ty := .int) (v := (gI (pA d b_5 (gI d a0 9).toNatClampNeg p1) a0 9) + 1) rfl inG2 tyX2 tyX2_ok nmX2 (by decide) (List.mem_cons_of_mem _ wg235) (by decide) rfl (by decide +kernel) rfl rfl ha0 (dd_at ddX2_emit 17 rfl) (fun H locs hw => ?_)
    exact e_V S hr hlocks hw h (dd_at ddX2_emit 18 rfl)

def b_X2_readSum_63 (E : En) (a0 : Nat) (K : Int32 → Dy → Prop) (k2 : Int32 → Dy → Prop) (v1 : Int32) (d : Dy) : Prop := w_X2_next E a0 d (fun d_1 => (((gI d_1 a0 5) = 43 → w_X2_next E a0 d_1 (fun d_4 => k2 (v1 + 1) d_4)) ∧ (¬ (gI d_1 a0 5) = 43 → K 1 d_1)))
def b_X2_readSum_50 (E : En) (a0 : Nat) (K : Int32 → Dy → Prop) (k2 : Int32 → Dy → Prop) (v1 : Int32) (s0 : Nat) (s1 : Int32) (d : Dy) : Prop := okO E s0 2 ∧ w_X2_emit E s0 s1 d (fun d_6 => ((v1 ≤ 0 → b_X2_readSum_63 E a0 K k2 v1 d_6) ∧ (¬ v1 ≤ 0 → w_X2_emit E a0 (-10) d_6 (fun d_9 => b_X2_readSum_63 E a0 K k2 v1 d_9))))
def b_X2_readSum_27 (E : En) (a0 : Nat) (K : Int32 → Dy → Prop) (k2 : Int32 → Dy → Prop) (v1 : Int32) (d : Dy) : Prop := ((¬ (gI d a0 5) = 30 → b_X2_readSum_50 E a0 K k2 v1 a0 ((-1) - (gI d a0 5)) d) ∧ ((gI d a0 5) = 30 → b_X2_readSum_50 E a0 K k2 v1 a0 (gI d a0 6) d))
def b_X2_readSum_2 (E : En) (a0 : Nat) (K : Int32 → Dy → Prop) (k2 : Int32 → Dy → Prop) (v1 : Int32) (d : Dy) : Prop := ((400 ≤ v1 → K 0 d) ∧ (¬ 400 ≤ v1 → (((gI d a0 5) = 30 → b_X2_readSum_27 E a0 K k2 v1 d) ∧ (¬ (gI d a0 5) = 30 → w_X2_isFact E a0 d (fun r_15 d_14 => ((¬ r_15 = 0 → b_X2_readSum_27 E a0 K k2 v1 d_14) ∧ (r_15 = 0 → K 0 d_14)))))))
def l_X2_readSum_2 (E : En) (a0 : Nat) (K : Int32 → Dy → Prop) : Nat → Int32 → Dy → Prop
  | 0 => fun _ _ => False
  | n + 1 => b_X2_readSum_2 E a0 K (l_X2_readSum_2 E a0 K n)
def w_X2_readSum (E : En) (a0 : Nat) (d : Dy) (K : Int32 → Dy → Prop) : Prop := okO E a0 2 ∧ (∃ n_17 : Nat, l_X2_readSum_2 E a0 K n_17 0 d)
abbrev rm_X2_readSum : Room := { frames := 6, cells := 0, slots := 0, locals := 137 }
set_option maxRecDepth 100000 in
set_option maxHeartbeats 4000000 in
theorem m_X2_readSum (l : Launch) (D : va_G) (cs : Nat → ClassId) (E : En) (d : Dy) (sz : Nat) (a0 : Nat) (K : Int32 → Dy → Prop) : CI l yX2_readSum (.code yX2_readSum cX2_readSum 2 (some .boolean) :: wsL_law) rm_X2_readSum D cs E d sz [.ref a0] (w_X2_readSum E a0 d K) K := by
  refine e_of (cc := cX2_readSum) (maxL := 2) (ret := (some .boolean)) (own := RX2) (by decide) rfl rfl (Nat.le_of_ble_eq_true rfl) ?_
  intro p e s m below meth c S hr hlocks hsz H locs hw h ls hl
  have hl : lv_has ls 2 [(0, .ref a0)] := hl
  unfold w_X2_readSum at h
  obtain ⟨ha0, h⟩ := h
  have tl2 : ∀ (n : Nat) (v1 : Int32) (d : Dy) (H : Heap) (locs : List Loc) (ls : Array Slot), l_X2_readSum_2 E a0 K n v1 d → Wd D cs (AW E sz) s.heap s E d H locs → lv_has ls 2 [(0, .ref a0), (1, .int v1)] → W p l e rm_X2_readSum s m ([.ref a0] : List Value).toArray below meth c H locs 0 0 (MQ below (va_Qi K (OutW D cs E (AW E sz)) (AW E sz)) ([.ref a0] : List Value).toArray s rm_X2_readSum.cells rm_X2_readSum.slots (AW E sz)) (F0 m 2 ls []) := by
    intro n2
    induction n2 with
    | zero => intro v1 d H locs ls h; exact absurd h id
    | succ n2 ih2 =>
      have tb63 : ∀ (v1 : Int32) (d : Dy) (H : Heap) (locs : List Loc) (ls : Array Slot), b_X2_readSum_63 E a0 K (l_X2_readSum_2 E a0 K n2) v1 d → Wd D cs (AW E sz) s.heap s E d H locs → lv_has ls 2 [(0, .ref a0), (1, .int v1)] → W p l e rm_X2_readSum s m ([.ref a0] : List Value).toArray below meth c H locs 0 0 (MQ below (va_Qi K (OutW D cs E (AW E sz)) (AW E sz)) ([.ref a0] : List Value).toArray s rm_X2_readSum.cells rm_X2_readSum.slots (AW E sz)) (F0 m 63 ls []) := by
        intro v1 d H locs ls h hw hl
        unfold b_X2_readSum_63 at h
        refine lv_aload_n S.1 S.2.1 (dd_at ddX2_readSum 32 rfl) rfl (lv_at hl 0 rfl) ?_
        refine r_callV hw (r_runV (As := []) (rest := []) S hw (m_X2_next l D cs E d H.size a0 _) (cwV 0 S.2.2.2.2 (gV wg242 wg243 wg244 wg20 wg245) rfl rfl rfl (by decide +kernel) ⟨Nat.le_of_ble_eq_true rfl, Nat.le_of_ble_eq_true rfl⟩) (ci := 2) rfl ha0 h rfl hl.1 rfl (Nat.le_of_ble_eq_true rfl) (dd_at ddX2_readSum 33 rfl) ⟨Nat.le_of_ble_eq_true rfl, Nat.le_of_ble_eq_true rfl⟩) (fun d_1 H locs h hw => ?_)
        refine lv_aload_n S.1 S.2.1 (dd_at ddX2_readSum 34 rfl) rfl (lv_at hl 0 rfl) ?_
        refine r_getI S hw 2 5 rfl inG2 (by decide) (List.mem_cons_of_mem _ wg237) (by decide) ha0 (dd_at ddX2_readSum 35 rfl) ?_
        refine lv_bipush (v := 43) S.1 S.2.1 (dd_at ddX2_readSum 36 rfl) (by decide) ?_
        refine lv_icmp_eq (tgt := 78) S.1 S.2.1 (dd_at ddX2_readSum 37 rfl) (by decide) (fun hc_3 => ?_) (fun hc_3 => ?_)
        · have h := h.1 hc_3
          refine lv_aload_n S.1 S.2.1 (dd_at ddX2_readSum 40 rfl) rfl (lv_at hl 0 rfl) ?_
          refine r_callV hw (r_runV (As := []) (rest := []) S hw (m_X2_next l D cs E d_1 H.size a0 _) (cwV 0 S.2.2.2.2 (gV wg242 wg243 wg244 wg20 wg245) rfl rfl rfl (by decide +kernel) ⟨Nat.le_of_ble_eq_true rfl, Nat.le_of_ble_eq_true rfl⟩) (ci := 2) rfl ha0 h rfl hl.1 rfl (Nat.le_of_ble_eq_true rfl) (dd_at ddX2_readSum 41 rfl) ⟨Nat.le_of_ble_eq_true rfl, Nat.le_of_ble_eq_true rfl⟩) (fun d_4 H locs h hw => ?_)
          refine lv_iinc (v := v1 + 1) (lv' := [(1, .int (v1 + 1)), (0, .ref a0)]) S.1 S.2.1 (dd_at ddX2_readSum 42 rfl) hl (k := 1) rfl rfl (by decide) rfl (fun ls hl => ?_)
          refine lv_goto (tgt := 2) S.1 S.2.1 (dd_at ddX2_readSum 43 rfl) (by decide) ?_
          exact ih2 (v1 + 1) d_4 H locs ls h hw (lv_sub hl [1, 0] rfl)
        · have h := h.2 hc_3
          refine lv_iconst (v := 1) S.1 S.2.1 (dd_at ddX2_readSum 38 rfl) (by decide) ?_
          exact e_Z S hr hlocks hw (Or.inr rfl) h (dd_at ddX2_readSum 39 rfl)
      have tb50 : ∀ (v1 : Int32) (s0 : Nat) (s1 : Int32) (d : Dy) (H : Heap) (locs : List Loc) (ls : Array Slot), b_X2_readSum_50 E a0 K (l_X2_readSum_2 E a0 K n2) v1 s0 s1 d → Wd D cs (AW E sz) s.heap s E d H locs → lv_has ls 2 [(0, .ref a0), (1, .int v1)] → W p l e rm_X2_readSum s m ([.ref a0] : List Value).toArray below meth c H locs 0 0 (MQ below (va_Qi K (OutW D cs E (AW E sz)) (AW E sz)) ([.ref a0] : List Value).toArray s rm_X2_readSum.cells rm_X2_readSum.slots (AW E sz)) (F0 m 50 ls [.int s1, .ref s0]) := by
        intro v1 s0 s1 d H locs ls h hw hl
        unfold b_X2_readSum_50 at h
        obtain ⟨hos0, h⟩ := h
        refine r_callV hw (r_runV (As := [.int s1]) (rest := []) S hw (m_X2_emit l D cs E d H.size s0 s1 _) (cwV 1 S.2.2.2.2 (gV wg344 wg345 wg346 wg20 wg347) rfl rfl rfl (by decide +kernel) ⟨Nat.le_of_ble_eq_true rfl, Nat.le_of_ble_eq_true rfl⟩) (ci := 2) rfl hos0 h rfl hl.1 rfl (Nat.le_of_ble_eq_true rfl) (dd_at ddX2_readSum 26 rfl) ⟨Nat.le_of_ble_eq_true rfl, Nat.le_of_ble_eq_true rfl⟩) (fun d_6 H locs h hw => ?_)
        refine lv_iload_n S.1 S.2.1 (dd_at ddX2_readSum 27 rfl) rfl (lv_at hl 1 rfl) ?_
        refine lv_if_le (tgt := 63) S.1 S.2.1 (dd_at ddX2_readSum 28 rfl) (by decide) (fun hc_8 => ?_) (fun hc_8 => ?_)
        · have h := h.1 hc_8
          exact tb63 v1 d_6 H locs ls h hw (lv_sub hl [0, 1] rfl)
        · have h := h.2 hc_8
          refine lv_aload_n S.1 S.2.1 (dd_at ddX2_readSum 29 rfl) rfl (lv_at hl 0 rfl) ?_
          refine lv_bipush (v := -10) S.1 S.2.1 (dd_at ddX2_readSum 30 rfl) (by decide) ?_
          refine r_callV hw (r_runV (As := [.int (-10)]) (rest := []) S hw (m_X2_emit l D cs E d_6 H.size a0 (-10) _) (cwV 1 S.2.2.2.2 (gV wg344 wg345 wg346 wg20 wg347) rfl rfl rfl (by decide +kernel) ⟨Nat.le_of_ble_eq_true rfl, Nat.le_of_ble_eq_true rfl⟩) (ci := 2) rfl ha0 h rfl hl.1 rfl (Nat.le_of_ble_eq_true rfl) (dd_at ddX2_readSum 31 rfl) ⟨Nat.le_of_ble_eq_true rfl, Nat.le_of_ble_eq_true rfl⟩) (fun d_9 H locs h hw => ?_)
          exact tb63 v1 d_9 H locs ls h hw (lv_sub hl [0, 1] rfl)
      have tb27 : ∀ (v1 : Int32) (d : Dy) (H : Heap) (locs : List Loc) (ls : Array Slot), b_X2_readSum_27 E a0 K (l_X2_readSum_2 E a0 K n2) v1 d → Wd D cs (AW E sz) s.heap s E d H locs → lv_has ls 2 [(0, .ref a0), (1, .int v1)] → W p l e rm_X2_readSum s m ([.ref a0] : List Value).toArray below meth c H locs 0 0 (MQ below (va_Qi K (OutW D cs E (AW E sz)) (AW E sz)) ([.ref a0] : List Value).toArray s rm_X2_readSum.cells rm_X2_readSum.slots (AW E sz)) (F0 m 27 ls []) := by
        intro v1 d H locs ls h hw hl
        unfold b_X2_readSum_27 at h
        refine lv_aload_n S.1 S.2.1 (dd_at ddX2_readSum 14 rfl) rfl (lv_at hl 0 rfl) ?_
        refine lv_aload_n S.1 S.2.1 (dd_at ddX2_readSum 15 rfl) rfl (lv_at hl 0 rfl) ?_
        refine r_getI S hw 2 5 rfl inG2 (by decide) (List.mem_cons_of_mem _ wg237) (by decide) ha0 (dd_at ddX2_readSum 16 rfl) ?_
        refine lv_bipush (v := 30) S.1 S.2.1 (dd_at ddX2_readSum 17 rfl) (by decide) ?_
        refine lv_icmp_ne (tgt := 44) S.1 S.2.1 (dd_at ddX2_readSum 18 rfl) (by decide) (fun hc_11 => ?_) (fun hc_11 => ?_)
        · have h := h.1 hc_11
          refine lv_iconst (v := -1) S.1 S.2.1 (dd_at ddX2_readSum 22 rfl) (by decide) ?_
          refine lv_aload_n S.1 S.2.1 (dd_at ddX2_readSum 23 rfl) rfl (lv_at hl 0 rfl) ?_
          refine r_getI S hw 2 5 rfl inG2 (by decide) (List.mem_cons_of_mem _ wg237) (by decide) ha0 (dd_at ddX2_readSum 24 rfl) ?_
          refine lv_isub S.1 S.2.1 (dd_at ddX2_readSum 25 rfl) ?_
          exact tb50 v1 a0 ((-1) - (gI d a0 5)) d H locs ls h hw (lv_sub hl [0, 1] rfl)
        · have h := h.2 hc_11
          refine lv_aload_n S.1 S.2.1 (dd_at ddX2_readSum 19 rfl) rfl (lv_at hl 0 rfl) ?_
          refine r_getI S hw 2 6 rfl inG2 (by decide) (List.mem_cons_of_mem _ wg251) (by decide) ha0 (dd_at ddX2_readSum 20 rfl) ?_
          refine lv_goto (tgt := 50) S.1 S.2.1 (dd_at ddX2_readSum 21 rfl) (by decide) ?_
          exact tb50 v1 a0 (gI d a0 6) d H locs ls h hw (lv_sub hl [0, 1] rfl)
      intro v1 d H locs ls h hw hl
      have h : b_X2_readSum_2 E a0 K (l_X2_readSum_2 E a0 K n2) v1 d := h
      unfold b_X2_readSum_2 at h
      refine lv_iload_n S.1 S.2.1 (dd_at ddX2_readSum 2 rfl) rfl (lv_at hl 1 rfl) ?_
      refine lv_sipush (v := 400) S.1 S.2.1 (dd_at ddX2_readSum 3 rfl) (by decide) ?_
      refine lv_icmp_ge (tgt := 88) S.1 S.2.1 (dd_at ddX2_readSum 4 rfl) (by decide) (fun hc_12 => ?_) (fun hc_12 => ?_)
      · have h := h.1 hc_12
        refine lv_iconst (v := 0) S.1 S.2.1 (dd_at ddX2_readSum 44 rfl) (by decide) ?_
        exact e_Z S hr hlocks hw (Or.inl rfl) h (dd_at ddX2_readSum 45 rfl)
      · have h := h.2 hc_12
        refine lv_aload_n S.1 S.2.1 (dd_at ddX2_readSum 5 rfl) rfl (lv_at hl 0 rfl) ?_
        refine r_getI S hw 2 5 rfl inG2 (by decide) (List.mem_cons_of_mem _ wg237) (by decide) ha0 (dd_at ddX2_readSum 6 rfl) ?_
        refine lv_bipush (v := 30) S.1 S.2.1 (dd_at ddX2_readSum 7 rfl) (by decide) ?_
        refine lv_icmp_eq (tgt := 27) S.1 S.2.1 (dd_at ddX2_readSum 8 rfl) (by decide) (fun hc_13 => ?_) (fun hc_13 => ?_)
        · have h := h.1 hc_13
          exact tb27 v1 d H locs ls h hw (lv_sub hl [0, 1] rfl)
        · have h := h.2 hc_13
          refine lv_aload_n S.1 S.2.1 (dd_at ddX2_readSum 9 rfl) rfl (lv_at hl 0 rfl) ?_
          refine r_callI hw (r_runV (As := []) (rest := []) S hw (m_X2_isFact l D cs E d H.size a0 _) (cwV 0 S.2.2.2.2 (gV wg333 wg334 wg335 wg20 wg336) rfl rfl rfl (by decide +kernel) ⟨Nat.le_of_ble_eq_true rfl, Nat.le_of_ble_eq_true rfl⟩) (ci := 2) rfl ha0 h rfl hl.1 rfl (Nat.le_of_ble_eq_true rfl) (dd_at ddX2_readSum 10 rfl) ⟨Nat.le_of_ble_eq_true rfl, Nat.le_of_ble_eq_true rfl⟩) (fun r_15 d_14 H locs h hw => ?_)
          refine lv_if_ne (tgt := 27) S.1 S.2.1 (dd_at ddX2_readSum 11 rfl) (by decide) (fun hc_16 => ?_) (fun hc_16 => ?_)
          · have h := h.1 hc_16
            exact tb27 v1 d_14 H locs ls h hw (lv_sub hl [0, 1] rfl)
          · have h := h.2 hc_16
            refine lv_iconst (v := 0) S.1 S.2.1 (dd_at ddX2_readSum 12 rfl) (by decide) ?_
            exact e_Z S hr hlocks hw (Or.inl rfl) h (dd_at ddX2_readSum 13 rfl)
  refine lv_iconst (v := 0) S.1 S.2.1 (dd_at ddX2_readSum 0 rfl) (by decide) ?_
  refine lv_istore_n (lv' := [(1, .int 0), (0, .ref a0)]) S.1 S.2.1 (dd_at ddX2_readSum 1 rfl) rfl hl (by decide) rfl (fun ls hl => ?_)
  obtain ⟨n_17, h⟩ := h
  exact tl2 n_17 0 d H locs ls h hw (lv_sub hl [1, 0] rfl)

def b_X2_readCondition_78 (E : En) (a0 : Nat) (p1 : Int32) (K : Int32 → Dy → Prop) (kr_X2_readCondition : Nat → Int32 → Dy → (Int32 → Dy → Prop) → Prop) (kr_X2_readAtom : Nat → Int32 → Dy → (Int32 → Dy → Prop) → Prop) (kr_X2_readWithin : Nat → Int32 → Dy → (Int32 → Dy → Prop) → Prop) (k7 : Int32 → Int32 → Int32 → Dy → Prop) (v2 : Int32) (v4 : Int32) (s0 : Int32) (d : Dy) : Prop := ((¬ s0 = 0 → w_X2_next E a0 d (fun d_2 => k7 v2 s0 (v4 + 1) d_2)) ∧ (s0 = 0 → K 1 d))
def b_X2_readCondition_64 (E : En) (a0 : Nat) (p1 : Int32) (K : Int32 → Dy → Prop) (kr_X2_readCondition : Nat → Int32 → Dy → (Int32 → Dy → Prop) → Prop) (kr_X2_readAtom : Nat → Int32 → Dy → (Int32 → Dy → Prop) → Prop) (kr_X2_readWithin : Nat → Int32 → Dy → (Int32 → Dy → Prop) → Prop) (k7 : Int32 → Int32 → Int32 → Dy → Prop) (v2 : Int32) (v4 : Int32) (d : Dy) : Prop := ((¬ (gI d a0 5) = 18 → b_X2_readCondition_78 E a0 p1 K kr_X2_readCondition kr_X2_readAtom kr_X2_readWithin k7 v2 v4 0 d) ∧ ((gI d a0 5) = 18 → b_X2_readCondition_78 E a0 p1 K kr_X2_readCondition kr_X2_readAtom kr_X2_readWithin k7 v2 v4 1 d))
def b_X2_readCondition_49 (E : En) (a0 : Nat) (p1 : Int32) (K : Int32 → Dy → Prop) (kr_X2_readCondition : Nat → Int32 → Dy → (Int32 → Dy → Prop) → Prop) (kr_X2_readAtom : Nat → Int32 → Dy → (Int32 → Dy → Prop) → Prop) (kr_X2_readWithin : Nat → Int32 → Dy → (Int32 → Dy → Prop) → Prop) (k7 : Int32 → Int32 → Int32 → Dy → Prop) (v3 : Int32) (v4 : Int32) (s0 : Int32) (d : Dy) : Prop := ((¬ s0 = 0 → w_X2_next E a0 d (fun d_6 => k7 s0 v3 (v4 + 1) d_6)) ∧ (s0 = 0 → ((v3 = 0 → b_X2_readCondition_64 E a0 p1 K kr_X2_readCondition kr_X2_readAtom kr_X2_readWithin k7 s0 v4 d) ∧ (¬ v3 = 0 → w_X2_emit E a0 (-15) d (fun d_9 => b_X2_readCondition_64 E a0 p1 K kr_X2_readCondition kr_X2_readAtom kr_X2_readWithin k7 s0 v4 d_9)))))
def b_X2_readCondition_35 (E : En) (a0 : Nat) (p1 : Int32) (K : Int32 → Dy → Prop) (kr_X2_readCondition : Nat → Int32 → Dy → (Int32 → Dy → Prop) → Prop) (kr_X2_readAtom : Nat → Int32 → Dy → (Int32 → Dy → Prop) → Prop) (kr_X2_readWithin : Nat → Int32 → Dy → (Int32 → Dy → Prop) → Prop) (k7 : Int32 → Int32 → Int32 → Dy → Prop) (v3 : Int32) (v4 : Int32) (d : Dy) : Prop := ((¬ (gI d a0 5) = 19 → b_X2_readCondition_49 E a0 p1 K kr_X2_readCondition kr_X2_readAtom kr_X2_readWithin k7 v3 v4 0 d) ∧ ((gI d a0 5) = 19 → b_X2_readCondition_49 E a0 p1 K kr_X2_readCondition kr_X2_readAtom kr_X2_readWithin k7 v3 v4 1 d))
def b_X2_readCondition_7 (E : En) (a0 : Nat) (p1 : Int32) (K : Int32 → Dy → Prop) (kr_X2_readCondition : Nat → Int32 → Dy → (Int32 → Dy → Prop) → Prop) (kr_X2_readAtom : Nat → Int32 → Dy → (Int32 → Dy → Prop) → Prop) (kr_X2_readWithin : Nat → Int32 → Dy → (Int32 → Dy → Prop) → Prop) (k7 : Int32 → Int32 → Int32 → Dy → Prop) (v2 : Int32) (v3 : Int32) (v4 : Int32) (d : Dy) : Prop := ((400 ≤ v4 → K 0 d) ∧ (¬ 400 ≤ v4 → kr_X2_readAtom a0 p1 d (fun r_14 d_13 => ((¬ r_14 = 0 → ((v2 = 0 → b_X2_readCondition_35 E a0 p1 K kr_X2_readCondition kr_X2_readAtom kr_X2_readWithin k7 v3 v4 d_13) ∧ (¬ v2 = 0 → w_X2_emit E a0 (-14) d_13 (fun d_17 => b_X2_readCondition_35 E a0 p1 K kr_X2_readCondition kr_X2_readAtom kr_X2_readWithin k7 v3 v4 d_17)))) ∧ (r_14 = 0 → K 0 d_13)))))
def l_X2_readCondition_7 (E : En) (a0 : Nat) (p1 : Int32) (K : Int32 → Dy → Prop) (kr_X2_readCondition : Nat → Int32 → Dy → (Int32 → Dy → Prop) → Prop) (kr_X2_readAtom : Nat → Int32 → Dy → (Int32 → Dy → Prop) → Prop) (kr_X2_readWithin : Nat → Int32 → Dy → (Int32 → Dy → Prop) → Prop) : Nat → Int32 → Int32 → Int32 → Dy → Prop
  | 0 => fun _ _ _ _ => False
  | n + 1 => b_X2_readCondition_7 E a0 p1 K kr_X2_readCondition kr_X2_readAtom kr_X2_readWithin (l_X2_readCondition_7 E a0 p1 K kr_X2_readCondition kr_X2_readAtom kr_X2_readWithin n)
def wb_X2_readCondition (E : En) (a0 : Nat) (p1 : Int32) (d : Dy) (K : Int32 → Dy → Prop) (kr_X2_readCondition : Nat → Int32 → Dy → (Int32 → Dy → Prop) → Prop) (kr_X2_readAtom : Nat → Int32 → Dy → (Int32 → Dy → Prop) → Prop) (kr_X2_readWithin : Nat → Int32 → Dy → (Int32 → Dy → Prop) → Prop) : Prop := okO E a0 2 ∧ (∃ n_19 : Nat, l_X2_readCondition_7 E a0 p1 K kr_X2_readCondition kr_X2_readAtom kr_X2_readWithin n_19 0 0 0 d)
def b_X2_readAtom_47 (E : En) (a0 : Nat) (p1 : Int32) (K : Int32 → Dy → Prop) (kr_X2_readCondition : Nat → Int32 → Dy → (Int32 → Dy → Prop) → Prop) (kr_X2_readAtom : Nat → Int32 → Dy → (Int32 → Dy → Prop) → Prop) (kr_X2_readWithin : Nat → Int32 → Dy → (Int32 → Dy → Prop) → Prop) (d : Dy) : Prop := ((6 ≤ p1 → K 0 d) ∧ (¬ 6 ≤ p1 → kr_X2_readWithin a0 (p1 + 1) d (fun r_3 d_2 => ((r_3 = 0 → K 0 d_2) ∧ (¬ r_3 = 0 → K 1 d_2)))))
def b_X2_readAtom_112 (E : En) (a0 : Nat) (p1 : Int32) (K : Int32 → Dy → Prop) (kr_X2_readCondition : Nat → Int32 → Dy → (Int32 → Dy → Prop) → Prop) (kr_X2_readAtom : Nat → Int32 → Dy → (Int32 → Dy → Prop) → Prop) (kr_X2_readWithin : Nat → Int32 → Dy → (Int32 → Dy → Prop) → Prop) (s0 : Int32) (d : Dy) : Prop := w_X2_next E a0 d (fun d_5 => w_X2_readSum E a0 d_5 (fun r_8 d_7 => w_X2_emit E a0 s0 d_7 (fun d_9 => (r_8 = 0 ∨ r_8 = 1) ∧ K r_8 d_9)))
def b_X2_readAtom_96 (E : En) (a0 : Nat) (p1 : Int32) (K : Int32 → Dy → Prop) (kr_X2_readCondition : Nat → Int32 → Dy → (Int32 → Dy → Prop) → Prop) (kr_X2_readAtom : Nat → Int32 → Dy → (Int32 → Dy → Prop) → Prop) (kr_X2_readWithin : Nat → Int32 → Dy → (Int32 → Dy → Prop) → Prop) (d : Dy) : Prop := ((¬ (gI d a0 5) = 60 → b_X2_readAtom_112 E a0 p1 K kr_X2_readCondition kr_X2_readAtom kr_X2_readWithin (-12) d) ∧ ((gI d a0 5) = 60 → b_X2_readAtom_112 E a0 p1 K kr_X2_readCondition kr_X2_readAtom kr_X2_readWithin (-11) d))
def b_X2_readAtom_29 (E : En) (a0 : Nat) (p1 : Int32) (K : Int32 → Dy → Prop) (kr_X2_readCondition : Nat → Int32 → Dy → (Int32 → Dy → Prop) → Prop) (kr_X2_readAtom : Nat → Int32 → Dy → (Int32 → Dy → Prop) → Prop) (kr_X2_readWithin : Nat → Int32 → Dy → (Int32 → Dy → Prop) → Prop) (d : Dy) : Prop := (((gI d a0 5) = 20 → b_X2_readAtom_47 E a0 p1 K kr_X2_readCondition kr_X2_readAtom kr_X2_readWithin d) ∧ (¬ (gI d a0 5) = 20 → ((¬ (gI d a0 5) = 40 → w_X2_readSum E a0 d (fun r_15 d_14 => ((r_15 = 0 → K 0 d_14) ∧ (¬ r_15 = 0 → (((gI d_14 a0 5) = 60 → b_X2_readAtom_96 E a0 p1 K kr_X2_readCondition kr_X2_readAtom kr_X2_readWithin d_14) ∧ (¬ (gI d_14 a0 5) = 60 → (((gI d_14 a0 5) = 62 → b_X2_readAtom_96 E a0 p1 K kr_X2_readCondition kr_X2_readAtom kr_X2_readWithin d_14) ∧ (¬ (gI d_14 a0 5) = 62 → K 0 d_14)))))))) ∧ ((gI d a0 5) = 40 → b_X2_readAtom_47 E a0 p1 K kr_X2_readCondition kr_X2_readAtom kr_X2_readWithin d))))
def wb_X2_readAtom (E : En) (a0 : Nat) (p1 : Int32) (d : Dy) (K : Int32 → Dy → Prop) (kr_X2_readCondition : Nat → Int32 → Dy → (Int32 → Dy → Prop) → Prop) (kr_X2_readAtom : Nat → Int32 → Dy → (Int32 → Dy → Prop) → Prop) (kr_X2_readWithin : Nat → Int32 → Dy → (Int32 → Dy → Prop) → Prop) : Prop := okO E a0 2 ∧ ((¬ (gI d a0 5) = 8 → b_X2_readAtom_29 E a0 p1 K kr_X2_readCondition kr_X2_readAtom kr_X2_readWithin d) ∧ ((gI d a0 5) = 8 → (((gI d a0 2) = 3 → b_X2_readAtom_29 E a0 p1 K kr_X2_readCondition kr_X2_readAtom kr_X2_readWithin d) ∧ (¬ (gI d a0 2) = 3 → w_X2_emit E a0 (-9) d (fun d_21 => w_X2_next E a0 d_21 (fun d_23 => K 1 d_23))))))
def b_X2_readWithin_14 (E : En) (a0 : Nat) (p1 : Int32) (K : Int32 → Dy → Prop) (kr_X2_readCondition : Nat → Int32 → Dy → (Int32 → Dy → Prop) → Prop) (kr_X2_readAtom : Nat → Int32 → Dy → (Int32 → Dy → Prop) → Prop) (kr_X2_readWithin : Nat → Int32 → Dy → (Int32 → Dy → Prop) → Prop) (s0 : Int32) (d : Dy) : Prop := w_X2_next E a0 d (fun d_1 => ((s0 = 0 → kr_X2_readCondition a0 p1 d_1 (fun r_5 d_4 => ((r_5 = 0 → K 0 d_4) ∧ (¬ r_5 = 0 → (((gI d_4 a0 5) = 41 → w_X2_next E a0 d_4 (fun d_8 => K 1 d_8)) ∧ (¬ (gI d_4 a0 5) = 41 → K 0 d_4)))))) ∧ (¬ s0 = 0 → kr_X2_readAtom a0 p1 d_1 (fun r_11 d_10 => w_X2_emit E a0 (-13) d_10 (fun d_12 => (r_11 = 0 ∨ r_11 = 1) ∧ K r_11 d_12)))))
def wb_X2_readWithin (E : En) (a0 : Nat) (p1 : Int32) (d : Dy) (K : Int32 → Dy → Prop) (kr_X2_readCondition : Nat → Int32 → Dy → (Int32 → Dy → Prop) → Prop) (kr_X2_readAtom : Nat → Int32 → Dy → (Int32 → Dy → Prop) → Prop) (kr_X2_readWithin : Nat → Int32 → Dy → (Int32 → Dy → Prop) → Prop) : Prop := okO E a0 2 ∧ ((¬ (gI d a0 5) = 20 → b_X2_readWithin_14 E a0 p1 K kr_X2_readCondition kr_X2_readAtom kr_X2_readWithin 0 d) ∧ ((gI d a0 5) = 20 → b_X2_readWithin_14 E a0 p1 K kr_X2_readCondition kr_X2_readAtom kr_X2_readWithin 1 d))
def wr_X2_readCondition (E : En) : Nat → (Nat → Int32 → Dy → (Int32 → Dy → Prop) → Prop) × (Nat → Int32 → Dy → (Int32 → Dy → Prop) → Prop) × (Nat → Int32 → Dy → (Int32 → Dy → Prop) → Prop)
  | 0 => ((fun _ _ _ _ => False), (fun _ _ _ _ => False), (fun _ _ _ _ => False))
  | n + 1 => ((fun a0 p1 d K => wb_X2_readCondition E a0 p1 d K (wr_X2_readCondition E n).1 (wr_X2_readCondition E n).2.1 (wr_X2_readCondition E n).2.2), (fun a0 p1 d K => wb_X2_readAtom E a0 p1 d K (wr_X2_readCondition E n).1 (wr_X2_readCondition E n).2.1 (wr_X2_readCondition E n).2.2), (fun a0 p1 d K => wb_X2_readWithin E a0 p1 d K (wr_X2_readCondition E n).1 (wr_X2_readCondition E n).2.1 (wr_X2_readCondition E n).2.2))
abbrev rg_X2_readCondition (n : Nat) : Room := { frames := n + 8, cells := 0, slots := 0, locals := n * 24 + 188 }
def w_X2_readCondition (E : En) (a0 : Nat) (p1 : Int32) (d : Dy) (K : Int32 → Dy → Prop) : Prop := (wr_X2_readCondition E 60).1 a0 p1 d K
abbrev rm_X2_readCondition : Room := rg_X2_readCondition 60
def w_X2_readAtom (E : En) (a0 : Nat) (p1 : Int32) (d : Dy) (K : Int32 → Dy → Prop) : Prop := (wr_X2_readCondition E 60).2.1 a0 p1 d K
abbrev rm_X2_readAtom : Room := rg_X2_readCondition 60
def w_X2_readWithin (E : En) (a0 : Nat) (p1 : Int32) (d : Dy) (K : Int32 → Dy → Prop) : Prop := (wr_X2_readCondition E 60).2.2 a0 p1 d K
abbrev rm_X2_readWithin : Room := rg_X2_readCondition 60
set_option maxRecDepth 100000 in
set_option maxHeartbeats 4000000 in
theorem mg_X2_readCondition (l : Launch) : ∀ nn : Nat, (∀ (D : va_G) (cs : Nat → ClassId) (E : En) (d : Dy) (sz : Nat) (a0 : Nat) (p1 : Int32) (K : Int32 → Dy → Prop), CI l yX2_readCondition (.code yX2_readCondition cX2_readCondition 5 (some .boolean) :: wsL_law) (rg_X2_readCondition (nn)) D cs E d sz [.ref a0, .int p1] ((wr_X2_readCondition E (nn)).1 a0 p1 d K) K) ∧ (∀ (D : va_G) (cs : Nat → ClassId) (E : En) (d : Dy) (sz : Nat) (a0 : Nat) (p1 : Int32) (K : Int32 → Dy → Prop), CI l yX2_readAtom (.code yX2_readAtom cX2_readAtom 4 (some .boolean) :: wsL_law) (rg_X2_readCondition (nn)) D cs E d sz [.ref a0, .int p1] ((wr_X2_readCondition E (nn)).2.1 a0 p1 d K) K) ∧ (∀ (D : va_G) (cs : Nat → ClassId) (E : En) (d : Dy) (sz : Nat) (a0 : Nat) (p1 : Int32) (K : Int32 → Dy → Prop), CI l yX2_readWithin (.code yX2_readWithin cX2_readWithin 4 (some .boolean) :: wsL_law) (rg_X2_readCondition (nn)) D cs E d sz [.ref a0, .int p1] ((wr_X2_readCondition E (nn)).2.2 a0 p1 d K) K) := by
  intro nn
  induction nn with
  | zero => exact ⟨(fun D cs E d sz a0 p1 K => e_false (by decide) rfl), (fun D cs E d sz a0 p1 K => e_false (by decide) rfl), (fun D cs E d sz a0 p1 K => e_false (by decide) rfl)⟩
  | succ nn ih =>
    refine ⟨?_, ?_, ?_⟩
    · intro D cs E d sz a0 p1 K
      refine e_of (cc := cX2_readCondition) (maxL := 5) (ret := (some .boolean)) (own := RX2) (by decide) rfl rfl (Nat.le_of_ble_eq_true rfl) ?_
      intro p e s m below meth c S hr hlocks hsz H locs hw h ls hl
      have hl : lv_has ls 5 [(0, .ref a0), (1, .int p1)] := hl
      have h : wb_X2_readCondition E a0 p1 d K (wr_X2_readCondition E nn).1 (wr_X2_readCondition E nn).2.1 (wr_X2_readCondition E nn).2.2 := h
      unfold wb_X2_readCondition at h
      obtain ⟨ha0, h⟩ := h
      have tl7 : ∀ (n : Nat) (v2 : Int32) (v3 : Int32) (v4 : Int32) (d : Dy) (H : Heap) (locs : List Loc) (ls : Array Slot), l_X2_readCondition_7 E a0 p1 K (wr_X2_readCondition E nn).1 (wr_X2_readCondition E nn).2.1 (wr_X2_readCondition E nn).2.2 n v2 v3 v4 d → Wd D cs (AW E sz) s.heap s E d H locs → lv_has ls 5 [(0, .ref a0), (1, .int p1), (2, .int v2), (3, .int v3), (4, .int v4)] → W p l e (rg_X2_readCondition (nn + 1)) s m ([.ref a0, .int p1] : List Value).toArray below meth c H locs 0 0 (MQ below (va_Qi K (OutW D cs E (AW E sz)) (AW E sz)) ([.ref a0, .int p1] : List Value).toArray s (rg_X2_readCondition (nn + 1)).cells (rg_X2_readCondition (nn + 1)).slots (AW E sz)) (F0 m 7 ls []) := by
        intro n7
        induction n7 with
        | zero => intro v2 v3 v4 d H locs ls h; exact absurd h id
        | succ n7 ih7 =>
          have tb78 : ∀ (v2 : Int32) (v4 : Int32) (s0 : Int32) (d : Dy) (H : Heap) (locs : List Loc) (ls : Array Slot), b_X2_readCondition_78 E a0 p1 K (wr_X2_readCondition E nn).1 (wr_X2_readCondition E nn).2.1 (wr_X2_readCondition E nn).2.2 (l_X2_readCondition_7 E a0 p1 K (wr_X2_readCondition E nn).1 (wr_X2_readCondition E nn).2.1 (wr_X2_readCondition E nn).2.2 n7) v2 v4 s0 d → Wd D cs (AW E sz) s.heap s E d H locs → lv_has ls 5 [(0, .ref a0), (1, .int p1), (2, .int v2), (4, .int v4)] → W p l e (rg_X2_readCondition (nn + 1)) s m ([.ref a0, .int p1] : List Value).toArray below meth c H locs 0 0 (MQ below (va_Qi K (OutW D cs E (AW E sz)) (AW E sz)) ([.ref a0, .int p1] : List Value).toArray s (rg_X2_readCondition (nn + 1)).cells (rg_X2_readCondition (nn + 1)).slots (AW E sz)) (F0 m 78 ls [.int s0]) := by
            intro v2 v4 s0 d H locs ls h hw hl
            unfold b_X2_readCondition_78 at h
            refine lv_istore_n (lv' := [(3, .int s0), (0, .ref a0), (1, .int p1), (2, .int v2), (4, .int v4)]) S.1 S.2.1 (dd_at ddX2_readCondition 42 rfl) rfl hl (by decide) rfl (fun ls hl => ?_)
            refine lv_iload_n S.1 S.2.1 (dd_at ddX2_readCondition 43 rfl) rfl (lv_at hl 0 rfl) ?_
            refine lv_if_ne (tgt := 85) S.1 S.2.1 (dd_at ddX2_readCondition 44 rfl) (by decide) (fun hc_1 => ?_) (fun hc_1 => ?_)
            · have h := h.1 hc_1
              refine lv_aload_n S.1 S.2.1 (dd_at ddX2_readCondition 47 rfl) rfl (lv_at hl 1 rfl) ?_
              refine r_callV hw (r_runV (As := []) (rest := []) S hw (m_X2_next l D cs E d H.size a0 _) (cwV 0 S.2.2.2.2 (gV wg242 wg243 wg244 wg20 wg245) rfl rfl rfl (by decide +kernel) ⟨rl (m := nn + 1) (F := 8) rfl, rl (m := (nn + 1) * 24) (F := 188) rfl⟩) (ci := 2) rfl ha0 h rfl hl.1 rfl (Nat.le_of_ble_eq_true rfl) (dd_at ddX2_readCondition 48 rfl) ⟨Nat.le_of_ble_eq_true rfl, Nat.le_of_ble_eq_true rfl⟩) (fun d_2 H locs h hw => ?_)
              refine lv_iinc (v := v4 + 1) (lv' := [(4, .int (v4 + 1)), (3, .int s0), (0, .ref a0), (1, .int p1), (2, .int v2)]) S.1 S.2.1 (dd_at ddX2_readCondition 49 rfl) hl (k := 4) rfl rfl (by decide) rfl (fun ls hl => ?_)
              refine lv_goto (tgt := 7) S.1 S.2.1 (dd_at ddX2_readCondition 50 rfl) (by decide) ?_
              exact ih7 v2 s0 (v4 + 1) d_2 H locs ls h hw (lv_sub hl [2, 3, 4, 1, 0] rfl)
            · have h := h.2 hc_1
              refine lv_iconst (v := 1) S.1 S.2.1 (dd_at ddX2_readCondition 45 rfl) (by decide) ?_
              exact e_Z S hr hlocks hw (Or.inr rfl) h (dd_at ddX2_readCondition 46 rfl)
          have tb64 : ∀ (v2 : Int32) (v4 : Int32) (d : Dy) (H : Heap) (locs : List Loc) (ls : Array Slot), b_X2_readCondition_64 E a0 p1 K (wr_X2_readCondition E nn).1 (wr_X2_readCondition E nn).2.1 (wr_X2_readCondition E nn).2.2 (l_X2_readCondition_7 E a0 p1 K (wr_X2_readCondition E nn).1 (wr_X2_readCondition E nn).2.1 (wr_X2_readCondition E nn).2.2 n7) v2 v4 d → Wd D cs (AW E sz) s.heap s E d H locs → lv_has ls 5 [(0, .ref a0), (1, .int p1), (2, .int v2), (4, .int v4)] → W p l e (rg_X2_readCondition (nn + 1)) s m ([.ref a0, .int p1] : List Value).toArray below meth c H locs 0 0 (MQ below (va_Qi K (OutW D cs E (AW E sz)) (AW E sz)) ([.ref a0, .int p1] : List Value).toArray s (rg_X2_readCondition (nn + 1)).cells (rg_X2_readCondition (nn + 1)).slots (AW E sz)) (F0 m 64 ls []) := by
            intro v2 v4 d H locs ls h hw hl
            unfold b_X2_readCondition_64 at h
            refine lv_aload_n S.1 S.2.1 (dd_at ddX2_readCondition 35 rfl) rfl (lv_at hl 0 rfl) ?_
            refine r_getI S hw 2 5 rfl inG2 (by decide) (List.mem_cons_of_mem _ wg237) (by decide) ha0 (dd_at ddX2_readCondition 36 rfl) ?_
            refine lv_bipush (v := 18) S.1 S.2.1 (dd_at ddX2_readCondition 37 rfl) (by decide) ?_
            refine lv_icmp_ne (tgt := 77) S.1 S.2.1 (dd_at ddX2_readCondition 38 rfl) (by decide) (fun hc_4 => ?_) (fun hc_4 => ?_)
            · have h := h.1 hc_4
              refine lv_iconst (v := 0) S.1 S.2.1 (dd_at ddX2_readCondition 41 rfl) (by decide) ?_
              exact tb78 v2 v4 0 d H locs ls h hw (lv_sub hl [0, 1, 2, 3] rfl)
            · have h := h.2 hc_4
              refine lv_iconst (v := 1) S.1 S.2.1 (dd_at ddX2_readCondition 39 rfl) (by decide) ?_
              refine lv_goto (tgt := 78) S.1 S.2.1 (dd_at ddX2_readCondition 40 rfl) (by decide) ?_
              exact tb78 v2 v4 1 d H locs ls h hw (lv_sub hl [0, 1, 2, 3] rfl)
          have tb49 : ∀ (v3 : Int32) (v4 : Int32) (s0 : Int32) (d : Dy) (H : Heap) (locs : List Loc) (ls : Array Slot), b_X2_readCondition_49 E a0 p1 K (wr_X2_readCondition E nn).1 (wr_X2_readCondition E nn).2.1 (wr_X2_readCondition E nn).2.2 (l_X2_readCondition_7 E a0 p1 K (wr_X2_readCondition E nn).1 (wr_X2_readCondition E nn).2.1 (wr_X2_readCondition E nn).2.2 n7) v3 v4 s0 d → Wd D cs (AW E sz) s.heap s E d H locs → lv_has ls 5 [(0, .ref a0), (1, .int p1), (3, .int v3), (4, .int v4)] → W p l e (rg_X2_readCondition (nn + 1)) s m ([.ref a0, .int p1] : List Value).toArray below meth c H locs 0 0 (MQ below (va_Qi K (OutW D cs E (AW E sz)) (AW E sz)) ([.ref a0, .int p1] : List Value).toArray s (rg_X2_readCondition (nn + 1)).cells (rg_X2_readCondition (nn + 1)).slots (AW E sz)) (F0 m 49 ls [.int s0]) := by
            intro v3 v4 s0 d H locs ls h hw hl
            unfold b_X2_readCondition_49 at h
            refine lv_istore_n (lv' := [(2, .int s0), (0, .ref a0), (1, .int p1), (3, .int v3), (4, .int v4)]) S.1 S.2.1 (dd_at ddX2_readCondition 27 rfl) rfl hl (by decide) rfl (fun ls hl => ?_)
            refine lv_iload_n S.1 S.2.1 (dd_at ddX2_readCondition 28 rfl) rfl (lv_at hl 0 rfl) ?_
            refine lv_if_ne (tgt := 85) S.1 S.2.1 (dd_at ddX2_readCondition 29 rfl) (by decide) (fun hc_5 => ?_) (fun hc_5 => ?_)
            · have h := h.1 hc_5
              refine lv_aload_n S.1 S.2.1 (dd_at ddX2_readCondition 47 rfl) rfl (lv_at hl 1 rfl) ?_
              refine r_callV hw (r_runV (As := []) (rest := []) S hw (m_X2_next l D cs E d H.size a0 _) (cwV 0 S.2.2.2.2 (gV wg242 wg243 wg244 wg20 wg245) rfl rfl rfl (by decide +kernel) ⟨rl (m := nn + 1) (F := 8) rfl, rl (m := (nn + 1) * 24) (F := 188) rfl⟩) (ci := 2) rfl ha0 h rfl hl.1 rfl (Nat.le_of_ble_eq_true rfl) (dd_at ddX2_readCondition 48 rfl) ⟨Nat.le_of_ble_eq_true rfl, Nat.le_of_ble_eq_true rfl⟩) (fun d_6 H locs h hw => ?_)
              refine lv_iinc (v := v4 + 1) (lv' := [(4, .int (v4 + 1)), (2, .int s0), (0, .ref a0), (1, .int p1), (3, .int v3)]) S.1 S.2.1 (dd_at ddX2_readCondition 49 rfl) hl (k := 4) rfl rfl (by decide) rfl (fun ls hl => ?_)
              refine lv_goto (tgt := 7) S.1 S.2.1 (dd_at ddX2_readCondition 50 rfl) (by decide) ?_
              exact ih7 s0 v3 (v4 + 1) d_6 H locs ls h hw (lv_sub hl [2, 3, 1, 4, 0] rfl)
            · have h := h.2 hc_5
              refine lv_iload_n S.1 S.2.1 (dd_at ddX2_readCondition 30 rfl) rfl (lv_at hl 3 rfl) ?_
              refine lv_if_eq (tgt := 64) S.1 S.2.1 (dd_at ddX2_readCondition 31 rfl) (by decide) (fun hc_8 => ?_) (fun hc_8 => ?_)
              · have h := h.1 hc_8
                exact tb64 s0 v4 d H locs ls h hw (lv_sub hl [1, 2, 0, 4] rfl)
              · have h := h.2 hc_8
                refine lv_aload_n S.1 S.2.1 (dd_at ddX2_readCondition 32 rfl) rfl (lv_at hl 1 rfl) ?_
                refine lv_bipush (v := -15) S.1 S.2.1 (dd_at ddX2_readCondition 33 rfl) (by decide) ?_
                refine r_callV hw (r_runV (As := [.int (-15)]) (rest := []) S hw (m_X2_emit l D cs E d H.size a0 (-15) _) (cwV 1 S.2.2.2.2 (gV wg344 wg345 wg346 wg20 wg347) rfl rfl rfl (by decide +kernel) ⟨rl (m := nn + 1) (F := 8) rfl, rl (m := (nn + 1) * 24) (F := 188) rfl⟩) (ci := 2) rfl ha0 h rfl hl.1 rfl (Nat.le_of_ble_eq_true rfl) (dd_at ddX2_readCondition 34 rfl) ⟨Nat.le_of_ble_eq_true rfl, Nat.le_of_ble_eq_true rfl⟩) (fun d_9 H locs h hw => ?_)
                exact tb64 s0 v4 d_9 H locs ls h hw (lv_sub hl [1, 2, 0, 4] rfl)
          have tb35 : ∀ (v3 : Int32) (v4 : Int32) (d : Dy) (H : Heap) (locs : List Loc) (ls : Array Slot), b_X2_readCondition_35 E a0 p1 K (wr_X2_readCondition E nn).1 (wr_X2_readCondition E nn).2.1 (wr_X2_readCondition E nn).2.2 (l_X2_readCondition_7 E a0 p1 K (wr_X2_readCondition E nn).1 (wr_X2_readCondition E nn).2.1 (wr_X2_readCondition E nn).2.2 n7) v3 v4 d → Wd D cs (AW E sz) s.heap s E d H locs → lv_has ls 5 [(0, .ref a0), (1, .int p1), (3, .int v3), (4, .int v4)] → W p l e (rg_X2_readCondition (nn + 1)) s m ([.ref a0, .int p1] : List Value).toArray below meth c H locs 0 0 (MQ below (va_Qi K (OutW D cs E (AW E sz)) (AW E sz)) ([.ref a0, .int p1] : List Value).toArray s (rg_X2_readCondition (nn + 1)).cells (rg_X2_readCondition (nn + 1)).slots (AW E sz)) (F0 m 35 ls []) := by
            intro v3 v4 d H locs ls h hw hl
            unfold b_X2_readCondition_35 at h
            refine lv_aload_n S.1 S.2.1 (dd_at ddX2_readCondition 20 rfl) rfl (lv_at hl 0 rfl) ?_
            refine r_getI S hw 2 5 rfl inG2 (by decide) (List.mem_cons_of_mem _ wg237) (by decide) ha0 (dd_at ddX2_readCondition 21 rfl) ?_
            refine lv_bipush (v := 19) S.1 S.2.1 (dd_at ddX2_readCondition 22 rfl) (by decide) ?_
            refine lv_icmp_ne (tgt := 48) S.1 S.2.1 (dd_at ddX2_readCondition 23 rfl) (by decide) (fun hc_11 => ?_) (fun hc_11 => ?_)
            · have h := h.1 hc_11
              refine lv_iconst (v := 0) S.1 S.2.1 (dd_at ddX2_readCondition 26 rfl) (by decide) ?_
              exact tb49 v3 v4 0 d H locs ls h hw (lv_sub hl [0, 1, 2, 3] rfl)
            · have h := h.2 hc_11
              refine lv_iconst (v := 1) S.1 S.2.1 (dd_at ddX2_readCondition 24 rfl) (by decide) ?_
              refine lv_goto (tgt := 49) S.1 S.2.1 (dd_at ddX2_readCondition 25 rfl) (by decide) ?_
              exact tb49 v3 v4 1 d H locs ls h hw (lv_sub hl [0, 1, 2, 3] rfl)
          intro v2 v3 v4 d H locs ls h hw hl
          have h : b_X2_readCondition_7 E a0 p1 K (wr_X2_readCondition E nn).1 (wr_X2_readCondition E nn).2.1 (wr_X2_readCondition E nn).2.2 (l_X2_readCondition_7 E a0 p1 K (wr_X2_readCondition E nn).1 (wr_X2_readCondition E nn).2.1 (wr_X2_readCondition E nn).2.2 n7) v2 v3 v4 d := h
          unfold b_X2_readCondition_7 at h
          refine lv_iload S.1 S.2.1 (dd_at ddX2_readCondition 6 rfl) (lv_at hl 4 rfl) ?_
          refine lv_sipush (v := 400) S.1 S.2.1 (dd_at ddX2_readCondition 7 rfl) (by decide) ?_
          refine lv_icmp_ge (tgt := 95) S.1 S.2.1 (dd_at ddX2_readCondition 8 rfl) (by decide) (fun hc_12 => ?_) (fun hc_12 => ?_)
          · have h := h.1 hc_12
            refine lv_iconst (v := 0) S.1 S.2.1 (dd_at ddX2_readCondition 51 rfl) (by decide) ?_
            exact e_Z S hr hlocks hw (Or.inl rfl) h (dd_at ddX2_readCondition 52 rfl)
          · have h := h.2 hc_12
            refine lv_aload_n S.1 S.2.1 (dd_at ddX2_readCondition 9 rfl) rfl (lv_at hl 0 rfl) ?_
            refine lv_iload_n S.1 S.2.1 (dd_at ddX2_readCondition 10 rfl) rfl (lv_at hl 1 rfl) ?_
            refine r_callI hw (r_runV (As := [.int p1]) (rest := []) S hw (ih.2.1 D cs E d H.size a0 p1 _) (cwV 1 S.2.2.2.2 (gV wg341 wg342 wg343 wg20 wg348) rfl rfl rfl (by decide +kernel) ⟨by show nn + 8 + 1 ≤ nn + 1 + 8; omega, by show 8 + (4 + 11) + (nn * 24 + 188) ≤ (nn + 1) * 24 + 188; omega⟩) (ci := 2) rfl ha0 h rfl hl.1 rfl (Nat.le_of_ble_eq_true rfl) (dd_at ddX2_readCondition 11 rfl) ⟨Nat.le_of_ble_eq_true rfl, Nat.le_of_ble_eq_true rfl⟩) (fun r_14 d_13 H locs h hw => ?_)
            refine lv_if_ne (tgt := 25) S.1 S.2.1 (dd_at ddX2_readCondition 12 rfl) (by decide) (fun hc_15 => ?_) (fun hc_15 => ?_)
            · have h := h.1 hc_15
              refine lv_iload_n S.1 S.2.1 (dd_at ddX2_readCondition 15 rfl) rfl (lv_at hl 2 rfl) ?_
              refine lv_if_eq (tgt := 35) S.1 S.2.1 (dd_at ddX2_readCondition 16 rfl) (by decide) (fun hc_16 => ?_) (fun hc_16 => ?_)
              · have h := h.1 hc_16
                exact tb35 v3 v4 d_13 H locs ls h hw (lv_sub hl [0, 1, 3, 4] rfl)
              · have h := h.2 hc_16
                refine lv_aload_n S.1 S.2.1 (dd_at ddX2_readCondition 17 rfl) rfl (lv_at hl 0 rfl) ?_
                refine lv_bipush (v := -14) S.1 S.2.1 (dd_at ddX2_readCondition 18 rfl) (by decide) ?_
                refine r_callV hw (r_runV (As := [.int (-14)]) (rest := []) S hw (m_X2_emit l D cs E d_13 H.size a0 (-14) _) (cwV 1 S.2.2.2.2 (gV wg344 wg345 wg346 wg20 wg347) rfl rfl rfl (by decide +kernel) ⟨rl (m := nn + 1) (F := 8) rfl, rl (m := (nn + 1) * 24) (F := 188) rfl⟩) (ci := 2) rfl ha0 h rfl hl.1 rfl (Nat.le_of_ble_eq_true rfl) (dd_at ddX2_readCondition 19 rfl) ⟨Nat.le_of_ble_eq_true rfl, Nat.le_of_ble_eq_true rfl⟩) (fun d_17 H locs h hw => ?_)
                exact tb35 v3 v4 d_17 H locs ls h hw (lv_sub hl [0, 1, 3, 4] rfl)
            · have h := h.2 hc_15
              refine lv_iconst (v := 0) S.1 S.2.1 (dd_at ddX2_readCondition 13 rfl) (by decide) ?_
              exact e_Z S hr hlocks hw (Or.inl rfl) h (dd_at ddX2_readCondition 14 rfl)
      refine lv_iconst (v := 0) S.1 S.2.1 (dd_at ddX2_readCondition 0 rfl) (by decide) ?_
      refine lv_istore_n (lv' := [(2, .int 0), (0, .ref a0), (1, .int p1)]) S.1 S.2.1 (dd_at ddX2_readCondition 1 rfl) rfl hl (by decide) rfl (fun ls hl => ?_)
      refine lv_iconst (v := 0) S.1 S.2.1 (dd_at ddX2_readCondition 2 rfl) (by decide) ?_
      refine lv_istore_n (lv' := [(3, .int 0), (2, .int 0), (0, .ref a0), (1, .int p1)]) S.1 S.2.1 (dd_at ddX2_readCondition 3 rfl) rfl hl (by decide) rfl (fun ls hl => ?_)
      refine lv_iconst (v := 0) S.1 S.2.1 (dd_at ddX2_readCondition 4 rfl) (by decide) ?_
      refine lv_istore (lv' := [(4, .int 0), (3, .int 0), (2, .int 0), (0, .ref a0), (1, .int p1)]) S.1 S.2.1 (dd_at ddX2_readCondition 5 rfl) hl (by decide) rfl (fun ls hl => ?_)
      obtain ⟨n_19, h⟩ := h
      exact tl7 n_19 0 0 0 d H locs ls h hw (lv_sub hl [3, 4, 2, 1, 0] rfl)
    · intro D cs E d sz a0 p1 K
      refine e_of (cc := cX2_readAtom) (maxL := 4) (ret := (some .boolean)) (own := RX2) (by decide) rfl rfl (Nat.le_of_ble_eq_true rfl) ?_
      intro p e s m below meth c S hr hlocks hsz H locs hw h ls hl
      have hl : lv_has ls 4 [(0, .ref a0), (1, .int p1)] := hl
      have h : wb_X2_readAtom E a0 p1 d K (wr_X2_readCondition E nn).1 (wr_X2_readCondition E nn).2.1 (wr_X2_readCondition E nn).2.2 := h
      unfold wb_X2_readAtom at h
      obtain ⟨ha0, h⟩ := h
      have tb47 : ∀ (d : Dy) (H : Heap) (locs : List Loc) (ls : Array Slot), b_X2_readAtom_47 E a0 p1 K (wr_X2_readCondition E nn).1 (wr_X2_readCondition E nn).2.1 (wr_X2_readCondition E nn).2.2 d → Wd D cs (AW E sz) s.heap s E d H locs → lv_has ls 4 [(0, .ref a0), (1, .int p1)] → W p l e (rg_X2_readCondition (nn + 1)) s m ([.ref a0, .int p1] : List Value).toArray below meth c H locs 0 0 (MQ below (va_Qi K (OutW D cs E (AW E sz)) (AW E sz)) ([.ref a0, .int p1] : List Value).toArray s (rg_X2_readCondition (nn + 1)).cells (rg_X2_readCondition (nn + 1)).slots (AW E sz)) (F0 m 47 ls []) := by
        intro d H locs ls h hw hl
        unfold b_X2_readAtom_47 at h
        refine lv_iload_n S.1 S.2.1 (dd_at ddX2_readAtom 23 rfl) rfl (lv_at hl 1 rfl) ?_
        refine lv_bipush (v := 6) S.1 S.2.1 (dd_at ddX2_readAtom 24 rfl) (by decide) ?_
        refine lv_icmp_ge (tgt := 67) S.1 S.2.1 (dd_at ddX2_readAtom 25 rfl) (by decide) (fun hc_1 => ?_) (fun hc_1 => ?_)
        · have h := h.1 hc_1
          refine lv_iconst (v := 0) S.1 S.2.1 (dd_at ddX2_readAtom 34 rfl) (by decide) ?_
          exact e_Z S hr hlocks hw (Or.inl rfl) h (dd_at ddX2_readAtom 35 rfl)
        · have h := h.2 hc_1
          refine lv_aload_n S.1 S.2.1 (dd_at ddX2_readAtom 26 rfl) rfl (lv_at hl 0 rfl) ?_
          refine lv_iload_n S.1 S.2.1 (dd_at ddX2_readAtom 27 rfl) rfl (lv_at hl 1 rfl) ?_
          refine lv_iconst (v := 1) S.1 S.2.1 (dd_at ddX2_readAtom 28 rfl) (by decide) ?_
          refine lv_iadd S.1 S.2.1 (dd_at ddX2_readAtom 29 rfl) ?_
          refine r_callI hw (r_runV (As := [.int (p1 + 1)]) (rest := []) S hw (ih.2.2 D cs E d H.size a0 (p1 + 1) _) (cwV 1 S.2.2.2.2 (gV wg349 wg350 wg351 wg20 wg356) rfl rfl rfl (by decide +kernel) ⟨by show nn + 8 + 1 ≤ nn + 1 + 8; omega, by show 8 + (4 + 11) + (nn * 24 + 188) ≤ (nn + 1) * 24 + 188; omega⟩) (ci := 2) rfl ha0 h rfl hl.1 rfl (Nat.le_of_ble_eq_true rfl) (dd_at ddX2_readAtom 30 rfl) ⟨Nat.le_of_ble_eq_true rfl, Nat.le_of_ble_eq_true rfl⟩) (fun r_3 d_2 H locs h hw => ?_)
          refine lv_if_eq (tgt := 67) S.1 S.2.1 (dd_at ddX2_readAtom 31 rfl) (by decide) (fun hc_4 => ?_) (fun hc_4 => ?_)
          · have h := h.1 hc_4
            refine lv_iconst (v := 0) S.1 S.2.1 (dd_at ddX2_readAtom 34 rfl) (by decide) ?_
            exact e_Z S hr hlocks hw (Or.inl rfl) h (dd_at ddX2_readAtom 35 rfl)
          · have h := h.2 hc_4
            refine lv_iconst (v := 1) S.1 S.2.1 (dd_at ddX2_readAtom 32 rfl) (by decide) ?_
            refine lv_goto (tgt := 68) S.1 S.2.1 (dd_at ddX2_readAtom 33 rfl) (by decide) ?_
            exact e_Z S hr hlocks hw (Or.inr rfl) h (dd_at ddX2_readAtom 35 rfl)
      have tb112 : ∀ (s0 : Int32) (d : Dy) (H : Heap) (locs : List Loc) (ls : Array Slot), b_X2_readAtom_112 E a0 p1 K (wr_X2_readCondition E nn).1 (wr_X2_readCondition E nn).2.1 (wr_X2_readCondition E nn).2.2 s0 d → Wd D cs (AW E sz) s.heap s E d H locs → lv_has ls 4 [(0, .ref a0)] → W p l e (rg_X2_readCondition (nn + 1)) s m ([.ref a0, .int p1] : List Value).toArray below meth c H locs 0 0 (MQ below (va_Qi K (OutW D cs E (AW E sz)) (AW E sz)) ([.ref a0, .int p1] : List Value).toArray s (rg_X2_readCondition (nn + 1)).cells (rg_X2_readCondition (nn + 1)).slots (AW E sz)) (F0 m 112 ls [.int s0]) := by
        intro s0 d H locs ls h hw hl
        unfold b_X2_readAtom_112 at h
        refine lv_istore_n (lv' := [(2, .int s0), (0, .ref a0)]) S.1 S.2.1 (dd_at ddX2_readAtom 56 rfl) rfl hl (by decide) rfl (fun ls hl => ?_)
        refine lv_aload_n S.1 S.2.1 (dd_at ddX2_readAtom 57 rfl) rfl (lv_at hl 1 rfl) ?_
        refine r_callV hw (r_runV (As := []) (rest := []) S hw (m_X2_next l D cs E d H.size a0 _) (cwV 0 S.2.2.2.2 (gV wg242 wg243 wg244 wg20 wg245) rfl rfl rfl (by decide +kernel) ⟨rl (m := nn + 1) (F := 8) rfl, rl (m := (nn + 1) * 24) (F := 188) rfl⟩) (ci := 2) rfl ha0 h rfl hl.1 rfl (Nat.le_of_ble_eq_true rfl) (dd_at ddX2_readAtom 58 rfl) ⟨Nat.le_of_ble_eq_true rfl, Nat.le_of_ble_eq_true rfl⟩) (fun d_5 H locs h hw => ?_)
        refine lv_aload_n S.1 S.2.1 (dd_at ddX2_readAtom 59 rfl) rfl (lv_at hl 1 rfl) ?_
        refine r_callI hw (r_runV (As := []) (rest := []) S hw (m_X2_readSum l D cs E d_5 H.size a0 _) (cwV 0 S.2.2.2.2 (gV wg352 wg353 wg354 wg20 wg355) rfl rfl rfl (by decide +kernel) ⟨rl (m := nn + 1) (F := 8) rfl, rl (m := (nn + 1) * 24) (F := 188) rfl⟩) (ci := 2) rfl ha0 h rfl hl.1 rfl (Nat.le_of_ble_eq_true rfl) (dd_at ddX2_readAtom 60 rfl) ⟨Nat.le_of_ble_eq_true rfl, Nat.le_of_ble_eq_true rfl⟩) (fun r_8 d_7 H locs h hw => ?_)
        refine lv_istore_n (lv' := [(3, .int r_8), (2, .int s0), (0, .ref a0)]) S.1 S.2.1 (dd_at ddX2_readAtom 61 rfl) rfl hl (by decide) rfl (fun ls hl => ?_)
        refine lv_aload_n S.1 S.2.1 (dd_at ddX2_readAtom 62 rfl) rfl (lv_at hl 2 rfl) ?_
        refine lv_iload_n S.1 S.2.1 (dd_at ddX2_readAtom 63 rfl) rfl (lv_at hl 1 rfl) ?_
        refine r_callV hw (r_runV (As := [.int s0]) (rest := []) S hw (m_X2_emit l D cs E d_7 H.size a0 s0 _) (cwV 1 S.2.2.2.2 (gV wg344 wg345 wg346 wg20 wg347) rfl rfl rfl (by decide +kernel) ⟨rl (m := nn + 1) (F := 8) rfl, rl (m := (nn + 1) * 24) (F := 188) rfl⟩) (ci := 2) rfl ha0 h rfl hl.1 rfl (Nat.le_of_ble_eq_true rfl) (dd_at ddX2_readAtom 64 rfl) ⟨Nat.le_of_ble_eq_true rfl, Nat.le_of_ble_eq_true rfl⟩) (fun d_9 H locs h hw => ?_)
        refine lv_iload_n S.1 S.2.1 (dd_at ddX2_readAtom 65 rfl) rfl (lv_at hl 0 rfl) ?_
        exact e_Z S hr hlocks hw h.1 h.2 (dd_at ddX2_readAtom 66 rfl)
      have tb96 : ∀ (d : Dy) (H : Heap) (locs : List Loc) (ls : Array Slot), b_X2_readAtom_96 E a0 p1 K (wr_X2_readCondition E nn).1 (wr_X2_readCondition E nn).2.1 (wr_X2_readCondition E nn).2.2 d → Wd D cs (AW E sz) s.heap s E d H locs → lv_has ls 4 [(0, .ref a0)] → W p l e (rg_X2_readCondition (nn + 1)) s m ([.ref a0, .int p1] : List Value).toArray below meth c H locs 0 0 (MQ below (va_Qi K (OutW D cs E (AW E sz)) (AW E sz)) ([.ref a0, .int p1] : List Value).toArray s (rg_X2_readCondition (nn + 1)).cells (rg_X2_readCondition (nn + 1)).slots (AW E sz)) (F0 m 96 ls []) := by
        intro d H locs ls h hw hl
        unfold b_X2_readAtom_96 at h
        refine lv_aload_n S.1 S.2.1 (dd_at ddX2_readAtom 49 rfl) rfl (lv_at hl 0 rfl) ?_
        refine r_getI S hw 2 5 rfl inG2 (by decide) (List.mem_cons_of_mem _ wg237) (by decide) ha0 (dd_at ddX2_readAtom 50 rfl) ?_
        refine lv_bipush (v := 60) S.1 S.2.1 (dd_at ddX2_readAtom 51 rfl) (by decide) ?_
        refine lv_icmp_ne (tgt := 110) S.1 S.2.1 (dd_at ddX2_readAtom 52 rfl) (by decide) (fun hc_11 => ?_) (fun hc_11 => ?_)
        · have h := h.1 hc_11
          refine lv_bipush (v := -12) S.1 S.2.1 (dd_at ddX2_readAtom 55 rfl) (by decide) ?_
          exact tb112 (-12) d H locs ls h hw (lv_sub hl [0] rfl)
        · have h := h.2 hc_11
          refine lv_bipush (v := -11) S.1 S.2.1 (dd_at ddX2_readAtom 53 rfl) (by decide) ?_
          refine lv_goto (tgt := 112) S.1 S.2.1 (dd_at ddX2_readAtom 54 rfl) (by decide) ?_
          exact tb112 (-11) d H locs ls h hw (lv_sub hl [0] rfl)
      have tb29 : ∀ (d : Dy) (H : Heap) (locs : List Loc) (ls : Array Slot), b_X2_readAtom_29 E a0 p1 K (wr_X2_readCondition E nn).1 (wr_X2_readCondition E nn).2.1 (wr_X2_readCondition E nn).2.2 d → Wd D cs (AW E sz) s.heap s E d H locs → lv_has ls 4 [(0, .ref a0), (1, .int p1)] → W p l e (rg_X2_readCondition (nn + 1)) s m ([.ref a0, .int p1] : List Value).toArray below meth c H locs 0 0 (MQ below (va_Qi K (OutW D cs E (AW E sz)) (AW E sz)) ([.ref a0, .int p1] : List Value).toArray s (rg_X2_readCondition (nn + 1)).cells (rg_X2_readCondition (nn + 1)).slots (AW E sz)) (F0 m 29 ls []) := by
        intro d H locs ls h hw hl
        unfold b_X2_readAtom_29 at h
        refine lv_aload_n S.1 S.2.1 (dd_at ddX2_readAtom 15 rfl) rfl (lv_at hl 0 rfl) ?_
        refine r_getI S hw 2 5 rfl inG2 (by decide) (List.mem_cons_of_mem _ wg237) (by decide) ha0 (dd_at ddX2_readAtom 16 rfl) ?_
        refine lv_bipush (v := 20) S.1 S.2.1 (dd_at ddX2_readAtom 17 rfl) (by decide) ?_
        refine lv_icmp_eq (tgt := 47) S.1 S.2.1 (dd_at ddX2_readAtom 18 rfl) (by decide) (fun hc_12 => ?_) (fun hc_12 => ?_)
        · have h := h.1 hc_12
          exact tb47 d H locs ls h hw (lv_sub hl [0, 1] rfl)
        · have h := h.2 hc_12
          refine lv_aload_n S.1 S.2.1 (dd_at ddX2_readAtom 19 rfl) rfl (lv_at hl 0 rfl) ?_
          refine r_getI S hw 2 5 rfl inG2 (by decide) (List.mem_cons_of_mem _ wg237) (by decide) ha0 (dd_at ddX2_readAtom 20 rfl) ?_
          refine lv_bipush (v := 40) S.1 S.2.1 (dd_at ddX2_readAtom 21 rfl) (by decide) ?_
          refine lv_icmp_ne (tgt := 69) S.1 S.2.1 (dd_at ddX2_readAtom 22 rfl) (by decide) (fun hc_13 => ?_) (fun hc_13 => ?_)
          · have h := h.1 hc_13
            refine lv_aload_n S.1 S.2.1 (dd_at ddX2_readAtom 36 rfl) rfl (lv_at hl 0 rfl) ?_
            refine r_callI hw (r_runV (As := []) (rest := []) S hw (m_X2_readSum l D cs E d H.size a0 _) (cwV 0 S.2.2.2.2 (gV wg352 wg353 wg354 wg20 wg355) rfl rfl rfl (by decide +kernel) ⟨rl (m := nn + 1) (F := 8) rfl, rl (m := (nn + 1) * 24) (F := 188) rfl⟩) (ci := 2) rfl ha0 h rfl hl.1 rfl (Nat.le_of_ble_eq_true rfl) (dd_at ddX2_readAtom 37 rfl) ⟨Nat.le_of_ble_eq_true rfl, Nat.le_of_ble_eq_true rfl⟩) (fun r_15 d_14 H locs h hw => ?_)
            refine lv_if_eq (tgt := 94) S.1 S.2.1 (dd_at ddX2_readAtom 38 rfl) (by decide) (fun hc_16 => ?_) (fun hc_16 => ?_)
            · have h := h.1 hc_16
              refine lv_iconst (v := 0) S.1 S.2.1 (dd_at ddX2_readAtom 47 rfl) (by decide) ?_
              exact e_Z S hr hlocks hw (Or.inl rfl) h (dd_at ddX2_readAtom 48 rfl)
            · have h := h.2 hc_16
              refine lv_aload_n S.1 S.2.1 (dd_at ddX2_readAtom 39 rfl) rfl (lv_at hl 0 rfl) ?_
              refine r_getI S hw 2 5 rfl inG2 (by decide) (List.mem_cons_of_mem _ wg237) (by decide) ha0 (dd_at ddX2_readAtom 40 rfl) ?_
              refine lv_bipush (v := 60) S.1 S.2.1 (dd_at ddX2_readAtom 41 rfl) (by decide) ?_
              refine lv_icmp_eq (tgt := 96) S.1 S.2.1 (dd_at ddX2_readAtom 42 rfl) (by decide) (fun hc_17 => ?_) (fun hc_17 => ?_)
              · have h := h.1 hc_17
                exact tb96 d_14 H locs ls h hw (lv_sub hl [0] rfl)
              · have h := h.2 hc_17
                refine lv_aload_n S.1 S.2.1 (dd_at ddX2_readAtom 43 rfl) rfl (lv_at hl 0 rfl) ?_
                refine r_getI S hw 2 5 rfl inG2 (by decide) (List.mem_cons_of_mem _ wg237) (by decide) ha0 (dd_at ddX2_readAtom 44 rfl) ?_
                refine lv_bipush (v := 62) S.1 S.2.1 (dd_at ddX2_readAtom 45 rfl) (by decide) ?_
                refine lv_icmp_eq (tgt := 96) S.1 S.2.1 (dd_at ddX2_readAtom 46 rfl) (by decide) (fun hc_18 => ?_) (fun hc_18 => ?_)
                · have h := h.1 hc_18
                  exact tb96 d_14 H locs ls h hw (lv_sub hl [0] rfl)
                · have h := h.2 hc_18
                  refine lv_iconst (v := 0) S.1 S.2.1 (dd_at ddX2_readAtom 47 rfl) (by decide) ?_
                  exact e_Z S hr hlocks hw (Or.inl rfl) h (dd_at ddX2_readAtom 48 rfl)
          · have h := h.2 hc_13
            exact tb47 d H locs ls h hw (lv_sub hl [0, 1] rfl)
      refine lv_aload_n S.1 S.2.1 (dd_at ddX2_readAtom 0 rfl) rfl (lv_at hl 0 rfl) ?_
      refine r_getI S hw 2 5 rfl inG2 (by decide) (List.mem_cons_of_mem _ wg237) (by decide) ha0 (dd_at ddX2_readAtom 1 rfl) ?_
      refine lv_bipush (v := 8) S.1 S.2.1 (dd_at ddX2_readAtom 2 rfl) (by decide) ?_
      refine lv_icmp_ne (tgt := 29) S.1 S.2.1 (dd_at ddX2_readAtom 3 rfl) (by decide) (fun hc_19 => ?_) (fun hc_19 => ?_)
      · have h := h.1 hc_19
        exact tb29 d H locs ls h hw (lv_sub hl [0, 1] rfl)
      · have h := h.2 hc_19
        refine lv_aload_n S.1 S.2.1 (dd_at ddX2_readAtom 4 rfl) rfl (lv_at hl 0 rfl) ?_
        refine r_getI S hw 2 2 rfl inG2 (by decide) (List.mem_cons_of_mem _ wg234) (by decide) ha0 (dd_at ddX2_readAtom 5 rfl) ?_
        refine lv_iconst (v := 3) S.1 S.2.1 (dd_at ddX2_readAtom 6 rfl) (by decide) ?_
        refine lv_icmp_eq (tgt := 29) S.1 S.2.1 (dd_at ddX2_readAtom 7 rfl) (by decide) (fun hc_20 => ?_) (fun hc_20 => ?_)
        · have h := h.1 hc_20
          exact tb29 d H locs ls h hw (lv_sub hl [0, 1] rfl)
        · have h := h.2 hc_20
          refine lv_aload_n S.1 S.2.1 (dd_at ddX2_readAtom 8 rfl) rfl (lv_at hl 0 rfl) ?_
          refine lv_bipush (v := -9) S.1 S.2.1 (dd_at ddX2_readAtom 9 rfl) (by decide) ?_
          refine r_callV hw (r_runV (As := [.int (-9)]) (rest := []) S hw (m_X2_emit l D cs E d H.size a0 (-9) _) (cwV 1 S.2.2.2.2 (gV wg344 wg345 wg346 wg20 wg347) rfl rfl rfl (by decide +kernel) ⟨rl (m := nn + 1) (F := 8) rfl, rl (m := (nn + 1) * 24) (F := 188) rfl⟩) (ci := 2) rfl ha0 h rfl hl.1 rfl (Nat.le_of_ble_eq_true rfl) (dd_at ddX2_readAtom 10 rfl) ⟨Nat.le_of_ble_eq_true rfl, Nat.le_of_ble_eq_true rfl⟩) (fun d_21 H locs h hw => ?_)
          refine lv_aload_n S.1 S.2.1 (dd_at ddX2_readAtom 11 rfl) rfl (lv_at hl 0 rfl) ?_
          refine r_callV hw (r_runV (As := []) (rest := []) S hw (m_X2_next l D cs E d_21 H.size a0 _) (cwV 0 S.2.2.2.2 (gV wg242 wg243 wg244 wg20 wg245) rfl rfl rfl (by decide +kernel) ⟨rl (m := nn + 1) (F := 8) rfl, rl (m := (nn + 1) * 24) (F := 188) rfl⟩) (ci := 2) rfl ha0 h rfl hl.1 rfl (Nat.le_of_ble_eq_true rfl) (dd_at ddX2_readAtom 12 rfl) ⟨Nat.le_of_ble_eq_true rfl, Nat.le_of_ble_eq_true rfl⟩) (fun d_23 H locs h hw => ?_)
          refine lv_iconst (v := 1) S.1 S.2.1 (dd_at ddX2_readAtom 13 rfl) (by decide) ?_
          exact e_Z S hr hlocks hw (Or.inr rfl) h (dd_at ddX2_readAtom 14 rfl)
    · intro D cs E d sz a0 p1 K
      refine e_of (cc := cX2_readWithin) (maxL := 4) (ret := (some .boolean)) (own := RX2) (by decide) rfl rfl (Nat.le_of_ble_eq_true rfl) ?_
      intro p e s m below meth c S hr hlocks hsz H locs hw h ls hl
      have hl : lv_has ls 4 [(0, .ref a0), (1, .int p1)] := hl
      have h : wb_X2_readWithin E a0 p1 d K (wr_X2_readCondition E nn).1 (wr_X2_readCondition E nn).2.1 (wr_X2_readCondition E nn).2.2 := h
      unfold wb_X2_readWithin at h
      obtain ⟨ha0, h⟩ := h
      have tb14 : ∀ (s0 : Int32) (d : Dy) (H : Heap) (locs : List Loc) (ls : Array Slot), b_X2_readWithin_14 E a0 p1 K (wr_X2_readCondition E nn).1 (wr_X2_readCondition E nn).2.1 (wr_X2_readCondition E nn).2.2 s0 d → Wd D cs (AW E sz) s.heap s E d H locs → lv_has ls 4 [(0, .ref a0), (1, .int p1)] → W p l e (rg_X2_readCondition (nn + 1)) s m ([.ref a0, .int p1] : List Value).toArray below meth c H locs 0 0 (MQ below (va_Qi K (OutW D cs E (AW E sz)) (AW E sz)) ([.ref a0, .int p1] : List Value).toArray s (rg_X2_readCondition (nn + 1)).cells (rg_X2_readCondition (nn + 1)).slots (AW E sz)) (F0 m 14 ls [.int s0]) := by
        intro s0 d H locs ls h hw hl
        unfold b_X2_readWithin_14 at h
        refine lv_istore_n (lv' := [(2, .int s0), (0, .ref a0), (1, .int p1)]) S.1 S.2.1 (dd_at ddX2_readWithin 7 rfl) rfl hl (by decide) rfl (fun ls hl => ?_)
        refine lv_aload_n S.1 S.2.1 (dd_at ddX2_readWithin 8 rfl) rfl (lv_at hl 1 rfl) ?_
        refine r_callV hw (r_runV (As := []) (rest := []) S hw (m_X2_next l D cs E d H.size a0 _) (cwV 0 S.2.2.2.2 (gV wg242 wg243 wg244 wg20 wg245) rfl rfl rfl (by decide +kernel) ⟨rl (m := nn + 1) (F := 8) rfl, rl (m := (nn + 1) * 24) (F := 188) rfl⟩) (ci := 2) rfl ha0 h rfl hl.1 rfl (Nat.le_of_ble_eq_true rfl) (dd_at ddX2_readWithin 9 rfl) ⟨Nat.le_of_ble_eq_true rfl, Nat.le_of_ble_eq_true rfl⟩) (fun d_1 H locs h hw => ?_)
        refine lv_iload_n S.1 S.2.1 (dd_at ddX2_readWithin 10 rfl) rfl (lv_at hl 0 rfl) ?_
        refine lv_if_eq (tgt := 37) S.1 S.2.1 (dd_at ddX2_readWithin 11 rfl) (by decide) (fun hc_3 => ?_) (fun hc_3 => ?_)
        · have h := h.1 hc_3
          refine lv_aload_n S.1 S.2.1 (dd_at ddX2_readWithin 21 rfl) rfl (lv_at hl 1 rfl) ?_
          refine lv_iload_n S.1 S.2.1 (dd_at ddX2_readWithin 22 rfl) rfl (lv_at hl 2 rfl) ?_
          refine r_callI hw (r_runV (As := [.int p1]) (rest := []) S hw (ih.1 D cs E d_1 H.size a0 p1 _) (cwV 1 S.2.2.2.2 (gV wg337 wg338 wg339 wg20 wg340) rfl rfl rfl (by decide +kernel) ⟨by show nn + 8 + 1 ≤ nn + 1 + 8; omega, by show 8 + (5 + 11) + (nn * 24 + 188) ≤ (nn + 1) * 24 + 188; omega⟩) (ci := 2) rfl ha0 h rfl hl.1 rfl (Nat.le_of_ble_eq_true rfl) (dd_at ddX2_readWithin 23 rfl) ⟨Nat.le_of_ble_eq_true rfl, Nat.le_of_ble_eq_true rfl⟩) (fun r_5 d_4 H locs h hw => ?_)
          refine lv_if_eq (tgt := 54) S.1 S.2.1 (dd_at ddX2_readWithin 24 rfl) (by decide) (fun hc_6 => ?_) (fun hc_6 => ?_)
          · have h := h.1 hc_6
            refine lv_iconst (v := 0) S.1 S.2.1 (dd_at ddX2_readWithin 29 rfl) (by decide) ?_
            exact e_Z S hr hlocks hw (Or.inl rfl) h (dd_at ddX2_readWithin 30 rfl)
          · have h := h.2 hc_6
            refine lv_aload_n S.1 S.2.1 (dd_at ddX2_readWithin 25 rfl) rfl (lv_at hl 1 rfl) ?_
            refine r_getI S hw 2 5 rfl inG2 (by decide) (List.mem_cons_of_mem _ wg237) (by decide) ha0 (dd_at ddX2_readWithin 26 rfl) ?_
            refine lv_bipush (v := 41) S.1 S.2.1 (dd_at ddX2_readWithin 27 rfl) (by decide) ?_
            refine lv_icmp_eq (tgt := 56) S.1 S.2.1 (dd_at ddX2_readWithin 28 rfl) (by decide) (fun hc_7 => ?_) (fun hc_7 => ?_)
            · have h := h.1 hc_7
              refine lv_aload_n S.1 S.2.1 (dd_at ddX2_readWithin 31 rfl) rfl (lv_at hl 1 rfl) ?_
              refine r_callV hw (r_runV (As := []) (rest := []) S hw (m_X2_next l D cs E d_4 H.size a0 _) (cwV 0 S.2.2.2.2 (gV wg242 wg243 wg244 wg20 wg245) rfl rfl rfl (by decide +kernel) ⟨rl (m := nn + 1) (F := 8) rfl, rl (m := (nn + 1) * 24) (F := 188) rfl⟩) (ci := 2) rfl ha0 h rfl hl.1 rfl (Nat.le_of_ble_eq_true rfl) (dd_at ddX2_readWithin 32 rfl) ⟨Nat.le_of_ble_eq_true rfl, Nat.le_of_ble_eq_true rfl⟩) (fun d_8 H locs h hw => ?_)
              refine lv_iconst (v := 1) S.1 S.2.1 (dd_at ddX2_readWithin 33 rfl) (by decide) ?_
              exact e_Z S hr hlocks hw (Or.inr rfl) h (dd_at ddX2_readWithin 34 rfl)
            · have h := h.2 hc_7
              refine lv_iconst (v := 0) S.1 S.2.1 (dd_at ddX2_readWithin 29 rfl) (by decide) ?_
              exact e_Z S hr hlocks hw (Or.inl rfl) h (dd_at ddX2_readWithin 30 rfl)
        · have h := h.2 hc_3
          refine lv_aload_n S.1 S.2.1 (dd_at ddX2_readWithin 12 rfl) rfl (lv_at hl 1 rfl) ?_
          refine lv_iload_n S.1 S.2.1 (dd_at ddX2_readWithin 13 rfl) rfl (lv_at hl 2 rfl) ?_
          refine r_callI hw (r_runV (As := [.int p1]) (rest := []) S hw (ih.2.1 D cs E d_1 H.size a0 p1 _) (cwV 1 S.2.2.2.2 (gV wg341 wg342 wg343 wg20 wg348) rfl rfl rfl (by decide +kernel) ⟨by show nn + 8 + 1 ≤ nn + 1 + 8; omega, by show 8 + (4 + 11) + (nn * 24 + 188) ≤ (nn + 1) * 24 + 188; omega⟩) (ci := 2) rfl ha0 h rfl hl.1 rfl (Nat.le_of_ble_eq_true rfl) (dd_at ddX2_readWithin 14 rfl) ⟨Nat.le_of_ble_eq_true rfl, Nat.le_of_ble_eq_true rfl⟩) (fun r_11 d_10 H locs h hw => ?_)
          refine lv_istore_n (lv' := [(3, .int r_11), (2, .int s0), (0, .ref a0), (1, .int p1)]) S.1 S.2.1 (dd_at ddX2_readWithin 15 rfl) rfl hl (by decide) rfl (fun ls hl => ?_)
          refine lv_aload_n S.1 S.2.1 (dd_at ddX2_readWithin 16 rfl) rfl (lv_at hl 2 rfl) ?_
          refine lv_bipush (v := -13) S.1 S.2.1 (dd_at ddX2_readWithin 17 rfl) (by decide) ?_
          refine r_callV hw (r_runV (As := [.int (-13)]) (rest := []) S hw (m_X2_emit l D cs E d_10 H.size a0 (-13) _) (cwV 1 S.2.2.2.2 (gV wg344 wg345 wg346 wg20 wg347) rfl rfl rfl (by decide +kernel) ⟨rl (m := nn + 1) (F := 8) rfl, rl (m := (nn + 1) * 24) (F := 188) rfl⟩) (ci := 2) rfl ha0 h rfl hl.1 rfl (Nat.le_of_ble_eq_true rfl) (dd_at ddX2_readWithin 18 rfl) ⟨Nat.le_of_ble_eq_true rfl, Nat.le_of_ble_eq_true rfl⟩) (fun d_12 H locs h hw => ?_)
          refine lv_iload_n S.1 S.2.1 (dd_at ddX2_readWithin 19 rfl) rfl (lv_at hl 0 rfl) ?_
          exact e_Z S hr hlocks hw h.1 h.2 (dd_at ddX2_readWithin 20 rfl)
      refine lv_aload_n S.1 S.2.1 (dd_at ddX2_readWithin 0 rfl) rfl (lv_at hl 0 rfl) ?_
      refine r_getI S hw 2 5 rfl inG2 (by decide) (List.mem_cons_of_mem _ wg237) (by decide) ha0 (dd_at ddX2_readWithin 1 rfl) ?_
      refine lv_bipush (v := 20) S.1 S.2.1 (dd_at ddX2_readWithin 2 rfl) (by decide) ?_
      refine lv_icmp_ne (tgt := 13) S.1 S.2.1 (dd_at ddX2_readWithin 3 rfl) (by decide) (fun hc_14 => ?_) (fun hc_14 => ?_)
      · have h := h.1 hc_14
        refine lv_iconst (v := 0) S.1 S.2.1 (dd_at ddX2_readWithin 6 rfl) (by decide) ?_
        exact tb14 0 d H locs ls h hw (lv_sub hl [0, 1] rfl)
      · have h := h.2 hc_14
        refine lv_iconst (v := 1) S.1 S.2.1 (dd_at ddX2_readWithin 4 rfl) (by decide) ?_
        refine lv_goto (tgt := 14) S.1 S.2.1 (dd_at ddX2_readWithin 5 rfl) (by decide) ?_
        exact tb14 1 d H locs ls h hw (lv_sub hl [0, 1] rfl)
theorem m_X2_readCondition (l : Launch) (D : va_G) (cs : Nat → ClassId) (E : En) (d : Dy) (sz : Nat) (a0 : Nat) (p1 : Int32) (K : Int32 → Dy → Prop) : CI l yX2_readCondition (.code yX2_readCondition cX2_readCondition 5 (some .boolean) :: wsL_law) rm_X2_readCondition D cs E d sz [.ref a0, .int p1] (w_X2_readCondition E a0 p1 d K) K := (mg_X2_readCondition l 60).1 D cs E d sz a0 p1 K
theorem m_X2_readAtom (l : Launch) (D : va_G) (cs : Nat → ClassId) (E : En) (d : Dy) (sz : Nat) (a0 : Nat) (p1 : Int32) (K : Int32 → Dy → Prop) : CI l yX2_readAtom (.code yX2_readAtom cX2_readAtom 4 (some .boolean) :: wsL_law) rm_X2_readAtom D cs E d sz [.ref a0, .int p1] (w_X2_readAtom E a0 p1 d K) K := (mg_X2_readCondition l 60).2.1 D cs E d sz a0 p1 K
theorem m_X2_readWithin (l : Launch) (D : va_G) (cs : Nat → ClassId) (E : En) (d : Dy) (sz : Nat) (a0 : Nat) (p1 : Int32) (K : Int32 → Dy → Prop) : CI l yX2_readWithin (.code yX2_readWithin cX2_readWithin 4 (some .boolean) :: wsL_law) rm_X2_readWithin D cs E d sz [.ref a0, .int p1] (w_X2_readWithin E a0 p1 d K) K := (mg_X2_readCondition l 60).2.2 D cs E d sz a0 p1 K
