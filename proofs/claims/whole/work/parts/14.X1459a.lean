def w_X1_init (E : En) (a0 : Nat) (a1 : Nat) (a2 : Nat) (d : Dy) (K : En → Dy → Prop) : Prop := okO E a0 1 ∧ okO E a1 8 ∧ okO E a2 3 ∧ ∀ q_1 : Nat, q_1 ∉ eL E → w_X6_init (nE E q_1 6 0) q_1 10 4 (nD d q_1) (fun E_4 d_5 => K (sR (sR (sR E_4 a0 2 (some q_1)) a0 0 (some a1)) a0 1 (some a2)) d_5)
abbrev rm_X1_init : Room := { frames := 2, cells := 2, slots := 404, locals := 62 }
set_option maxRecDepth 100000 in
set_option maxHeartbeats 4000000 in
theorem m_X1_init (l : Launch) (D : va_G) (cs : Nat → ClassId) (E : En) (d : Dy) (sz : Nat) (a0 : Nat) (a1 : Nat) (a2 : Nat) (K : En → Dy → Prop) : LV l yX1_init (.code yX1_init cX1_init 3 none :: wsL_law) rm_X1_init D cs E d sz [.ref a0, .ref a1, .ref a2] (w_X1_init E a0 a1 a2 d K) K := by
  refine e_ofN (cc := cX1_init) (maxL := 3) (ret := none) (own := RX1) (by decide) rfl rfl (Nat.le_of_ble_eq_true rfl) ?_
  intro p e s m below meth c S hr hlocks hinit hsz H locs hw h ls hl
  have hx : Ext E E := Ext_rf E
  have hinit : meth.name = "<init>" := hinit
  have hl : lv_has ls 3 [(0, .ref a0), (1, .ref a1), (2, .ref a2)] := hl
  unfold w_X1_init at h
  obtain ⟨ha0, h⟩ := h
  obtain ⟨ha1, h⟩ := h
  obtain ⟨ha2, h⟩ := h
  refine lv_aload_n S.1 S.2.1 (dd_at ddX1_init 0 rfl) rfl (lv_at hl 0 rfl) ?_
  refine W.objInit S.1 S.2.1 S.2.2.2.1 (S.2.2.2.2 _ (List.mem_cons_of_mem _ wg115)) (S.2.2.2.2 _ (List.mem_cons_of_mem _ wg11)) (S.2.2.2.2 _ (List.mem_cons_of_mem _ wg12)) rfl (by rw [S.2.2.1]; exact hl.1) rfl (dd_at ddX1_init 1 rfl) (Nat.le_of_ble_eq_true rfl) (Nat.le_of_ble_eq_true rfl) ?_
  refine W.eq (g2 := F0 m 4 ls []) rfl ?_
  refine lv_aload_n S.1 S.2.1 (dd_at ddX1_init 2 rfl) rfl (lv_at hl 0 rfl) ?_
  refine r_new S hw 6 rfl (by decide) inG6 tyX6 tyX6_ok (List.mem_cons_of_mem _ wg116) (List.mem_cons_of_mem _ wg50) (List.mem_cons_of_mem _ wg51) dF6 (Nat.le_of_ble_eq_true rfl) (Nat.le_of_ble_eq_true rfl) (dd_at ddX1_init 3 rfl) (fun q_1 H hq_2 hw => ?_)
  refine W.widen (k := 1) (n := 4) (Nat.le_of_ble_eq_true rfl) (Nat.le_of_ble_eq_true rfl) ?_
  have h := h q_1 hq_2
  have ha0 := Ext_O (Ext_nE 6 0 hq_2) ha0
  have ha1 := Ext_O (Ext_nE 6 0 hq_2) ha1
  have ha2 := Ext_O (Ext_nE 6 0 hq_2) ha2
  have hx := Ext_tr hx (Ext_nE 6 0 hq_2)
  have ho_3 := okO_new E q_1 0 (ci := 6) (by decide)
  refine lv_dup S.1 S.2.1 (dd_at ddX1_init 4 rfl) rfl ?_
  refine lv_bipush (v := 10) S.1 S.2.1 (dd_at ddX1_init 5 rfl) (by decide) ?_
  refine lv_iconst (v := 4) S.1 S.2.1 (dd_at ddX1_init 6 rfl) (by decide) ?_
  refine r_callVL hw (r_runI (As := [.int 10, .int 4]) (rest := [.ref q_1, .ref a0]) S hw (m_X6_init l D cs (nE E q_1 6 0) (nD d q_1) H.size q_1 10 4 _) (cwI 2 S.2.2.2.2 (gC wg66) rfl rfl rfl (S.2.2.2.2 _ (List.mem_cons_of_mem _ wg51)) (S.2.2.2.2 _ (List.mem_cons_of_mem _ wg120)) (S.2.2.2.2 _ (List.mem_cons_of_mem _ wg65)) rfl (by decide +kernel) ⟨Nat.le_of_ble_eq_true rfl, Nat.le_of_ble_eq_true rfl⟩) h rfl hl.1 rfl (Nat.le_of_ble_eq_true rfl) (dd_at ddX1_init 7 rfl) ⟨Nat.le_of_ble_eq_true rfl, Nat.le_of_ble_eq_true rfl⟩) (fun E_4 d_5 H locs h hx_6 hw => ?_)
  have ha0 := Ext_O hx_6 ha0
  have ha1 := Ext_O hx_6 ha1
  have ha2 := Ext_O hx_6 ha2
  have ho_3 := Ext_O hx_6 ho_3
  have hx := Ext_tr hx hx_6
  refine r_putRF S hw hinit 1 2 (ty := (.object "HutRow$Table")) rfl inG1 tyX1 tyX1_ok nmX1 (by decide) (List.mem_cons_of_mem _ wg117) (by decide) rfl rfl (by decide +kernel) rfl rfl ha0 (dd_at ddX1_init 8 rfl) (fun H locs hw => ?_)
  have ha0 := Ext_O (Ext_sR _ a0 2 (some q_1)) ha0
  have ha1 := Ext_O (Ext_sR _ a0 2 (some q_1)) ha1
  have ha2 := Ext_O (Ext_sR _ a0 2 (some q_1)) ha2
  have ho_3 := Ext_O (Ext_sR _ a0 2 (some q_1)) ho_3
  have hx := Ext_tr hx (Ext_sR _ a0 2 (some q_1))
  refine lv_aload_n S.1 S.2.1 (dd_at ddX1_init 9 rfl) rfl (lv_at hl 0 rfl) ?_
  refine lv_aload_n S.1 S.2.1 (dd_at ddX1_init 10 rfl) rfl (lv_at hl 1 rfl) ?_
  refine r_putRF S hw hinit 1 0 (ty := (.object "HutRow$Told")) rfl inG1 tyX1 tyX1_ok nmX1 (by decide) (List.mem_cons_of_mem _ wg118) (by decide) rfl rfl (by decide +kernel) rfl rfl ha0 (dd_at ddX1_init 11 rfl) (fun H locs hw => ?_)
  have ha0 := Ext_O (Ext_sR _ a0 0 (some a1)) ha0
  have ha1 := Ext_O (Ext_sR _ a0 0 (some a1)) ha1
  have ha2 := Ext_O (Ext_sR _ a0 0 (some a1)) ha2
  have ho_3 := Ext_O (Ext_sR _ a0 0 (some a1)) ho_3
  have hx := Ext_tr hx (Ext_sR _ a0 0 (some a1))
  refine lv_aload_n S.1 S.2.1 (dd_at ddX1_init 12 rfl) rfl (lv_at hl 0 rfl) ?_
  refine lv_aload_n S.1 S.2.1 (dd_at ddX1_init 13 rfl) rfl (lv_at hl 2 rfl) ?_
  refine r_putRF S hw hinit 1 1 (ty := (.object "HutRow$Replay")) rfl inG1 tyX1 tyX1_ok nmX1 (by decide) (List.mem_cons_of_mem _ wg119) (by decide) rfl rfl (by decide +kernel) rfl rfl ha0 (dd_at ddX1_init 14 rfl) (fun H locs hw => ?_)
  have ha0 := Ext_O (Ext_sR _ a0 1 (some a2)) ha0
  have ha1 := Ext_O (Ext_sR _ a0 1 (some a2)) ha1
  have ha2 := Ext_O (Ext_sR _ a0 1 (some a2)) ha2
  have ho_3 := Ext_O (Ext_sR _ a0 1 (some a2)) ho_3
  have hx := Ext_tr hx (Ext_sR _ a0 1 (some a2))
  exact e_VL S hr hlocks hw hx h (dd_at ddX1_init 15 rfl)

def w_X1_isAhead (E : En) (a0 : Nat) (p1 : Int32) (p2 : Int32) (p3 : Int32) (p4 : Int32) (d : Dy) (K : Int32 → Dy → Prop) : Prop := okO E a0 1 ∧ ∃ b_1 : Nat, eR E a0 2 = some b_1 ∧ okO E b_1 6 ∧ w_X6_get E b_1 p4 0 d (fun r_5 d_4 => ((p3 = r_5 → ∃ b_7 : Nat, eR E a0 2 = some b_7 ∧ okO E b_7 6 ∧ w_X6_get E b_7 p4 1 d_4 (fun r_11 d_10 => ((p2 = r_11 → ∃ b_13 : Nat, eR E a0 2 = some b_13 ∧ okO E b_13 6 ∧ w_X6_get E b_13 p4 2 d_10 (fun r_17 d_16 => ((r_17 ≤ p1 → K 0 d_16) ∧ (¬ r_17 ≤ p1 → K 1 d_16)))) ∧ (¬ p2 = r_11 → ∃ b_19 : Nat, eR E a0 2 = some b_19 ∧ okO E b_19 6 ∧ w_X6_get E b_19 p4 1 d_10 (fun r_23 d_22 => ((r_23 ≤ p2 → K 0 d_22) ∧ (¬ r_23 ≤ p2 → K 1 d_22))))))) ∧ (¬ p3 = r_5 → ∃ b_25 : Nat, eR E a0 2 = some b_25 ∧ okO E b_25 6 ∧ w_X6_get E b_25 p4 0 d_4 (fun r_29 d_28 => ((p3 ≤ r_29 → K 0 d_28) ∧ (¬ p3 ≤ r_29 → K 1 d_28))))))
abbrev rm_X1_isAhead : Room := { frames := 1, cells := 0, slots := 0, locals := 23 }
set_option maxRecDepth 100000 in
set_option maxHeartbeats 4000000 in
theorem m_X1_isAhead (l : Launch) (D : va_G) (cs : Nat → ClassId) (E : En) (d : Dy) (sz : Nat) (a0 : Nat) (p1 : Int32) (p2 : Int32) (p3 : Int32) (p4 : Int32) (K : Int32 → Dy → Prop) : CI l yX1_isAhead (.code yX1_isAhead cX1_isAhead 5 (some .boolean) :: wsL_law) rm_X1_isAhead D cs E d sz [.ref a0, .int p1, .int p2, .int p3, .int p4] (w_X1_isAhead E a0 p1 p2 p3 p4 d K) K := by
  refine e_of (cc := cX1_isAhead) (maxL := 5) (ret := (some .boolean)) (own := RX1) (by decide) rfl rfl (Nat.le_of_ble_eq_true rfl) ?_
  intro p e s m below meth c S hr hlocks hsz H locs hw h ls hl
  have hl : lv_has ls 5 [(0, .ref a0), (1, .int p1), (2, .int p2), (3, .int p3), (4, .int p4)] := hl
  unfold w_X1_isAhead at h
  obtain ⟨ha0, h⟩ := h
  refine lv_iload_n S.1 S.2.1 (dd_at ddX1_isAhead 0 rfl) rfl (lv_at hl 3 rfl) ?_
  refine lv_aload_n S.1 S.2.1 (dd_at ddX1_isAhead 1 rfl) rfl (lv_at hl 0 rfl) ?_
  obtain ⟨b_1, hb_2, ho_3, h⟩ := h
  refine r_getR S hw 1 2 rfl inG1 (by decide) (List.mem_cons_of_mem _ wg117) (by decide) ha0 hb_2 (dd_at ddX1_isAhead 2 rfl) ?_
  refine lv_iload S.1 S.2.1 (dd_at ddX1_isAhead 3 rfl) (lv_at hl 4 rfl) ?_
  refine lv_iconst (v := 0) S.1 S.2.1 (dd_at ddX1_isAhead 4 rfl) (by decide) ?_
  refine r_callI hw (r_runV (As := [.int p4, .int 0]) (rest := [.int p3]) S hw (m_X6_get l D cs E d H.size b_1 p4 0 _) (cwV 2 S.2.2.2.2 (gV wg1023 wg623 wg624 wg51 wg625) rfl rfl rfl (by decide +kernel) ⟨Nat.le_of_ble_eq_true rfl, Nat.le_of_ble_eq_true rfl⟩) (ci := 6) rfl ho_3 h rfl hl.1 rfl (Nat.le_of_ble_eq_true rfl) (dd_at ddX1_isAhead 5 rfl) ⟨Nat.le_of_ble_eq_true rfl, Nat.le_of_ble_eq_true rfl⟩) (fun r_5 d_4 H locs h hw => ?_)
  refine lv_icmp_eq (tgt := 34) S.1 S.2.1 (dd_at ddX1_isAhead 6 rfl) (by decide) (fun hc_6 => ?_) (fun hc_6 => ?_)
  · have h := h.1 hc_6
    refine lv_iload_n S.1 S.2.1 (dd_at ddX1_isAhead 18 rfl) rfl (lv_at hl 2 rfl) ?_
    refine lv_aload_n S.1 S.2.1 (dd_at ddX1_isAhead 19 rfl) rfl (lv_at hl 0 rfl) ?_
    obtain ⟨b_7, hb_8, ho_9, h⟩ := h
    refine r_getR S hw 1 2 rfl inG1 (by decide) (List.mem_cons_of_mem _ wg117) (by decide) ha0 hb_8 (dd_at ddX1_isAhead 20 rfl) ?_
    refine lv_iload S.1 S.2.1 (dd_at ddX1_isAhead 21 rfl) (lv_at hl 4 rfl) ?_
    refine lv_iconst (v := 1) S.1 S.2.1 (dd_at ddX1_isAhead 22 rfl) (by decide) ?_
    refine r_callI hw (r_runV (As := [.int p4, .int 1]) (rest := [.int p2]) S hw (m_X6_get l D cs E d_4 H.size b_7 p4 1 _) (cwV 2 S.2.2.2.2 (gV wg1023 wg623 wg624 wg51 wg625) rfl rfl rfl (by decide +kernel) ⟨Nat.le_of_ble_eq_true rfl, Nat.le_of_ble_eq_true rfl⟩) (ci := 6) rfl ho_9 h rfl hl.1 rfl (Nat.le_of_ble_eq_true rfl) (dd_at ddX1_isAhead 23 rfl) ⟨Nat.le_of_ble_eq_true rfl, Nat.le_of_ble_eq_true rfl⟩) (fun r_11 d_10 H locs h hw => ?_)
    refine lv_icmp_eq (tgt := 68) S.1 S.2.1 (dd_at ddX1_isAhead 24 rfl) (by decide) (fun hc_12 => ?_) (fun hc_12 => ?_)
    · have h := h.1 hc_12
      refine lv_iload_n S.1 S.2.1 (dd_at ddX1_isAhead 36 rfl) rfl (lv_at hl 1 rfl) ?_
      refine lv_aload_n S.1 S.2.1 (dd_at ddX1_isAhead 37 rfl) rfl (lv_at hl 0 rfl) ?_
      obtain ⟨b_13, hb_14, ho_15, h⟩ := h
      refine r_getR S hw 1 2 rfl inG1 (by decide) (List.mem_cons_of_mem _ wg117) (by decide) ha0 hb_14 (dd_at ddX1_isAhead 38 rfl) ?_
      refine lv_iload S.1 S.2.1 (dd_at ddX1_isAhead 39 rfl) (lv_at hl 4 rfl) ?_
      refine lv_iconst (v := 2) S.1 S.2.1 (dd_at ddX1_isAhead 40 rfl) (by decide) ?_
      refine r_callI hw (r_runV (As := [.int p4, .int 2]) (rest := [.int p1]) S hw (m_X6_get l D cs E d_10 H.size b_13 p4 2 _) (cwV 2 S.2.2.2.2 (gV wg1023 wg623 wg624 wg51 wg625) rfl rfl rfl (by decide +kernel) ⟨Nat.le_of_ble_eq_true rfl, Nat.le_of_ble_eq_true rfl⟩) (ci := 6) rfl ho_15 h rfl hl.1 rfl (Nat.le_of_ble_eq_true rfl) (dd_at ddX1_isAhead 41 rfl) ⟨Nat.le_of_ble_eq_true rfl, Nat.le_of_ble_eq_true rfl⟩) (fun r_17 d_16 H locs h hw => ?_)
      refine lv_icmp_ge (tgt := 86) S.1 S.2.1 (dd_at ddX1_isAhead 42 rfl) (by decide) (fun hc_18 => ?_) (fun hc_18 => ?_)
      · have h := h.1 hc_18
        refine lv_iconst (v := 0) S.1 S.2.1 (dd_at ddX1_isAhead 45 rfl) (by decide) ?_
        exact e_Z S hr hlocks hw (Or.inl rfl) h (dd_at ddX1_isAhead 46 rfl)
      · have h := h.2 hc_18
        refine lv_iconst (v := 1) S.1 S.2.1 (dd_at ddX1_isAhead 43 rfl) (by decide) ?_
        refine lv_goto (tgt := 87) S.1 S.2.1 (dd_at ddX1_isAhead 44 rfl) (by decide) ?_
        exact e_Z S hr hlocks hw (Or.inr rfl) h (dd_at ddX1_isAhead 46 rfl)
    · have h := h.2 hc_12
      refine lv_iload_n S.1 S.2.1 (dd_at ddX1_isAhead 25 rfl) rfl (lv_at hl 2 rfl) ?_
      refine lv_aload_n S.1 S.2.1 (dd_at ddX1_isAhead 26 rfl) rfl (lv_at hl 0 rfl) ?_
      obtain ⟨b_19, hb_20, ho_21, h⟩ := h
      refine r_getR S hw 1 2 rfl inG1 (by decide) (List.mem_cons_of_mem _ wg117) (by decide) ha0 hb_20 (dd_at ddX1_isAhead 27 rfl) ?_
      refine lv_iload S.1 S.2.1 (dd_at ddX1_isAhead 28 rfl) (lv_at hl 4 rfl) ?_
      refine lv_iconst (v := 1) S.1 S.2.1 (dd_at ddX1_isAhead 29 rfl) (by decide) ?_
      refine r_callI hw (r_runV (As := [.int p4, .int 1]) (rest := [.int p2]) S hw (m_X6_get l D cs E d_10 H.size b_19 p4 1 _) (cwV 2 S.2.2.2.2 (gV wg1023 wg623 wg624 wg51 wg625) rfl rfl rfl (by decide +kernel) ⟨Nat.le_of_ble_eq_true rfl, Nat.le_of_ble_eq_true rfl⟩) (ci := 6) rfl ho_21 h rfl hl.1 rfl (Nat.le_of_ble_eq_true rfl) (dd_at ddX1_isAhead 30 rfl) ⟨Nat.le_of_ble_eq_true rfl, Nat.le_of_ble_eq_true rfl⟩) (fun r_23 d_22 H locs h hw => ?_)
      refine lv_icmp_ge (tgt := 66) S.1 S.2.1 (dd_at ddX1_isAhead 31 rfl) (by decide) (fun hc_24 => ?_) (fun hc_24 => ?_)
      · have h := h.1 hc_24
        refine lv_iconst (v := 0) S.1 S.2.1 (dd_at ddX1_isAhead 34 rfl) (by decide) ?_
        exact e_Z S hr hlocks hw (Or.inl rfl) h (dd_at ddX1_isAhead 35 rfl)
      · have h := h.2 hc_24
        refine lv_iconst (v := 1) S.1 S.2.1 (dd_at ddX1_isAhead 32 rfl) (by decide) ?_
        refine lv_goto (tgt := 67) S.1 S.2.1 (dd_at ddX1_isAhead 33 rfl) (by decide) ?_
        exact e_Z S hr hlocks hw (Or.inr rfl) h (dd_at ddX1_isAhead 35 rfl)
  · have h := h.2 hc_6
    refine lv_iload_n S.1 S.2.1 (dd_at ddX1_isAhead 7 rfl) rfl (lv_at hl 3 rfl) ?_
    refine lv_aload_n S.1 S.2.1 (dd_at ddX1_isAhead 8 rfl) rfl (lv_at hl 0 rfl) ?_
    obtain ⟨b_25, hb_26, ho_27, h⟩ := h
    refine r_getR S hw 1 2 rfl inG1 (by decide) (List.mem_cons_of_mem _ wg117) (by decide) ha0 hb_26 (dd_at ddX1_isAhead 9 rfl) ?_
    refine lv_iload S.1 S.2.1 (dd_at ddX1_isAhead 10 rfl) (lv_at hl 4 rfl) ?_
    refine lv_iconst (v := 0) S.1 S.2.1 (dd_at ddX1_isAhead 11 rfl) (by decide) ?_
    refine r_callI hw (r_runV (As := [.int p4, .int 0]) (rest := [.int p3]) S hw (m_X6_get l D cs E d_4 H.size b_25 p4 0 _) (cwV 2 S.2.2.2.2 (gV wg1023 wg623 wg624 wg51 wg625) rfl rfl rfl (by decide +kernel) ⟨Nat.le_of_ble_eq_true rfl, Nat.le_of_ble_eq_true rfl⟩) (ci := 6) rfl ho_27 h rfl hl.1 rfl (Nat.le_of_ble_eq_true rfl) (dd_at ddX1_isAhead 12 rfl) ⟨Nat.le_of_ble_eq_true rfl, Nat.le_of_ble_eq_true rfl⟩) (fun r_29 d_28 H locs h hw => ?_)
    refine lv_icmp_le (tgt := 32) S.1 S.2.1 (dd_at ddX1_isAhead 13 rfl) (by decide) (fun hc_30 => ?_) (fun hc_30 => ?_)
    · have h := h.1 hc_30
      refine lv_iconst (v := 0) S.1 S.2.1 (dd_at ddX1_isAhead 16 rfl) (by decide) ?_
      exact e_Z S hr hlocks hw (Or.inl rfl) h (dd_at ddX1_isAhead 17 rfl)
    · have h := h.2 hc_30
      refine lv_iconst (v := 1) S.1 S.2.1 (dd_at ddX1_isAhead 14 rfl) (by decide) ?_
      refine lv_goto (tgt := 33) S.1 S.2.1 (dd_at ddX1_isAhead 15 rfl) (by decide) ?_
      exact e_Z S hr hlocks hw (Or.inr rfl) h (dd_at ddX1_isAhead 17 rfl)

def b_X1_stepIn_34 (E : En) (a0 : Nat) (p1 : Int32) (p2 : Int32) (p3 : Int32) (K : Dy → Prop) (v4 : Int32) (d : Dy) : Prop := ∃ b_1 : Nat, eR E a0 2 = some b_1 ∧ okO E b_1 6 ∧ w_X6_openAt E b_1 v4 d (fun r_5 d_4 => ∃ b_6 : Nat, eR E a0 2 = some b_6 ∧ okO E b_6 6 ∧ w_X6_set E b_6 v4 0 p3 d_4 (fun d_9 => ∃ b_11 : Nat, eR E a0 2 = some b_11 ∧ okO E b_11 6 ∧ w_X6_set E b_11 v4 1 p2 d_9 (fun d_14 => ∃ b_16 : Nat, eR E a0 2 = some b_16 ∧ okO E b_16 6 ∧ w_X6_set E b_16 v4 2 p1 d_14 (fun d_19 => K d_19))))
def b_X1_stepIn_9 (E : En) (a0 : Nat) (p1 : Int32) (p2 : Int32) (p3 : Int32) (K : Dy → Prop) (k9 : Int32 → Dy → Prop) (v4 : Int32) (d : Dy) : Prop := ((v4 ≤ 0 → b_X1_stepIn_34 E a0 p1 p2 p3 K v4 d) ∧ (¬ v4 ≤ 0 → w_X1_isAhead E a0 p1 p2 p3 (v4 - 1) d (fun r_23 d_22 => ((r_23 = 0 → b_X1_stepIn_34 E a0 p1 p2 p3 K v4 d_22) ∧ (¬ r_23 = 0 → k9 (v4 + (-1)) d_22)))))
def l_X1_stepIn_9 (E : En) (a0 : Nat) (p1 : Int32) (p2 : Int32) (p3 : Int32) (K : Dy → Prop) : Nat → Int32 → Dy → Prop
  | 0 => fun _ _ => False
  | n + 1 => b_X1_stepIn_9 E a0 p1 p2 p3 K (l_X1_stepIn_9 E a0 p1 p2 p3 K n)
def w_X1_stepIn (E : En) (a0 : Nat) (p1 : Int32) (p2 : Int32) (p3 : Int32) (d : Dy) (K : Dy → Prop) : Prop := okO E a0 1 ∧ ∃ b_25 : Nat, eR E a0 2 = some b_25 ∧ okO E b_25 6 ∧ w_X6_size E b_25 d (fun r_29 d_28 => (∃ n_30 : Nat, l_X1_stepIn_9 E a0 p1 p2 p3 K n_30 r_29 d_28))
abbrev rm_X1_stepIn : Room := { frames := 2, cells := 0, slots := 0, locals := 47 }
set_option maxRecDepth 100000 in
set_option maxHeartbeats 4000000 in
theorem m_X1_stepIn (l : Launch) (D : va_G) (cs : Nat → ClassId) (E : En) (d : Dy) (sz : Nat) (a0 : Nat) (p1 : Int32) (p2 : Int32) (p3 : Int32) (K : Dy → Prop) : CV l yX1_stepIn (.code yX1_stepIn cX1_stepIn 5 none :: wsL_law) rm_X1_stepIn D cs E d sz [.ref a0, .int p1, .int p2, .int p3] (w_X1_stepIn E a0 p1 p2 p3 d K) K := by
  refine e_of (cc := cX1_stepIn) (maxL := 5) (ret := none) (own := RX1) (by decide) rfl rfl (Nat.le_of_ble_eq_true rfl) ?_
  intro p e s m below meth c S hr hlocks hsz H locs hw h ls hl
  have hl : lv_has ls 5 [(0, .ref a0), (1, .int p1), (2, .int p2), (3, .int p3)] := hl
  unfold w_X1_stepIn at h
  obtain ⟨ha0, h⟩ := h
  have tb34 : ∀ (v4 : Int32) (d : Dy) (H : Heap) (locs : List Loc) (ls : Array Slot), b_X1_stepIn_34 E a0 p1 p2 p3 K v4 d → Wd D cs (AW E sz) s.heap s E d H locs → lv_has ls 5 [(0, .ref a0), (1, .int p1), (2, .int p2), (3, .int p3), (4, .int v4)] → W p l e rm_X1_stepIn s m ([.ref a0, .int p1, .int p2, .int p3] : List Value).toArray below meth c H locs 0 0 (MQ below (va_Qv K (OutW D cs E (AW E sz)) (AW E sz)) ([.ref a0, .int p1, .int p2, .int p3] : List Value).toArray s rm_X1_stepIn.cells rm_X1_stepIn.slots (AW E sz)) (F0 m 34 ls []) := by
    intro v4 d H locs ls h hw hl
    unfold b_X1_stepIn_34 at h
    refine lv_aload_n S.1 S.2.1 (dd_at ddX1_stepIn 17 rfl) rfl (lv_at hl 0 rfl) ?_
    obtain ⟨b_1, hb_2, ho_3, h⟩ := h
    refine r_getR S hw 1 2 rfl inG1 (by decide) (List.mem_cons_of_mem _ wg117) (by decide) ha0 hb_2 (dd_at ddX1_stepIn 18 rfl) ?_
    refine lv_iload S.1 S.2.1 (dd_at ddX1_stepIn 19 rfl) (lv_at hl 4 rfl) ?_
    refine r_callI hw (r_runV (As := [.int v4]) (rest := []) S hw (m_X6_openAt l D cs E d H.size b_1 v4 _) (cwV 1 S.2.2.2.2 (gV wg1036 wg314 wg315 wg51 wg316) rfl rfl rfl (by decide +kernel) ⟨Nat.le_of_ble_eq_true rfl, Nat.le_of_ble_eq_true rfl⟩) (ci := 6) rfl ho_3 h rfl hl.1 rfl (Nat.le_of_ble_eq_true rfl) (dd_at ddX1_stepIn 20 rfl) ⟨Nat.le_of_ble_eq_true rfl, Nat.le_of_ble_eq_true rfl⟩) (fun r_5 d_4 H locs h hw => ?_)
    refine lv_pop S.1 S.2.1 (dd_at ddX1_stepIn 21 rfl) rfl ?_
    refine lv_aload_n S.1 S.2.1 (dd_at ddX1_stepIn 22 rfl) rfl (lv_at hl 0 rfl) ?_
    obtain ⟨b_6, hb_7, ho_8, h⟩ := h
    refine r_getR S hw 1 2 rfl inG1 (by decide) (List.mem_cons_of_mem _ wg117) (by decide) ha0 hb_7 (dd_at ddX1_stepIn 23 rfl) ?_
    refine lv_iload S.1 S.2.1 (dd_at ddX1_stepIn 24 rfl) (lv_at hl 4 rfl) ?_
    refine lv_iconst (v := 0) S.1 S.2.1 (dd_at ddX1_stepIn 25 rfl) (by decide) ?_
    refine lv_iload_n S.1 S.2.1 (dd_at ddX1_stepIn 26 rfl) rfl (lv_at hl 3 rfl) ?_
    refine r_callV hw (r_runV (As := [.int v4, .int 0, .int p3]) (rest := []) S hw (m_X6_set l D cs E d_4 H.size b_6 v4 0 p3 _) (cwV 3 S.2.2.2.2 (gV wg1037 wg318 wg319 wg51 wg320) rfl rfl rfl (by decide +kernel) ⟨Nat.le_of_ble_eq_true rfl, Nat.le_of_ble_eq_true rfl⟩) (ci := 6) rfl ho_8 h rfl hl.1 rfl (Nat.le_of_ble_eq_true rfl) (dd_at ddX1_stepIn 27 rfl) ⟨Nat.le_of_ble_eq_true rfl, Nat.le_of_ble_eq_true rfl⟩) (fun d_9 H locs h hw => ?_)
    refine lv_aload_n S.1 S.2.1 (dd_at ddX1_stepIn 28 rfl) rfl (lv_at hl 0 rfl) ?_
    obtain ⟨b_11, hb_12, ho_13, h⟩ := h
    refine r_getR S hw 1 2 rfl inG1 (by decide) (List.mem_cons_of_mem _ wg117) (by decide) ha0 hb_12 (dd_at ddX1_stepIn 29 rfl) ?_
    refine lv_iload S.1 S.2.1 (dd_at ddX1_stepIn 30 rfl) (lv_at hl 4 rfl) ?_
    refine lv_iconst (v := 1) S.1 S.2.1 (dd_at ddX1_stepIn 31 rfl) (by decide) ?_
    refine lv_iload_n S.1 S.2.1 (dd_at ddX1_stepIn 32 rfl) rfl (lv_at hl 2 rfl) ?_
    refine r_callV hw (r_runV (As := [.int v4, .int 1, .int p2]) (rest := []) S hw (m_X6_set l D cs E d_9 H.size b_11 v4 1 p2 _) (cwV 3 S.2.2.2.2 (gV wg1037 wg318 wg319 wg51 wg320) rfl rfl rfl (by decide +kernel) ⟨Nat.le_of_ble_eq_true rfl, Nat.le_of_ble_eq_true rfl⟩) (ci := 6) rfl ho_13 h rfl hl.1 rfl (Nat.le_of_ble_eq_true rfl) (dd_at ddX1_stepIn 33 rfl) ⟨Nat.le_of_ble_eq_true rfl, Nat.le_of_ble_eq_true rfl⟩) (fun d_14 H locs h hw => ?_)
    refine lv_aload_n S.1 S.2.1 (dd_at ddX1_stepIn 34 rfl) rfl (lv_at hl 0 rfl) ?_
    obtain ⟨b_16, hb_17, ho_18, h⟩ := h
    refine r_getR S hw 1 2 rfl inG1 (by decide) (List.mem_cons_of_mem _ wg117) (by decide) ha0 hb_17 (dd_at ddX1_stepIn 35 rfl) ?_
    refine lv_iload S.1 S.2.1 (dd_at ddX1_stepIn 36 rfl) (lv_at hl 4 rfl) ?_
    refine lv_iconst (v := 2) S.1 S.2.1 (dd_at ddX1_stepIn 37 rfl) (by decide) ?_
    refine lv_iload_n S.1 S.2.1 (dd_at ddX1_stepIn 38 rfl) rfl (lv_at hl 1 rfl) ?_
    refine r_callV hw (r_runV (As := [.int v4, .int 2, .int p1]) (rest := []) S hw (m_X6_set l D cs E d_14 H.size b_16 v4 2 p1 _) (cwV 3 S.2.2.2.2 (gV wg1037 wg318 wg319 wg51 wg320) rfl rfl rfl (by decide +kernel) ⟨Nat.le_of_ble_eq_true rfl, Nat.le_of_ble_eq_true rfl⟩) (ci := 6) rfl ho_18 h rfl hl.1 rfl (Nat.le_of_ble_eq_true rfl) (dd_at ddX1_stepIn 39 rfl) ⟨Nat.le_of_ble_eq_true rfl, Nat.le_of_ble_eq_true rfl⟩) (fun d_19 H locs h hw => ?_)
    exact e_V S hr hlocks hw h (dd_at ddX1_stepIn 40 rfl)
  have tl9 : ∀ (n : Nat) (v4 : Int32) (d : Dy) (H : Heap) (locs : List Loc) (ls : Array Slot), l_X1_stepIn_9 E a0 p1 p2 p3 K n v4 d → Wd D cs (AW E sz) s.heap s E d H locs → lv_has ls 5 [(0, .ref a0), (1, .int p1), (2, .int p2), (3, .int p3), (4, .int v4)] → W p l e rm_X1_stepIn s m ([.ref a0, .int p1, .int p2, .int p3] : List Value).toArray below meth c H locs 0 0 (MQ below (va_Qv K (OutW D cs E (AW E sz)) (AW E sz)) ([.ref a0, .int p1, .int p2, .int p3] : List Value).toArray s rm_X1_stepIn.cells rm_X1_stepIn.slots (AW E sz)) (F0 m 9 ls []) := by
    intro n9
    induction n9 with
    | zero => intro v4 d H locs ls h; exact absurd h id
    | succ n9 ih9 =>
      intro v4 d H locs ls h hw hl
      have h : b_X1_stepIn_9 E a0 p1 p2 p3 K (l_X1_stepIn_9 E a0 p1 p2 p3 K n9) v4 d := h
      unfold b_X1_stepIn_9 at h
      refine lv_iload S.1 S.2.1 (dd_at ddX1_stepIn 4 rfl) (lv_at hl 4 rfl) ?_
      refine lv_if_le (tgt := 34) S.1 S.2.1 (dd_at ddX1_stepIn 5 rfl) (by decide) (fun hc_21 => ?_) (fun hc_21 => ?_)
      · have h := h.1 hc_21
        exact tb34 v4 d H locs ls h hw (lv_sub hl [0, 1, 2, 3, 4] rfl)
      · have h := h.2 hc_21
        refine lv_aload_n S.1 S.2.1 (dd_at ddX1_stepIn 6 rfl) rfl (lv_at hl 0 rfl) ?_
        refine lv_iload_n S.1 S.2.1 (dd_at ddX1_stepIn 7 rfl) rfl (lv_at hl 1 rfl) ?_
        refine lv_iload_n S.1 S.2.1 (dd_at ddX1_stepIn 8 rfl) rfl (lv_at hl 2 rfl) ?_
        refine lv_iload_n S.1 S.2.1 (dd_at ddX1_stepIn 9 rfl) rfl (lv_at hl 3 rfl) ?_
        refine lv_iload S.1 S.2.1 (dd_at ddX1_stepIn 10 rfl) (lv_at hl 4 rfl) ?_
        refine lv_iconst (v := 1) S.1 S.2.1 (dd_at ddX1_stepIn 11 rfl) (by decide) ?_
        refine lv_isub S.1 S.2.1 (dd_at ddX1_stepIn 12 rfl) ?_
        refine r_callI hw (r_runV (As := [.int p1, .int p2, .int p3, .int (v4 - 1)]) (rest := []) S hw (m_X1_isAhead l D cs E d H.size a0 p1 p2 p3 (v4 - 1) _) (cwV 4 S.2.2.2.2 (gV wg1032 wg1033 wg1034 wg30 wg1035) rfl rfl rfl (by decide +kernel) ⟨Nat.le_of_ble_eq_true rfl, Nat.le_of_ble_eq_true rfl⟩) (ci := 1) rfl ha0 h rfl hl.1 rfl (Nat.le_of_ble_eq_true rfl) (dd_at ddX1_stepIn 13 rfl) ⟨Nat.le_of_ble_eq_true rfl, Nat.le_of_ble_eq_true rfl⟩) (fun r_23 d_22 H locs h hw => ?_)
        refine lv_if_eq (tgt := 34) S.1 S.2.1 (dd_at ddX1_stepIn 14 rfl) (by decide) (fun hc_24 => ?_) (fun hc_24 => ?_)
        · have h := h.1 hc_24
          exact tb34 v4 d_22 H locs ls h hw (lv_sub hl [0, 1, 2, 3, 4] rfl)
        · have h := h.2 hc_24
          refine lv_iinc (v := v4 + (-1)) (lv' := [(4, .int (v4 + (-1))), (0, .ref a0), (1, .int p1), (2, .int p2), (3, .int p3)]) S.1 S.2.1 (dd_at ddX1_stepIn 15 rfl) hl (k := 4) rfl rfl (by decide) rfl (fun ls hl => ?_)
          refine lv_goto (tgt := 9) S.1 S.2.1 (dd_at ddX1_stepIn 16 rfl) (by decide) ?_
          exact ih9 (v4 + (-1)) d_22 H locs ls h hw (lv_sub hl [1, 2, 3, 4, 0] rfl)
  refine lv_aload_n S.1 S.2.1 (dd_at ddX1_stepIn 0 rfl) rfl (lv_at hl 0 rfl) ?_
  obtain ⟨b_25, hb_26, ho_27, h⟩ := h
  refine r_getR S hw 1 2 rfl inG1 (by decide) (List.mem_cons_of_mem _ wg117) (by decide) ha0 hb_26 (dd_at ddX1_stepIn 1 rfl) ?_
  refine r_callI hw (r_runV (As := []) (rest := []) S hw (m_X6_size l D cs E d H.size b_25 _) (cwV 0 S.2.2.2.2 (gV wg1018 wg372 wg373 wg51 wg374) rfl rfl rfl (by decide +kernel) ⟨Nat.le_of_ble_eq_true rfl, Nat.le_of_ble_eq_true rfl⟩) (ci := 6) rfl ho_27 h rfl hl.1 rfl (Nat.le_of_ble_eq_true rfl) (dd_at ddX1_stepIn 2 rfl) ⟨Nat.le_of_ble_eq_true rfl, Nat.le_of_ble_eq_true rfl⟩) (fun r_29 d_28 H locs h hw => ?_)
  refine lv_istore (lv' := [(4, .int r_29), (0, .ref a0), (1, .int p1), (2, .int p2), (3, .int p3)]) S.1 S.2.1 (dd_at ddX1_stepIn 3 rfl) hl (by decide) rfl (fun ls hl => ?_)
  obtain ⟨n_30, h⟩ := h
  exact tl9 n_30 r_29 d_28 H locs ls h hw (lv_sub hl [1, 2, 3, 4, 0] rfl)

def b_X1_lineUp_9 (E : En) (a0 : Nat) (K : Dy → Prop) (k9 : Int32 → Dy → Prop) (v1 : Int32) (d : Dy) : Prop := ∃ b_1 : Nat, eR E a0 0 = some b_1 ∧ okO E b_1 8 ∧ ∃ b_4 : Nat, eR E b_1 4 = some b_4 ∧ okO E b_4 6 ∧ w_X6_size E b_4 d (fun r_8 d_7 => ((r_8 ≤ v1 → K d_7) ∧ (¬ r_8 ≤ v1 → ∃ b_10 : Nat, eR E a0 1 = some b_10 ∧ okO E b_10 3 ∧ w_X3_knowsWaiter E b_10 v1 d_7 (fun r_14 d_13 => ((r_14 = 0 → k9 (v1 + 1) d_13) ∧ (¬ r_14 = 0 → ∃ b_16 : Nat, eR E a0 0 = some b_16 ∧ okO E b_16 8 ∧ ∃ b_19 : Nat, eR E b_16 4 = some b_19 ∧ okO E b_19 6 ∧ w_X6_get E b_19 v1 0 d_13 (fun r_23 d_22 => ∃ b_24 : Nat, eR E a0 0 = some b_24 ∧ okO E b_24 8 ∧ ∃ b_27 : Nat, eR E b_24 4 = some b_27 ∧ okO E b_27 6 ∧ w_X6_get E b_27 v1 1 d_22 (fun r_31 d_30 => ∃ b_32 : Nat, eR E a0 1 = some b_32 ∧ okO E b_32 3 ∧ w_X3_claimOf E b_32 r_23 r_31 d_30 (fun r_36 d_35 => w_X1_stepIn E a0 r_23 r_31 r_36 d_35 (fun d_37 => k9 (v1 + 1) d_37))))))))))
def l_X1_lineUp_9 (E : En) (a0 : Nat) (K : Dy → Prop) : Nat → Int32 → Dy → Prop
  | 0 => fun _ _ => False
  | n + 1 => b_X1_lineUp_9 E a0 K (l_X1_lineUp_9 E a0 K n)
def w_X1_lineUp (E : En) (a0 : Nat) (d : Dy) (K : Dy → Prop) : Prop := okO E a0 1 ∧ ∃ b_39 : Nat, eR E a0 2 = some b_39 ∧ okO E b_39 6 ∧ w_X6_clear E b_39 d (fun d_42 => (∃ n_44 : Nat, l_X1_lineUp_9 E a0 K n_44 0 d_42))
abbrev rm_X1_lineUp : Room := { frames := 5, cells := 0, slots := 0, locals := 116 }
set_option maxRecDepth 100000 in
set_option maxHeartbeats 4000000 in
theorem m_X1_lineUp (l : Launch) (D : va_G) (cs : Nat → ClassId) (E : En) (d : Dy) (sz : Nat) (a0 : Nat) (K : Dy → Prop) : CV l yX1_lineUp (.code yX1_lineUp cX1_lineUp 4 none :: wsL_law) rm_X1_lineUp D cs E d sz [.ref a0] (w_X1_lineUp E a0 d K) K := by
  refine e_of (cc := cX1_lineUp) (maxL := 4) (ret := none) (own := RX1) (by decide) rfl rfl (Nat.le_of_ble_eq_true rfl) ?_
  intro p e s m below meth c S hr hlocks hsz H locs hw h ls hl
  have hl : lv_has ls 4 [(0, .ref a0)] := hl
  unfold w_X1_lineUp at h
  obtain ⟨ha0, h⟩ := h
  have tl9 : ∀ (n : Nat) (v1 : Int32) (d : Dy) (H : Heap) (locs : List Loc) (ls : Array Slot), l_X1_lineUp_9 E a0 K n v1 d → Wd D cs (AW E sz) s.heap s E d H locs → lv_has ls 4 [(0, .ref a0), (1, .int v1)] → W p l e rm_X1_lineUp s m ([.ref a0] : List Value).toArray below meth c H locs 0 0 (MQ below (va_Qv K (OutW D cs E (AW E sz)) (AW E sz)) ([.ref a0] : List Value).toArray s rm_X1_lineUp.cells rm_X1_lineUp.slots (AW E sz)) (F0 m 9 ls []) := by
    intro n9
    induction n9 with
    | zero => intro v1 d H locs ls h; exact absurd h id
    | succ n9 ih9 =>
      intro v1 d H locs ls h hw hl
      have h : b_X1_lineUp_9 E a0 K (l_X1_lineUp_9 E a0 K n9) v1 d := h
      unfold b_X1_lineUp_9 at h
      refine lv_iload_n S.1 S.2.1 (dd_at ddX1_lineUp 5 rfl) rfl (lv_at hl 1 rfl) ?_
      refine lv_aload_n S.1 S.2.1 (dd_at ddX1_lineUp 6 rfl) rfl (lv_at hl 0 rfl) ?_
      obtain ⟨b_1, hb_2, ho_3, h⟩ := h
      refine r_getR S hw 1 0 rfl inG1 (by decide) (List.mem_cons_of_mem _ wg118) (by decide) ha0 hb_2 (dd_at ddX1_lineUp 7 rfl) ?_
      obtain ⟨b_4, hb_5, ho_6, h⟩ := h
      refine r_getRN S hw 8 4 rfl inG8 (by decide) nx10 (by decide) ho_3 hb_5 (dd_at ddX1_lineUp 8 rfl) ?_
      refine r_callI hw (r_runV (As := []) (rest := [.int v1]) S hw (m_X6_size l D cs E d H.size b_4 _) (cwV 0 S.2.2.2.2 (gV wg1018 wg372 wg373 wg51 wg374) rfl rfl rfl (by decide +kernel) ⟨Nat.le_of_ble_eq_true rfl, Nat.le_of_ble_eq_true rfl⟩) (ci := 6) rfl ho_6 h rfl hl.1 rfl (Nat.le_of_ble_eq_true rfl) (dd_at ddX1_lineUp 9 rfl) ⟨Nat.le_of_ble_eq_true rfl, Nat.le_of_ble_eq_true rfl⟩) (fun r_8 d_7 H locs h hw => ?_)
      refine lv_icmp_ge (tgt := 81) S.1 S.2.1 (dd_at ddX1_lineUp 10 rfl) (by decide) (fun hc_9 => ?_) (fun hc_9 => ?_)
      · have h := h.1 hc_9
        exact e_V S hr hlocks hw h (dd_at ddX1_lineUp 41 rfl)
      · have h := h.2 hc_9
        refine lv_aload_n S.1 S.2.1 (dd_at ddX1_lineUp 11 rfl) rfl (lv_at hl 0 rfl) ?_
        obtain ⟨b_10, hb_11, ho_12, h⟩ := h
        refine r_getR S hw 1 1 rfl inG1 (by decide) (List.mem_cons_of_mem _ wg119) (by decide) ha0 hb_11 (dd_at ddX1_lineUp 12 rfl) ?_
        refine lv_iload_n S.1 S.2.1 (dd_at ddX1_lineUp 13 rfl) rfl (lv_at hl 1 rfl) ?_
        refine r_callI hw (r_runV (As := [.int v1]) (rest := []) S hw (m_X3_knowsWaiter l D cs E d_7 H.size b_10 v1 _) (cwV 1 S.2.2.2.2 (gV wg1019 wg1020 wg1021 wg25 wg1022) rfl rfl rfl (by decide +kernel) ⟨Nat.le_of_ble_eq_true rfl, Nat.le_of_ble_eq_true rfl⟩) (ci := 3) rfl ho_12 h rfl hl.1 rfl (Nat.le_of_ble_eq_true rfl) (dd_at ddX1_lineUp 14 rfl) ⟨Nat.le_of_ble_eq_true rfl, Nat.le_of_ble_eq_true rfl⟩) (fun r_14 d_13 H locs h hw => ?_)
        refine lv_if_eq (tgt := 75) S.1 S.2.1 (dd_at ddX1_lineUp 15 rfl) (by decide) (fun hc_15 => ?_) (fun hc_15 => ?_)
        · have h := h.1 hc_15
          refine lv_iinc (v := v1 + 1) (lv' := [(1, .int (v1 + 1)), (0, .ref a0)]) S.1 S.2.1 (dd_at ddX1_lineUp 39 rfl) hl (k := 1) rfl rfl (by decide) rfl (fun ls hl => ?_)
          refine lv_goto (tgt := 9) S.1 S.2.1 (dd_at ddX1_lineUp 40 rfl) (by decide) ?_
          exact ih9 (v1 + 1) d_13 H locs ls h hw (lv_sub hl [1, 0] rfl)
        · have h := h.2 hc_15
          refine lv_aload_n S.1 S.2.1 (dd_at ddX1_lineUp 16 rfl) rfl (lv_at hl 0 rfl) ?_
          obtain ⟨b_16, hb_17, ho_18, h⟩ := h
          refine r_getR S hw 1 0 rfl inG1 (by decide) (List.mem_cons_of_mem _ wg118) (by decide) ha0 hb_17 (dd_at ddX1_lineUp 17 rfl) ?_
          obtain ⟨b_19, hb_20, ho_21, h⟩ := h
          refine r_getRN S hw 8 4 rfl inG8 (by decide) nx10 (by decide) ho_18 hb_20 (dd_at ddX1_lineUp 18 rfl) ?_
          refine lv_iload_n S.1 S.2.1 (dd_at ddX1_lineUp 19 rfl) rfl (lv_at hl 1 rfl) ?_
          refine lv_iconst (v := 0) S.1 S.2.1 (dd_at ddX1_lineUp 20 rfl) (by decide) ?_
          refine r_callI hw (r_runV (As := [.int v1, .int 0]) (rest := []) S hw (m_X6_get l D cs E d_13 H.size b_19 v1 0 _) (cwV 2 S.2.2.2.2 (gV wg1023 wg623 wg624 wg51 wg625) rfl rfl rfl (by decide +kernel) ⟨Nat.le_of_ble_eq_true rfl, Nat.le_of_ble_eq_true rfl⟩) (ci := 6) rfl ho_21 h rfl hl.1 rfl (Nat.le_of_ble_eq_true rfl) (dd_at ddX1_lineUp 21 rfl) ⟨Nat.le_of_ble_eq_true rfl, Nat.le_of_ble_eq_true rfl⟩) (fun r_23 d_22 H locs h hw => ?_)
          refine lv_istore_n (lv' := [(2, .int r_23), (0, .ref a0), (1, .int v1)]) S.1 S.2.1 (dd_at ddX1_lineUp 22 rfl) rfl hl (by decide) rfl (fun ls hl => ?_)
          refine lv_aload_n S.1 S.2.1 (dd_at ddX1_lineUp 23 rfl) rfl (lv_at hl 1 rfl) ?_
          obtain ⟨b_24, hb_25, ho_26, h⟩ := h
          refine r_getR S hw 1 0 rfl inG1 (by decide) (List.mem_cons_of_mem _ wg118) (by decide) ha0 hb_25 (dd_at ddX1_lineUp 24 rfl) ?_
          obtain ⟨b_27, hb_28, ho_29, h⟩ := h
          refine r_getRN S hw 8 4 rfl inG8 (by decide) nx10 (by decide) ho_26 hb_28 (dd_at ddX1_lineUp 25 rfl) ?_
          refine lv_iload_n S.1 S.2.1 (dd_at ddX1_lineUp 26 rfl) rfl (lv_at hl 2 rfl) ?_
          refine lv_iconst (v := 1) S.1 S.2.1 (dd_at ddX1_lineUp 27 rfl) (by decide) ?_
          refine r_callI hw (r_runV (As := [.int v1, .int 1]) (rest := []) S hw (m_X6_get l D cs E d_22 H.size b_27 v1 1 _) (cwV 2 S.2.2.2.2 (gV wg1023 wg623 wg624 wg51 wg625) rfl rfl rfl (by decide +kernel) ⟨Nat.le_of_ble_eq_true rfl, Nat.le_of_ble_eq_true rfl⟩) (ci := 6) rfl ho_29 h rfl hl.1 rfl (Nat.le_of_ble_eq_true rfl) (dd_at ddX1_lineUp 28 rfl) ⟨Nat.le_of_ble_eq_true rfl, Nat.le_of_ble_eq_true rfl⟩) (fun r_31 d_30 H locs h hw => ?_)
          refine lv_istore_n (lv' := [(3, .int r_31), (2, .int r_23), (0, .ref a0), (1, .int v1)]) S.1 S.2.1 (dd_at ddX1_lineUp 29 rfl) rfl hl (by decide) rfl (fun ls hl => ?_)
          refine lv_aload_n S.1 S.2.1 (dd_at ddX1_lineUp 30 rfl) rfl (lv_at hl 2 rfl) ?_
          refine lv_iload_n S.1 S.2.1 (dd_at ddX1_lineUp 31 rfl) rfl (lv_at hl 1 rfl) ?_
          refine lv_iload_n S.1 S.2.1 (dd_at ddX1_lineUp 32 rfl) rfl (lv_at hl 0 rfl) ?_
          refine lv_aload_n S.1 S.2.1 (dd_at ddX1_lineUp 33 rfl) rfl (lv_at hl 2 rfl) ?_
          obtain ⟨b_32, hb_33, ho_34, h⟩ := h
          refine r_getR S hw 1 1 rfl inG1 (by decide) (List.mem_cons_of_mem _ wg119) (by decide) ha0 hb_33 (dd_at ddX1_lineUp 34 rfl) ?_
          refine lv_iload_n S.1 S.2.1 (dd_at ddX1_lineUp 35 rfl) rfl (lv_at hl 1 rfl) ?_
          refine lv_iload_n S.1 S.2.1 (dd_at ddX1_lineUp 36 rfl) rfl (lv_at hl 0 rfl) ?_
          refine r_callI hw (r_runV (As := [.int r_23, .int r_31]) (rest := [.int r_31, .int r_23, .ref a0]) S hw (m_X3_claimOf l D cs E d_30 H.size b_32 r_23 r_31 _) (cwV 2 S.2.2.2.2 (gV wg1024 wg1025 wg1026 wg25 wg1027) rfl rfl rfl (by decide +kernel) ⟨Nat.le_of_ble_eq_true rfl, Nat.le_of_ble_eq_true rfl⟩) (ci := 3) rfl ho_34 h rfl hl.1 rfl (Nat.le_of_ble_eq_true rfl) (dd_at ddX1_lineUp 37 rfl) ⟨Nat.le_of_ble_eq_true rfl, Nat.le_of_ble_eq_true rfl⟩) (fun r_36 d_35 H locs h hw => ?_)
          refine r_callV hw (r_runV (As := [.int r_23, .int r_31, .int r_36]) (rest := []) S hw (m_X1_stepIn l D cs E d_35 H.size a0 r_23 r_31 r_36 _) (cwV 3 S.2.2.2.2 (gV wg1028 wg1029 wg1030 wg30 wg1031) rfl rfl rfl (by decide +kernel) ⟨Nat.le_of_ble_eq_true rfl, Nat.le_of_ble_eq_true rfl⟩) (ci := 1) rfl ha0 h rfl hl.1 rfl (Nat.le_of_ble_eq_true rfl) (dd_at ddX1_lineUp 38 rfl) ⟨Nat.le_of_ble_eq_true rfl, Nat.le_of_ble_eq_true rfl⟩) (fun d_37 H locs h hw => ?_)
          refine lv_iinc (v := v1 + 1) (lv' := [(1, .int (v1 + 1)), (3, .int r_31), (2, .int r_23), (0, .ref a0)]) S.1 S.2.1 (dd_at ddX1_lineUp 39 rfl) hl (k := 3) rfl rfl (by decide) rfl (fun ls hl => ?_)
          refine lv_goto (tgt := 9) S.1 S.2.1 (dd_at ddX1_lineUp 40 rfl) (by decide) ?_
          exact ih9 (v1 + 1) d_37 H locs ls h hw (lv_sub hl [3, 0] rfl)
  refine lv_aload_n S.1 S.2.1 (dd_at ddX1_lineUp 0 rfl) rfl (lv_at hl 0 rfl) ?_
  obtain ⟨b_39, hb_40, ho_41, h⟩ := h
  refine r_getR S hw 1 2 rfl inG1 (by decide) (List.mem_cons_of_mem _ wg117) (by decide) ha0 hb_40 (dd_at ddX1_lineUp 1 rfl) ?_
  refine r_callV hw (r_runV (As := []) (rest := []) S hw (m_X6_clear l D cs E d H.size b_39 _) (cwV 0 S.2.2.2.2 (gV wg1017 wg239 wg240 wg51 wg241) rfl rfl rfl (by decide +kernel) ⟨Nat.le_of_ble_eq_true rfl, Nat.le_of_ble_eq_true rfl⟩) (ci := 6) rfl ho_41 h rfl hl.1 rfl (Nat.le_of_ble_eq_true rfl) (dd_at ddX1_lineUp 2 rfl) ⟨Nat.le_of_ble_eq_true rfl, Nat.le_of_ble_eq_true rfl⟩) (fun d_42 H locs h hw => ?_)
  refine lv_iconst (v := 0) S.1 S.2.1 (dd_at ddX1_lineUp 3 rfl) (by decide) ?_
  refine lv_istore_n (lv' := [(1, .int 0), (0, .ref a0)]) S.1 S.2.1 (dd_at ddX1_lineUp 4 rfl) rfl hl (by decide) rfl (fun ls hl => ?_)
  obtain ⟨n_44, h⟩ := h
  exact tl9 n_44 0 d_42 H locs ls h hw (lv_sub hl [1, 0] rfl)

def w_X1_personAt (E : En) (a0 : Nat) (p1 : Int32) (d : Dy) (K : Int32 → Dy → Prop) : Prop := okO E a0 1 ∧ ∃ b_1 : Nat, eR E a0 2 = some b_1 ∧ okO E b_1 6 ∧ w_X6_size E b_1 d (fun r_5 d_4 => ((r_5 ≤ p1 → K (-1) d_4) ∧ (¬ r_5 ≤ p1 → ∃ b_7 : Nat, eR E a0 2 = some b_7 ∧ okO E b_7 6 ∧ w_X6_get E b_7 p1 2 d_4 (fun r_11 d_10 => K r_11 d_10))))
abbrev rm_X1_personAt : Room := { frames := 1, cells := 0, slots := 0, locals := 23 }
set_option maxRecDepth 100000 in
set_option maxHeartbeats 4000000 in
theorem m_X1_personAt (l : Launch) (D : va_G) (cs : Nat → ClassId) (E : En) (d : Dy) (sz : Nat) (a0 : Nat) (p1 : Int32) (K : Int32 → Dy → Prop) : CI l yX1_personAt (.code yX1_personAt cX1_personAt 2 (some .int) :: wsL_law) rm_X1_personAt D cs E d sz [.ref a0, .int p1] (w_X1_personAt E a0 p1 d K) K := by
  refine e_of (cc := cX1_personAt) (maxL := 2) (ret := (some .int)) (own := RX1) (by decide) rfl rfl (Nat.le_of_ble_eq_true rfl) ?_
  intro p e s m below meth c S hr hlocks hsz H locs hw h ls hl
  have hl : lv_has ls 2 [(0, .ref a0), (1, .int p1)] := hl
  unfold w_X1_personAt at h
  obtain ⟨ha0, h⟩ := h
  refine lv_iload_n S.1 S.2.1 (dd_at ddX1_personAt 0 rfl) rfl (lv_at hl 1 rfl) ?_
  refine lv_aload_n S.1 S.2.1 (dd_at ddX1_personAt 1 rfl) rfl (lv_at hl 0 rfl) ?_
  obtain ⟨b_1, hb_2, ho_3, h⟩ := h
  refine r_getR S hw 1 2 rfl inG1 (by decide) (List.mem_cons_of_mem _ wg117) (by decide) ha0 hb_2 (dd_at ddX1_personAt 2 rfl) ?_
  refine r_callI hw (r_runV (As := []) (rest := [.int p1]) S hw (m_X6_size l D cs E d H.size b_1 _) (cwV 0 S.2.2.2.2 (gV wg1018 wg372 wg373 wg51 wg374) rfl rfl rfl (by decide +kernel) ⟨Nat.le_of_ble_eq_true rfl, Nat.le_of_ble_eq_true rfl⟩) (ci := 6) rfl ho_3 h rfl hl.1 rfl (Nat.le_of_ble_eq_true rfl) (dd_at ddX1_personAt 3 rfl) ⟨Nat.le_of_ble_eq_true rfl, Nat.le_of_ble_eq_true rfl⟩) (fun r_5 d_4 H locs h hw => ?_)
  refine lv_icmp_ge (tgt := 23) S.1 S.2.1 (dd_at ddX1_personAt 4 rfl) (by decide) (fun hc_6 => ?_) (fun hc_6 => ?_)
  · have h := h.1 hc_6
    refine lv_iconst (v := -1) S.1 S.2.1 (dd_at ddX1_personAt 11 rfl) (by decide) ?_
    exact e_I S hr hlocks hw h (dd_at ddX1_personAt 12 rfl)
  · have h := h.2 hc_6
    refine lv_aload_n S.1 S.2.1 (dd_at ddX1_personAt 5 rfl) rfl (lv_at hl 0 rfl) ?_
    obtain ⟨b_7, hb_8, ho_9, h⟩ := h
    refine r_getR S hw 1 2 rfl inG1 (by decide) (List.mem_cons_of_mem _ wg117) (by decide) ha0 hb_8 (dd_at ddX1_personAt 6 rfl) ?_
    refine lv_iload_n S.1 S.2.1 (dd_at ddX1_personAt 7 rfl) rfl (lv_at hl 1 rfl) ?_
    refine lv_iconst (v := 2) S.1 S.2.1 (dd_at ddX1_personAt 8 rfl) (by decide) ?_
    refine r_callI hw (r_runV (As := [.int p1, .int 2]) (rest := []) S hw (m_X6_get l D cs E d_4 H.size b_7 p1 2 _) (cwV 2 S.2.2.2.2 (gV wg1023 wg623 wg624 wg51 wg625) rfl rfl rfl (by decide +kernel) ⟨Nat.le_of_ble_eq_true rfl, Nat.le_of_ble_eq_true rfl⟩) (ci := 6) rfl ho_9 h rfl hl.1 rfl (Nat.le_of_ble_eq_true rfl) (dd_at ddX1_personAt 9 rfl) ⟨Nat.le_of_ble_eq_true rfl, Nat.le_of_ble_eq_true rfl⟩) (fun r_11 d_10 H locs h hw => ?_)
    refine lv_goto (tgt := 24) S.1 S.2.1 (dd_at ddX1_personAt 10 rfl) (by decide) ?_
    exact e_I S hr hlocks hw h (dd_at ddX1_personAt 12 rfl)

def b_X1_takes_42 (E : En) (a0 : Nat) (p1 : Int32) (K : Int32 → Dy → Prop) (k2 : Int32 → Dy → Prop) (v2 : Int32) (s0 : Int32) (d : Dy) : Prop := ((s0 = 0 → k2 (v2 + 1) d) ∧ (¬ s0 = 0 → ∃ b_2 : Nat, eR E a0 2 = some b_2 ∧ okO E b_2 6 ∧ w_X6_get E b_2 v2 3 d (fun r_6 d_5 => ((¬ r_6 = 0 → k2 (v2 + 1) d_5) ∧ (r_6 = 0 → ∃ b_8 : Nat, eR E a0 2 = some b_8 ∧ okO E b_8 6 ∧ w_X6_set E b_8 v2 3 1 d_5 (fun d_11 => K 1 d_11))))))
def b_X1_takes_2 (E : En) (a0 : Nat) (p1 : Int32) (K : Int32 → Dy → Prop) (k2 : Int32 → Dy → Prop) (v2 : Int32) (d : Dy) : Prop := ∃ b_13 : Nat, eR E a0 2 = some b_13 ∧ okO E b_13 6 ∧ w_X6_size E b_13 d (fun r_17 d_16 => ((r_17 ≤ v2 → K 0 d_16) ∧ (¬ r_17 ≤ v2 → ∃ b_19 : Nat, eR E a0 0 = some b_19 ∧ okO E b_19 8 ∧ ∃ b_22 : Nat, eR E b_19 1 = some b_22 ∧ okO E b_22 6 ∧ ∃ b_25 : Nat, eR E a0 2 = some b_25 ∧ okO E b_25 6 ∧ w_X6_get E b_25 v2 2 d_16 (fun r_29 d_28 => w_X6_get E b_22 r_29 1 d_28 (fun r_31 d_30 => ((r_31 < p1 → b_X1_takes_42 E a0 p1 K k2 v2 0 d_30) ∧ (¬ r_31 < p1 → b_X1_takes_42 E a0 p1 K k2 v2 1 d_30)))))))
def l_X1_takes_2 (E : En) (a0 : Nat) (p1 : Int32) (K : Int32 → Dy → Prop) : Nat → Int32 → Dy → Prop
  | 0 => fun _ _ => False
  | n + 1 => b_X1_takes_2 E a0 p1 K (l_X1_takes_2 E a0 p1 K n)
def w_X1_takes (E : En) (a0 : Nat) (p1 : Int32) (d : Dy) (K : Int32 → Dy → Prop) : Prop := okO E a0 1 ∧ (∃ n_33 : Nat, l_X1_takes_2 E a0 p1 K n_33 0 d)
abbrev rm_X1_takes : Room := { frames := 1, cells := 0, slots := 0, locals := 23 }
set_option maxRecDepth 100000 in
set_option maxHeartbeats 4000000 in
theorem m_X1_takes (l : Launch) (D : va_G) (cs : Nat → ClassId) (E : En) (d : Dy) (sz : Nat) (a0 : Nat) (p1 : Int32) (K : Int32 → Dy → Prop) : CI l yX1_takes (.code yX1_takes cX1_takes 4 (some .boolean) :: wsL_law) rm_X1_takes D cs E d sz [.ref a0, .int p1] (w_X1_takes E a0 p1 d K) K := by
  refine e_of (cc := cX1_takes) (maxL := 4) (ret := (some .boolean)) (own := RX1) (by decide) rfl rfl (Nat.le_of_ble_eq_true rfl) ?_
  intro p e s m below meth c S hr hlocks hsz H locs hw h ls hl
  have hl : lv_has ls 4 [(0, .ref a0), (1, .int p1)] := hl
  unfold w_X1_takes at h
  obtain ⟨ha0, h⟩ := h
  have tl2 : ∀ (n : Nat) (v2 : Int32) (d : Dy) (H : Heap) (locs : List Loc) (ls : Array Slot), l_X1_takes_2 E a0 p1 K n v2 d → Wd D cs (AW E sz) s.heap s E d H locs → lv_has ls 4 [(0, .ref a0), (1, .int p1), (2, .int v2)] → W p l e rm_X1_takes s m ([.ref a0, .int p1] : List Value).toArray below meth c H locs 0 0 (MQ below (va_Qi K (OutW D cs E (AW E sz)) (AW E sz)) ([.ref a0, .int p1] : List Value).toArray s rm_X1_takes.cells rm_X1_takes.slots (AW E sz)) (F0 m 2 ls []) := by
    intro n2
    induction n2 with
    | zero => intro v2 d H locs ls h; exact absurd h id
    | succ n2 ih2 =>
      have tb42 : ∀ (v2 : Int32) (s0 : Int32) (d : Dy) (H : Heap) (locs : List Loc) (ls : Array Slot), b_X1_takes_42 E a0 p1 K (l_X1_takes_2 E a0 p1 K n2) v2 s0 d → Wd D cs (AW E sz) s.heap s E d H locs → lv_has ls 4 [(0, .ref a0), (1, .int p1), (2, .int v2)] → W p l e rm_X1_takes s m ([.ref a0, .int p1] : List Value).toArray below meth c H locs 0 0 (MQ below (va_Qi K (OutW D cs E (AW E sz)) (AW E sz)) ([.ref a0, .int p1] : List Value).toArray s rm_X1_takes.cells rm_X1_takes.slots (AW E sz)) (F0 m 42 ls [.int s0]) := by
        intro v2 s0 d H locs ls h hw hl
        unfold b_X1_takes_42 at h
        refine lv_istore_n (lv' := [(3, .int s0), (0, .ref a0), (1, .int p1), (2, .int v2)]) S.1 S.2.1 (dd_at ddX1_takes 22 rfl) rfl hl (by decide) rfl (fun ls hl => ?_)
        refine lv_iload_n S.1 S.2.1 (dd_at ddX1_takes 23 rfl) rfl (lv_at hl 0 rfl) ?_
        refine lv_if_eq (tgt := 71) S.1 S.2.1 (dd_at ddX1_takes 24 rfl) (by decide) (fun hc_1 => ?_) (fun hc_1 => ?_)
        · have h := h.1 hc_1
          refine lv_iinc (v := v2 + 1) (lv' := [(2, .int (v2 + 1)), (3, .int s0), (0, .ref a0), (1, .int p1)]) S.1 S.2.1 (dd_at ddX1_takes 39 rfl) hl (k := 3) rfl rfl (by decide) rfl (fun ls hl => ?_)
          refine lv_goto (tgt := 2) S.1 S.2.1 (dd_at ddX1_takes 40 rfl) (by decide) ?_
          exact ih2 (v2 + 1) d H locs ls h hw (lv_sub hl [2, 3, 0] rfl)
        · have h := h.2 hc_1
          refine lv_aload_n S.1 S.2.1 (dd_at ddX1_takes 25 rfl) rfl (lv_at hl 1 rfl) ?_
          obtain ⟨b_2, hb_3, ho_4, h⟩ := h
          refine r_getR S hw 1 2 rfl inG1 (by decide) (List.mem_cons_of_mem _ wg117) (by decide) ha0 hb_3 (dd_at ddX1_takes 26 rfl) ?_
          refine lv_iload_n S.1 S.2.1 (dd_at ddX1_takes 27 rfl) rfl (lv_at hl 3 rfl) ?_
          refine lv_iconst (v := 3) S.1 S.2.1 (dd_at ddX1_takes 28 rfl) (by decide) ?_
          refine r_callI hw (r_runV (As := [.int v2, .int 3]) (rest := []) S hw (m_X6_get l D cs E d H.size b_2 v2 3 _) (cwV 2 S.2.2.2.2 (gV wg1023 wg623 wg624 wg51 wg625) rfl rfl rfl (by decide +kernel) ⟨Nat.le_of_ble_eq_true rfl, Nat.le_of_ble_eq_true rfl⟩) (ci := 6) rfl ho_4 h rfl hl.1 rfl (Nat.le_of_ble_eq_true rfl) (dd_at ddX1_takes 29 rfl) ⟨Nat.le_of_ble_eq_true rfl, Nat.le_of_ble_eq_true rfl⟩) (fun r_6 d_5 H locs h hw => ?_)
          refine lv_if_ne (tgt := 71) S.1 S.2.1 (dd_at ddX1_takes 30 rfl) (by decide) (fun hc_7 => ?_) (fun hc_7 => ?_)
          · have h := h.1 hc_7
            refine lv_iinc (v := v2 + 1) (lv' := [(2, .int (v2 + 1)), (3, .int s0), (0, .ref a0), (1, .int p1)]) S.1 S.2.1 (dd_at ddX1_takes 39 rfl) hl (k := 3) rfl rfl (by decide) rfl (fun ls hl => ?_)
            refine lv_goto (tgt := 2) S.1 S.2.1 (dd_at ddX1_takes 40 rfl) (by decide) ?_
            exact ih2 (v2 + 1) d_5 H locs ls h hw (lv_sub hl [2, 3, 0] rfl)
          · have h := h.2 hc_7
            refine lv_aload_n S.1 S.2.1 (dd_at ddX1_takes 31 rfl) rfl (lv_at hl 1 rfl) ?_
            obtain ⟨b_8, hb_9, ho_10, h⟩ := h
            refine r_getR S hw 1 2 rfl inG1 (by decide) (List.mem_cons_of_mem _ wg117) (by decide) ha0 hb_9 (dd_at ddX1_takes 32 rfl) ?_
            refine lv_iload_n S.1 S.2.1 (dd_at ddX1_takes 33 rfl) rfl (lv_at hl 3 rfl) ?_
            refine lv_iconst (v := 3) S.1 S.2.1 (dd_at ddX1_takes 34 rfl) (by decide) ?_
            refine lv_iconst (v := 1) S.1 S.2.1 (dd_at ddX1_takes 35 rfl) (by decide) ?_
            refine r_callV hw (r_runV (As := [.int v2, .int 3, .int 1]) (rest := []) S hw (m_X6_set l D cs E d_5 H.size b_8 v2 3 1 _) (cwV 3 S.2.2.2.2 (gV wg1037 wg318 wg319 wg51 wg320) rfl rfl rfl (by decide +kernel) ⟨Nat.le_of_ble_eq_true rfl, Nat.le_of_ble_eq_true rfl⟩) (ci := 6) rfl ho_10 h rfl hl.1 rfl (Nat.le_of_ble_eq_true rfl) (dd_at ddX1_takes 36 rfl) ⟨Nat.le_of_ble_eq_true rfl, Nat.le_of_ble_eq_true rfl⟩) (fun d_11 H locs h hw => ?_)
            refine lv_iconst (v := 1) S.1 S.2.1 (dd_at ddX1_takes 37 rfl) (by decide) ?_
            exact e_Z S hr hlocks hw (Or.inr rfl) h (dd_at ddX1_takes 38 rfl)
      intro v2 d H locs ls h hw hl
      have h : b_X1_takes_2 E a0 p1 K (l_X1_takes_2 E a0 p1 K n2) v2 d := h
      unfold b_X1_takes_2 at h
      refine lv_iload_n S.1 S.2.1 (dd_at ddX1_takes 2 rfl) rfl (lv_at hl 2 rfl) ?_
      refine lv_aload_n S.1 S.2.1 (dd_at ddX1_takes 3 rfl) rfl (lv_at hl 0 rfl) ?_
      obtain ⟨b_13, hb_14, ho_15, h⟩ := h
      refine r_getR S hw 1 2 rfl inG1 (by decide) (List.mem_cons_of_mem _ wg117) (by decide) ha0 hb_14 (dd_at ddX1_takes 4 rfl) ?_
      refine r_callI hw (r_runV (As := []) (rest := [.int v2]) S hw (m_X6_size l D cs E d H.size b_13 _) (cwV 0 S.2.2.2.2 (gV wg1018 wg372 wg373 wg51 wg374) rfl rfl rfl (by decide +kernel) ⟨Nat.le_of_ble_eq_true rfl, Nat.le_of_ble_eq_true rfl⟩) (ci := 6) rfl ho_15 h rfl hl.1 rfl (Nat.le_of_ble_eq_true rfl) (dd_at ddX1_takes 5 rfl) ⟨Nat.le_of_ble_eq_true rfl, Nat.le_of_ble_eq_true rfl⟩) (fun r_17 d_16 H locs h hw => ?_)
      refine lv_icmp_ge (tgt := 77) S.1 S.2.1 (dd_at ddX1_takes 6 rfl) (by decide) (fun hc_18 => ?_) (fun hc_18 => ?_)
      · have h := h.1 hc_18
        refine lv_iconst (v := 0) S.1 S.2.1 (dd_at ddX1_takes 41 rfl) (by decide) ?_
        exact e_Z S hr hlocks hw (Or.inl rfl) h (dd_at ddX1_takes 42 rfl)
      · have h := h.2 hc_18
        refine lv_aload_n S.1 S.2.1 (dd_at ddX1_takes 7 rfl) rfl (lv_at hl 0 rfl) ?_
        obtain ⟨b_19, hb_20, ho_21, h⟩ := h
        refine r_getR S hw 1 0 rfl inG1 (by decide) (List.mem_cons_of_mem _ wg118) (by decide) ha0 hb_20 (dd_at ddX1_takes 8 rfl) ?_
        obtain ⟨b_22, hb_23, ho_24, h⟩ := h
        refine r_getRN S hw 8 1 rfl inG8 (by decide) nx2 (by decide) ho_21 hb_23 (dd_at ddX1_takes 9 rfl) ?_
        refine lv_aload_n S.1 S.2.1 (dd_at ddX1_takes 10 rfl) rfl (lv_at hl 0 rfl) ?_
        obtain ⟨b_25, hb_26, ho_27, h⟩ := h
        refine r_getR S hw 1 2 rfl inG1 (by decide) (List.mem_cons_of_mem _ wg117) (by decide) ha0 hb_26 (dd_at ddX1_takes 11 rfl) ?_
        refine lv_iload_n S.1 S.2.1 (dd_at ddX1_takes 12 rfl) rfl (lv_at hl 2 rfl) ?_
        refine lv_iconst (v := 2) S.1 S.2.1 (dd_at ddX1_takes 13 rfl) (by decide) ?_
        refine r_callI hw (r_runV (As := [.int v2, .int 2]) (rest := [.ref b_22]) S hw (m_X6_get l D cs E d_16 H.size b_25 v2 2 _) (cwV 2 S.2.2.2.2 (gV wg1023 wg623 wg624 wg51 wg625) rfl rfl rfl (by decide +kernel) ⟨Nat.le_of_ble_eq_true rfl, Nat.le_of_ble_eq_true rfl⟩) (ci := 6) rfl ho_27 h rfl hl.1 rfl (Nat.le_of_ble_eq_true rfl) (dd_at ddX1_takes 14 rfl) ⟨Nat.le_of_ble_eq_true rfl, Nat.le_of_ble_eq_true rfl⟩) (fun r_29 d_28 H locs h hw => ?_)
        refine lv_iconst (v := 1) S.1 S.2.1 (dd_at ddX1_takes 15 rfl) (by decide) ?_
        refine r_callI hw (r_runV (As := [.int r_29, .int 1]) (rest := []) S hw (m_X6_get l D cs E d_28 H.size b_22 r_29 1 _) (cwV 2 S.2.2.2.2 (gV wg1023 wg623 wg624 wg51 wg625) rfl rfl rfl (by decide +kernel) ⟨Nat.le_of_ble_eq_true rfl, Nat.le_of_ble_eq_true rfl⟩) (ci := 6) rfl ho_24 h rfl hl.1 rfl (Nat.le_of_ble_eq_true rfl) (dd_at ddX1_takes 16 rfl) ⟨Nat.le_of_ble_eq_true rfl, Nat.le_of_ble_eq_true rfl⟩) (fun r_31 d_30 H locs h hw => ?_)
        refine lv_iload_n S.1 S.2.1 (dd_at ddX1_takes 17 rfl) rfl (lv_at hl 1 rfl) ?_
        refine lv_icmp_lt (tgt := 41) S.1 S.2.1 (dd_at ddX1_takes 18 rfl) (by decide) (fun hc_32 => ?_) (fun hc_32 => ?_)
        · have h := h.1 hc_32
          refine lv_iconst (v := 0) S.1 S.2.1 (dd_at ddX1_takes 21 rfl) (by decide) ?_
          exact tb42 v2 0 d_30 H locs ls h hw (lv_sub hl [0, 1, 2] rfl)
        · have h := h.2 hc_32
          refine lv_iconst (v := 1) S.1 S.2.1 (dd_at ddX1_takes 19 rfl) (by decide) ?_
          refine lv_goto (tgt := 42) S.1 S.2.1 (dd_at ddX1_takes 20 rfl) (by decide) ?_
          exact tb42 v2 1 d_30 H locs ls h hw (lv_sub hl [0, 1, 2] rfl)
  refine lv_iconst (v := 0) S.1 S.2.1 (dd_at ddX1_takes 0 rfl) (by decide) ?_
  refine lv_istore_n (lv' := [(2, .int 0), (0, .ref a0), (1, .int p1)]) S.1 S.2.1 (dd_at ddX1_takes 1 rfl) rfl hl (by decide) rfl (fun ls hl => ?_)
  obtain ⟨n_33, h⟩ := h
  exact tl2 n_33 0 d H locs ls h hw (lv_sub hl [1, 2, 0] rfl)

def w_X4_init (E : En) (a0 : Nat) (a1 : Nat) (a2 : Nat) (d : Dy) (K : En → Dy → Prop) : Prop := okO E a0 4 ∧ okO E a1 8 ∧ okO E a2 3 ∧ ∀ q_1 : Nat, q_1 ∉ eL E → K (sR (sR (sR (nE E q_1 14 ((256 : Int32)).toNatClampNeg) a0 2 (some q_1)) a0 0 (some a1)) a0 1 (some a2)) (nD d q_1)
abbrev rm_X4_init : Room := { frames := 1, cells := 1, slots := 256, locals := 24 }
set_option maxRecDepth 100000 in
set_option maxHeartbeats 4000000 in
theorem m_X4_init (l : Launch) (D : va_G) (cs : Nat → ClassId) (E : En) (d : Dy) (sz : Nat) (a0 : Nat) (a1 : Nat) (a2 : Nat) (K : En → Dy → Prop) : LV l yX4_init (.code yX4_init cX4_init 3 none :: wsL_law) rm_X4_init D cs E d sz [.ref a0, .ref a1, .ref a2] (w_X4_init E a0 a1 a2 d K) K := by
  refine e_ofN (cc := cX4_init) (maxL := 3) (ret := none) (own := RX4) (by decide) rfl rfl (Nat.le_of_ble_eq_true rfl) ?_
  intro p e s m below meth c S hr hlocks hinit hsz H locs hw h ls hl
  have hx : Ext E E := Ext_rf E
  have hinit : meth.name = "<init>" := hinit
  have hl : lv_has ls 3 [(0, .ref a0), (1, .ref a1), (2, .ref a2)] := hl
  unfold w_X4_init at h
  obtain ⟨ha0, h⟩ := h
  obtain ⟨ha1, h⟩ := h
  obtain ⟨ha2, h⟩ := h
  refine lv_aload_n S.1 S.2.1 (dd_at ddX4_init 0 rfl) rfl (lv_at hl 0 rfl) ?_
  refine W.objInit S.1 S.2.1 S.2.2.2.1 (S.2.2.2.2 _ (List.mem_cons_of_mem _ wg142)) (S.2.2.2.2 _ (List.mem_cons_of_mem _ wg11)) (S.2.2.2.2 _ (List.mem_cons_of_mem _ wg12)) rfl (by rw [S.2.2.1]; exact hl.1) rfl (dd_at ddX4_init 1 rfl) (Nat.le_of_ble_eq_true rfl) (Nat.le_of_ble_eq_true rfl) ?_
  refine W.eq (g2 := F0 m 4 ls []) rfl ?_
  refine lv_aload_n S.1 S.2.1 (dd_at ddX4_init 2 rfl) rfl (lv_at hl 0 rfl) ?_
  refine lv_sipush (v := 256) S.1 S.2.1 (dd_at ddX4_init 3 rfl) (by decide) ?_
  refine r_newJ S hw (List.mem_cons_of_mem _ wg6) (n := 256) (by decide) (by decide) (Nat.le_of_ble_eq_true rfl) (by show _ ≤ _; exact Nat.le_of_ble_eq_true rfl) (dd_at ddX4_init 4 rfl) (fun q_1 H hq_2 hw => ?_)
  refine W.widen (k := 1) (n := 256) (Nat.le_of_ble_eq_true rfl) (Nat.le_of_ble_eq_true rfl) ?_
  have h := h q_1 hq_2
  have ha0 := Ext_O (Ext_nE 14 ((256 : Int32)).toNatClampNeg hq_2) ha0
  have ha1 := Ext_O (Ext_nE 14 ((256 : Int32)).toNatClampNeg hq_2) ha1
  have ha2 := Ext_O (Ext_nE 14 ((256 : Int32)).toNatClampNeg hq_2) ha2
  have hx := Ext_tr hx (Ext_nE 14 ((256 : Int32)).toNatClampNeg hq_2)
  have ho_3 := okA_new E q_1 ((256 : Int32)).toNatClampNeg (t := 14) (by decide)
  refine r_putRF S hw hinit 4 2 (ty := (.array .long)) rfl inG4 tyX4 tyX4_ok nmX4 (by decide) (List.mem_cons_of_mem _ wg143) (by decide) rfl rfl (by decide +kernel) rfl rfl ha0 (dd_at ddX4_init 5 rfl) (fun H locs hw => ?_)
  have ha0 := Ext_O (Ext_sR _ a0 2 (some q_1)) ha0
  have ha1 := Ext_O (Ext_sR _ a0 2 (some q_1)) ha1
  have ha2 := Ext_O (Ext_sR _ a0 2 (some q_1)) ha2
  have ho_3 := Ext_A (Ext_sR _ a0 2 (some q_1)) ho_3
  have hx := Ext_tr hx (Ext_sR _ a0 2 (some q_1))
  refine lv_aload_n S.1 S.2.1 (dd_at ddX4_init 6 rfl) rfl (lv_at hl 0 rfl) ?_
  refine lv_aload_n S.1 S.2.1 (dd_at ddX4_init 7 rfl) rfl (lv_at hl 1 rfl) ?_
  refine r_putRF S hw hinit 4 0 (ty := (.object "HutRow$Told")) rfl inG4 tyX4 tyX4_ok nmX4 (by decide) (List.mem_cons_of_mem _ wg144) (by decide) rfl rfl (by decide +kernel) rfl rfl ha0 (dd_at ddX4_init 8 rfl) (fun H locs hw => ?_)
  have ha0 := Ext_O (Ext_sR _ a0 0 (some a1)) ha0
  have ha1 := Ext_O (Ext_sR _ a0 0 (some a1)) ha1
  have ha2 := Ext_O (Ext_sR _ a0 0 (some a1)) ha2
  have ho_3 := Ext_A (Ext_sR _ a0 0 (some a1)) ho_3
  have hx := Ext_tr hx (Ext_sR _ a0 0 (some a1))
  refine lv_aload_n S.1 S.2.1 (dd_at ddX4_init 9 rfl) rfl (lv_at hl 0 rfl) ?_
  refine lv_aload_n S.1 S.2.1 (dd_at ddX4_init 10 rfl) rfl (lv_at hl 2 rfl) ?_
  refine r_putRF S hw hinit 4 1 (ty := (.object "HutRow$Replay")) rfl inG4 tyX4 tyX4_ok nmX4 (by decide) (List.mem_cons_of_mem _ wg145) (by decide) rfl rfl (by decide +kernel) rfl rfl ha0 (dd_at ddX4_init 11 rfl) (fun H locs hw => ?_)
  have ha0 := Ext_O (Ext_sR _ a0 1 (some a2)) ha0
  have ha1 := Ext_O (Ext_sR _ a0 1 (some a2)) ha1
  have ha2 := Ext_O (Ext_sR _ a0 1 (some a2)) ha2
  have ho_3 := Ext_A (Ext_sR _ a0 1 (some a2)) ho_3
  have hx := Ext_tr hx (Ext_sR _ a0 1 (some a2))
  exact e_VL S hr hlocks hw hx h (dd_at ddX4_init 12 rfl)

def w_X4_clear (E : En) (a0 : Nat) (d : Dy) (K : Dy → Prop) : Prop := okO E a0 4 ∧ ∃ b_1 : Nat, eR E a0 0 = some b_1 ∧ okO E b_1 8 ∧ ∃ b_4 : Nat, eR E b_1 8 = some b_4 ∧ okO E b_4 6 ∧ w_X6_size E b_4 d (fun r_8 d_7 => ∃ b_9 : Nat, eR E a0 2 = some b_9 ∧ okA E b_9 14 ∧ w_J7_fill_d0a16 E b_9 0 (pI d_7 a0 3 (((1 : Int32) <<< (r_8 &&& 31)) - 1)) (fun d_12 => ∃ b_14 : Nat, eR E a0 2 = some b_14 ∧ okA E b_14 14 ∧ vp_in 0 (eN E b_14) ∧ K (pJ d_12 b_14 ((0 : Int32)).toNatClampNeg 1)))
abbrev rm_X4_clear : Room := { frames := 1, cells := 0, slots := 0, locals := 24 }
set_option maxRecDepth 100000 in
set_option maxHeartbeats 4000000 in
theorem m_X4_clear (l : Launch) (D : va_G) (cs : Nat → ClassId) (E : En) (d : Dy) (sz : Nat) (a0 : Nat) (K : Dy → Prop) : CV l yX4_clear (.code yX4_clear cX4_clear 1 none :: wsL_law) rm_X4_clear D cs E d sz [.ref a0] (w_X4_clear E a0 d K) K := by
  refine e_of (cc := cX4_clear) (maxL := 1) (ret := none) (own := RX4) (by decide) rfl rfl (Nat.le_of_ble_eq_true rfl) ?_
  intro p e s m below meth c S hr hlocks hsz H locs hw h ls hl
  have hl : lv_has ls 1 [(0, .ref a0)] := hl
  unfold w_X4_clear at h
  obtain ⟨ha0, h⟩ := h
  refine lv_aload_n S.1 S.2.1 (dd_at ddX4_clear 0 rfl) rfl (lv_at hl 0 rfl) ?_
  refine lv_iconst (v := 1) S.1 S.2.1 (dd_at ddX4_clear 1 rfl) (by decide) ?_
  refine lv_aload_n S.1 S.2.1 (dd_at ddX4_clear 2 rfl) rfl (lv_at hl 0 rfl) ?_
  obtain ⟨b_1, hb_2, ho_3, h⟩ := h
  refine r_getR S hw 4 0 rfl inG4 (by decide) (List.mem_cons_of_mem _ wg144) (by decide) ha0 hb_2 (dd_at ddX4_clear 3 rfl) ?_
  obtain ⟨b_4, hb_5, ho_6, h⟩ := h
  refine r_getRN S hw 8 8 rfl inG8 (by decide) nx17 (by decide) ho_3 hb_5 (dd_at ddX4_clear 4 rfl) ?_
  refine r_callI hw (r_runV (As := []) (rest := [.int 1, .ref a0]) S hw (m_X6_size l D cs E d H.size b_4 _) (cwV 0 S.2.2.2.2 (gV wg1364 wg372 wg373 wg51 wg374) rfl rfl rfl (by decide +kernel) ⟨Nat.le_of_ble_eq_true rfl, Nat.le_of_ble_eq_true rfl⟩) (ci := 6) rfl ho_6 h rfl hl.1 rfl (Nat.le_of_ble_eq_true rfl) (dd_at ddX4_clear 5 rfl) ⟨Nat.le_of_ble_eq_true rfl, Nat.le_of_ble_eq_true rfl⟩) (fun r_8 d_7 H locs h hw => ?_)
  refine lv_ishl S.1 S.2.1 (dd_at ddX4_clear 6 rfl) ?_
  refine lv_iconst (v := 1) S.1 S.2.1 (dd_at ddX4_clear 7 rfl) (by decide) ?_
  refine lv_isub S.1 S.2.1 (dd_at ddX4_clear 8 rfl) ?_
  refine r_putI S hw 4 3 (ty := .int) (v := ((1 : Int32) <<< (r_8 &&& 31)) - 1) rfl inG4 tyX4 tyX4_ok nmX4 (by decide) (List.mem_cons_of_mem _ wg1359) (by decide) rfl (by decide +kernel) rfl rfl ha0 (dd_at ddX4_clear 9 rfl) (fun H locs hw => ?_)
  refine lv_aload_n S.1 S.2.1 (dd_at ddX4_clear 10 rfl) rfl (lv_at hl 0 rfl) ?_
  obtain ⟨b_9, hb_10, ho_11, h⟩ := h
  refine r_getR S hw 4 2 rfl inG4 (by decide) (List.mem_cons_of_mem _ wg143) (by decide) ha0 hb_10 (dd_at ddX4_clear 11 rfl) ?_
  refine lv_lconst (v := 0) S.1 S.2.1 (dd_at ddX4_clear 12 rfl) (by decide) ?_
  refine r_callV hw (r_runS (As := [.ref b_9, .long 0]) (rest := []) S hw (m_J7_fill_d0a16 l D cs E (pI d_7 a0 3 (((1 : Int32) <<< (r_8 &&& 31)) - 1)) H.size b_9 0 _) (va_cwS 2 S.2.2.2.2 (gS wg1365 wg1366 wg83 wg1367) rfl rfl rfl (by decide +kernel) ⟨Nat.le_of_ble_eq_true rfl, Nat.le_of_ble_eq_true rfl⟩) h rfl hl.1 rfl (Nat.le_of_ble_eq_true rfl) (dd_at ddX4_clear 13 rfl) ⟨Nat.le_of_ble_eq_true rfl, Nat.le_of_ble_eq_true rfl⟩) (fun d_12 H locs h hw => ?_)
  refine lv_aload_n S.1 S.2.1 (dd_at ddX4_clear 14 rfl) rfl (lv_at hl 0 rfl) ?_
  obtain ⟨b_14, hb_15, ho_16, h⟩ := h
  refine r_getR S hw 4 2 rfl inG4 (by decide) (List.mem_cons_of_mem _ wg143) (by decide) ha0 hb_15 (dd_at ddX4_clear 15 rfl) ?_
  refine lv_iconst (v := 0) S.1 S.2.1 (dd_at ddX4_clear 16 rfl) (by decide) ?_
  refine lv_lconst (v := 1) S.1 S.2.1 (dd_at ddX4_clear 17 rfl) (by decide) ?_
  obtain ⟨hx_17, h⟩ := h
  refine r_last S hw ho_16 hx_17 (dd_at ddX4_clear 18 rfl) (fun H locs hw => ?_)
  exact e_V S hr hlocks hw h (dd_at ddX4_clear 19 rfl)

def b_X4_fittingTo_114 (E : En) (a0 : Nat) (p1 : Int32) (K : Int32 → Dy → Prop) (k54 : Int32 → Int32 → Int32 → Int32 → Dy → Prop) (v2 : Int32) (v3 : Int32) (v4 : Int32) (v5 : Int32) (v6 : Int32) (s0 : Int32) (d : Dy) : Prop := ((s0 = 0 → k54 v2 v3 v4 (v5 + 1) d) ∧ (¬ s0 = 0 → ∃ b_2 : Nat, eR E a0 0 = some b_2 ∧ okO E b_2 8 ∧ ∃ b_5 : Nat, eR E b_2 8 = some b_5 ∧ okO E b_5 6 ∧ w_X6_get E b_5 v5 2 d (fun r_9 d_8 => ((r_9 < v6 → k54 v2 v3 v4 (v5 + 1) d_8) ∧ (¬ r_9 < v6 → k54 v2 v3 (v4 ||| ((1 : Int32) <<< (v5 &&& 31))) (v5 + 1) d_8)))))
def b_X4_fittingTo_54 (E : En) (a0 : Nat) (p1 : Int32) (K : Int32 → Dy → Prop) (k54 : Int32 → Int32 → Int32 → Int32 → Dy → Prop) (v2 : Int32) (v3 : Int32) (v4 : Int32) (v5 : Int32) (d : Dy) : Prop := ∃ b_11 : Nat, eR E a0 0 = some b_11 ∧ okO E b_11 8 ∧ ∃ b_14 : Nat, eR E b_11 8 = some b_14 ∧ okO E b_14 6 ∧ w_X6_size E b_14 d (fun r_18 d_17 => ((r_18 ≤ v5 → K v4 d_17) ∧ (¬ r_18 ≤ v5 → ∃ b_20 : Nat, eR E a0 0 = some b_20 ∧ okO E b_20 8 ∧ ∃ b_23 : Nat, eR E b_20 8 = some b_23 ∧ okO E b_23 6 ∧ w_X6_get E b_23 v5 1 d_17 (fun r_27 d_26 => ∃ b_28 : Nat, eR E a0 0 = some b_28 ∧ okO E b_28 8 ∧ ∃ b_31 : Nat, eR E b_28 8 = some b_31 ∧ okO E b_31 6 ∧ w_X6_get E b_31 v5 0 d_26 (fun r_35 d_34 => ((((r_35 >>> (v2 &&& 31)) &&& 1) = 0 → b_X4_fittingTo_114 E a0 p1 K k54 v2 v3 v4 v5 (if 0 ≤ (r_27 - v3) then (r_27 - v3) else 0 - (r_27 - v3)) 0 d_34) ∧ (¬ ((r_35 >>> (v2 &&& 31)) &&& 1) = 0 → b_X4_fittingTo_114 E a0 p1 K k54 v2 v3 v4 v5 (if 0 ≤ (r_27 - v3) then (r_27 - v3) else 0 - (r_27 - v3)) 1 d_34)))))))
def l_X4_fittingTo_54 (E : En) (a0 : Nat) (p1 : Int32) (K : Int32 → Dy → Prop) : Nat → Int32 → Int32 → Int32 → Int32 → Dy → Prop
  | 0 => fun _ _ _ _ _ => False
  | n + 1 => b_X4_fittingTo_54 E a0 p1 K (l_X4_fittingTo_54 E a0 p1 K n)
def w_X4_fittingTo (E : En) (a0 : Nat) (p1 : Int32) (d : Dy) (K : Int32 → Dy → Prop) : Prop := okO E a0 4 ∧ ∃ b_37 : Nat, eR E a0 0 = some b_37 ∧ okO E b_37 8 ∧ ∃ b_40 : Nat, eR E b_37 2 = some b_40 ∧ okO E b_40 6 ∧ w_X6_get E b_40 p1 5 d (fun r_44 d_43 => ((¬ (gI (pI d_43 a0 4 r_44) a0 4) = 0 → ∃ b_46 : Nat, eR E a0 0 = some b_46 ∧ okO E b_46 8 ∧ ∃ b_49 : Nat, eR E b_46 2 = some b_49 ∧ okO E b_49 6 ∧ w_X6_get E b_49 p1 6 (pI d_43 a0 4 r_44) (fun r_53 d_52 => ∃ b_54 : Nat, eR E a0 1 = some b_54 ∧ okO E b_54 3 ∧ w_X3_placeOf E b_54 p1 d_52 (fun r_58 d_57 => (∃ n_59 : Nat, l_X4_fittingTo_54 E a0 p1 K n_59 r_53 r_58 0 0 d_57)))) ∧ ((gI (pI d_43 a0 4 r_44) a0 4) = 0 → K 0 (pI d_43 a0 4 r_44))))
abbrev rm_X4_fittingTo : Room := { frames := 2, cells := 0, slots := 0, locals := 45 }
set_option maxRecDepth 100000 in
set_option maxHeartbeats 4000000 in
theorem m_X4_fittingTo (l : Launch) (D : va_G) (cs : Nat → ClassId) (E : En) (d : Dy) (sz : Nat) (a0 : Nat) (p1 : Int32) (K : Int32 → Dy → Prop) : CI l yX4_fittingTo (.code yX4_fittingTo cX4_fittingTo 8 (some .int) :: wsL_law) rm_X4_fittingTo D cs E d sz [.ref a0, .int p1] (w_X4_fittingTo E a0 p1 d K) K := by
  refine e_of (cc := cX4_fittingTo) (maxL := 8) (ret := (some .int)) (own := RX4) (by decide) rfl rfl (Nat.le_of_ble_eq_true rfl) ?_
  intro p e s m below meth c S hr hlocks hsz H locs hw h ls hl
  have hl : lv_has ls 8 [(0, .ref a0), (1, .int p1)] := hl
  unfold w_X4_fittingTo at h
  obtain ⟨ha0, h⟩ := h
  have tl54 : ∀ (n : Nat) (v2 : Int32) (v3 : Int32) (v4 : Int32) (v5 : Int32) (d : Dy) (H : Heap) (locs : List Loc) (ls : Array Slot), l_X4_fittingTo_54 E a0 p1 K n v2 v3 v4 v5 d → Wd D cs (AW E sz) s.heap s E d H locs → lv_has ls 8 [(0, .ref a0), (2, .int v2), (3, .int v3), (4, .int v4), (5, .int v5)] → W p l e rm_X4_fittingTo s m ([.ref a0, .int p1] : List Value).toArray below meth c H locs 0 0 (MQ below (va_Qi K (OutW D cs E (AW E sz)) (AW E sz)) ([.ref a0, .int p1] : List Value).toArray s rm_X4_fittingTo.cells rm_X4_fittingTo.slots (AW E sz)) (F0 m 54 ls []) := by
    intro n54
    induction n54 with
    | zero => intro v2 v3 v4 v5 d H locs ls h; exact absurd h id
    | succ n54 ih54 =>
      have tb114 : ∀ (v2 : Int32) (v3 : Int32) (v4 : Int32) (v5 : Int32) (v6 : Int32) (s0 : Int32) (d : Dy) (H : Heap) (locs : List Loc) (ls : Array Slot), b_X4_fittingTo_114 E a0 p1 K (l_X4_fittingTo_54 E a0 p1 K n54) v2 v3 v4 v5 v6 s0 d → Wd D cs (AW E sz) s.heap s E d H locs → lv_has ls 8 [(0, .ref a0), (2, .int v2), (3, .int v3), (4, .int v4), (5, .int v5), (6, .int v6)] → W p l e rm_X4_fittingTo s m ([.ref a0, .int p1] : List Value).toArray below meth c H locs 0 0 (MQ below (va_Qi K (OutW D cs E (AW E sz)) (AW E sz)) ([.ref a0, .int p1] : List Value).toArray s rm_X4_fittingTo.cells rm_X4_fittingTo.slots (AW E sz)) (F0 m 114 ls [.int s0]) := by
        intro v2 v3 v4 v5 v6 s0 d H locs ls h hw hl
        unfold b_X4_fittingTo_114 at h
        refine lv_istore (lv' := [(7, .int s0), (0, .ref a0), (2, .int v2), (3, .int v3), (4, .int v4), (5, .int v5), (6, .int v6)]) S.1 S.2.1 (dd_at ddX4_fittingTo 59 rfl) hl (by decide) rfl (fun ls hl => ?_)
        refine lv_iload S.1 S.2.1 (dd_at ddX4_fittingTo 60 rfl) (lv_at hl 0 rfl) ?_
        refine lv_if_eq (tgt := 148) S.1 S.2.1 (dd_at ddX4_fittingTo 61 rfl) (by decide) (fun hc_1 => ?_) (fun hc_1 => ?_)
        · have h := h.1 hc_1
          refine lv_iinc (v := v5 + 1) (lv' := [(5, .int (v5 + 1)), (7, .int s0), (0, .ref a0), (2, .int v2), (3, .int v3), (4, .int v4), (6, .int v6)]) S.1 S.2.1 (dd_at ddX4_fittingTo 76 rfl) hl (k := 5) rfl rfl (by decide) rfl (fun ls hl => ?_)
          refine lv_goto (tgt := 54) S.1 S.2.1 (dd_at ddX4_fittingTo 77 rfl) (by decide) ?_
          exact ih54 v2 v3 v4 (v5 + 1) d H locs ls h hw (lv_sub hl [2, 3, 4, 5, 0] rfl)
        · have h := h.2 hc_1
          refine lv_iload S.1 S.2.1 (dd_at ddX4_fittingTo 62 rfl) (lv_at hl 6 rfl) ?_
          refine lv_aload_n S.1 S.2.1 (dd_at ddX4_fittingTo 63 rfl) rfl (lv_at hl 1 rfl) ?_
          obtain ⟨b_2, hb_3, ho_4, h⟩ := h
          refine r_getR S hw 4 0 rfl inG4 (by decide) (List.mem_cons_of_mem _ wg144) (by decide) ha0 hb_3 (dd_at ddX4_fittingTo 64 rfl) ?_
          obtain ⟨b_5, hb_6, ho_7, h⟩ := h
          refine r_getRN S hw 8 8 rfl inG8 (by decide) nx17 (by decide) ho_4 hb_6 (dd_at ddX4_fittingTo 65 rfl) ?_
          refine lv_iload S.1 S.2.1 (dd_at ddX4_fittingTo 66 rfl) (lv_at hl 5 rfl) ?_
          refine lv_iconst (v := 2) S.1 S.2.1 (dd_at ddX4_fittingTo 67 rfl) (by decide) ?_
          refine r_callI hw (r_runV (As := [.int v5, .int 2]) (rest := [.int v6]) S hw (m_X6_get l D cs E d H.size b_5 v5 2 _) (cwV 2 S.2.2.2.2 (gV wg1376 wg623 wg624 wg51 wg625) rfl rfl rfl (by decide +kernel) ⟨Nat.le_of_ble_eq_true rfl, Nat.le_of_ble_eq_true rfl⟩) (ci := 6) rfl ho_7 h rfl hl.1 rfl (Nat.le_of_ble_eq_true rfl) (dd_at ddX4_fittingTo 68 rfl) ⟨Nat.le_of_ble_eq_true rfl, Nat.le_of_ble_eq_true rfl⟩) (fun r_9 d_8 H locs h hw => ?_)
          refine lv_icmp_gt (tgt := 148) S.1 S.2.1 (dd_at ddX4_fittingTo 69 rfl) (by decide) (fun hc_10 => ?_) (fun hc_10 => ?_)
          · have h := h.1 hc_10
            refine lv_iinc (v := v5 + 1) (lv' := [(5, .int (v5 + 1)), (7, .int s0), (0, .ref a0), (2, .int v2), (3, .int v3), (4, .int v4), (6, .int v6)]) S.1 S.2.1 (dd_at ddX4_fittingTo 76 rfl) hl (k := 5) rfl rfl (by decide) rfl (fun ls hl => ?_)
            refine lv_goto (tgt := 54) S.1 S.2.1 (dd_at ddX4_fittingTo 77 rfl) (by decide) ?_
            exact ih54 v2 v3 v4 (v5 + 1) d_8 H locs ls h hw (lv_sub hl [2, 3, 4, 5, 0] rfl)
          · have h := h.2 hc_10
            refine lv_iload S.1 S.2.1 (dd_at ddX4_fittingTo 70 rfl) (lv_at hl 4 rfl) ?_
            refine lv_iconst (v := 1) S.1 S.2.1 (dd_at ddX4_fittingTo 71 rfl) (by decide) ?_
            refine lv_iload S.1 S.2.1 (dd_at ddX4_fittingTo 72 rfl) (lv_at hl 5 rfl) ?_
            refine lv_ishl S.1 S.2.1 (dd_at ddX4_fittingTo 73 rfl) ?_
            refine lv_ior S.1 S.2.1 (dd_at ddX4_fittingTo 74 rfl) ?_
            refine lv_istore (lv' := [(4, .int (v4 ||| ((1 : Int32) <<< (v5 &&& 31)))), (7, .int s0), (0, .ref a0), (2, .int v2), (3, .int v3), (5, .int v5), (6, .int v6)]) S.1 S.2.1 (dd_at ddX4_fittingTo 75 rfl) hl (by decide) rfl (fun ls hl => ?_)
            refine lv_iinc (v := v5 + 1) (lv' := [(5, .int (v5 + 1)), (4, .int (v4 ||| ((1 : Int32) <<< (v5 &&& 31)))), (7, .int s0), (0, .ref a0), (2, .int v2), (3, .int v3), (6, .int v6)]) S.1 S.2.1 (dd_at ddX4_fittingTo 76 rfl) hl (k := 5) rfl rfl (by decide) rfl (fun ls hl => ?_)
            refine lv_goto (tgt := 54) S.1 S.2.1 (dd_at ddX4_fittingTo 77 rfl) (by decide) ?_
            exact ih54 v2 v3 (v4 ||| ((1 : Int32) <<< (v5 &&& 31))) (v5 + 1) d_8 H locs ls h hw (lv_sub hl [3, 4, 5, 1, 0] rfl)
      intro v2 v3 v4 v5 d H locs ls h hw hl
      have h : b_X4_fittingTo_54 E a0 p1 K (l_X4_fittingTo_54 E a0 p1 K n54) v2 v3 v4 v5 d := h
      unfold b_X4_fittingTo_54 at h
      refine lv_iload S.1 S.2.1 (dd_at ddX4_fittingTo 29 rfl) (lv_at hl 4 rfl) ?_
      refine lv_aload_n S.1 S.2.1 (dd_at ddX4_fittingTo 30 rfl) rfl (lv_at hl 0 rfl) ?_
      obtain ⟨b_11, hb_12, ho_13, h⟩ := h
      refine r_getR S hw 4 0 rfl inG4 (by decide) (List.mem_cons_of_mem _ wg144) (by decide) ha0 hb_12 (dd_at ddX4_fittingTo 31 rfl) ?_
      obtain ⟨b_14, hb_15, ho_16, h⟩ := h
      refine r_getRN S hw 8 8 rfl inG8 (by decide) nx17 (by decide) ho_13 hb_15 (dd_at ddX4_fittingTo 32 rfl) ?_
      refine r_callI hw (r_runV (As := []) (rest := [.int v5]) S hw (m_X6_size l D cs E d H.size b_14 _) (cwV 0 S.2.2.2.2 (gV wg1364 wg372 wg373 wg51 wg374) rfl rfl rfl (by decide +kernel) ⟨Nat.le_of_ble_eq_true rfl, Nat.le_of_ble_eq_true rfl⟩) (ci := 6) rfl ho_16 h rfl hl.1 rfl (Nat.le_of_ble_eq_true rfl) (dd_at ddX4_fittingTo 33 rfl) ⟨Nat.le_of_ble_eq_true rfl, Nat.le_of_ble_eq_true rfl⟩) (fun r_18 d_17 H locs h hw => ?_)
      refine lv_icmp_ge (tgt := 154) S.1 S.2.1 (dd_at ddX4_fittingTo 34 rfl) (by decide) (fun hc_19 => ?_) (fun hc_19 => ?_)
      · have h := h.1 hc_19
        refine lv_iload S.1 S.2.1 (dd_at ddX4_fittingTo 78 rfl) (lv_at hl 3 rfl) ?_
        exact e_I S hr hlocks hw h (dd_at ddX4_fittingTo 79 rfl)
      · have h := h.2 hc_19
        refine lv_aload_n S.1 S.2.1 (dd_at ddX4_fittingTo 35 rfl) rfl (lv_at hl 0 rfl) ?_
        obtain ⟨b_20, hb_21, ho_22, h⟩ := h
        refine r_getR S hw 4 0 rfl inG4 (by decide) (List.mem_cons_of_mem _ wg144) (by decide) ha0 hb_21 (dd_at ddX4_fittingTo 36 rfl) ?_
        obtain ⟨b_23, hb_24, ho_25, h⟩ := h
        refine r_getRN S hw 8 8 rfl inG8 (by decide) nx17 (by decide) ho_22 hb_24 (dd_at ddX4_fittingTo 37 rfl) ?_
        refine lv_iload S.1 S.2.1 (dd_at ddX4_fittingTo 38 rfl) (lv_at hl 4 rfl) ?_
        refine lv_iconst (v := 1) S.1 S.2.1 (dd_at ddX4_fittingTo 39 rfl) (by decide) ?_
        refine r_callI hw (r_runV (As := [.int v5, .int 1]) (rest := []) S hw (m_X6_get l D cs E d_17 H.size b_23 v5 1 _) (cwV 2 S.2.2.2.2 (gV wg1376 wg623 wg624 wg51 wg625) rfl rfl rfl (by decide +kernel) ⟨Nat.le_of_ble_eq_true rfl, Nat.le_of_ble_eq_true rfl⟩) (ci := 6) rfl ho_25 h rfl hl.1 rfl (Nat.le_of_ble_eq_true rfl) (dd_at ddX4_fittingTo 40 rfl) ⟨Nat.le_of_ble_eq_true rfl, Nat.le_of_ble_eq_true rfl⟩) (fun r_27 d_26 H locs h hw => ?_)
        refine lv_iload_n S.1 S.2.1 (dd_at ddX4_fittingTo 41 rfl) rfl (lv_at hl 2 rfl) ?_
        refine lv_isub S.1 S.2.1 (dd_at ddX4_fittingTo 42 rfl) ?_
        refine va_mabs S.1 S.2.1 (by rw [hl.1]; exact S.2.2.1) S.2.2.2.1 (S.2.2.2.2 _ (List.mem_cons_of_mem _ wg1373)) (S.2.2.2.2 _ (List.mem_cons_of_mem _ wg1374)) (S.2.2.2.2 _ (List.mem_cons_of_mem _ wg70)) (S.2.2.2.2 _ (List.mem_cons_of_mem _ wg1375)) (Nat.le_of_ble_eq_true rfl) (Nat.le_of_ble_eq_true rfl) (Nat.le_of_ble_eq_true rfl) (Nat.le_of_ble_eq_true rfl) (dd_at ddX4_fittingTo 43 rfl) ?_
        refine lv_istore (lv' := [(6, .int (if 0 ≤ (r_27 - v3) then (r_27 - v3) else 0 - (r_27 - v3))), (0, .ref a0), (2, .int v2), (3, .int v3), (4, .int v4), (5, .int v5)]) S.1 S.2.1 (dd_at ddX4_fittingTo 44 rfl) hl (by decide) rfl (fun ls hl => ?_)
        refine lv_aload_n S.1 S.2.1 (dd_at ddX4_fittingTo 45 rfl) rfl (lv_at hl 1 rfl) ?_
        obtain ⟨b_28, hb_29, ho_30, h⟩ := h
        refine r_getR S hw 4 0 rfl inG4 (by decide) (List.mem_cons_of_mem _ wg144) (by decide) ha0 hb_29 (dd_at ddX4_fittingTo 46 rfl) ?_
        obtain ⟨b_31, hb_32, ho_33, h⟩ := h
        refine r_getRN S hw 8 8 rfl inG8 (by decide) nx17 (by decide) ho_30 hb_32 (dd_at ddX4_fittingTo 47 rfl) ?_
        refine lv_iload S.1 S.2.1 (dd_at ddX4_fittingTo 48 rfl) (lv_at hl 5 rfl) ?_
        refine lv_iconst (v := 0) S.1 S.2.1 (dd_at ddX4_fittingTo 49 rfl) (by decide) ?_
        refine r_callI hw (r_runV (As := [.int v5, .int 0]) (rest := []) S hw (m_X6_get l D cs E d_26 H.size b_31 v5 0 _) (cwV 2 S.2.2.2.2 (gV wg1376 wg623 wg624 wg51 wg625) rfl rfl rfl (by decide +kernel) ⟨Nat.le_of_ble_eq_true rfl, Nat.le_of_ble_eq_true rfl⟩) (ci := 6) rfl ho_33 h rfl hl.1 rfl (Nat.le_of_ble_eq_true rfl) (dd_at ddX4_fittingTo 50 rfl) ⟨Nat.le_of_ble_eq_true rfl, Nat.le_of_ble_eq_true rfl⟩) (fun r_35 d_34 H locs h hw => ?_)
        refine lv_iload_n S.1 S.2.1 (dd_at ddX4_fittingTo 51 rfl) rfl (lv_at hl 2 rfl) ?_
        refine lv_ishr S.1 S.2.1 (dd_at ddX4_fittingTo 52 rfl) ?_
        refine lv_iconst (v := 1) S.1 S.2.1 (dd_at ddX4_fittingTo 53 rfl) (by decide) ?_
        refine lv_iand S.1 S.2.1 (dd_at ddX4_fittingTo 54 rfl) ?_
        refine lv_if_eq (tgt := 113) S.1 S.2.1 (dd_at ddX4_fittingTo 55 rfl) (by decide) (fun hc_36 => ?_) (fun hc_36 => ?_)
        · have h := h.1 hc_36
          refine lv_iconst (v := 0) S.1 S.2.1 (dd_at ddX4_fittingTo 58 rfl) (by decide) ?_
          exact tb114 v2 v3 v4 v5 (if 0 ≤ (r_27 - v3) then (r_27 - v3) else 0 - (r_27 - v3)) 0 d_34 H locs ls h hw (lv_sub hl [1, 2, 3, 4, 5, 0] rfl)
        · have h := h.2 hc_36
          refine lv_iconst (v := 1) S.1 S.2.1 (dd_at ddX4_fittingTo 56 rfl) (by decide) ?_
          refine lv_goto (tgt := 114) S.1 S.2.1 (dd_at ddX4_fittingTo 57 rfl) (by decide) ?_
          exact tb114 v2 v3 v4 v5 (if 0 ≤ (r_27 - v3) then (r_27 - v3) else 0 - (r_27 - v3)) 1 d_34 H locs ls h hw (lv_sub hl [1, 2, 3, 4, 5, 0] rfl)
  refine lv_aload_n S.1 S.2.1 (dd_at ddX4_fittingTo 0 rfl) rfl (lv_at hl 0 rfl) ?_
  refine lv_aload_n S.1 S.2.1 (dd_at ddX4_fittingTo 1 rfl) rfl (lv_at hl 0 rfl) ?_
  obtain ⟨b_37, hb_38, ho_39, h⟩ := h
  refine r_getR S hw 4 0 rfl inG4 (by decide) (List.mem_cons_of_mem _ wg144) (by decide) ha0 hb_38 (dd_at ddX4_fittingTo 2 rfl) ?_
  obtain ⟨b_40, hb_41, ho_42, h⟩ := h
  refine r_getRN S hw 8 2 rfl inG8 (by decide) nx5 (by decide) ho_39 hb_41 (dd_at ddX4_fittingTo 3 rfl) ?_
  refine lv_iload_n S.1 S.2.1 (dd_at ddX4_fittingTo 4 rfl) rfl (lv_at hl 1 rfl) ?_
  refine lv_iconst (v := 5) S.1 S.2.1 (dd_at ddX4_fittingTo 5 rfl) (by decide) ?_
  refine r_callI hw (r_runV (As := [.int p1, .int 5]) (rest := [.ref a0]) S hw (m_X6_get l D cs E d H.size b_40 p1 5 _) (cwV 2 S.2.2.2.2 (gV wg1376 wg623 wg624 wg51 wg625) rfl rfl rfl (by decide +kernel) ⟨Nat.le_of_ble_eq_true rfl, Nat.le_of_ble_eq_true rfl⟩) (ci := 6) rfl ho_42 h rfl hl.1 rfl (Nat.le_of_ble_eq_true rfl) (dd_at ddX4_fittingTo 6 rfl) ⟨Nat.le_of_ble_eq_true rfl, Nat.le_of_ble_eq_true rfl⟩) (fun r_44 d_43 H locs h hw => ?_)
  refine r_putI S hw 4 4 (ty := .int) (v := r_44) rfl inG4 tyX4 tyX4_ok nmX4 (by decide) (List.mem_cons_of_mem _ wg1372) (by decide) rfl (by decide +kernel) rfl rfl ha0 (dd_at ddX4_fittingTo 7 rfl) (fun H locs hw => ?_)
  refine lv_aload_n S.1 S.2.1 (dd_at ddX4_fittingTo 8 rfl) rfl (lv_at hl 0 rfl) ?_
  refine r_getI S hw 4 4 rfl inG4 (by decide) (List.mem_cons_of_mem _ wg1372) (by decide) ha0 (dd_at ddX4_fittingTo 9 rfl) ?_
  refine lv_if_ne (tgt := 25) S.1 S.2.1 (dd_at ddX4_fittingTo 10 rfl) (by decide) (fun hc_45 => ?_) (fun hc_45 => ?_)
  · have h := h.1 hc_45
    refine lv_aload_n S.1 S.2.1 (dd_at ddX4_fittingTo 13 rfl) rfl (lv_at hl 0 rfl) ?_
    obtain ⟨b_46, hb_47, ho_48, h⟩ := h
    refine r_getR S hw 4 0 rfl inG4 (by decide) (List.mem_cons_of_mem _ wg144) (by decide) ha0 hb_47 (dd_at ddX4_fittingTo 14 rfl) ?_
    obtain ⟨b_49, hb_50, ho_51, h⟩ := h
    refine r_getRN S hw 8 2 rfl inG8 (by decide) nx5 (by decide) ho_48 hb_50 (dd_at ddX4_fittingTo 15 rfl) ?_
    refine lv_iload_n S.1 S.2.1 (dd_at ddX4_fittingTo 16 rfl) rfl (lv_at hl 1 rfl) ?_
    refine lv_bipush (v := 6) S.1 S.2.1 (dd_at ddX4_fittingTo 17 rfl) (by decide) ?_
    refine r_callI hw (r_runV (As := [.int p1, .int 6]) (rest := []) S hw (m_X6_get l D cs E (pI d_43 a0 4 r_44) H.size b_49 p1 6 _) (cwV 2 S.2.2.2.2 (gV wg1376 wg623 wg624 wg51 wg625) rfl rfl rfl (by decide +kernel) ⟨Nat.le_of_ble_eq_true rfl, Nat.le_of_ble_eq_true rfl⟩) (ci := 6) rfl ho_51 h rfl hl.1 rfl (Nat.le_of_ble_eq_true rfl) (dd_at ddX4_fittingTo 18 rfl) ⟨Nat.le_of_ble_eq_true rfl, Nat.le_of_ble_eq_true rfl⟩) (fun r_53 d_52 H locs h hw => ?_)
    refine lv_istore_n (lv' := [(2, .int r_53), (0, .ref a0), (1, .int p1)]) S.1 S.2.1 (dd_at ddX4_fittingTo 19 rfl) rfl hl (by decide) rfl (fun ls hl => ?_)
    refine lv_aload_n S.1 S.2.1 (dd_at ddX4_fittingTo 20 rfl) rfl (lv_at hl 1 rfl) ?_
    obtain ⟨b_54, hb_55, ho_56, h⟩ := h
    refine r_getR S hw 4 1 rfl inG4 (by decide) (List.mem_cons_of_mem _ wg145) (by decide) ha0 hb_55 (dd_at ddX4_fittingTo 21 rfl) ?_
    refine lv_iload_n S.1 S.2.1 (dd_at ddX4_fittingTo 22 rfl) rfl (lv_at hl 2 rfl) ?_
    refine r_callI hw (r_runV (As := [.int p1]) (rest := []) S hw (m_X3_placeOf l D cs E d_52 H.size b_54 p1 _) (cwV 1 S.2.2.2.2 (gV wg1377 wg802 wg803 wg25 wg804) rfl rfl rfl (by decide +kernel) ⟨Nat.le_of_ble_eq_true rfl, Nat.le_of_ble_eq_true rfl⟩) (ci := 3) rfl ho_56 h rfl hl.1 rfl (Nat.le_of_ble_eq_true rfl) (dd_at ddX4_fittingTo 23 rfl) ⟨Nat.le_of_ble_eq_true rfl, Nat.le_of_ble_eq_true rfl⟩) (fun r_58 d_57 H locs h hw => ?_)
    refine lv_istore_n (lv' := [(3, .int r_58), (2, .int r_53), (0, .ref a0), (1, .int p1)]) S.1 S.2.1 (dd_at ddX4_fittingTo 24 rfl) rfl hl (by decide) rfl (fun ls hl => ?_)
    refine lv_iconst (v := 0) S.1 S.2.1 (dd_at ddX4_fittingTo 25 rfl) (by decide) ?_
    refine lv_istore (lv' := [(4, .int 0), (3, .int r_58), (2, .int r_53), (0, .ref a0), (1, .int p1)]) S.1 S.2.1 (dd_at ddX4_fittingTo 26 rfl) hl (by decide) rfl (fun ls hl => ?_)
    refine lv_iconst (v := 0) S.1 S.2.1 (dd_at ddX4_fittingTo 27 rfl) (by decide) ?_
    refine lv_istore (lv' := [(5, .int 0), (4, .int 0), (3, .int r_58), (2, .int r_53), (0, .ref a0), (1, .int p1)]) S.1 S.2.1 (dd_at ddX4_fittingTo 28 rfl) hl (by decide) rfl (fun ls hl => ?_)
    obtain ⟨n_59, h⟩ := h
    exact tl54 n_59 r_53 r_58 0 0 d_57 H locs ls h hw (lv_sub hl [4, 3, 2, 1, 0] rfl)
  · have h := h.2 hc_45
    refine lv_iconst (v := 0) S.1 S.2.1 (dd_at ddX4_fittingTo 11 rfl) (by decide) ?_
    exact e_I S hr hlocks hw h (dd_at ddX4_fittingTo 12 rfl)

def b_X4_sumOver_46 (E : En) (a0 : Nat) (p1 : Int32) (p2 : Int32) (K : Int64 → Dy → Prop) (k15 : Int32 → Int64 → Int32 → Dy → Prop) (v3 : Int32) (v4 : Int64) (v6 : Int32) (d : Dy) : Prop := k15 v3 v4 ((v6 - 1) &&& v3) d
def b_X4_sumOver_15 (E : En) (a0 : Nat) (p1 : Int32) (p2 : Int32) (K : Int64 → Dy → Prop) (k15 : Int32 → Int64 → Int32 → Dy → Prop) (v3 : Int32) (v4 : Int64) (v6 : Int32) (d : Dy) : Prop := ((v6 ≤ 0 → K v4 d) ∧ (¬ v6 ≤ 0 → w_J6_bitCount_0f7a4 E v6 d (fun r_3 d_2 => (((gI d_2 a0 4) < r_3 → b_X4_sumOver_46 E a0 p1 p2 K k15 v3 v4 v6 d_2) ∧ (¬ (gI d_2 a0 4) < r_3 → ∃ b_5 : Nat, eR E a0 2 = some b_5 ∧ okA E b_5 14 ∧ vp_in (p1 ^^^ v6) (eN E b_5) ∧ b_X4_sumOver_46 E a0 p1 p2 K k15 v3 (v4 + (gJ d_2 b_5 (p1 ^^^ v6).toNatClampNeg)) v6 d_2)))))
def l_X4_sumOver_15 (E : En) (a0 : Nat) (p1 : Int32) (p2 : Int32) (K : Int64 → Dy → Prop) : Nat → Int32 → Int64 → Int32 → Dy → Prop
  | 0 => fun _ _ _ _ => False
  | n + 1 => b_X4_sumOver_15 E a0 p1 p2 K (l_X4_sumOver_15 E a0 p1 p2 K n)
def w_X4_sumOver (E : En) (a0 : Nat) (p1 : Int32) (p2 : Int32) (d : Dy) (K : Int64 → Dy → Prop) : Prop := okO E a0 4 ∧ ∃ b_9 : Nat, eR E a0 2 = some b_9 ∧ okA E b_9 14 ∧ vp_in p1 (eN E b_9) ∧ (∃ n_13 : Nat, l_X4_sumOver_15 E a0 p1 p2 K n_13 (p1 &&& p2) (gJ d b_9 (p1).toNatClampNeg) (p1 &&& p2) d)
abbrev rm_X4_sumOver : Room := { frames := 1, cells := 0, slots := 0, locals := 20 }
set_option maxRecDepth 100000 in
set_option maxHeartbeats 4000000 in
theorem m_X4_sumOver (l : Launch) (D : va_G) (cs : Nat → ClassId) (E : En) (d : Dy) (sz : Nat) (a0 : Nat) (p1 : Int32) (p2 : Int32) (K : Int64 → Dy → Prop) : CJ l yX4_sumOver (.code yX4_sumOver cX4_sumOver 7 (some .long) :: wsL_law) rm_X4_sumOver D cs E d sz [.ref a0, .int p1, .int p2] (w_X4_sumOver E a0 p1 p2 d K) K := by
  refine e_of (cc := cX4_sumOver) (maxL := 7) (ret := (some .long)) (own := RX4) (by decide) rfl rfl (Nat.le_of_ble_eq_true rfl) ?_
  intro p e s m below meth c S hr hlocks hsz H locs hw h ls hl
  have hl : lv_has ls 7 [(0, .ref a0), (1, .int p1), (2, .int p2)] := hl
  unfold w_X4_sumOver at h
  obtain ⟨ha0, h⟩ := h
  have tl15 : ∀ (n : Nat) (v3 : Int32) (v4 : Int64) (v6 : Int32) (d : Dy) (H : Heap) (locs : List Loc) (ls : Array Slot), l_X4_sumOver_15 E a0 p1 p2 K n v3 v4 v6 d → Wd D cs (AW E sz) s.heap s E d H locs → lv_has ls 7 [(0, .ref a0), (1, .int p1), (3, .int v3), (4, .long v4), (6, .int v6)] → W p l e rm_X4_sumOver s m ([.ref a0, .int p1, .int p2] : List Value).toArray below meth c H locs 0 0 (MQ below (va_Ql K (OutW D cs E (AW E sz)) (AW E sz)) ([.ref a0, .int p1, .int p2] : List Value).toArray s rm_X4_sumOver.cells rm_X4_sumOver.slots (AW E sz)) (F0 m 15 ls []) := by
    intro n15
    induction n15 with
    | zero => intro v3 v4 v6 d H locs ls h; exact absurd h id
    | succ n15 ih15 =>
      have tb46 : ∀ (v3 : Int32) (v4 : Int64) (v6 : Int32) (d : Dy) (H : Heap) (locs : List Loc) (ls : Array Slot), b_X4_sumOver_46 E a0 p1 p2 K (l_X4_sumOver_15 E a0 p1 p2 K n15) v3 v4 v6 d → Wd D cs (AW E sz) s.heap s E d H locs → lv_has ls 7 [(0, .ref a0), (1, .int p1), (3, .int v3), (4, .long v4), (6, .int v6)] → W p l e rm_X4_sumOver s m ([.ref a0, .int p1, .int p2] : List Value).toArray below meth c H locs 0 0 (MQ below (va_Ql K (OutW D cs E (AW E sz)) (AW E sz)) ([.ref a0, .int p1, .int p2] : List Value).toArray s rm_X4_sumOver.cells rm_X4_sumOver.slots (AW E sz)) (F0 m 46 ls []) := by
        intro v3 v4 v6 d H locs ls h hw hl
        unfold b_X4_sumOver_46 at h
        refine lv_iload S.1 S.2.1 (dd_at ddX4_sumOver 27 rfl) (lv_at hl 4 rfl) ?_
        refine lv_iconst (v := 1) S.1 S.2.1 (dd_at ddX4_sumOver 28 rfl) (by decide) ?_
        refine lv_isub S.1 S.2.1 (dd_at ddX4_sumOver 29 rfl) ?_
        refine lv_iload_n S.1 S.2.1 (dd_at ddX4_sumOver 30 rfl) rfl (lv_at hl 2 rfl) ?_
        refine lv_iand S.1 S.2.1 (dd_at ddX4_sumOver 31 rfl) ?_
        refine lv_istore (lv' := [(6, .int ((v6 - 1) &&& v3)), (0, .ref a0), (1, .int p1), (3, .int v3), (4, .long v4)]) S.1 S.2.1 (dd_at ddX4_sumOver 32 rfl) hl (by decide) rfl (fun ls hl => ?_)
        refine lv_goto (tgt := 15) S.1 S.2.1 (dd_at ddX4_sumOver 33 rfl) (by decide) ?_
        exact ih15 v3 v4 ((v6 - 1) &&& v3) d H locs ls h hw (lv_sub hl [1, 2, 3, 4, 0] rfl)
      intro v3 v4 v6 d H locs ls h hw hl
      have h : b_X4_sumOver_15 E a0 p1 p2 K (l_X4_sumOver_15 E a0 p1 p2 K n15) v3 v4 v6 d := h
      unfold b_X4_sumOver_15 at h
      refine lv_iload S.1 S.2.1 (dd_at ddX4_sumOver 11 rfl) (lv_at hl 4 rfl) ?_
      refine lv_if_le (tgt := 57) S.1 S.2.1 (dd_at ddX4_sumOver 12 rfl) (by decide) (fun hc_1 => ?_) (fun hc_1 => ?_)
      · have h := h.1 hc_1
        refine lv_lload S.1 S.2.1 (dd_at ddX4_sumOver 34 rfl) (lv_at hl 3 rfl) ?_
        exact e_J S hr hlocks hw h (dd_at ddX4_sumOver 35 rfl)
      · have h := h.2 hc_1
        refine lv_iload S.1 S.2.1 (dd_at ddX4_sumOver 13 rfl) (lv_at hl 4 rfl) ?_
        refine r_callI hw (r_runS (As := [.int v6]) (rest := []) S hw (m_J6_bitCount_0f7a4 l D cs E d H.size v6 _) (va_cwS 1 S.2.2.2.2 (gS wg1382 wg724 wg725 wg726) rfl rfl rfl (by decide +kernel) ⟨Nat.le_of_ble_eq_true rfl, Nat.le_of_ble_eq_true rfl⟩) h rfl hl.1 rfl (Nat.le_of_ble_eq_true rfl) (dd_at ddX4_sumOver 14 rfl) ⟨Nat.le_of_ble_eq_true rfl, Nat.le_of_ble_eq_true rfl⟩) (fun r_3 d_2 H locs h hw => ?_)
        refine lv_aload_n S.1 S.2.1 (dd_at ddX4_sumOver 15 rfl) rfl (lv_at hl 0 rfl) ?_
        refine r_getI S hw 4 4 rfl inG4 (by decide) (List.mem_cons_of_mem _ wg1372) (by decide) ha0 (dd_at ddX4_sumOver 16 rfl) ?_
        refine lv_icmp_gt (tgt := 46) S.1 S.2.1 (dd_at ddX4_sumOver 17 rfl) (by decide) (fun hc_4 => ?_) (fun hc_4 => ?_)
        · have h := h.1 hc_4
          exact tb46 v3 v4 v6 d_2 H locs ls h hw (lv_sub hl [0, 1, 2, 3, 4] rfl)
        · have h := h.2 hc_4
          refine lv_lload S.1 S.2.1 (dd_at ddX4_sumOver 18 rfl) (lv_at hl 3 rfl) ?_
          refine lv_aload_n S.1 S.2.1 (dd_at ddX4_sumOver 19 rfl) rfl (lv_at hl 0 rfl) ?_
          obtain ⟨b_5, hb_6, ho_7, h⟩ := h
          refine r_getR S hw 4 2 rfl inG4 (by decide) (List.mem_cons_of_mem _ wg143) (by decide) ha0 hb_6 (dd_at ddX4_sumOver 20 rfl) ?_
          refine lv_iload_n S.1 S.2.1 (dd_at ddX4_sumOver 21 rfl) rfl (lv_at hl 1 rfl) ?_
          refine lv_iload S.1 S.2.1 (dd_at ddX4_sumOver 22 rfl) (lv_at hl 4 rfl) ?_
          refine lv_ixor S.1 S.2.1 (dd_at ddX4_sumOver 23 rfl) ?_
          obtain ⟨hx_8, h⟩ := h
          refine r_lald S hw ho_7 hx_8 (dd_at ddX4_sumOver 24 rfl) ?_
          refine lv_ladd S.1 S.2.1 (dd_at ddX4_sumOver 25 rfl) ?_
          refine lv_lstore (lv' := [(4, .long (v4 + (gJ d_2 b_5 (p1 ^^^ v6).toNatClampNeg))), (0, .ref a0), (1, .int p1), (3, .int v3), (6, .int v6)]) S.1 S.2.1 (dd_at ddX4_sumOver 26 rfl) hl (by decide) rfl (fun ls hl => ?_)
          exact tb46 v3 (v4 + (gJ d_2 b_5 (p1 ^^^ v6).toNatClampNeg)) v6 d_2 H locs ls h hw (lv_sub hl [1, 2, 3, 0, 4] rfl)
  refine lv_iload_n S.1 S.2.1 (dd_at ddX4_sumOver 0 rfl) rfl (lv_at hl 1 rfl) ?_
  refine lv_iload_n S.1 S.2.1 (dd_at ddX4_sumOver 1 rfl) rfl (lv_at hl 2 rfl) ?_
  refine lv_iand S.1 S.2.1 (dd_at ddX4_sumOver 2 rfl) ?_
  refine lv_istore_n (lv' := [(3, .int (p1 &&& p2)), (0, .ref a0), (1, .int p1), (2, .int p2)]) S.1 S.2.1 (dd_at ddX4_sumOver 3 rfl) rfl hl (by decide) rfl (fun ls hl => ?_)
  refine lv_aload_n S.1 S.2.1 (dd_at ddX4_sumOver 4 rfl) rfl (lv_at hl 1 rfl) ?_
  obtain ⟨b_9, hb_10, ho_11, h⟩ := h
  refine r_getR S hw 4 2 rfl inG4 (by decide) (List.mem_cons_of_mem _ wg143) (by decide) ha0 hb_10 (dd_at ddX4_sumOver 5 rfl) ?_
  refine lv_iload_n S.1 S.2.1 (dd_at ddX4_sumOver 6 rfl) rfl (lv_at hl 2 rfl) ?_
  obtain ⟨hx_12, h⟩ := h
  refine r_lald S hw ho_11 hx_12 (dd_at ddX4_sumOver 7 rfl) ?_
  refine lv_lstore (lv' := [(4, .long (gJ d b_9 (p1).toNatClampNeg)), (3, .int (p1 &&& p2)), (0, .ref a0), (1, .int p1), (2, .int p2)]) S.1 S.2.1 (dd_at ddX4_sumOver 8 rfl) hl (by decide) rfl (fun ls hl => ?_)
  refine lv_iload_n S.1 S.2.1 (dd_at ddX4_sumOver 9 rfl) rfl (lv_at hl 1 rfl) ?_
  refine lv_istore (lv' := [(6, .int (p1 &&& p2)), (4, .long (gJ d b_9 (p1).toNatClampNeg)), (3, .int (p1 &&& p2)), (0, .ref a0), (1, .int p1), (2, .int p2)]) S.1 S.2.1 (dd_at ddX4_sumOver 10 rfl) hl (by decide) rfl (fun ls hl => ?_)
  obtain ⟨n_13, h⟩ := h
  exact tl15 n_13 (p1 &&& p2) (gJ d b_9 (p1).toNatClampNeg) (p1 &&& p2) d H locs ls h hw (lv_sub hl [3, 4, 2, 1, 0] rfl)

def b_X4_ways_31 (E : En) (a0 : Nat) (K : Int64 → Dy → Prop) (k6 : Int32 → Dy → Prop) (k31 : Int32 → Int32 → Int32 → Dy → Prop) (v1 : Int32) (v2 : Int32) (v3 : Int32) (d : Dy) : Prop := ((v3 ≤ 0 → k6 (v1 + 1) d) ∧ (¬ v3 ≤ 0 → ((v2 = 0 → k6 (v1 + 1) d) ∧ (¬ v2 = 0 → ∃ b_3 : Nat, eR E a0 2 = some b_3 ∧ okA E b_3 14 ∧ w_X4_sumOver E a0 v3 v2 d (fun r_7 d_6 => vp_in v3 (eN E b_3) ∧ k31 v1 v2 (v3 + (-1)) (pJ d_6 b_3 (v3).toNatClampNeg r_7))))))
def l_X4_ways_31 (E : En) (a0 : Nat) (K : Int64 → Dy → Prop) (k6 : Int32 → Dy → Prop) : Nat → Int32 → Int32 → Int32 → Dy → Prop
  | 0 => fun _ _ _ _ => False
  | n + 1 => b_X4_ways_31 E a0 K k6 (l_X4_ways_31 E a0 K k6 n)
def b_X4_ways_6 (E : En) (a0 : Nat) (K : Int64 → Dy → Prop) (k6 : Int32 → Dy → Prop) (v1 : Int32) (d : Dy) : Prop := ∃ b_9 : Nat, eR E a0 0 = some b_9 ∧ okO E b_9 8 ∧ ∃ b_12 : Nat, eR E b_9 2 = some b_12 ∧ okO E b_12 6 ∧ w_X6_size E b_12 d (fun r_16 d_15 => ((r_16 ≤ v1 → ∃ b_18 : Nat, eR E a0 2 = some b_18 ∧ okA E b_18 14 ∧ vp_in (gI d_15 a0 3) (eN E b_18) ∧ K (gJ d_15 b_18 (gI d_15 a0 3).toNatClampNeg) d_15) ∧ (¬ r_16 ≤ v1 → w_X4_fittingTo E a0 v1 d_15 (fun r_23 d_22 => (∃ n_24 : Nat, l_X4_ways_31 E a0 K k6 n_24 v1 r_23 (gI d_22 a0 3) d_22)))))
def l_X4_ways_6 (E : En) (a0 : Nat) (K : Int64 → Dy → Prop) : Nat → Int32 → Dy → Prop
  | 0 => fun _ _ => False
  | n + 1 => b_X4_ways_6 E a0 K (l_X4_ways_6 E a0 K n)
def w_X4_ways (E : En) (a0 : Nat) (d : Dy) (K : Int64 → Dy → Prop) : Prop := okO E a0 4 ∧ w_X4_clear E a0 d (fun d_25 => (∃ n_27 : Nat, l_X4_ways_6 E a0 K n_27 0 d_25))
abbrev rm_X4_ways : Room := { frames := 3, cells := 0, slots := 0, locals := 72 }
set_option maxRecDepth 100000 in
set_option maxHeartbeats 4000000 in
theorem m_X4_ways (l : Launch) (D : va_G) (cs : Nat → ClassId) (E : En) (d : Dy) (sz : Nat) (a0 : Nat) (K : Int64 → Dy → Prop) : CJ l yX4_ways (.code yX4_ways cX4_ways 4 (some .long) :: wsL_law) rm_X4_ways D cs E d sz [.ref a0] (w_X4_ways E a0 d K) K := by
  refine e_of (cc := cX4_ways) (maxL := 4) (ret := (some .long)) (own := RX4) (by decide) rfl rfl (Nat.le_of_ble_eq_true rfl) ?_
  intro p e s m below meth c S hr hlocks hsz H locs hw h ls hl
  have hl : lv_has ls 4 [(0, .ref a0)] := hl
  unfold w_X4_ways at h
  obtain ⟨ha0, h⟩ := h
  have tl6 : ∀ (n : Nat) (v1 : Int32) (d : Dy) (H : Heap) (locs : List Loc) (ls : Array Slot), l_X4_ways_6 E a0 K n v1 d → Wd D cs (AW E sz) s.heap s E d H locs → lv_has ls 4 [(0, .ref a0), (1, .int v1)] → W p l e rm_X4_ways s m ([.ref a0] : List Value).toArray below meth c H locs 0 0 (MQ below (va_Ql K (OutW D cs E (AW E sz)) (AW E sz)) ([.ref a0] : List Value).toArray s rm_X4_ways.cells rm_X4_ways.slots (AW E sz)) (F0 m 6 ls []) := by
    intro n6
    induction n6 with
    | zero => intro v1 d H locs ls h; exact absurd h id
    | succ n6 ih6 =>
      have tl31 : ∀ (n : Nat) (v1 : Int32) (v2 : Int32) (v3 : Int32) (d : Dy) (H : Heap) (locs : List Loc) (ls : Array Slot), l_X4_ways_31 E a0 K (l_X4_ways_6 E a0 K n6) n v1 v2 v3 d → Wd D cs (AW E sz) s.heap s E d H locs → lv_has ls 4 [(0, .ref a0), (1, .int v1), (2, .int v2), (3, .int v3)] → W p l e rm_X4_ways s m ([.ref a0] : List Value).toArray below meth c H locs 0 0 (MQ below (va_Ql K (OutW D cs E (AW E sz)) (AW E sz)) ([.ref a0] : List Value).toArray s rm_X4_ways.cells rm_X4_ways.slots (AW E sz)) (F0 m 31 ls []) := by
        intro n31
        induction n31 with
        | zero => intro v1 v2 v3 d H locs ls h; exact absurd h id
        | succ n31 ih31 =>
          intro v1 v2 v3 d H locs ls h hw hl
          have h : b_X4_ways_31 E a0 K (l_X4_ways_6 E a0 K n6) (l_X4_ways_31 E a0 K (l_X4_ways_6 E a0 K n6) n31) v1 v2 v3 d := h
          unfold b_X4_ways_31 at h
          refine lv_iload_n S.1 S.2.1 (dd_at ddX4_ways 17 rfl) rfl (lv_at hl 3 rfl) ?_
          refine lv_if_le (tgt := 57) S.1 S.2.1 (dd_at ddX4_ways 18 rfl) (by decide) (fun hc_1 => ?_) (fun hc_1 => ?_)
          · have h := h.1 hc_1
            refine lv_iinc (v := v1 + 1) (lv' := [(1, .int (v1 + 1)), (0, .ref a0), (2, .int v2), (3, .int v3)]) S.1 S.2.1 (dd_at ddX4_ways 31 rfl) hl (k := 1) rfl rfl (by decide) rfl (fun ls hl => ?_)
            refine lv_goto (tgt := 6) S.1 S.2.1 (dd_at ddX4_ways 32 rfl) (by decide) ?_
            exact ih6 (v1 + 1) d H locs ls h hw (lv_sub hl [1, 0] rfl)
          · have h := h.2 hc_1
            refine lv_iload_n S.1 S.2.1 (dd_at ddX4_ways 19 rfl) rfl (lv_at hl 2 rfl) ?_
            refine lv_if_eq (tgt := 57) S.1 S.2.1 (dd_at ddX4_ways 20 rfl) (by decide) (fun hc_2 => ?_) (fun hc_2 => ?_)
            · have h := h.1 hc_2
              refine lv_iinc (v := v1 + 1) (lv' := [(1, .int (v1 + 1)), (0, .ref a0), (2, .int v2), (3, .int v3)]) S.1 S.2.1 (dd_at ddX4_ways 31 rfl) hl (k := 1) rfl rfl (by decide) rfl (fun ls hl => ?_)
              refine lv_goto (tgt := 6) S.1 S.2.1 (dd_at ddX4_ways 32 rfl) (by decide) ?_
              exact ih6 (v1 + 1) d H locs ls h hw (lv_sub hl [1, 0] rfl)
            · have h := h.2 hc_2
              refine lv_aload_n S.1 S.2.1 (dd_at ddX4_ways 21 rfl) rfl (lv_at hl 0 rfl) ?_
              obtain ⟨b_3, hb_4, ho_5, h⟩ := h
              refine r_getR S hw 4 2 rfl inG4 (by decide) (List.mem_cons_of_mem _ wg143) (by decide) ha0 hb_4 (dd_at ddX4_ways 22 rfl) ?_
              refine lv_iload_n S.1 S.2.1 (dd_at ddX4_ways 23 rfl) rfl (lv_at hl 3 rfl) ?_
              refine lv_aload_n S.1 S.2.1 (dd_at ddX4_ways 24 rfl) rfl (lv_at hl 0 rfl) ?_
              refine lv_iload_n S.1 S.2.1 (dd_at ddX4_ways 25 rfl) rfl (lv_at hl 3 rfl) ?_
              refine lv_iload_n S.1 S.2.1 (dd_at ddX4_ways 26 rfl) rfl (lv_at hl 2 rfl) ?_
              refine r_callJ hw (r_runV (As := [.int v3, .int v2]) (rest := [.int v3, .ref b_3]) S hw (m_X4_sumOver l D cs E d H.size a0 v3 v2 _) (cwV 2 S.2.2.2.2 (gV wg1378 wg1379 wg1380 wg42 wg1381) rfl rfl rfl (by decide +kernel) ⟨Nat.le_of_ble_eq_true rfl, Nat.le_of_ble_eq_true rfl⟩) (ci := 4) rfl ha0 h rfl hl.1 rfl (Nat.le_of_ble_eq_true rfl) (dd_at ddX4_ways 27 rfl) ⟨Nat.le_of_ble_eq_true rfl, Nat.le_of_ble_eq_true rfl⟩) (fun r_7 d_6 H locs h hw => ?_)
              obtain ⟨hx_8, h⟩ := h
              refine r_last S hw ho_5 hx_8 (dd_at ddX4_ways 28 rfl) (fun H locs hw => ?_)
              refine lv_iinc (v := v3 + (-1)) (lv' := [(3, .int (v3 + (-1))), (0, .ref a0), (1, .int v1), (2, .int v2)]) S.1 S.2.1 (dd_at ddX4_ways 29 rfl) hl (k := 3) rfl rfl (by decide) rfl (fun ls hl => ?_)
              refine lv_goto (tgt := 31) S.1 S.2.1 (dd_at ddX4_ways 30 rfl) (by decide) ?_
              exact ih31 v1 v2 (v3 + (-1)) (pJ d_6 b_3 (v3).toNatClampNeg r_7) H locs ls h hw (lv_sub hl [1, 2, 3, 0] rfl)
      intro v1 d H locs ls h hw hl
      have h : b_X4_ways_6 E a0 K (l_X4_ways_6 E a0 K n6) v1 d := h
      unfold b_X4_ways_6 at h
      refine lv_iload_n S.1 S.2.1 (dd_at ddX4_ways 4 rfl) rfl (lv_at hl 1 rfl) ?_
      refine lv_aload_n S.1 S.2.1 (dd_at ddX4_ways 5 rfl) rfl (lv_at hl 0 rfl) ?_
      obtain ⟨b_9, hb_10, ho_11, h⟩ := h
      refine r_getR S hw 4 0 rfl inG4 (by decide) (List.mem_cons_of_mem _ wg144) (by decide) ha0 hb_10 (dd_at ddX4_ways 6 rfl) ?_
      obtain ⟨b_12, hb_13, ho_14, h⟩ := h
      refine r_getRN S hw 8 2 rfl inG8 (by decide) nx5 (by decide) ho_11 hb_13 (dd_at ddX4_ways 7 rfl) ?_
      refine r_callI hw (r_runV (As := []) (rest := [.int v1]) S hw (m_X6_size l D cs E d H.size b_12 _) (cwV 0 S.2.2.2.2 (gV wg1364 wg372 wg373 wg51 wg374) rfl rfl rfl (by decide +kernel) ⟨Nat.le_of_ble_eq_true rfl, Nat.le_of_ble_eq_true rfl⟩) (ci := 6) rfl ho_14 h rfl hl.1 rfl (Nat.le_of_ble_eq_true rfl) (dd_at ddX4_ways 8 rfl) ⟨Nat.le_of_ble_eq_true rfl, Nat.le_of_ble_eq_true rfl⟩) (fun r_16 d_15 H locs h hw => ?_)
      refine lv_icmp_ge (tgt := 63) S.1 S.2.1 (dd_at ddX4_ways 9 rfl) (by decide) (fun hc_17 => ?_) (fun hc_17 => ?_)
      · have h := h.1 hc_17
        refine lv_aload_n S.1 S.2.1 (dd_at ddX4_ways 33 rfl) rfl (lv_at hl 0 rfl) ?_
        obtain ⟨b_18, hb_19, ho_20, h⟩ := h
        refine r_getR S hw 4 2 rfl inG4 (by decide) (List.mem_cons_of_mem _ wg143) (by decide) ha0 hb_19 (dd_at ddX4_ways 34 rfl) ?_
        refine lv_aload_n S.1 S.2.1 (dd_at ddX4_ways 35 rfl) rfl (lv_at hl 0 rfl) ?_
        refine r_getI S hw 4 3 rfl inG4 (by decide) (List.mem_cons_of_mem _ wg1359) (by decide) ha0 (dd_at ddX4_ways 36 rfl) ?_
        obtain ⟨hx_21, h⟩ := h
        refine r_lald S hw ho_20 hx_21 (dd_at ddX4_ways 37 rfl) ?_
        exact e_J S hr hlocks hw h (dd_at ddX4_ways 38 rfl)
      · have h := h.2 hc_17
        refine lv_aload_n S.1 S.2.1 (dd_at ddX4_ways 10 rfl) rfl (lv_at hl 0 rfl) ?_
        refine lv_iload_n S.1 S.2.1 (dd_at ddX4_ways 11 rfl) rfl (lv_at hl 1 rfl) ?_
        refine r_callI hw (r_runV (As := [.int v1]) (rest := []) S hw (m_X4_fittingTo l D cs E d_15 H.size a0 v1 _) (cwV 1 S.2.2.2.2 (gV wg1368 wg1369 wg1370 wg42 wg1371) rfl rfl rfl (by decide +kernel) ⟨Nat.le_of_ble_eq_true rfl, Nat.le_of_ble_eq_true rfl⟩) (ci := 4) rfl ha0 h rfl hl.1 rfl (Nat.le_of_ble_eq_true rfl) (dd_at ddX4_ways 12 rfl) ⟨Nat.le_of_ble_eq_true rfl, Nat.le_of_ble_eq_true rfl⟩) (fun r_23 d_22 H locs h hw => ?_)
        refine lv_istore_n (lv' := [(2, .int r_23), (0, .ref a0), (1, .int v1)]) S.1 S.2.1 (dd_at ddX4_ways 13 rfl) rfl hl (by decide) rfl (fun ls hl => ?_)
        refine lv_aload_n S.1 S.2.1 (dd_at ddX4_ways 14 rfl) rfl (lv_at hl 1 rfl) ?_
        refine r_getI S hw 4 3 rfl inG4 (by decide) (List.mem_cons_of_mem _ wg1359) (by decide) ha0 (dd_at ddX4_ways 15 rfl) ?_
        refine lv_istore_n (lv' := [(3, .int (gI d_22 a0 3)), (2, .int r_23), (0, .ref a0), (1, .int v1)]) S.1 S.2.1 (dd_at ddX4_ways 16 rfl) rfl hl (by decide) rfl (fun ls hl => ?_)
        obtain ⟨n_24, h⟩ := h
        exact tl31 n_24 v1 r_23 (gI d_22 a0 3) d_22 H locs ls h hw (lv_sub hl [2, 3, 1, 0] rfl)
  refine lv_aload_n S.1 S.2.1 (dd_at ddX4_ways 0 rfl) rfl (lv_at hl 0 rfl) ?_
  refine r_callV hw (r_runV (As := []) (rest := []) S hw (m_X4_clear l D cs E d H.size a0 _) (cwV 0 S.2.2.2.2 (gV wg1360 wg1361 wg1362 wg42 wg1363) rfl rfl rfl (by decide +kernel) ⟨Nat.le_of_ble_eq_true rfl, Nat.le_of_ble_eq_true rfl⟩) (ci := 4) rfl ha0 h rfl hl.1 rfl (Nat.le_of_ble_eq_true rfl) (dd_at ddX4_ways 1 rfl) ⟨Nat.le_of_ble_eq_true rfl, Nat.le_of_ble_eq_true rfl⟩) (fun d_25 H locs h hw => ?_)
  refine lv_iconst (v := 0) S.1 S.2.1 (dd_at ddX4_ways 2 rfl) (by decide) ?_
  refine lv_istore_n (lv' := [(1, .int 0), (0, .ref a0)]) S.1 S.2.1 (dd_at ddX4_ways 3 rfl) rfl hl (by decide) rfl (fun ls hl => ?_)
  obtain ⟨n_27, h⟩ := h
  exact tl6 n_27 0 d_25 H locs ls h hw (lv_sub hl [1, 0] rfl)

def b_X4_joinOver_71 (E : En) (a0 : Nat) (p1 : Int32) (p2 : Int32) (p3 : Int32) (j4 : Int64) (K : Int64 → Dy → Prop) (k17 : Int32 → Int64 → Int32 → Dy → Prop) (v6 : Int32) (v7 : Int64) (v9 : Int32) (d : Dy) : Prop := k17 v6 v7 ((v9 - 1) &&& v6) d
def b_X4_joinOver_68 (E : En) (a0 : Nat) (p1 : Int32) (p2 : Int32) (p3 : Int32) (j4 : Int64) (K : Int64 → Dy → Prop) (k17 : Int32 → Int64 → Int32 → Dy → Prop) (v6 : Int32) (v9 : Int32) (s0 : Int64) (s1 : Int64) (d : Dy) : Prop := b_X4_joinOver_71 E a0 p1 p2 p3 j4 K k17 v6 (s0 ||| s1) v9 d
def b_X4_joinOver_17 (E : En) (a0 : Nat) (p1 : Int32) (p2 : Int32) (p3 : Int32) (j4 : Int64) (K : Int64 → Dy → Prop) (k17 : Int32 → Int64 → Int32 → Dy → Prop) (v6 : Int32) (v7 : Int64) (v9 : Int32) (d : Dy) : Prop := ((v9 ≤ 0 → K v7 d) ∧ (¬ v9 ≤ 0 → ∃ b_2 : Nat, eR E a0 2 = some b_2 ∧ okA E b_2 14 ∧ vp_in (p1 ^^^ v9) (eN E b_2) ∧ (((lg_cmp (gJ d b_2 (p1 ^^^ v9).toNatClampNeg) 0) = 0 → b_X4_joinOver_71 E a0 p1 p2 p3 j4 K k17 v6 v7 v9 d) ∧ (¬ (lg_cmp (gJ d b_2 (p1 ^^^ v9).toNatClampNeg) 0) = 0 → w_J6_bitCount_0f7a4 E v9 d (fun r_8 d_7 => (((gI d_7 a0 4) < r_8 → b_X4_joinOver_71 E a0 p1 p2 p3 j4 K k17 v6 v7 v9 d_7) ∧ (¬ (gI d_7 a0 4) < r_8 → (((v9 &&& p3) = 0 → b_X4_joinOver_68 E a0 p1 p2 p3 j4 K k17 v6 v9 v7 (gJ d b_2 (p1 ^^^ v9).toNatClampNeg) d_7) ∧ (¬ (v9 &&& p3) = 0 → b_X4_joinOver_68 E a0 p1 p2 p3 j4 K k17 v6 v9 v7 j4 d_7)))))))))
def l_X4_joinOver_17 (E : En) (a0 : Nat) (p1 : Int32) (p2 : Int32) (p3 : Int32) (j4 : Int64) (K : Int64 → Dy → Prop) : Nat → Int32 → Int64 → Int32 → Dy → Prop
  | 0 => fun _ _ _ _ => False
  | n + 1 => b_X4_joinOver_17 E a0 p1 p2 p3 j4 K (l_X4_joinOver_17 E a0 p1 p2 p3 j4 K n)
def w_X4_joinOver (E : En) (a0 : Nat) (p1 : Int32) (p2 : Int32) (p3 : Int32) (j4 : Int64) (d : Dy) (K : Int64 → Dy → Prop) : Prop := okO E a0 4 ∧ ∃ b_11 : Nat, eR E a0 2 = some b_11 ∧ okA E b_11 14 ∧ vp_in p1 (eN E b_11) ∧ (∃ n_15 : Nat, l_X4_joinOver_17 E a0 p1 p2 p3 j4 K n_15 (p1 &&& p2) (gJ d b_11 (p1).toNatClampNeg) (p1 &&& p2) d)
abbrev rm_X4_joinOver : Room := { frames := 1, cells := 0, slots := 0, locals := 20 }
set_option maxRecDepth 100000 in
set_option maxHeartbeats 4000000 in
theorem m_X4_joinOver (l : Launch) (D : va_G) (cs : Nat → ClassId) (E : En) (d : Dy) (sz : Nat) (a0 : Nat) (p1 : Int32) (p2 : Int32) (p3 : Int32) (j4 : Int64) (K : Int64 → Dy → Prop) : CJ l yX4_joinOver (.code yX4_joinOver cX4_joinOver 12 (some .long) :: wsL_law) rm_X4_joinOver D cs E d sz [.ref a0, .int p1, .int p2, .int p3, .long j4] (w_X4_joinOver E a0 p1 p2 p3 j4 d K) K := by
  refine e_of (cc := cX4_joinOver) (maxL := 12) (ret := (some .long)) (own := RX4) (by decide) rfl rfl (Nat.le_of_ble_eq_true rfl) ?_
  intro p e s m below meth c S hr hlocks hsz H locs hw h ls hl
  have hl : lv_has ls 12 [(0, .ref a0), (1, .int p1), (2, .int p2), (3, .int p3), (4, .long j4)] := hl
  unfold w_X4_joinOver at h
  obtain ⟨ha0, h⟩ := h
  have tl17 : ∀ (n : Nat) (v6 : Int32) (v7 : Int64) (v9 : Int32) (d : Dy) (H : Heap) (locs : List Loc) (ls : Array Slot), l_X4_joinOver_17 E a0 p1 p2 p3 j4 K n v6 v7 v9 d → Wd D cs (AW E sz) s.heap s E d H locs → lv_has ls 12 [(0, .ref a0), (1, .int p1), (3, .int p3), (4, .long j4), (6, .int v6), (7, .long v7), (9, .int v9)] → W p l e rm_X4_joinOver s m ([.ref a0, .int p1, .int p2, .int p3, .long j4] : List Value).toArray below meth c H locs 0 0 (MQ below (va_Ql K (OutW D cs E (AW E sz)) (AW E sz)) ([.ref a0, .int p1, .int p2, .int p3, .long j4] : List Value).toArray s rm_X4_joinOver.cells rm_X4_joinOver.slots (AW E sz)) (F0 m 17 ls []) := by
    intro n17
    induction n17 with
    | zero => intro v6 v7 v9 d H locs ls h; exact absurd h id
    | succ n17 ih17 =>
      have tb71 : ∀ (v6 : Int32) (v7 : Int64) (v9 : Int32) (d : Dy) (H : Heap) (locs : List Loc) (ls : Array Slot), b_X4_joinOver_71 E a0 p1 p2 p3 j4 K (l_X4_joinOver_17 E a0 p1 p2 p3 j4 K n17) v6 v7 v9 d → Wd D cs (AW E sz) s.heap s E d H locs → lv_has ls 12 [(0, .ref a0), (1, .int p1), (3, .int p3), (4, .long j4), (6, .int v6), (7, .long v7), (9, .int v9)] → W p l e rm_X4_joinOver s m ([.ref a0, .int p1, .int p2, .int p3, .long j4] : List Value).toArray below meth c H locs 0 0 (MQ below (va_Ql K (OutW D cs E (AW E sz)) (AW E sz)) ([.ref a0, .int p1, .int p2, .int p3, .long j4] : List Value).toArray s rm_X4_joinOver.cells rm_X4_joinOver.slots (AW E sz)) (F0 m 71 ls []) := by
        intro v6 v7 v9 d H locs ls h hw hl
        unfold b_X4_joinOver_71 at h
        refine lv_iload S.1 S.2.1 (dd_at ddX4_joinOver 39 rfl) (lv_at hl 6 rfl) ?_
        refine lv_iconst (v := 1) S.1 S.2.1 (dd_at ddX4_joinOver 40 rfl) (by decide) ?_
        refine lv_isub S.1 S.2.1 (dd_at ddX4_joinOver 41 rfl) ?_
        refine lv_iload S.1 S.2.1 (dd_at ddX4_joinOver 42 rfl) (lv_at hl 4 rfl) ?_
        refine lv_iand S.1 S.2.1 (dd_at ddX4_joinOver 43 rfl) ?_
        refine lv_istore (lv' := [(9, .int ((v9 - 1) &&& v6)), (0, .ref a0), (1, .int p1), (3, .int p3), (4, .long j4), (6, .int v6), (7, .long v7)]) S.1 S.2.1 (dd_at ddX4_joinOver 44 rfl) hl (by decide) rfl (fun ls hl => ?_)
        refine lv_goto (tgt := 17) S.1 S.2.1 (dd_at ddX4_joinOver 45 rfl) (by decide) ?_
        exact ih17 v6 v7 ((v9 - 1) &&& v6) d H locs ls h hw (lv_sub hl [1, 2, 3, 4, 5, 6, 0] rfl)
      have tb68 : ∀ (v6 : Int32) (v9 : Int32) (s0 : Int64) (s1 : Int64) (d : Dy) (H : Heap) (locs : List Loc) (ls : Array Slot), b_X4_joinOver_68 E a0 p1 p2 p3 j4 K (l_X4_joinOver_17 E a0 p1 p2 p3 j4 K n17) v6 v9 s0 s1 d → Wd D cs (AW E sz) s.heap s E d H locs → lv_has ls 12 [(0, .ref a0), (1, .int p1), (3, .int p3), (4, .long j4), (6, .int v6), (9, .int v9)] → W p l e rm_X4_joinOver s m ([.ref a0, .int p1, .int p2, .int p3, .long j4] : List Value).toArray below meth c H locs 0 0 (MQ below (va_Ql K (OutW D cs E (AW E sz)) (AW E sz)) ([.ref a0, .int p1, .int p2, .int p3, .long j4] : List Value).toArray s rm_X4_joinOver.cells rm_X4_joinOver.slots (AW E sz)) (F0 m 68 ls [.long s1, .long s0]) := by
        intro v6 v9 s0 s1 d H locs ls h hw hl
        unfold b_X4_joinOver_68 at h
        refine lv_lor S.1 S.2.1 (dd_at ddX4_joinOver 37 rfl) ?_
        refine lv_lstore (lv' := [(7, .long (s0 ||| s1)), (0, .ref a0), (1, .int p1), (3, .int p3), (4, .long j4), (6, .int v6), (9, .int v9)]) S.1 S.2.1 (dd_at ddX4_joinOver 38 rfl) hl (by decide) rfl (fun ls hl => ?_)
        exact tb71 v6 (s0 ||| s1) v9 d H locs ls h hw (lv_sub hl [1, 2, 3, 4, 5, 0, 6] rfl)
      intro v6 v7 v9 d H locs ls h hw hl
      have h : b_X4_joinOver_17 E a0 p1 p2 p3 j4 K (l_X4_joinOver_17 E a0 p1 p2 p3 j4 K n17) v6 v7 v9 d := h
      unfold b_X4_joinOver_17 at h
      refine lv_iload S.1 S.2.1 (dd_at ddX4_joinOver 11 rfl) (lv_at hl 6 rfl) ?_
      refine lv_if_le (tgt := 83) S.1 S.2.1 (dd_at ddX4_joinOver 12 rfl) (by decide) (fun hc_1 => ?_) (fun hc_1 => ?_)
      · have h := h.1 hc_1
        refine lv_lload S.1 S.2.1 (dd_at ddX4_joinOver 46 rfl) (lv_at hl 5 rfl) ?_
        exact e_J S hr hlocks hw h (dd_at ddX4_joinOver 47 rfl)
      · have h := h.2 hc_1
        refine lv_aload_n S.1 S.2.1 (dd_at ddX4_joinOver 13 rfl) rfl (lv_at hl 0 rfl) ?_
        obtain ⟨b_2, hb_3, ho_4, h⟩ := h
        refine r_getR S hw 4 2 rfl inG4 (by decide) (List.mem_cons_of_mem _ wg143) (by decide) ha0 hb_3 (dd_at ddX4_joinOver 14 rfl) ?_
        refine lv_iload_n S.1 S.2.1 (dd_at ddX4_joinOver 15 rfl) rfl (lv_at hl 1 rfl) ?_
        refine lv_iload S.1 S.2.1 (dd_at ddX4_joinOver 16 rfl) (lv_at hl 6 rfl) ?_
        refine lv_ixor S.1 S.2.1 (dd_at ddX4_joinOver 17 rfl) ?_
        obtain ⟨hx_5, h⟩ := h
        refine r_lald S hw ho_4 hx_5 (dd_at ddX4_joinOver 18 rfl) ?_
        refine lv_lstore (lv' := [(10, .long (gJ d b_2 (p1 ^^^ v9).toNatClampNeg)), (0, .ref a0), (1, .int p1), (3, .int p3), (4, .long j4), (6, .int v6), (7, .long v7), (9, .int v9)]) S.1 S.2.1 (dd_at ddX4_joinOver 19 rfl) hl (by decide) rfl (fun ls hl => ?_)
        refine lv_lload S.1 S.2.1 (dd_at ddX4_joinOver 20 rfl) (lv_at hl 0 rfl) ?_
        refine lv_lconst (v := 0) S.1 S.2.1 (dd_at ddX4_joinOver 21 rfl) (by decide) ?_
        refine W.lcmp S.1 S.2.1 (dd_at ddX4_joinOver 22 rfl) ?_
        refine lv_if_eq (tgt := 71) S.1 S.2.1 (dd_at ddX4_joinOver 23 rfl) (by decide) (fun hc_6 => ?_) (fun hc_6 => ?_)
        · have h := h.1 hc_6
          exact tb71 v6 v7 v9 d H locs ls h hw (lv_sub hl [1, 2, 3, 4, 5, 6, 7] rfl)
        · have h := h.2 hc_6
          refine lv_iload S.1 S.2.1 (dd_at ddX4_joinOver 24 rfl) (lv_at hl 7 rfl) ?_
          refine r_callI hw (r_runS (As := [.int v9]) (rest := []) S hw (m_J6_bitCount_0f7a4 l D cs E d H.size v9 _) (va_cwS 1 S.2.2.2.2 (gS wg1382 wg724 wg725 wg726) rfl rfl rfl (by decide +kernel) ⟨Nat.le_of_ble_eq_true rfl, Nat.le_of_ble_eq_true rfl⟩) h rfl hl.1 rfl (Nat.le_of_ble_eq_true rfl) (dd_at ddX4_joinOver 25 rfl) ⟨Nat.le_of_ble_eq_true rfl, Nat.le_of_ble_eq_true rfl⟩) (fun r_8 d_7 H locs h hw => ?_)
          refine lv_aload_n S.1 S.2.1 (dd_at ddX4_joinOver 26 rfl) rfl (lv_at hl 1 rfl) ?_
          refine r_getI S hw 4 4 rfl inG4 (by decide) (List.mem_cons_of_mem _ wg1372) (by decide) ha0 (dd_at ddX4_joinOver 27 rfl) ?_
          refine lv_icmp_gt (tgt := 71) S.1 S.2.1 (dd_at ddX4_joinOver 28 rfl) (by decide) (fun hc_9 => ?_) (fun hc_9 => ?_)
          · have h := h.1 hc_9
            exact tb71 v6 v7 v9 d_7 H locs ls h hw (lv_sub hl [1, 2, 3, 4, 5, 6, 7] rfl)
          · have h := h.2 hc_9
            refine lv_lload S.1 S.2.1 (dd_at ddX4_joinOver 29 rfl) (lv_at hl 6 rfl) ?_
            refine lv_iload S.1 S.2.1 (dd_at ddX4_joinOver 30 rfl) (lv_at hl 7 rfl) ?_
            refine lv_iload_n S.1 S.2.1 (dd_at ddX4_joinOver 31 rfl) rfl (lv_at hl 3 rfl) ?_
            refine lv_iand S.1 S.2.1 (dd_at ddX4_joinOver 32 rfl) ?_
            refine lv_if_eq (tgt := 66) S.1 S.2.1 (dd_at ddX4_joinOver 33 rfl) (by decide) (fun hc_10 => ?_) (fun hc_10 => ?_)
            · have h := h.1 hc_10
              refine lv_lload S.1 S.2.1 (dd_at ddX4_joinOver 36 rfl) (lv_at hl 0 rfl) ?_
              exact tb68 v6 v9 v7 (gJ d b_2 (p1 ^^^ v9).toNatClampNeg) d_7 H locs ls h hw (lv_sub hl [1, 2, 3, 4, 5, 7] rfl)
            · have h := h.2 hc_10
              refine lv_lload S.1 S.2.1 (dd_at ddX4_joinOver 34 rfl) (lv_at hl 4 rfl) ?_
              refine lv_goto (tgt := 68) S.1 S.2.1 (dd_at ddX4_joinOver 35 rfl) (by decide) ?_
              exact tb68 v6 v9 v7 j4 d_7 H locs ls h hw (lv_sub hl [1, 2, 3, 4, 5, 7] rfl)
  refine lv_iload_n S.1 S.2.1 (dd_at ddX4_joinOver 0 rfl) rfl (lv_at hl 1 rfl) ?_
  refine lv_iload_n S.1 S.2.1 (dd_at ddX4_joinOver 1 rfl) rfl (lv_at hl 2 rfl) ?_
  refine lv_iand S.1 S.2.1 (dd_at ddX4_joinOver 2 rfl) ?_
  refine lv_istore (lv' := [(6, .int (p1 &&& p2)), (0, .ref a0), (1, .int p1), (2, .int p2), (3, .int p3), (4, .long j4)]) S.1 S.2.1 (dd_at ddX4_joinOver 3 rfl) hl (by decide) rfl (fun ls hl => ?_)
  refine lv_aload_n S.1 S.2.1 (dd_at ddX4_joinOver 4 rfl) rfl (lv_at hl 1 rfl) ?_
  obtain ⟨b_11, hb_12, ho_13, h⟩ := h
  refine r_getR S hw 4 2 rfl inG4 (by decide) (List.mem_cons_of_mem _ wg143) (by decide) ha0 hb_12 (dd_at ddX4_joinOver 5 rfl) ?_
  refine lv_iload_n S.1 S.2.1 (dd_at ddX4_joinOver 6 rfl) rfl (lv_at hl 2 rfl) ?_
  obtain ⟨hx_14, h⟩ := h
  refine r_lald S hw ho_13 hx_14 (dd_at ddX4_joinOver 7 rfl) ?_
  refine lv_lstore (lv' := [(7, .long (gJ d b_11 (p1).toNatClampNeg)), (6, .int (p1 &&& p2)), (0, .ref a0), (1, .int p1), (2, .int p2), (3, .int p3), (4, .long j4)]) S.1 S.2.1 (dd_at ddX4_joinOver 8 rfl) hl (by decide) rfl (fun ls hl => ?_)
  refine lv_iload S.1 S.2.1 (dd_at ddX4_joinOver 9 rfl) (lv_at hl 1 rfl) ?_
  refine lv_istore (lv' := [(9, .int (p1 &&& p2)), (7, .long (gJ d b_11 (p1).toNatClampNeg)), (6, .int (p1 &&& p2)), (0, .ref a0), (1, .int p1), (2, .int p2), (3, .int p3), (4, .long j4)]) S.1 S.2.1 (dd_at ddX4_joinOver 10 rfl) hl (by decide) rfl (fun ls hl => ?_)
  obtain ⟨n_15, h⟩ := h
  exact tl17 n_15 (p1 &&& p2) (gJ d b_11 (p1).toNatClampNeg) (p1 &&& p2) d H locs ls h hw (lv_sub hl [3, 4, 6, 7, 2, 1, 0] rfl)

def b_X4_ownersOf_32 (E : En) (a0 : Nat) (p1 : Int32) (K : Int32 → Dy → Prop) (k6 : Int32 → Dy → Prop) (k32 : Int32 → Int32 → Int32 → Dy → Prop) (v2 : Int32) (v3 : Int32) (v4 : Int32) (d : Dy) : Prop := ((v4 ≤ 0 → k6 (v2 + 1) d) ∧ (¬ v4 ≤ 0 → ((v3 = 0 → k6 (v2 + 1) d) ∧ (¬ v3 = 0 → ∃ b_3 : Nat, eR E a0 2 = some b_3 ∧ okA E b_3 14 ∧ w_X4_joinOver E a0 v4 v3 ((1 : Int32) <<< (p1 &&& 31)) ((1 : Int64) <<< (v2.toInt64 &&& 63)) d (fun r_7 d_6 => vp_in v4 (eN E b_3) ∧ k32 v2 v3 (v4 + (-1)) (pJ d_6 b_3 (v4).toNatClampNeg r_7))))))
def l_X4_ownersOf_32 (E : En) (a0 : Nat) (p1 : Int32) (K : Int32 → Dy → Prop) (k6 : Int32 → Dy → Prop) : Nat → Int32 → Int32 → Int32 → Dy → Prop
  | 0 => fun _ _ _ _ => False
  | n + 1 => b_X4_ownersOf_32 E a0 p1 K k6 (l_X4_ownersOf_32 E a0 p1 K k6 n)
def b_X4_ownersOf_6 (E : En) (a0 : Nat) (p1 : Int32) (K : Int32 → Dy → Prop) (k6 : Int32 → Dy → Prop) (v2 : Int32) (d : Dy) : Prop := ∃ b_9 : Nat, eR E a0 0 = some b_9 ∧ okO E b_9 8 ∧ ∃ b_12 : Nat, eR E b_9 2 = some b_12 ∧ okO E b_12 6 ∧ w_X6_size E b_12 d (fun r_16 d_15 => ((r_16 ≤ v2 → ∃ b_18 : Nat, eR E a0 2 = some b_18 ∧ okA E b_18 14 ∧ vp_in (gI d_15 a0 3) (eN E b_18) ∧ K ((gJ d_15 b_18 (gI d_15 a0 3).toNatClampNeg).toInt32) d_15) ∧ (¬ r_16 ≤ v2 → w_X4_fittingTo E a0 v2 d_15 (fun r_23 d_22 => (∃ n_24 : Nat, l_X4_ownersOf_32 E a0 p1 K k6 n_24 v2 r_23 (gI d_22 a0 3) d_22)))))
def l_X4_ownersOf_6 (E : En) (a0 : Nat) (p1 : Int32) (K : Int32 → Dy → Prop) : Nat → Int32 → Dy → Prop
  | 0 => fun _ _ => False
  | n + 1 => b_X4_ownersOf_6 E a0 p1 K (l_X4_ownersOf_6 E a0 p1 K n)
def w_X4_ownersOf (E : En) (a0 : Nat) (p1 : Int32) (d : Dy) (K : Int32 → Dy → Prop) : Prop := okO E a0 4 ∧ w_X4_clear E a0 d (fun d_25 => (∃ n_27 : Nat, l_X4_ownersOf_6 E a0 p1 K n_27 0 d_25))
abbrev rm_X4_ownersOf : Room := { frames := 3, cells := 0, slots := 0, locals := 72 }
set_option maxRecDepth 100000 in
set_option maxHeartbeats 4000000 in
theorem m_X4_ownersOf (l : Launch) (D : va_G) (cs : Nat → ClassId) (E : En) (d : Dy) (sz : Nat) (a0 : Nat) (p1 : Int32) (K : Int32 → Dy → Prop) : CI l yX4_ownersOf (.code yX4_ownersOf cX4_ownersOf 5 (some .int) :: wsL_law) rm_X4_ownersOf D cs E d sz [.ref a0, .int p1] (w_X4_ownersOf E a0 p1 d K) K := by
  refine e_of (cc := cX4_ownersOf) (maxL := 5) (ret := (some .int)) (own := RX4) (by decide) rfl rfl (Nat.le_of_ble_eq_true rfl) ?_
  intro p e s m below meth c S hr hlocks hsz H locs hw h ls hl
  have hl : lv_has ls 5 [(0, .ref a0), (1, .int p1)] := hl
  unfold w_X4_ownersOf at h
  obtain ⟨ha0, h⟩ := h
  have tl6 : ∀ (n : Nat) (v2 : Int32) (d : Dy) (H : Heap) (locs : List Loc) (ls : Array Slot), l_X4_ownersOf_6 E a0 p1 K n v2 d → Wd D cs (AW E sz) s.heap s E d H locs → lv_has ls 5 [(0, .ref a0), (1, .int p1), (2, .int v2)] → W p l e rm_X4_ownersOf s m ([.ref a0, .int p1] : List Value).toArray below meth c H locs 0 0 (MQ below (va_Qi K (OutW D cs E (AW E sz)) (AW E sz)) ([.ref a0, .int p1] : List Value).toArray s rm_X4_ownersOf.cells rm_X4_ownersOf.slots (AW E sz)) (F0 m 6 ls []) := by
    intro n6
    induction n6 with
    | zero => intro v2 d H locs ls h; exact absurd h id
    | succ n6 ih6 =>
      have tl32 : ∀ (n : Nat) (v2 : Int32) (v3 : Int32) (v4 : Int32) (d : Dy) (H : Heap) (locs : List Loc) (ls : Array Slot), l_X4_ownersOf_32 E a0 p1 K (l_X4_ownersOf_6 E a0 p1 K n6) n v2 v3 v4 d → Wd D cs (AW E sz) s.heap s E d H locs → lv_has ls 5 [(0, .ref a0), (1, .int p1), (2, .int v2), (3, .int v3), (4, .int v4)] → W p l e rm_X4_ownersOf s m ([.ref a0, .int p1] : List Value).toArray below meth c H locs 0 0 (MQ below (va_Qi K (OutW D cs E (AW E sz)) (AW E sz)) ([.ref a0, .int p1] : List Value).toArray s rm_X4_ownersOf.cells rm_X4_ownersOf.slots (AW E sz)) (F0 m 32 ls []) := by
        intro n32
        induction n32 with
        | zero => intro v2 v3 v4 d H locs ls h; exact absurd h id
        | succ n32 ih32 =>
          intro v2 v3 v4 d H locs ls h hw hl
          have h : b_X4_ownersOf_32 E a0 p1 K (l_X4_ownersOf_6 E a0 p1 K n6) (l_X4_ownersOf_32 E a0 p1 K (l_X4_ownersOf_6 E a0 p1 K n6) n32) v2 v3 v4 d := h
          unfold b_X4_ownersOf_32 at h
          refine lv_iload S.1 S.2.1 (dd_at ddX4_ownersOf 17 rfl) (lv_at hl 4 rfl) ?_
          refine lv_if_le (tgt := 67) S.1 S.2.1 (dd_at ddX4_ownersOf 18 rfl) (by decide) (fun hc_1 => ?_) (fun hc_1 => ?_)
          · have h := h.1 hc_1
            refine lv_iinc (v := v2 + 1) (lv' := [(2, .int (v2 + 1)), (0, .ref a0), (1, .int p1), (3, .int v3), (4, .int v4)]) S.1 S.2.1 (dd_at ddX4_ownersOf 37 rfl) hl (k := 2) rfl rfl (by decide) rfl (fun ls hl => ?_)
            refine lv_goto (tgt := 6) S.1 S.2.1 (dd_at ddX4_ownersOf 38 rfl) (by decide) ?_
            exact ih6 (v2 + 1) d H locs ls h hw (lv_sub hl [1, 2, 0] rfl)
          · have h := h.2 hc_1
            refine lv_iload_n S.1 S.2.1 (dd_at ddX4_ownersOf 19 rfl) rfl (lv_at hl 3 rfl) ?_
            refine lv_if_eq (tgt := 67) S.1 S.2.1 (dd_at ddX4_ownersOf 20 rfl) (by decide) (fun hc_2 => ?_) (fun hc_2 => ?_)
            · have h := h.1 hc_2
              refine lv_iinc (v := v2 + 1) (lv' := [(2, .int (v2 + 1)), (0, .ref a0), (1, .int p1), (3, .int v3), (4, .int v4)]) S.1 S.2.1 (dd_at ddX4_ownersOf 37 rfl) hl (k := 2) rfl rfl (by decide) rfl (fun ls hl => ?_)
              refine lv_goto (tgt := 6) S.1 S.2.1 (dd_at ddX4_ownersOf 38 rfl) (by decide) ?_
              exact ih6 (v2 + 1) d H locs ls h hw (lv_sub hl [1, 2, 0] rfl)
            · have h := h.2 hc_2
              refine lv_aload_n S.1 S.2.1 (dd_at ddX4_ownersOf 21 rfl) rfl (lv_at hl 0 rfl) ?_
              obtain ⟨b_3, hb_4, ho_5, h⟩ := h
              refine r_getR S hw 4 2 rfl inG4 (by decide) (List.mem_cons_of_mem _ wg143) (by decide) ha0 hb_4 (dd_at ddX4_ownersOf 22 rfl) ?_
              refine lv_iload S.1 S.2.1 (dd_at ddX4_ownersOf 23 rfl) (lv_at hl 4 rfl) ?_
              refine lv_aload_n S.1 S.2.1 (dd_at ddX4_ownersOf 24 rfl) rfl (lv_at hl 0 rfl) ?_
              refine lv_iload S.1 S.2.1 (dd_at ddX4_ownersOf 25 rfl) (lv_at hl 4 rfl) ?_
              refine lv_iload_n S.1 S.2.1 (dd_at ddX4_ownersOf 26 rfl) rfl (lv_at hl 3 rfl) ?_
              refine lv_iconst (v := 1) S.1 S.2.1 (dd_at ddX4_ownersOf 27 rfl) (by decide) ?_
              refine lv_iload_n S.1 S.2.1 (dd_at ddX4_ownersOf 28 rfl) rfl (lv_at hl 1 rfl) ?_
              refine lv_ishl S.1 S.2.1 (dd_at ddX4_ownersOf 29 rfl) ?_
              refine lv_lconst (v := 1) S.1 S.2.1 (dd_at ddX4_ownersOf 30 rfl) (by decide) ?_
              refine lv_iload_n S.1 S.2.1 (dd_at ddX4_ownersOf 31 rfl) rfl (lv_at hl 2 rfl) ?_
              refine lv_lshl S.1 S.2.1 (dd_at ddX4_ownersOf 32 rfl) rfl ?_
              refine r_callJ hw (r_runV (As := [.int v4, .int v3, .int ((1 : Int32) <<< (p1 &&& 31)), .long ((1 : Int64) <<< (v2.toInt64 &&& 63))]) (rest := [.int v4, .ref b_3]) S hw (m_X4_joinOver l D cs E d H.size a0 v4 v3 ((1 : Int32) <<< (p1 &&& 31)) ((1 : Int64) <<< (v2.toInt64 &&& 63)) _) (cwV 4 S.2.2.2.2 (gV wg1407 wg1408 wg1409 wg42 wg1410) rfl rfl rfl (by decide +kernel) ⟨Nat.le_of_ble_eq_true rfl, Nat.le_of_ble_eq_true rfl⟩) (ci := 4) rfl ha0 h rfl hl.1 rfl (Nat.le_of_ble_eq_true rfl) (dd_at ddX4_ownersOf 33 rfl) ⟨Nat.le_of_ble_eq_true rfl, Nat.le_of_ble_eq_true rfl⟩) (fun r_7 d_6 H locs h hw => ?_)
              obtain ⟨hx_8, h⟩ := h
              refine r_last S hw ho_5 hx_8 (dd_at ddX4_ownersOf 34 rfl) (fun H locs hw => ?_)
              refine lv_iinc (v := v4 + (-1)) (lv' := [(4, .int (v4 + (-1))), (0, .ref a0), (1, .int p1), (2, .int v2), (3, .int v3)]) S.1 S.2.1 (dd_at ddX4_ownersOf 35 rfl) hl (k := 4) rfl rfl (by decide) rfl (fun ls hl => ?_)
              refine lv_goto (tgt := 32) S.1 S.2.1 (dd_at ddX4_ownersOf 36 rfl) (by decide) ?_
              exact ih32 v2 v3 (v4 + (-1)) (pJ d_6 b_3 (v4).toNatClampNeg r_7) H locs ls h hw (lv_sub hl [1, 2, 3, 4, 0] rfl)
      intro v2 d H locs ls h hw hl
      have h : b_X4_ownersOf_6 E a0 p1 K (l_X4_ownersOf_6 E a0 p1 K n6) v2 d := h
      unfold b_X4_ownersOf_6 at h
      refine lv_iload_n S.1 S.2.1 (dd_at ddX4_ownersOf 4 rfl) rfl (lv_at hl 2 rfl) ?_
      refine lv_aload_n S.1 S.2.1 (dd_at ddX4_ownersOf 5 rfl) rfl (lv_at hl 0 rfl) ?_
      obtain ⟨b_9, hb_10, ho_11, h⟩ := h
      refine r_getR S hw 4 0 rfl inG4 (by decide) (List.mem_cons_of_mem _ wg144) (by decide) ha0 hb_10 (dd_at ddX4_ownersOf 6 rfl) ?_
      obtain ⟨b_12, hb_13, ho_14, h⟩ := h
      refine r_getRN S hw 8 2 rfl inG8 (by decide) nx5 (by decide) ho_11 hb_13 (dd_at ddX4_ownersOf 7 rfl) ?_
      refine r_callI hw (r_runV (As := []) (rest := [.int v2]) S hw (m_X6_size l D cs E d H.size b_12 _) (cwV 0 S.2.2.2.2 (gV wg1364 wg372 wg373 wg51 wg374) rfl rfl rfl (by decide +kernel) ⟨Nat.le_of_ble_eq_true rfl, Nat.le_of_ble_eq_true rfl⟩) (ci := 6) rfl ho_14 h rfl hl.1 rfl (Nat.le_of_ble_eq_true rfl) (dd_at ddX4_ownersOf 8 rfl) ⟨Nat.le_of_ble_eq_true rfl, Nat.le_of_ble_eq_true rfl⟩) (fun r_16 d_15 H locs h hw => ?_)
      refine lv_icmp_ge (tgt := 73) S.1 S.2.1 (dd_at ddX4_ownersOf 9 rfl) (by decide) (fun hc_17 => ?_) (fun hc_17 => ?_)
      · have h := h.1 hc_17
        refine lv_aload_n S.1 S.2.1 (dd_at ddX4_ownersOf 39 rfl) rfl (lv_at hl 0 rfl) ?_
        obtain ⟨b_18, hb_19, ho_20, h⟩ := h
        refine r_getR S hw 4 2 rfl inG4 (by decide) (List.mem_cons_of_mem _ wg143) (by decide) ha0 hb_19 (dd_at ddX4_ownersOf 40 rfl) ?_
        refine lv_aload_n S.1 S.2.1 (dd_at ddX4_ownersOf 41 rfl) rfl (lv_at hl 0 rfl) ?_
        refine r_getI S hw 4 3 rfl inG4 (by decide) (List.mem_cons_of_mem _ wg1359) (by decide) ha0 (dd_at ddX4_ownersOf 42 rfl) ?_
        obtain ⟨hx_21, h⟩ := h
        refine r_lald S hw ho_20 hx_21 (dd_at ddX4_ownersOf 43 rfl) ?_
        refine lv_l2i S.1 S.2.1 (dd_at ddX4_ownersOf 44 rfl) rfl ?_
        exact e_I S hr hlocks hw h (dd_at ddX4_ownersOf 45 rfl)
      · have h := h.2 hc_17
        refine lv_aload_n S.1 S.2.1 (dd_at ddX4_ownersOf 10 rfl) rfl (lv_at hl 0 rfl) ?_
        refine lv_iload_n S.1 S.2.1 (dd_at ddX4_ownersOf 11 rfl) rfl (lv_at hl 2 rfl) ?_
        refine r_callI hw (r_runV (As := [.int v2]) (rest := []) S hw (m_X4_fittingTo l D cs E d_15 H.size a0 v2 _) (cwV 1 S.2.2.2.2 (gV wg1368 wg1369 wg1370 wg42 wg1371) rfl rfl rfl (by decide +kernel) ⟨Nat.le_of_ble_eq_true rfl, Nat.le_of_ble_eq_true rfl⟩) (ci := 4) rfl ha0 h rfl hl.1 rfl (Nat.le_of_ble_eq_true rfl) (dd_at ddX4_ownersOf 12 rfl) ⟨Nat.le_of_ble_eq_true rfl, Nat.le_of_ble_eq_true rfl⟩) (fun r_23 d_22 H locs h hw => ?_)
        refine lv_istore_n (lv' := [(3, .int r_23), (0, .ref a0), (1, .int p1), (2, .int v2)]) S.1 S.2.1 (dd_at ddX4_ownersOf 13 rfl) rfl hl (by decide) rfl (fun ls hl => ?_)
        refine lv_aload_n S.1 S.2.1 (dd_at ddX4_ownersOf 14 rfl) rfl (lv_at hl 1 rfl) ?_
        refine r_getI S hw 4 3 rfl inG4 (by decide) (List.mem_cons_of_mem _ wg1359) (by decide) ha0 (dd_at ddX4_ownersOf 15 rfl) ?_
        refine lv_istore (lv' := [(4, .int (gI d_22 a0 3)), (3, .int r_23), (0, .ref a0), (1, .int p1), (2, .int v2)]) S.1 S.2.1 (dd_at ddX4_ownersOf 16 rfl) hl (by decide) rfl (fun ls hl => ?_)
        obtain ⟨n_24, h⟩ := h
        exact tl32 n_24 v2 r_23 (gI d_22 a0 3) d_22 H locs ls h hw (lv_sub hl [2, 3, 4, 1, 0] rfl)
  refine lv_aload_n S.1 S.2.1 (dd_at ddX4_ownersOf 0 rfl) rfl (lv_at hl 0 rfl) ?_
  refine r_callV hw (r_runV (As := []) (rest := []) S hw (m_X4_clear l D cs E d H.size a0 _) (cwV 0 S.2.2.2.2 (gV wg1360 wg1361 wg1362 wg42 wg1363) rfl rfl rfl (by decide +kernel) ⟨Nat.le_of_ble_eq_true rfl, Nat.le_of_ble_eq_true rfl⟩) (ci := 4) rfl ha0 h rfl hl.1 rfl (Nat.le_of_ble_eq_true rfl) (dd_at ddX4_ownersOf 1 rfl) ⟨Nat.le_of_ble_eq_true rfl, Nat.le_of_ble_eq_true rfl⟩) (fun d_25 H locs h hw => ?_)
  refine lv_iconst (v := 0) S.1 S.2.1 (dd_at ddX4_ownersOf 2 rfl) (by decide) ?_
  refine lv_istore_n (lv' := [(2, .int 0), (0, .ref a0), (1, .int p1)]) S.1 S.2.1 (dd_at ddX4_ownersOf 3 rfl) rfl hl (by decide) rfl (fun ls hl => ?_)
  obtain ⟨n_27, h⟩ := h
  exact tl6 n_27 0 d_25 H locs ls h hw (lv_sub hl [1, 2, 0] rfl)

def w_X5_init (E : En) (a0 : Nat) (a1 : Nat) (d : Dy) (K : En → Dy → Prop) : Prop := okO E a0 5 ∧ okO E a1 8 ∧ ∀ q_1 : Nat, q_1 ∉ eL E → ∀ q_4 : Nat, q_4 ∉ eL (sR (nE E q_1 13 ((10 : Int32)).toNatClampNeg) a0 1 (some q_1)) → ∀ q_7 : Nat, q_7 ∉ eL (sR (nE (sR (nE E q_1 13 ((10 : Int32)).toNatClampNeg) a0 1 (some q_1)) q_4 13 ((10 : Int32)).toNatClampNeg) a0 2 (some q_4)) → ∀ q_10 : Nat, q_10 ∉ eL (sR (nE (sR (nE (sR (nE E q_1 13 ((10 : Int32)).toNatClampNeg) a0 1 (some q_1)) q_4 13 ((10 : Int32)).toNatClampNeg) a0 2 (some q_4)) q_7 13 ((10 : Int32)).toNatClampNeg) a0 3 (some q_7)) → K (sR (sR (nE (sR (nE (sR (nE (sR (nE E q_1 13 ((10 : Int32)).toNatClampNeg) a0 1 (some q_1)) q_4 13 ((10 : Int32)).toNatClampNeg) a0 2 (some q_4)) q_7 13 ((10 : Int32)).toNatClampNeg) a0 3 (some q_7)) q_10 13 ((10 : Int32)).toNatClampNeg) a0 4 (some q_10)) a0 0 (some a1)) (nD (nD (nD (nD d q_1) q_4) q_7) q_10)
abbrev rm_X5_init : Room := { frames := 1, cells := 4, slots := 40, locals := 24 }
set_option maxRecDepth 100000 in
set_option maxHeartbeats 4000000 in
theorem m_X5_init (l : Launch) (D : va_G) (cs : Nat → ClassId) (E : En) (d : Dy) (sz : Nat) (a0 : Nat) (a1 : Nat) (K : En → Dy → Prop) : LV l yX5_init (.code yX5_init cX5_init 2 none :: wsL_law) rm_X5_init D cs E d sz [.ref a0, .ref a1] (w_X5_init E a0 a1 d K) K := by
  refine e_ofN (cc := cX5_init) (maxL := 2) (ret := none) (own := RX5) (by decide) rfl rfl (Nat.le_of_ble_eq_true rfl) ?_
  intro p e s m below meth c S hr hlocks hinit hsz H locs hw h ls hl
  have hx : Ext E E := Ext_rf E
  have hinit : meth.name = "<init>" := hinit
  have hl : lv_has ls 2 [(0, .ref a0), (1, .ref a1)] := hl
  unfold w_X5_init at h
  obtain ⟨ha0, h⟩ := h
  obtain ⟨ha1, h⟩ := h
  refine lv_aload_n S.1 S.2.1 (dd_at ddX5_init 0 rfl) rfl (lv_at hl 0 rfl) ?_
  refine W.objInit S.1 S.2.1 S.2.2.2.1 (S.2.2.2.2 _ (List.mem_cons_of_mem _ wg133)) (S.2.2.2.2 _ (List.mem_cons_of_mem _ wg11)) (S.2.2.2.2 _ (List.mem_cons_of_mem _ wg12)) rfl (by rw [S.2.2.1]; exact hl.1) rfl (dd_at ddX5_init 1 rfl) (Nat.le_of_ble_eq_true rfl) (Nat.le_of_ble_eq_true rfl) ?_
  refine W.eq (g2 := F0 m 4 ls []) rfl ?_
  refine lv_aload_n S.1 S.2.1 (dd_at ddX5_init 2 rfl) rfl (lv_at hl 0 rfl) ?_
  refine lv_bipush (v := 10) S.1 S.2.1 (dd_at ddX5_init 3 rfl) (by decide) ?_
  refine r_newI S hw (List.mem_cons_of_mem _ wg74) (n := 10) (by decide) (by decide) (Nat.le_of_ble_eq_true rfl) (by show _ ≤ _; exact Nat.le_of_ble_eq_true rfl) (dd_at ddX5_init 4 rfl) (fun q_1 H hq_2 hw => ?_)
  refine W.widen (k := 1) (n := 10) (Nat.le_of_ble_eq_true rfl) (Nat.le_of_ble_eq_true rfl) ?_
  have h := h q_1 hq_2
  have ha0 := Ext_O (Ext_nE 13 ((10 : Int32)).toNatClampNeg hq_2) ha0
  have ha1 := Ext_O (Ext_nE 13 ((10 : Int32)).toNatClampNeg hq_2) ha1
  have hx := Ext_tr hx (Ext_nE 13 ((10 : Int32)).toNatClampNeg hq_2)
  have ho_3 := okA_new E q_1 ((10 : Int32)).toNatClampNeg (t := 13) (by decide)
  refine r_putRF S hw hinit 5 1 (ty := (.array .int)) rfl inG5 tyX5 tyX5_ok nmX5 (by decide) (List.mem_cons_of_mem _ wg134) (by decide) rfl rfl (by decide +kernel) rfl rfl ha0 (dd_at ddX5_init 5 rfl) (fun H locs hw => ?_)
  have ha0 := Ext_O (Ext_sR _ a0 1 (some q_1)) ha0
  have ha1 := Ext_O (Ext_sR _ a0 1 (some q_1)) ha1
  have ho_3 := Ext_A (Ext_sR _ a0 1 (some q_1)) ho_3
  have hx := Ext_tr hx (Ext_sR _ a0 1 (some q_1))
  refine lv_aload_n S.1 S.2.1 (dd_at ddX5_init 6 rfl) rfl (lv_at hl 0 rfl) ?_
  refine lv_bipush (v := 10) S.1 S.2.1 (dd_at ddX5_init 7 rfl) (by decide) ?_
  refine r_newI S hw (List.mem_cons_of_mem _ wg74) (n := 10) (by decide) (by decide) (Nat.le_of_ble_eq_true rfl) (by show _ ≤ _; exact Nat.le_of_ble_eq_true rfl) (dd_at ddX5_init 8 rfl) (fun q_4 H hq_5 hw => ?_)
  refine W.widen (k := 2) (n := 20) (Nat.le_of_ble_eq_true rfl) (Nat.le_of_ble_eq_true rfl) ?_
  have h := h q_4 hq_5
  have ha0 := Ext_O (Ext_nE 13 ((10 : Int32)).toNatClampNeg hq_5) ha0
  have ha1 := Ext_O (Ext_nE 13 ((10 : Int32)).toNatClampNeg hq_5) ha1
  have ho_3 := Ext_A (Ext_nE 13 ((10 : Int32)).toNatClampNeg hq_5) ho_3
  have hx := Ext_tr hx (Ext_nE 13 ((10 : Int32)).toNatClampNeg hq_5)
  have ho_6 := okA_new (sR (nE E q_1 13 ((10 : Int32)).toNatClampNeg) a0 1 (some q_1)) q_4 ((10 : Int32)).toNatClampNeg (t := 13) (by decide)
  refine r_putRF S hw hinit 5 2 (ty := (.array .int)) rfl inG5 tyX5 tyX5_ok nmX5 (by decide) (List.mem_cons_of_mem _ wg135) (by decide) rfl rfl (by decide +kernel) rfl rfl ha0 (dd_at ddX5_init 9 rfl) (fun H locs hw => ?_)
  have ha0 := Ext_O (Ext_sR _ a0 2 (some q_4)) ha0
  have ha1 := Ext_O (Ext_sR _ a0 2 (some q_4)) ha1
  have ho_3 := Ext_A (Ext_sR _ a0 2 (some q_4)) ho_3
  have ho_6 := Ext_A (Ext_sR _ a0 2 (some q_4)) ho_6
  have hx := Ext_tr hx (Ext_sR _ a0 2 (some q_4))
  refine lv_aload_n S.1 S.2.1 (dd_at ddX5_init 10 rfl) rfl (lv_at hl 0 rfl) ?_
  refine lv_bipush (v := 10) S.1 S.2.1 (dd_at ddX5_init 11 rfl) (by decide) ?_
  refine r_newI S hw (List.mem_cons_of_mem _ wg74) (n := 10) (by decide) (by decide) (Nat.le_of_ble_eq_true rfl) (by show _ ≤ _; exact Nat.le_of_ble_eq_true rfl) (dd_at ddX5_init 12 rfl) (fun q_7 H hq_8 hw => ?_)
  refine W.widen (k := 3) (n := 30) (Nat.le_of_ble_eq_true rfl) (Nat.le_of_ble_eq_true rfl) ?_
  have h := h q_7 hq_8
  have ha0 := Ext_O (Ext_nE 13 ((10 : Int32)).toNatClampNeg hq_8) ha0
  have ha1 := Ext_O (Ext_nE 13 ((10 : Int32)).toNatClampNeg hq_8) ha1
  have ho_3 := Ext_A (Ext_nE 13 ((10 : Int32)).toNatClampNeg hq_8) ho_3
  have ho_6 := Ext_A (Ext_nE 13 ((10 : Int32)).toNatClampNeg hq_8) ho_6
  have hx := Ext_tr hx (Ext_nE 13 ((10 : Int32)).toNatClampNeg hq_8)
  have ho_9 := okA_new (sR (nE (sR (nE E q_1 13 ((10 : Int32)).toNatClampNeg) a0 1 (some q_1)) q_4 13 ((10 : Int32)).toNatClampNeg) a0 2 (some q_4)) q_7 ((10 : Int32)).toNatClampNeg (t := 13) (by decide)
  refine r_putRF S hw hinit 5 3 (ty := (.array .int)) rfl inG5 tyX5 tyX5_ok nmX5 (by decide) (List.mem_cons_of_mem _ wg136) (by decide) rfl rfl (by decide +kernel) rfl rfl ha0 (dd_at ddX5_init 13 rfl) (fun H locs hw => ?_)
  have ha0 := Ext_O (Ext_sR _ a0 3 (some q_7)) ha0
  have ha1 := Ext_O (Ext_sR _ a0 3 (some q_7)) ha1
  have ho_3 := Ext_A (Ext_sR _ a0 3 (some q_7)) ho_3
  have ho_6 := Ext_A (Ext_sR _ a0 3 (some q_7)) ho_6
  have ho_9 := Ext_A (Ext_sR _ a0 3 (some q_7)) ho_9
  have hx := Ext_tr hx (Ext_sR _ a0 3 (some q_7))
  refine lv_aload_n S.1 S.2.1 (dd_at ddX5_init 14 rfl) rfl (lv_at hl 0 rfl) ?_
  refine lv_bipush (v := 10) S.1 S.2.1 (dd_at ddX5_init 15 rfl) (by decide) ?_
  refine r_newI S hw (List.mem_cons_of_mem _ wg74) (n := 10) (by decide) (by decide) (Nat.le_of_ble_eq_true rfl) (by show _ ≤ _; exact Nat.le_of_ble_eq_true rfl) (dd_at ddX5_init 16 rfl) (fun q_10 H hq_11 hw => ?_)
  refine W.widen (k := 4) (n := 40) (Nat.le_of_ble_eq_true rfl) (Nat.le_of_ble_eq_true rfl) ?_
  have h := h q_10 hq_11
  have ha0 := Ext_O (Ext_nE 13 ((10 : Int32)).toNatClampNeg hq_11) ha0
  have ha1 := Ext_O (Ext_nE 13 ((10 : Int32)).toNatClampNeg hq_11) ha1
  have ho_3 := Ext_A (Ext_nE 13 ((10 : Int32)).toNatClampNeg hq_11) ho_3
  have ho_6 := Ext_A (Ext_nE 13 ((10 : Int32)).toNatClampNeg hq_11) ho_6
  have ho_9 := Ext_A (Ext_nE 13 ((10 : Int32)).toNatClampNeg hq_11) ho_9
  have hx := Ext_tr hx (Ext_nE 13 ((10 : Int32)).toNatClampNeg hq_11)
  have ho_12 := okA_new (sR (nE (sR (nE (sR (nE E q_1 13 ((10 : Int32)).toNatClampNeg) a0 1 (some q_1)) q_4 13 ((10 : Int32)).toNatClampNeg) a0 2 (some q_4)) q_7 13 ((10 : Int32)).toNatClampNeg) a0 3 (some q_7)) q_10 ((10 : Int32)).toNatClampNeg (t := 13) (by decide)
  refine r_putRF S hw hinit 5 4 (ty := (.array .int)) rfl inG5 tyX5 tyX5_ok nmX5 (by decide) (List.mem_cons_of_mem _ wg137) (by decide) rfl rfl (by decide +kernel) rfl rfl ha0 (dd_at ddX5_init 17 rfl) (fun H locs hw => ?_)
  have ha0 := Ext_O (Ext_sR _ a0 4 (some q_10)) ha0
  have ha1 := Ext_O (Ext_sR _ a0 4 (some q_10)) ha1
  have ho_3 := Ext_A (Ext_sR _ a0 4 (some q_10)) ho_3
  have ho_6 := Ext_A (Ext_sR _ a0 4 (some q_10)) ho_6
  have ho_9 := Ext_A (Ext_sR _ a0 4 (some q_10)) ho_9
  have ho_12 := Ext_A (Ext_sR _ a0 4 (some q_10)) ho_12
  have hx := Ext_tr hx (Ext_sR _ a0 4 (some q_10))
  refine lv_aload_n S.1 S.2.1 (dd_at ddX5_init 18 rfl) rfl (lv_at hl 0 rfl) ?_
  refine lv_aload_n S.1 S.2.1 (dd_at ddX5_init 19 rfl) rfl (lv_at hl 1 rfl) ?_
  refine r_putRF S hw hinit 5 0 (ty := (.object "HutRow$Told")) rfl inG5 tyX5 tyX5_ok nmX5 (by decide) (List.mem_cons_of_mem _ wg138) (by decide) rfl rfl (by decide +kernel) rfl rfl ha0 (dd_at ddX5_init 20 rfl) (fun H locs hw => ?_)
  have ha0 := Ext_O (Ext_sR _ a0 0 (some a1)) ha0
  have ha1 := Ext_O (Ext_sR _ a0 0 (some a1)) ha1
  have ho_3 := Ext_A (Ext_sR _ a0 0 (some a1)) ho_3
  have ho_6 := Ext_A (Ext_sR _ a0 0 (some a1)) ho_6
  have ho_9 := Ext_A (Ext_sR _ a0 0 (some a1)) ho_9
  have ho_12 := Ext_A (Ext_sR _ a0 0 (some a1)) ho_12
  have hx := Ext_tr hx (Ext_sR _ a0 0 (some a1))
  exact e_VL S hr hlocks hw hx h (dd_at ddX5_init 21 rfl)

def b_X5_seaAboveLine_34 (E : En) (a0 : Nat) (p1 : Int32) (p2 : Int32) (K : Dy → Prop) (d : Dy) : Prop := ∃ b_1 : Nat, eR E a0 2 = some b_1 ∧ okA E b_1 13 ∧ vp_in p2 (eN E b_1) ∧ ∃ b_5 : Nat, eR E a0 4 = some b_5 ∧ okA E b_5 13 ∧ vp_in p1 (eN E b_5) ∧ (((gA d b_1 (p2).toNatClampNeg) < (gA d b_5 (p1).toNatClampNeg) → K d) ∧ (¬ (gA d b_1 (p2).toNatClampNeg) < (gA d b_5 (p1).toNatClampNeg) → ∃ b_10 : Nat, eR E a0 2 = some b_10 ∧ okA E b_10 13 ∧ ∃ b_13 : Nat, eR E a0 4 = some b_13 ∧ okA E b_13 13 ∧ vp_in p1 (eN E b_13) ∧ vp_in p2 (eN E b_10) ∧ K (pI (pA d b_10 (p2).toNatClampNeg ((gA d b_13 (p1).toNatClampNeg) - 1)) a0 5 1)))
def w_X5_seaAboveLine (E : En) (a0 : Nat) (p1 : Int32) (p2 : Int32) (d : Dy) (K : Dy → Prop) : Prop := okO E a0 5 ∧ ∃ b_18 : Nat, eR E a0 3 = some b_18 ∧ okA E b_18 13 ∧ vp_in p1 (eN E b_18) ∧ ∃ b_22 : Nat, eR E a0 1 = some b_22 ∧ okA E b_22 13 ∧ vp_in p2 (eN E b_22) ∧ (((gA d b_22 (p2).toNatClampNeg) < (gA d b_18 (p1).toNatClampNeg) → b_X5_seaAboveLine_34 E a0 p1 p2 K d) ∧ (¬ (gA d b_22 (p2).toNatClampNeg) < (gA d b_18 (p1).toNatClampNeg) → ∃ b_27 : Nat, eR E a0 3 = some b_27 ∧ okA E b_27 13 ∧ ∃ b_30 : Nat, eR E a0 1 = some b_30 ∧ okA E b_30 13 ∧ vp_in p2 (eN E b_30) ∧ vp_in p1 (eN E b_27) ∧ b_X5_seaAboveLine_34 E a0 p1 p2 K (pI (pA d b_27 (p1).toNatClampNeg ((gA d b_30 (p2).toNatClampNeg) + 1)) a0 5 1)))
abbrev rm_X5_seaAboveLine : Room := { frames := 0, cells := 0, slots := 0, locals := 0 }
set_option maxRecDepth 100000 in
set_option maxHeartbeats 4000000 in
theorem m_X5_seaAboveLine (l : Launch) (D : va_G) (cs : Nat → ClassId) (E : En) (d : Dy) (sz : Nat) (a0 : Nat) (p1 : Int32) (p2 : Int32) (K : Dy → Prop) : CV l yX5_seaAboveLine (.code yX5_seaAboveLine cX5_seaAboveLine 3 none :: wsL_law) rm_X5_seaAboveLine D cs E d sz [.ref a0, .int p1, .int p2] (w_X5_seaAboveLine E a0 p1 p2 d K) K := by
  refine e_of (cc := cX5_seaAboveLine) (maxL := 3) (ret := none) (own := RX5) (by decide) rfl rfl (Nat.le_of_ble_eq_true rfl) ?_
  intro p e s m below meth c S hr hlocks hsz H locs hw h ls hl
  have hl : lv_has ls 3 [(0, .ref a0), (1, .int p1), (2, .int p2)] := hl
  unfold w_X5_seaAboveLine at h
  obtain ⟨ha0, h⟩ := h
  have tb34 : ∀ (d : Dy) (H : Heap) (locs : List Loc) (ls : Array Slot), b_X5_seaAboveLine_34 E a0 p1 p2 K d → Wd D cs (AW E sz) s.heap s E d H locs → lv_has ls 3 [(0, .ref a0), (1, .int p1), (2, .int p2)] → W p l e rm_X5_seaAboveLine s m ([.ref a0, .int p1, .int p2] : List Value).toArray below meth c H locs 0 0 (MQ below (va_Qv K (OutW D cs E (AW E sz)) (AW E sz)) ([.ref a0, .int p1, .int p2] : List Value).toArray s rm_X5_seaAboveLine.cells rm_X5_seaAboveLine.slots (AW E sz)) (F0 m 34 ls []) := by
    intro d H locs ls h hw hl
    unfold b_X5_seaAboveLine_34 at h
    refine lv_aload_n S.1 S.2.1 (dd_at ddX5_seaAboveLine 22 rfl) rfl (lv_at hl 0 rfl) ?_
    obtain ⟨b_1, hb_2, ho_3, h⟩ := h
    refine r_getR S hw 5 2 rfl inG5 (by decide) (List.mem_cons_of_mem _ wg135) (by decide) ha0 hb_2 (dd_at ddX5_seaAboveLine 23 rfl) ?_
    refine lv_iload_n S.1 S.2.1 (dd_at ddX5_seaAboveLine 24 rfl) rfl (lv_at hl 2 rfl) ?_
    obtain ⟨hx_4, h⟩ := h
    refine r_iald S hw ho_3 hx_4 (dd_at ddX5_seaAboveLine 25 rfl) ?_
    refine lv_aload_n S.1 S.2.1 (dd_at ddX5_seaAboveLine 26 rfl) rfl (lv_at hl 0 rfl) ?_
    obtain ⟨b_5, hb_6, ho_7, h⟩ := h
    refine r_getR S hw 5 4 rfl inG5 (by decide) (List.mem_cons_of_mem _ wg137) (by decide) ha0 hb_6 (dd_at ddX5_seaAboveLine 27 rfl) ?_
    refine lv_iload_n S.1 S.2.1 (dd_at ddX5_seaAboveLine 28 rfl) rfl (lv_at hl 1 rfl) ?_
    obtain ⟨hx_8, h⟩ := h
    refine r_iald S hw ho_7 hx_8 (dd_at ddX5_seaAboveLine 29 rfl) ?_
    refine lv_icmp_lt (tgt := 68) S.1 S.2.1 (dd_at ddX5_seaAboveLine 30 rfl) (by decide) (fun hc_9 => ?_) (fun hc_9 => ?_)
    · have h := h.1 hc_9
      exact e_V S hr hlocks hw h (dd_at ddX5_seaAboveLine 44 rfl)
    · have h := h.2 hc_9
      refine lv_aload_n S.1 S.2.1 (dd_at ddX5_seaAboveLine 31 rfl) rfl (lv_at hl 0 rfl) ?_
      obtain ⟨b_10, hb_11, ho_12, h⟩ := h
      refine r_getR S hw 5 2 rfl inG5 (by decide) (List.mem_cons_of_mem _ wg135) (by decide) ha0 hb_11 (dd_at ddX5_seaAboveLine 32 rfl) ?_
      refine lv_iload_n S.1 S.2.1 (dd_at ddX5_seaAboveLine 33 rfl) rfl (lv_at hl 2 rfl) ?_
      refine lv_aload_n S.1 S.2.1 (dd_at ddX5_seaAboveLine 34 rfl) rfl (lv_at hl 0 rfl) ?_
      obtain ⟨b_13, hb_14, ho_15, h⟩ := h
      refine r_getR S hw 5 4 rfl inG5 (by decide) (List.mem_cons_of_mem _ wg137) (by decide) ha0 hb_14 (dd_at ddX5_seaAboveLine 35 rfl) ?_
      refine lv_iload_n S.1 S.2.1 (dd_at ddX5_seaAboveLine 36 rfl) rfl (lv_at hl 1 rfl) ?_
      obtain ⟨hx_16, h⟩ := h
      refine r_iald S hw ho_15 hx_16 (dd_at ddX5_seaAboveLine 37 rfl) ?_
      refine lv_iconst (v := 1) S.1 S.2.1 (dd_at ddX5_seaAboveLine 38 rfl) (by decide) ?_
      refine lv_isub S.1 S.2.1 (dd_at ddX5_seaAboveLine 39 rfl) ?_
      obtain ⟨hx_17, h⟩ := h
      refine r_iast S hw ho_12 hx_17 (dd_at ddX5_seaAboveLine 40 rfl) (fun H locs hw => ?_)
      refine lv_aload_n S.1 S.2.1 (dd_at ddX5_seaAboveLine 41 rfl) rfl (lv_at hl 0 rfl) ?_
      refine lv_iconst (v := 1) S.1 S.2.1 (dd_at ddX5_seaAboveLine 42 rfl) (by decide) ?_
      refine r_putI S hw 5 5 (ty := .boolean) (v := 1) rfl inG5 tyX5 tyX5_ok nmX5 (by decide) (List.mem_cons_of_mem _ wg1275) (by decide) rfl (by decide +kernel) (by decide) (by decide) ha0 (dd_at ddX5_seaAboveLine 43 rfl) (fun H locs hw => ?_)
      exact e_V S hr hlocks hw h (dd_at ddX5_seaAboveLine 44 rfl)
  refine lv_aload_n S.1 S.2.1 (dd_at ddX5_seaAboveLine 0 rfl) rfl (lv_at hl 0 rfl) ?_
  obtain ⟨b_18, hb_19, ho_20, h⟩ := h
  refine r_getR S hw 5 3 rfl inG5 (by decide) (List.mem_cons_of_mem _ wg136) (by decide) ha0 hb_19 (dd_at ddX5_seaAboveLine 1 rfl) ?_
  refine lv_iload_n S.1 S.2.1 (dd_at ddX5_seaAboveLine 2 rfl) rfl (lv_at hl 1 rfl) ?_
  obtain ⟨hx_21, h⟩ := h
  refine r_iald S hw ho_20 hx_21 (dd_at ddX5_seaAboveLine 3 rfl) ?_
  refine lv_aload_n S.1 S.2.1 (dd_at ddX5_seaAboveLine 4 rfl) rfl (lv_at hl 0 rfl) ?_
  obtain ⟨b_22, hb_23, ho_24, h⟩ := h
  refine r_getR S hw 5 1 rfl inG5 (by decide) (List.mem_cons_of_mem _ wg134) (by decide) ha0 hb_23 (dd_at ddX5_seaAboveLine 5 rfl) ?_
  refine lv_iload_n S.1 S.2.1 (dd_at ddX5_seaAboveLine 6 rfl) rfl (lv_at hl 2 rfl) ?_
  obtain ⟨hx_25, h⟩ := h
  refine r_iald S hw ho_24 hx_25 (dd_at ddX5_seaAboveLine 7 rfl) ?_
  refine lv_icmp_gt (tgt := 34) S.1 S.2.1 (dd_at ddX5_seaAboveLine 8 rfl) (by decide) (fun hc_26 => ?_) (fun hc_26 => ?_)
  · have h := h.1 hc_26
    exact tb34 d H locs ls h hw (lv_sub hl [0, 1, 2] rfl)
  · have h := h.2 hc_26
    refine lv_aload_n S.1 S.2.1 (dd_at ddX5_seaAboveLine 9 rfl) rfl (lv_at hl 0 rfl) ?_
    obtain ⟨b_27, hb_28, ho_29, h⟩ := h
    refine r_getR S hw 5 3 rfl inG5 (by decide) (List.mem_cons_of_mem _ wg136) (by decide) ha0 hb_28 (dd_at ddX5_seaAboveLine 10 rfl) ?_
    refine lv_iload_n S.1 S.2.1 (dd_at ddX5_seaAboveLine 11 rfl) rfl (lv_at hl 1 rfl) ?_
    refine lv_aload_n S.1 S.2.1 (dd_at ddX5_seaAboveLine 12 rfl) rfl (lv_at hl 0 rfl) ?_
    obtain ⟨b_30, hb_31, ho_32, h⟩ := h
    refine r_getR S hw 5 1 rfl inG5 (by decide) (List.mem_cons_of_mem _ wg134) (by decide) ha0 hb_31 (dd_at ddX5_seaAboveLine 13 rfl) ?_
    refine lv_iload_n S.1 S.2.1 (dd_at ddX5_seaAboveLine 14 rfl) rfl (lv_at hl 2 rfl) ?_
    obtain ⟨hx_33, h⟩ := h
    refine r_iald S hw ho_32 hx_33 (dd_at ddX5_seaAboveLine 15 rfl) ?_
    refine lv_iconst (v := 1) S.1 S.2.1 (dd_at ddX5_seaAboveLine 16 rfl) (by decide) ?_
    refine lv_iadd S.1 S.2.1 (dd_at ddX5_seaAboveLine 17 rfl) ?_
    obtain ⟨hx_34, h⟩ := h
    refine r_iast S hw ho_29 hx_34 (dd_at ddX5_seaAboveLine 18 rfl) (fun H locs hw => ?_)
    refine lv_aload_n S.1 S.2.1 (dd_at ddX5_seaAboveLine 19 rfl) rfl (lv_at hl 0 rfl) ?_
    refine lv_iconst (v := 1) S.1 S.2.1 (dd_at ddX5_seaAboveLine 20 rfl) (by decide) ?_
    refine r_putI S hw 5 5 (ty := .boolean) (v := 1) rfl inG5 tyX5 tyX5_ok nmX5 (by decide) (List.mem_cons_of_mem _ wg1275) (by decide) rfl (by decide +kernel) (by decide) (by decide) ha0 (dd_at ddX5_seaAboveLine 21 rfl) (fun H locs hw => ?_)
    exact tb34 (pI (pA d b_27 (p1).toNatClampNeg ((gA d b_30 (p2).toNatClampNeg) + 1)) a0 5 1) H locs ls h hw (lv_sub hl [0, 1, 2] rfl)

def b_X5_seaNotAboveLine_32 (E : En) (a0 : Nat) (p1 : Int32) (p2 : Int32) (K : Dy → Prop) (d : Dy) : Prop := ∃ b_1 : Nat, eR E a0 4 = some b_1 ∧ okA E b_1 13 ∧ vp_in p1 (eN E b_1) ∧ ∃ b_5 : Nat, eR E a0 2 = some b_5 ∧ okA E b_5 13 ∧ vp_in p2 (eN E b_5) ∧ (((gA d b_1 (p1).toNatClampNeg) ≤ (gA d b_5 (p2).toNatClampNeg) → K d) ∧ (¬ (gA d b_1 (p1).toNatClampNeg) ≤ (gA d b_5 (p2).toNatClampNeg) → ∃ b_10 : Nat, eR E a0 4 = some b_10 ∧ okA E b_10 13 ∧ ∃ b_13 : Nat, eR E a0 2 = some b_13 ∧ okA E b_13 13 ∧ vp_in p2 (eN E b_13) ∧ vp_in p1 (eN E b_10) ∧ K (pI (pA d b_10 (p1).toNatClampNeg (gA d b_13 (p2).toNatClampNeg)) a0 5 1)))
def w_X5_seaNotAboveLine (E : En) (a0 : Nat) (p1 : Int32) (p2 : Int32) (d : Dy) (K : Dy → Prop) : Prop := okO E a0 5 ∧ ∃ b_18 : Nat, eR E a0 1 = some b_18 ∧ okA E b_18 13 ∧ vp_in p2 (eN E b_18) ∧ ∃ b_22 : Nat, eR E a0 3 = some b_22 ∧ okA E b_22 13 ∧ vp_in p1 (eN E b_22) ∧ (((gA d b_22 (p1).toNatClampNeg) ≤ (gA d b_18 (p2).toNatClampNeg) → b_X5_seaNotAboveLine_32 E a0 p1 p2 K d) ∧ (¬ (gA d b_22 (p1).toNatClampNeg) ≤ (gA d b_18 (p2).toNatClampNeg) → ∃ b_27 : Nat, eR E a0 1 = some b_27 ∧ okA E b_27 13 ∧ ∃ b_30 : Nat, eR E a0 3 = some b_30 ∧ okA E b_30 13 ∧ vp_in p1 (eN E b_30) ∧ vp_in p2 (eN E b_27) ∧ b_X5_seaNotAboveLine_32 E a0 p1 p2 K (pI (pA d b_27 (p2).toNatClampNeg (gA d b_30 (p1).toNatClampNeg)) a0 5 1)))
abbrev rm_X5_seaNotAboveLine : Room := { frames := 0, cells := 0, slots := 0, locals := 0 }
set_option maxRecDepth 100000 in
set_option maxHeartbeats 4000000 in
theorem m_X5_seaNotAboveLine (l : Launch) (D : va_G) (cs : Nat → ClassId) (E : En) (d : Dy) (sz : Nat) (a0 : Nat) (p1 : Int32) (p2 : Int32) (K : Dy → Prop) : CV l yX5_seaNotAboveLine (.code yX5_seaNotAboveLine cX5_seaNotAboveLine 3 none :: wsL_law) rm_X5_seaNotAboveLine D cs E d sz [.ref a0, .int p1, .int p2] (w_X5_seaNotAboveLine E a0 p1 p2 d K) K := by
  refine e_of (cc := cX5_seaNotAboveLine) (maxL := 3) (ret := none) (own := RX5) (by decide) rfl rfl (Nat.le_of_ble_eq_true rfl) ?_
  intro p e s m below meth c S hr hlocks hsz H locs hw h ls hl
  have hl : lv_has ls 3 [(0, .ref a0), (1, .int p1), (2, .int p2)] := hl
  unfold w_X5_seaNotAboveLine at h
  obtain ⟨ha0, h⟩ := h
  have tb32 : ∀ (d : Dy) (H : Heap) (locs : List Loc) (ls : Array Slot), b_X5_seaNotAboveLine_32 E a0 p1 p2 K d → Wd D cs (AW E sz) s.heap s E d H locs → lv_has ls 3 [(0, .ref a0), (1, .int p1), (2, .int p2)] → W p l e rm_X5_seaNotAboveLine s m ([.ref a0, .int p1, .int p2] : List Value).toArray below meth c H locs 0 0 (MQ below (va_Qv K (OutW D cs E (AW E sz)) (AW E sz)) ([.ref a0, .int p1, .int p2] : List Value).toArray s rm_X5_seaNotAboveLine.cells rm_X5_seaNotAboveLine.slots (AW E sz)) (F0 m 32 ls []) := by
    intro d H locs ls h hw hl
    unfold b_X5_seaNotAboveLine_32 at h
    refine lv_aload_n S.1 S.2.1 (dd_at ddX5_seaNotAboveLine 20 rfl) rfl (lv_at hl 0 rfl) ?_
    obtain ⟨b_1, hb_2, ho_3, h⟩ := h
    refine r_getR S hw 5 4 rfl inG5 (by decide) (List.mem_cons_of_mem _ wg137) (by decide) ha0 hb_2 (dd_at ddX5_seaNotAboveLine 21 rfl) ?_
    refine lv_iload_n S.1 S.2.1 (dd_at ddX5_seaNotAboveLine 22 rfl) rfl (lv_at hl 1 rfl) ?_
    obtain ⟨hx_4, h⟩ := h
    refine r_iald S hw ho_3 hx_4 (dd_at ddX5_seaNotAboveLine 23 rfl) ?_
    refine lv_aload_n S.1 S.2.1 (dd_at ddX5_seaNotAboveLine 24 rfl) rfl (lv_at hl 0 rfl) ?_
    obtain ⟨b_5, hb_6, ho_7, h⟩ := h
    refine r_getR S hw 5 2 rfl inG5 (by decide) (List.mem_cons_of_mem _ wg135) (by decide) ha0 hb_6 (dd_at ddX5_seaNotAboveLine 25 rfl) ?_
    refine lv_iload_n S.1 S.2.1 (dd_at ddX5_seaNotAboveLine 26 rfl) rfl (lv_at hl 2 rfl) ?_
    obtain ⟨hx_8, h⟩ := h
    refine r_iald S hw ho_7 hx_8 (dd_at ddX5_seaNotAboveLine 27 rfl) ?_
    refine lv_icmp_le (tgt := 64) S.1 S.2.1 (dd_at ddX5_seaNotAboveLine 28 rfl) (by decide) (fun hc_9 => ?_) (fun hc_9 => ?_)
    · have h := h.1 hc_9
      exact e_V S hr hlocks hw h (dd_at ddX5_seaNotAboveLine 40 rfl)
    · have h := h.2 hc_9
      refine lv_aload_n S.1 S.2.1 (dd_at ddX5_seaNotAboveLine 29 rfl) rfl (lv_at hl 0 rfl) ?_
      obtain ⟨b_10, hb_11, ho_12, h⟩ := h
      refine r_getR S hw 5 4 rfl inG5 (by decide) (List.mem_cons_of_mem _ wg137) (by decide) ha0 hb_11 (dd_at ddX5_seaNotAboveLine 30 rfl) ?_
      refine lv_iload_n S.1 S.2.1 (dd_at ddX5_seaNotAboveLine 31 rfl) rfl (lv_at hl 1 rfl) ?_
      refine lv_aload_n S.1 S.2.1 (dd_at ddX5_seaNotAboveLine 32 rfl) rfl (lv_at hl 0 rfl) ?_
      obtain ⟨b_13, hb_14, ho_15, h⟩ := h
      refine r_getR S hw 5 2 rfl inG5 (by decide) (List.mem_cons_of_mem _ wg135) (by decide) ha0 hb_14 (dd_at ddX5_seaNotAboveLine 33 rfl) ?_
      refine lv_iload_n S.1 S.2.1 (dd_at ddX5_seaNotAboveLine 34 rfl) rfl (lv_at hl 2 rfl) ?_
      obtain ⟨hx_16, h⟩ := h
      refine r_iald S hw ho_15 hx_16 (dd_at ddX5_seaNotAboveLine 35 rfl) ?_
      obtain ⟨hx_17, h⟩ := h
      refine r_iast S hw ho_12 hx_17 (dd_at ddX5_seaNotAboveLine 36 rfl) (fun H locs hw => ?_)
      refine lv_aload_n S.1 S.2.1 (dd_at ddX5_seaNotAboveLine 37 rfl) rfl (lv_at hl 0 rfl) ?_
      refine lv_iconst (v := 1) S.1 S.2.1 (dd_at ddX5_seaNotAboveLine 38 rfl) (by decide) ?_
      refine r_putI S hw 5 5 (ty := .boolean) (v := 1) rfl inG5 tyX5 tyX5_ok nmX5 (by decide) (List.mem_cons_of_mem _ wg1275) (by decide) rfl (by decide +kernel) (by decide) (by decide) ha0 (dd_at ddX5_seaNotAboveLine 39 rfl) (fun H locs hw => ?_)
      exact e_V S hr hlocks hw h (dd_at ddX5_seaNotAboveLine 40 rfl)
  refine lv_aload_n S.1 S.2.1 (dd_at ddX5_seaNotAboveLine 0 rfl) rfl (lv_at hl 0 rfl) ?_
  obtain ⟨b_18, hb_19, ho_20, h⟩ := h
  refine r_getR S hw 5 1 rfl inG5 (by decide) (List.mem_cons_of_mem _ wg134) (by decide) ha0 hb_19 (dd_at ddX5_seaNotAboveLine 1 rfl) ?_
  refine lv_iload_n S.1 S.2.1 (dd_at ddX5_seaNotAboveLine 2 rfl) rfl (lv_at hl 2 rfl) ?_
  obtain ⟨hx_21, h⟩ := h
  refine r_iald S hw ho_20 hx_21 (dd_at ddX5_seaNotAboveLine 3 rfl) ?_
  refine lv_aload_n S.1 S.2.1 (dd_at ddX5_seaNotAboveLine 4 rfl) rfl (lv_at hl 0 rfl) ?_
  obtain ⟨b_22, hb_23, ho_24, h⟩ := h
  refine r_getR S hw 5 3 rfl inG5 (by decide) (List.mem_cons_of_mem _ wg136) (by decide) ha0 hb_23 (dd_at ddX5_seaNotAboveLine 5 rfl) ?_
  refine lv_iload_n S.1 S.2.1 (dd_at ddX5_seaNotAboveLine 6 rfl) rfl (lv_at hl 1 rfl) ?_
  obtain ⟨hx_25, h⟩ := h
  refine r_iald S hw ho_24 hx_25 (dd_at ddX5_seaNotAboveLine 7 rfl) ?_
  refine lv_icmp_ge (tgt := 32) S.1 S.2.1 (dd_at ddX5_seaNotAboveLine 8 rfl) (by decide) (fun hc_26 => ?_) (fun hc_26 => ?_)
  · have h := h.1 hc_26
    exact tb32 d H locs ls h hw (lv_sub hl [0, 1, 2] rfl)
  · have h := h.2 hc_26
    refine lv_aload_n S.1 S.2.1 (dd_at ddX5_seaNotAboveLine 9 rfl) rfl (lv_at hl 0 rfl) ?_
    obtain ⟨b_27, hb_28, ho_29, h⟩ := h
    refine r_getR S hw 5 1 rfl inG5 (by decide) (List.mem_cons_of_mem _ wg134) (by decide) ha0 hb_28 (dd_at ddX5_seaNotAboveLine 10 rfl) ?_
    refine lv_iload_n S.1 S.2.1 (dd_at ddX5_seaNotAboveLine 11 rfl) rfl (lv_at hl 2 rfl) ?_
    refine lv_aload_n S.1 S.2.1 (dd_at ddX5_seaNotAboveLine 12 rfl) rfl (lv_at hl 0 rfl) ?_
    obtain ⟨b_30, hb_31, ho_32, h⟩ := h
    refine r_getR S hw 5 3 rfl inG5 (by decide) (List.mem_cons_of_mem _ wg136) (by decide) ha0 hb_31 (dd_at ddX5_seaNotAboveLine 13 rfl) ?_
    refine lv_iload_n S.1 S.2.1 (dd_at ddX5_seaNotAboveLine 14 rfl) rfl (lv_at hl 1 rfl) ?_
    obtain ⟨hx_33, h⟩ := h
    refine r_iald S hw ho_32 hx_33 (dd_at ddX5_seaNotAboveLine 15 rfl) ?_
    obtain ⟨hx_34, h⟩ := h
    refine r_iast S hw ho_29 hx_34 (dd_at ddX5_seaNotAboveLine 16 rfl) (fun H locs hw => ?_)
    refine lv_aload_n S.1 S.2.1 (dd_at ddX5_seaNotAboveLine 17 rfl) rfl (lv_at hl 0 rfl) ?_
    refine lv_iconst (v := 1) S.1 S.2.1 (dd_at ddX5_seaNotAboveLine 18 rfl) (by decide) ?_
    refine r_putI S hw 5 5 (ty := .boolean) (v := 1) rfl inG5 tyX5 tyX5_ok nmX5 (by decide) (List.mem_cons_of_mem _ wg1275) (by decide) rfl (by decide +kernel) (by decide) (by decide) ha0 (dd_at ddX5_seaNotAboveLine 19 rfl) (fun H locs hw => ?_)
    exact tb32 (pI (pA d b_27 (p2).toNatClampNeg (gA d b_30 (p1).toNatClampNeg)) a0 5 1) H locs ls h hw (lv_sub hl [0, 1, 2] rfl)

def b_X5_narrows_92 (E : En) (a0 : Nat) (p1 : Int32) (K : Int32 → Dy → Prop) (k2 : Int32 → Dy → Prop) (k51 : Int32 → Int32 → Int32 → Dy → Prop) (v2 : Int32) (v3 : Int32) (v4 : Int32) (d : Dy) : Prop := ∃ b_1 : Nat, eR E a0 1 = some b_1 ∧ okA E b_1 13 ∧ vp_in v4 (eN E b_1) ∧ ∃ b_5 : Nat, eR E a0 2 = some b_5 ∧ okA E b_5 13 ∧ vp_in v4 (eN E b_5) ∧ (((gA d b_5 (v4).toNatClampNeg) < (gA d b_1 (v4).toNatClampNeg) → K 0 d) ∧ (¬ (gA d b_5 (v4).toNatClampNeg) < (gA d b_1 (v4).toNatClampNeg) → ∃ b_10 : Nat, eR E a0 3 = some b_10 ∧ okA E b_10 13 ∧ vp_in v2 (eN E b_10) ∧ ∃ b_14 : Nat, eR E a0 4 = some b_14 ∧ okA E b_14 13 ∧ vp_in v2 (eN E b_14) ∧ (((gA d b_10 (v2).toNatClampNeg) ≤ (gA d b_14 (v2).toNatClampNeg) → k51 v2 v3 (v4 + 1) d) ∧ (¬ (gA d b_10 (v2).toNatClampNeg) ≤ (gA d b_14 (v2).toNatClampNeg) → K 0 d))))
def b_X5_narrows_51 (E : En) (a0 : Nat) (p1 : Int32) (K : Int32 → Dy → Prop) (k2 : Int32 → Dy → Prop) (k51 : Int32 → Int32 → Int32 → Dy → Prop) (v2 : Int32) (v3 : Int32) (v4 : Int32) (d : Dy) : Prop := ∃ b_19 : Nat, eR E a0 0 = some b_19 ∧ okO E b_19 8 ∧ ∃ b_22 : Nat, eR E b_19 2 = some b_22 ∧ okO E b_22 6 ∧ w_X6_size E b_22 d (fun r_26 d_25 => ((r_26 ≤ v4 → k2 (v2 + 1) d_25) ∧ (¬ r_26 ≤ v4 → ((((v3 >>> (v4 &&& 31)) &&& 1) = 0 → w_X5_seaNotAboveLine E a0 v2 v4 d_25 (fun d_29 => b_X5_narrows_92 E a0 p1 K k2 k51 v2 v3 v4 d_29)) ∧ (¬ ((v3 >>> (v4 &&& 31)) &&& 1) = 0 → w_X5_seaAboveLine E a0 v2 v4 d_25 (fun d_31 => b_X5_narrows_92 E a0 p1 K k2 k51 v2 v3 v4 d_31))))))
def l_X5_narrows_51 (E : En) (a0 : Nat) (p1 : Int32) (K : Int32 → Dy → Prop) (k2 : Int32 → Dy → Prop) : Nat → Int32 → Int32 → Int32 → Dy → Prop
  | 0 => fun _ _ _ _ => False
  | n + 1 => b_X5_narrows_51 E a0 p1 K k2 (l_X5_narrows_51 E a0 p1 K k2 n)
def b_X5_narrows_2 (E : En) (a0 : Nat) (p1 : Int32) (K : Int32 → Dy → Prop) (k2 : Int32 → Dy → Prop) (v2 : Int32) (d : Dy) : Prop := ∃ b_33 : Nat, eR E a0 0 = some b_33 ∧ okO E b_33 8 ∧ ∃ b_36 : Nat, eR E b_33 7 = some b_36 ∧ okO E b_36 6 ∧ w_X6_size E b_36 d (fun r_40 d_39 => ((r_40 ≤ v2 → K 1 d_39) ∧ (¬ r_40 ≤ v2 → ∃ b_42 : Nat, eR E a0 0 = some b_42 ∧ okO E b_42 8 ∧ ∃ b_45 : Nat, eR E b_42 7 = some b_45 ∧ okO E b_45 6 ∧ w_X6_get E b_45 v2 1 d_39 (fun r_49 d_48 => ((r_49 ≤ p1 → ∃ b_51 : Nat, eR E a0 0 = some b_51 ∧ okO E b_51 8 ∧ ∃ b_54 : Nat, eR E b_51 7 = some b_54 ∧ okO E b_54 6 ∧ w_X6_get E b_54 v2 2 d_48 (fun r_58 d_57 => (∃ n_59 : Nat, l_X5_narrows_51 E a0 p1 K k2 n_59 v2 r_58 0 d_57))) ∧ (¬ r_49 ≤ p1 → k2 (v2 + 1) d_48))))))
def l_X5_narrows_2 (E : En) (a0 : Nat) (p1 : Int32) (K : Int32 → Dy → Prop) : Nat → Int32 → Dy → Prop
  | 0 => fun _ _ => False
  | n + 1 => b_X5_narrows_2 E a0 p1 K (l_X5_narrows_2 E a0 p1 K n)
def w_X5_narrows (E : En) (a0 : Nat) (p1 : Int32) (d : Dy) (K : Int32 → Dy → Prop) : Prop := okO E a0 5 ∧ (∃ n_60 : Nat, l_X5_narrows_2 E a0 p1 K n_60 0 d)
abbrev rm_X5_narrows : Room := { frames := 1, cells := 0, slots := 0, locals := 23 }
set_option maxRecDepth 100000 in
set_option maxHeartbeats 4000000 in
theorem m_X5_narrows (l : Launch) (D : va_G) (cs : Nat → ClassId) (E : En) (d : Dy) (sz : Nat) (a0 : Nat) (p1 : Int32) (K : Int32 → Dy → Prop) : CI l yX5_narrows (.code yX5_narrows cX5_narrows 5 (some .boolean) :: wsL_law) rm_X5_narrows D cs E d sz [.ref a0, .int p1] (w_X5_narrows E a0 p1 d K) K := by
  refine e_of (cc := cX5_narrows) (maxL := 5) (ret := (some .boolean)) (own := RX5) (by decide) rfl rfl (Nat.le_of_ble_eq_true rfl) ?_
  intro p e s m below meth c S hr hlocks hsz H locs hw h ls hl
  have hl : lv_has ls 5 [(0, .ref a0), (1, .int p1)] := hl
  unfold w_X5_narrows at h
  obtain ⟨ha0, h⟩ := h
  have tl2 : ∀ (n : Nat) (v2 : Int32) (d : Dy) (H : Heap) (locs : List Loc) (ls : Array Slot), l_X5_narrows_2 E a0 p1 K n v2 d → Wd D cs (AW E sz) s.heap s E d H locs → lv_has ls 5 [(0, .ref a0), (1, .int p1), (2, .int v2)] → W p l e rm_X5_narrows s m ([.ref a0, .int p1] : List Value).toArray below meth c H locs 0 0 (MQ below (va_Qi K (OutW D cs E (AW E sz)) (AW E sz)) ([.ref a0, .int p1] : List Value).toArray s rm_X5_narrows.cells rm_X5_narrows.slots (AW E sz)) (F0 m 2 ls []) := by
    intro n2
    induction n2 with
    | zero => intro v2 d H locs ls h; exact absurd h id
    | succ n2 ih2 =>
      have tl51 : ∀ (n : Nat) (v2 : Int32) (v3 : Int32) (v4 : Int32) (d : Dy) (H : Heap) (locs : List Loc) (ls : Array Slot), l_X5_narrows_51 E a0 p1 K (l_X5_narrows_2 E a0 p1 K n2) n v2 v3 v4 d → Wd D cs (AW E sz) s.heap s E d H locs → lv_has ls 5 [(0, .ref a0), (1, .int p1), (2, .int v2), (3, .int v3), (4, .int v4)] → W p l e rm_X5_narrows s m ([.ref a0, .int p1] : List Value).toArray below meth c H locs 0 0 (MQ below (va_Qi K (OutW D cs E (AW E sz)) (AW E sz)) ([.ref a0, .int p1] : List Value).toArray s rm_X5_narrows.cells rm_X5_narrows.slots (AW E sz)) (F0 m 51 ls []) := by
        intro n51
        induction n51 with
        | zero => intro v2 v3 v4 d H locs ls h; exact absurd h id
        | succ n51 ih51 =>
          have tb92 : ∀ (v2 : Int32) (v3 : Int32) (v4 : Int32) (d : Dy) (H : Heap) (locs : List Loc) (ls : Array Slot), b_X5_narrows_92 E a0 p1 K (l_X5_narrows_2 E a0 p1 K n2) (l_X5_narrows_51 E a0 p1 K (l_X5_narrows_2 E a0 p1 K n2) n51) v2 v3 v4 d → Wd D cs (AW E sz) s.heap s E d H locs → lv_has ls 5 [(0, .ref a0), (1, .int p1), (2, .int v2), (3, .int v3), (4, .int v4)] → W p l e rm_X5_narrows s m ([.ref a0, .int p1] : List Value).toArray below meth c H locs 0 0 (MQ below (va_Qi K (OutW D cs E (AW E sz)) (AW E sz)) ([.ref a0, .int p1] : List Value).toArray s rm_X5_narrows.cells rm_X5_narrows.slots (AW E sz)) (F0 m 92 ls []) := by
            intro v2 v3 v4 d H locs ls h hw hl
            unfold b_X5_narrows_92 at h
            refine lv_aload_n S.1 S.2.1 (dd_at ddX5_narrows 47 rfl) rfl (lv_at hl 0 rfl) ?_
            obtain ⟨b_1, hb_2, ho_3, h⟩ := h
            refine r_getR S hw 5 1 rfl inG5 (by decide) (List.mem_cons_of_mem _ wg134) (by decide) ha0 hb_2 (dd_at ddX5_narrows 48 rfl) ?_
            refine lv_iload S.1 S.2.1 (dd_at ddX5_narrows 49 rfl) (lv_at hl 4 rfl) ?_
            obtain ⟨hx_4, h⟩ := h
            refine r_iald S hw ho_3 hx_4 (dd_at ddX5_narrows 50 rfl) ?_
            refine lv_aload_n S.1 S.2.1 (dd_at ddX5_narrows 51 rfl) rfl (lv_at hl 0 rfl) ?_
            obtain ⟨b_5, hb_6, ho_7, h⟩ := h
            refine r_getR S hw 5 2 rfl inG5 (by decide) (List.mem_cons_of_mem _ wg135) (by decide) ha0 hb_6 (dd_at ddX5_narrows 52 rfl) ?_
            refine lv_iload S.1 S.2.1 (dd_at ddX5_narrows 53 rfl) (lv_at hl 4 rfl) ?_
            obtain ⟨hx_8, h⟩ := h
            refine r_iald S hw ho_7 hx_8 (dd_at ddX5_narrows 54 rfl) ?_
            refine lv_icmp_gt (tgt := 124) S.1 S.2.1 (dd_at ddX5_narrows 55 rfl) (by decide) (fun hc_9 => ?_) (fun hc_9 => ?_)
            · have h := h.1 hc_9
              refine lv_iconst (v := 0) S.1 S.2.1 (dd_at ddX5_narrows 65 rfl) (by decide) ?_
              exact e_Z S hr hlocks hw (Or.inl rfl) h (dd_at ddX5_narrows 66 rfl)
            · have h := h.2 hc_9
              refine lv_aload_n S.1 S.2.1 (dd_at ddX5_narrows 56 rfl) rfl (lv_at hl 0 rfl) ?_
              obtain ⟨b_10, hb_11, ho_12, h⟩ := h
              refine r_getR S hw 5 3 rfl inG5 (by decide) (List.mem_cons_of_mem _ wg136) (by decide) ha0 hb_11 (dd_at ddX5_narrows 57 rfl) ?_
              refine lv_iload_n S.1 S.2.1 (dd_at ddX5_narrows 58 rfl) rfl (lv_at hl 2 rfl) ?_
              obtain ⟨hx_13, h⟩ := h
              refine r_iald S hw ho_12 hx_13 (dd_at ddX5_narrows 59 rfl) ?_
              refine lv_aload_n S.1 S.2.1 (dd_at ddX5_narrows 60 rfl) rfl (lv_at hl 0 rfl) ?_
              obtain ⟨b_14, hb_15, ho_16, h⟩ := h
              refine r_getR S hw 5 4 rfl inG5 (by decide) (List.mem_cons_of_mem _ wg137) (by decide) ha0 hb_15 (dd_at ddX5_narrows 61 rfl) ?_
              refine lv_iload_n S.1 S.2.1 (dd_at ddX5_narrows 62 rfl) rfl (lv_at hl 2 rfl) ?_
              obtain ⟨hx_17, h⟩ := h
              refine r_iald S hw ho_16 hx_17 (dd_at ddX5_narrows 63 rfl) ?_
              refine lv_icmp_le (tgt := 126) S.1 S.2.1 (dd_at ddX5_narrows 64 rfl) (by decide) (fun hc_18 => ?_) (fun hc_18 => ?_)
              · have h := h.1 hc_18
                refine lv_iinc (v := v4 + 1) (lv' := [(4, .int (v4 + 1)), (0, .ref a0), (1, .int p1), (2, .int v2), (3, .int v3)]) S.1 S.2.1 (dd_at ddX5_narrows 67 rfl) hl (k := 4) rfl rfl (by decide) rfl (fun ls hl => ?_)
                refine lv_goto (tgt := 51) S.1 S.2.1 (dd_at ddX5_narrows 68 rfl) (by decide) ?_
                exact ih51 v2 v3 (v4 + 1) d H locs ls h hw (lv_sub hl [1, 2, 3, 4, 0] rfl)
              · have h := h.2 hc_18
                refine lv_iconst (v := 0) S.1 S.2.1 (dd_at ddX5_narrows 65 rfl) (by decide) ?_
                exact e_Z S hr hlocks hw (Or.inl rfl) h (dd_at ddX5_narrows 66 rfl)
          intro v2 v3 v4 d H locs ls h hw hl
          have h : b_X5_narrows_51 E a0 p1 K (l_X5_narrows_2 E a0 p1 K n2) (l_X5_narrows_51 E a0 p1 K (l_X5_narrows_2 E a0 p1 K n2) n51) v2 v3 v4 d := h
          unfold b_X5_narrows_51 at h
          refine lv_iload S.1 S.2.1 (dd_at ddX5_narrows 26 rfl) (lv_at hl 4 rfl) ?_
          refine lv_aload_n S.1 S.2.1 (dd_at ddX5_narrows 27 rfl) rfl (lv_at hl 0 rfl) ?_
          obtain ⟨b_19, hb_20, ho_21, h⟩ := h
          refine r_getR S hw 5 0 rfl inG5 (by decide) (List.mem_cons_of_mem _ wg138) (by decide) ha0 hb_20 (dd_at ddX5_narrows 28 rfl) ?_
          obtain ⟨b_22, hb_23, ho_24, h⟩ := h
          refine r_getRN S hw 8 2 rfl inG8 (by decide) nx4 (by decide) ho_21 hb_23 (dd_at ddX5_narrows 29 rfl) ?_
          refine r_callI hw (r_runV (As := []) (rest := [.int v4]) S hw (m_X6_size l D cs E d H.size b_22 _) (cwV 0 S.2.2.2.2 (gV wg1276 wg372 wg373 wg51 wg374) rfl rfl rfl (by decide +kernel) ⟨Nat.le_of_ble_eq_true rfl, Nat.le_of_ble_eq_true rfl⟩) (ci := 6) rfl ho_24 h rfl hl.1 rfl (Nat.le_of_ble_eq_true rfl) (dd_at ddX5_narrows 30 rfl) ⟨Nat.le_of_ble_eq_true rfl, Nat.le_of_ble_eq_true rfl⟩) (fun r_26 d_25 H locs h hw => ?_)
          refine lv_icmp_ge (tgt := 132) S.1 S.2.1 (dd_at ddX5_narrows 31 rfl) (by decide) (fun hc_27 => ?_) (fun hc_27 => ?_)
          · have h := h.1 hc_27
            refine lv_iinc (v := v2 + 1) (lv' := [(2, .int (v2 + 1)), (0, .ref a0), (1, .int p1), (3, .int v3), (4, .int v4)]) S.1 S.2.1 (dd_at ddX5_narrows 69 rfl) hl (k := 2) rfl rfl (by decide) rfl (fun ls hl => ?_)
            refine lv_goto (tgt := 2) S.1 S.2.1 (dd_at ddX5_narrows 70 rfl) (by decide) ?_
            exact ih2 (v2 + 1) d_25 H locs ls h hw (lv_sub hl [1, 2, 0] rfl)
          · have h := h.2 hc_27
            refine lv_iload_n S.1 S.2.1 (dd_at ddX5_narrows 32 rfl) rfl (lv_at hl 3 rfl) ?_
            refine lv_iload S.1 S.2.1 (dd_at ddX5_narrows 33 rfl) (lv_at hl 4 rfl) ?_
            refine lv_ishr S.1 S.2.1 (dd_at ddX5_narrows 34 rfl) ?_
            refine lv_iconst (v := 1) S.1 S.2.1 (dd_at ddX5_narrows 35 rfl) (by decide) ?_
            refine lv_iand S.1 S.2.1 (dd_at ddX5_narrows 36 rfl) ?_
            refine lv_if_eq (tgt := 85) S.1 S.2.1 (dd_at ddX5_narrows 37 rfl) (by decide) (fun hc_28 => ?_) (fun hc_28 => ?_)
            · have h := h.1 hc_28
              refine lv_aload_n S.1 S.2.1 (dd_at ddX5_narrows 43 rfl) rfl (lv_at hl 0 rfl) ?_
              refine lv_iload_n S.1 S.2.1 (dd_at ddX5_narrows 44 rfl) rfl (lv_at hl 2 rfl) ?_
              refine lv_iload S.1 S.2.1 (dd_at ddX5_narrows 45 rfl) (lv_at hl 4 rfl) ?_
              refine r_callV hw (r_runV (As := [.int v2, .int v4]) (rest := []) S hw (m_X5_seaNotAboveLine l D cs E d_25 H.size a0 v2 v4 _) (cwV 2 S.2.2.2.2 (gV wg1287 wg1288 wg1289 wg38 wg1290) rfl rfl rfl (by decide +kernel) ⟨Nat.le_of_ble_eq_true rfl, Nat.le_of_ble_eq_true rfl⟩) (ci := 5) rfl ha0 h rfl hl.1 rfl (Nat.le_of_ble_eq_true rfl) (dd_at ddX5_narrows 46 rfl) ⟨Nat.le_of_ble_eq_true rfl, Nat.le_of_ble_eq_true rfl⟩) (fun d_29 H locs h hw => ?_)
              exact tb92 v2 v3 v4 d_29 H locs ls h hw (lv_sub hl [0, 1, 2, 3, 4] rfl)
            · have h := h.2 hc_28
              refine lv_aload_n S.1 S.2.1 (dd_at ddX5_narrows 38 rfl) rfl (lv_at hl 0 rfl) ?_
              refine lv_iload_n S.1 S.2.1 (dd_at ddX5_narrows 39 rfl) rfl (lv_at hl 2 rfl) ?_
              refine lv_iload S.1 S.2.1 (dd_at ddX5_narrows 40 rfl) (lv_at hl 4 rfl) ?_
              refine r_callV hw (r_runV (As := [.int v2, .int v4]) (rest := []) S hw (m_X5_seaAboveLine l D cs E d_25 H.size a0 v2 v4 _) (cwV 2 S.2.2.2.2 (gV wg1283 wg1284 wg1285 wg38 wg1286) rfl rfl rfl (by decide +kernel) ⟨Nat.le_of_ble_eq_true rfl, Nat.le_of_ble_eq_true rfl⟩) (ci := 5) rfl ha0 h rfl hl.1 rfl (Nat.le_of_ble_eq_true rfl) (dd_at ddX5_narrows 41 rfl) ⟨Nat.le_of_ble_eq_true rfl, Nat.le_of_ble_eq_true rfl⟩) (fun d_31 H locs h hw => ?_)
              refine lv_goto (tgt := 92) S.1 S.2.1 (dd_at ddX5_narrows 42 rfl) (by decide) ?_
              exact tb92 v2 v3 v4 d_31 H locs ls h hw (lv_sub hl [0, 1, 2, 3, 4] rfl)
      intro v2 d H locs ls h hw hl
      have h : b_X5_narrows_2 E a0 p1 K (l_X5_narrows_2 E a0 p1 K n2) v2 d := h
      unfold b_X5_narrows_2 at h
      refine lv_iload_n S.1 S.2.1 (dd_at ddX5_narrows 2 rfl) rfl (lv_at hl 2 rfl) ?_
      refine lv_aload_n S.1 S.2.1 (dd_at ddX5_narrows 3 rfl) rfl (lv_at hl 0 rfl) ?_
      obtain ⟨b_33, hb_34, ho_35, h⟩ := h
      refine r_getR S hw 5 0 rfl inG5 (by decide) (List.mem_cons_of_mem _ wg138) (by decide) ha0 hb_34 (dd_at ddX5_narrows 4 rfl) ?_
      obtain ⟨b_36, hb_37, ho_38, h⟩ := h
      refine r_getRN S hw 8 7 rfl inG8 (by decide) nx15 (by decide) ho_35 hb_37 (dd_at ddX5_narrows 5 rfl) ?_
      refine r_callI hw (r_runV (As := []) (rest := [.int v2]) S hw (m_X6_size l D cs E d H.size b_36 _) (cwV 0 S.2.2.2.2 (gV wg1276 wg372 wg373 wg51 wg374) rfl rfl rfl (by decide +kernel) ⟨Nat.le_of_ble_eq_true rfl, Nat.le_of_ble_eq_true rfl⟩) (ci := 6) rfl ho_38 h rfl hl.1 rfl (Nat.le_of_ble_eq_true rfl) (dd_at ddX5_narrows 6 rfl) ⟨Nat.le_of_ble_eq_true rfl, Nat.le_of_ble_eq_true rfl⟩) (fun r_40 d_39 H locs h hw => ?_)
      refine lv_icmp_ge (tgt := 138) S.1 S.2.1 (dd_at ddX5_narrows 7 rfl) (by decide) (fun hc_41 => ?_) (fun hc_41 => ?_)
      · have h := h.1 hc_41
        refine lv_iconst (v := 1) S.1 S.2.1 (dd_at ddX5_narrows 71 rfl) (by decide) ?_
        exact e_Z S hr hlocks hw (Or.inr rfl) h (dd_at ddX5_narrows 72 rfl)
      · have h := h.2 hc_41
        refine lv_aload_n S.1 S.2.1 (dd_at ddX5_narrows 8 rfl) rfl (lv_at hl 0 rfl) ?_
        obtain ⟨b_42, hb_43, ho_44, h⟩ := h
        refine r_getR S hw 5 0 rfl inG5 (by decide) (List.mem_cons_of_mem _ wg138) (by decide) ha0 hb_43 (dd_at ddX5_narrows 9 rfl) ?_
        obtain ⟨b_45, hb_46, ho_47, h⟩ := h
        refine r_getRN S hw 8 7 rfl inG8 (by decide) nx15 (by decide) ho_44 hb_46 (dd_at ddX5_narrows 10 rfl) ?_
        refine lv_iload_n S.1 S.2.1 (dd_at ddX5_narrows 11 rfl) rfl (lv_at hl 2 rfl) ?_
        refine lv_iconst (v := 1) S.1 S.2.1 (dd_at ddX5_narrows 12 rfl) (by decide) ?_
        refine r_callI hw (r_runV (As := [.int v2, .int 1]) (rest := []) S hw (m_X6_get l D cs E d_39 H.size b_45 v2 1 _) (cwV 2 S.2.2.2.2 (gV wg1277 wg623 wg624 wg51 wg625) rfl rfl rfl (by decide +kernel) ⟨Nat.le_of_ble_eq_true rfl, Nat.le_of_ble_eq_true rfl⟩) (ci := 6) rfl ho_47 h rfl hl.1 rfl (Nat.le_of_ble_eq_true rfl) (dd_at ddX5_narrows 13 rfl) ⟨Nat.le_of_ble_eq_true rfl, Nat.le_of_ble_eq_true rfl⟩) (fun r_49 d_48 H locs h hw => ?_)
        refine lv_iload_n S.1 S.2.1 (dd_at ddX5_narrows 14 rfl) rfl (lv_at hl 1 rfl) ?_
        refine lv_icmp_le (tgt := 35) S.1 S.2.1 (dd_at ddX5_narrows 15 rfl) (by decide) (fun hc_50 => ?_) (fun hc_50 => ?_)
        · have h := h.1 hc_50
          refine lv_aload_n S.1 S.2.1 (dd_at ddX5_narrows 17 rfl) rfl (lv_at hl 0 rfl) ?_
          obtain ⟨b_51, hb_52, ho_53, h⟩ := h
          refine r_getR S hw 5 0 rfl inG5 (by decide) (List.mem_cons_of_mem _ wg138) (by decide) ha0 hb_52 (dd_at ddX5_narrows 18 rfl) ?_
          obtain ⟨b_54, hb_55, ho_56, h⟩ := h
          refine r_getRN S hw 8 7 rfl inG8 (by decide) nx15 (by decide) ho_53 hb_55 (dd_at ddX5_narrows 19 rfl) ?_
          refine lv_iload_n S.1 S.2.1 (dd_at ddX5_narrows 20 rfl) rfl (lv_at hl 2 rfl) ?_
          refine lv_iconst (v := 2) S.1 S.2.1 (dd_at ddX5_narrows 21 rfl) (by decide) ?_
          refine r_callI hw (r_runV (As := [.int v2, .int 2]) (rest := []) S hw (m_X6_get l D cs E d_48 H.size b_54 v2 2 _) (cwV 2 S.2.2.2.2 (gV wg1277 wg623 wg624 wg51 wg625) rfl rfl rfl (by decide +kernel) ⟨Nat.le_of_ble_eq_true rfl, Nat.le_of_ble_eq_true rfl⟩) (ci := 6) rfl ho_56 h rfl hl.1 rfl (Nat.le_of_ble_eq_true rfl) (dd_at ddX5_narrows 22 rfl) ⟨Nat.le_of_ble_eq_true rfl, Nat.le_of_ble_eq_true rfl⟩) (fun r_58 d_57 H locs h hw => ?_)
          refine lv_istore_n (lv' := [(3, .int r_58), (0, .ref a0), (1, .int p1), (2, .int v2)]) S.1 S.2.1 (dd_at ddX5_narrows 23 rfl) rfl hl (by decide) rfl (fun ls hl => ?_)
          refine lv_iconst (v := 0) S.1 S.2.1 (dd_at ddX5_narrows 24 rfl) (by decide) ?_
          refine lv_istore (lv' := [(4, .int 0), (3, .int r_58), (0, .ref a0), (1, .int p1), (2, .int v2)]) S.1 S.2.1 (dd_at ddX5_narrows 25 rfl) hl (by decide) rfl (fun ls hl => ?_)
          obtain ⟨n_59, h⟩ := h
          exact tl51 n_59 v2 r_58 0 d_57 H locs ls h hw (lv_sub hl [2, 3, 4, 1, 0] rfl)
        · have h := h.2 hc_50
          refine lv_goto (tgt := 132) S.1 S.2.1 (dd_at ddX5_narrows 16 rfl) (by decide) ?_
          refine lv_iinc (v := v2 + 1) (lv' := [(2, .int (v2 + 1)), (0, .ref a0), (1, .int p1)]) S.1 S.2.1 (dd_at ddX5_narrows 69 rfl) hl (k := 2) rfl rfl (by decide) rfl (fun ls hl => ?_)
          refine lv_goto (tgt := 2) S.1 S.2.1 (dd_at ddX5_narrows 70 rfl) (by decide) ?_
          exact ih2 (v2 + 1) d_48 H locs ls h hw (lv_sub hl [1, 2, 0] rfl)
  refine lv_iconst (v := 0) S.1 S.2.1 (dd_at ddX5_narrows 0 rfl) (by decide) ?_
  refine lv_istore_n (lv' := [(2, .int 0), (0, .ref a0), (1, .int p1)]) S.1 S.2.1 (dd_at ddX5_narrows 1 rfl) rfl hl (by decide) rfl (fun ls hl => ?_)
  obtain ⟨n_60, h⟩ := h
  exact tl2 n_60 0 d H locs ls h hw (lv_sub hl [1, 2, 0] rfl)
