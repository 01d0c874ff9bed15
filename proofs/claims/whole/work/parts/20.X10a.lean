theorem xg87_89 : ∀ w ∈ Cond.classLink RX10 87 "java/lang/IllegalArgumentException" :: Cond.initialized "java/lang/IllegalArgumentException" :: vx_at0 RX10 89 "java/lang/IllegalArgumentException" xnm, vx_ot w = true := by decide +kernel
theorem xg345_347 : ∀ w ∈ Cond.classLink RX10 345 "java/lang/UnsupportedOperationException" :: Cond.initialized "java/lang/UnsupportedOperationException" :: vx_at0 RX10 347 "java/lang/UnsupportedOperationException" xnm, vx_ot w = true := by decide +kernel
theorem xg338_340 : ∀ w ∈ Cond.classLink RX10 338 "java/lang/IndexOutOfBoundsException" :: Cond.initialized "java/lang/IndexOutOfBoundsException" :: vx_at0 RX10 340 "java/lang/IndexOutOfBoundsException" xnm, vx_ot w = true := by decide +kernel
theorem xg208_210 : ∀ w ∈ Cond.classLink RX10 208 "java/util/NoSuchElementException" :: Cond.initialized "java/util/NoSuchElementException" :: vx_at0 RX10 210 "java/util/NoSuchElementException" xnm, vx_ot w = true := by decide +kernel
abbrev rm_X10_need1 : Room := { frames := 0, cells := 0, slots := 0, locals := 0 }
theorem m_X10_need1 (l : Launch) (D : va_G) (cs : Nat → ClassId) (E : En) (d : Dy) (sz : Nat) (K : Dy → Prop) : CV l yX10_need (.code yX10_need cX10_need 1 none :: wsL_law) rm_X10_need1 D cs E d sz [.int 1] (K d) K := by
  refine e_of (cc := cX10_need) (maxL := 1) (ret := none) (own := RX10) (by decide) rfl rfl (Nat.le_of_ble_eq_true rfl) ?_
  intro p e s m below meth c S hr hlocks hsz H locs hw h ls hl
  have hl : lv_has ls 1 [(0, .int 1)] := hl
  refine lv_iload_n S.1 S.2.1 (dd_at ddX10_need 0 rfl) rfl (lv_at hl 0 rfl) ?_
  refine lv_if_ne (tgt := 12) S.1 S.2.1 (dd_at ddX10_need 1 rfl) (by decide) (fun _ => ?_) (fun hc => absurd hc (by decide))
  exact e_V S hr hlocks hw h (dd_at ddX10_need 6 rfl)

def w_X10_init (E : En) (a0 : Nat) (d : Dy) (K : En → Dy → Prop) : Prop := okO E a0 10 ∧ ∀ q_1 : Nat, q_1 ∉ eL E → w_X8_init (nE E q_1 8 0) q_1 (nD d q_1) (fun E_4 d_5 => ∀ q_7 : Nat, q_7 ∉ eL (sR E_4 a0 0 (some q_1)) → w_X8_init (nE (sR E_4 a0 0 (some q_1)) q_7 8 0) q_7 (nD d_5 q_7) (fun E_10 d_11 => ∀ q_13 : Nat, q_13 ∉ eL (sR E_10 a0 1 (some q_7)) → w_X2_init (nE (sR E_10 a0 1 (some q_7)) q_13 2 0) q_13 (nD d_11 q_13) (fun E_16 d_17 => ∀ q_19 : Nat, q_19 ∉ eL (sR E_16 a0 3 (some q_13)) → ∃ b_22 : Nat, eR (nE (sR E_16 a0 3 (some q_13)) q_19 3 0) a0 0 = some b_22 ∧ okO (nE (sR E_16 a0 3 (some q_13)) q_19 3 0) b_22 8 ∧ w_X3_init (nE (sR E_16 a0 3 (some q_13)) q_19 3 0) q_19 b_22 (nD (pI d_17 a0 4 (-1)) q_19) (fun E_25 d_26 => ∀ q_28 : Nat, q_28 ∉ eL (sR E_25 a0 5 (some q_19)) → ∃ b_31 : Nat, eR (nE (sR E_25 a0 5 (some q_19)) q_28 3 0) a0 0 = some b_31 ∧ okO (nE (sR E_25 a0 5 (some q_19)) q_28 3 0) b_31 8 ∧ w_X3_init (nE (sR E_25 a0 5 (some q_19)) q_28 3 0) q_28 b_31 (nD d_26 q_28) (fun E_34 d_35 => ∀ q_37 : Nat, q_37 ∉ eL (sR E_34 a0 6 (some q_28)) → ∃ b_40 : Nat, eR (nE (sR E_34 a0 6 (some q_28)) q_37 1 0) a0 0 = some b_40 ∧ okO (nE (sR E_34 a0 6 (some q_28)) q_37 1 0) b_40 8 ∧ ∃ b_43 : Nat, eR (nE (sR E_34 a0 6 (some q_28)) q_37 1 0) a0 5 = some b_43 ∧ okO (nE (sR E_34 a0 6 (some q_28)) q_37 1 0) b_43 3 ∧ w_X1_init (nE (sR E_34 a0 6 (some q_28)) q_37 1 0) q_37 b_40 b_43 (nD d_35 q_37) (fun E_46 d_47 => ∀ q_49 : Nat, q_49 ∉ eL (sR E_46 a0 7 (some q_37)) → w_X9_init (nE (sR E_46 a0 7 (some q_37)) q_49 9 0) q_49 (nD d_47 q_49) (fun E_52 d_53 => ∀ q_55 : Nat, q_55 ∉ eL (sR E_52 a0 8 (some q_49)) → ∃ b_58 : Nat, eR (nE (sR E_52 a0 8 (some q_49)) q_55 5 0) a0 0 = some b_58 ∧ okO (nE (sR E_52 a0 8 (some q_49)) q_55 5 0) b_58 8 ∧ w_X5_init (nE (sR E_52 a0 8 (some q_49)) q_55 5 0) q_55 b_58 (nD d_53 q_55) (fun E_61 d_62 => ∀ q_64 : Nat, q_64 ∉ eL (sR E_61 a0 9 (some q_55)) → ∃ b_67 : Nat, eR (nE (sR E_61 a0 9 (some q_55)) q_64 4 0) a0 0 = some b_67 ∧ okO (nE (sR E_61 a0 9 (some q_55)) q_64 4 0) b_67 8 ∧ ∃ b_70 : Nat, eR (nE (sR E_61 a0 9 (some q_55)) q_64 4 0) a0 5 = some b_70 ∧ okO (nE (sR E_61 a0 9 (some q_55)) q_64 4 0) b_70 3 ∧ w_X4_init (nE (sR E_61 a0 9 (some q_55)) q_64 4 0) q_64 b_67 b_70 (nD d_62 q_64) (fun E_73 d_74 => K (sR E_73 a0 10 (some q_64)) d_74)))))))))
abbrev rm_X10_init : Room := { frames := 3, cells := 86, slots := 12602, locals := 84 }
set_option maxRecDepth 100000 in
set_option maxHeartbeats 4000000 in
theorem m_X10_init (l : Launch) (D : va_G) (cs : Nat → ClassId) (E : En) (d : Dy) (sz : Nat) (a0 : Nat) (K : En → Dy → Prop) : LV l yX10_init (.code yX10_init cX10_init 1 none :: wsL_law) rm_X10_init D cs E d sz [.ref a0] (w_X10_init E a0 d K) K := by
  refine e_ofN (cc := cX10_init) (maxL := 1) (ret := none) (own := RX10) (by decide) rfl rfl (Nat.le_of_ble_eq_true rfl) ?_
  intro p e s m below meth c S hr hlocks hinit hsz H locs hw h ls hl
  have hx : Ext E E := Ext_rf E
  have hinit : meth.name = "<init>" := hinit
  have hl : lv_has ls 1 [(0, .ref a0)] := hl
  unfold w_X10_init at h
  obtain ⟨ha0, h⟩ := h
  refine lv_aload_n S.1 S.2.1 (dd_at ddX10_init 0 rfl) rfl (lv_at hl 0 rfl) ?_
  refine W.objInit S.1 S.2.1 S.2.2.2.1 (S.2.2.2.2 _ (List.mem_cons_of_mem _ wg10)) (S.2.2.2.2 _ (List.mem_cons_of_mem _ wg11)) (S.2.2.2.2 _ (List.mem_cons_of_mem _ wg12)) rfl (by rw [S.2.2.1]; exact hl.1) rfl (dd_at ddX10_init 1 rfl) (Nat.le_of_ble_eq_true rfl) (Nat.le_of_ble_eq_true rfl) ?_
  refine W.eq (g2 := F0 m 4 ls []) rfl ?_
  refine lv_aload_n S.1 S.2.1 (dd_at ddX10_init 2 rfl) rfl (lv_at hl 0 rfl) ?_
  refine r_new S hw 8 rfl (by decide) inG8 tyX8 tyX8_ok (List.mem_cons_of_mem _ wg13) (List.mem_cons_of_mem _ wg14) (List.mem_cons_of_mem _ wg15) dF8 (Nat.le_of_ble_eq_true rfl) (Nat.le_of_ble_eq_true rfl) (dd_at ddX10_init 3 rfl) (fun q_1 H hq_2 hw => ?_)
  refine W.widen (k := 1) (n := 12) (Nat.le_of_ble_eq_true rfl) (Nat.le_of_ble_eq_true rfl) ?_
  have h := h q_1 hq_2
  have ha0 := Ext_O (Ext_nE 8 0 hq_2) ha0
  have hx := Ext_tr hx (Ext_nE 8 0 hq_2)
  have ho_3 := okO_new E q_1 0 (ci := 8) (by decide)
  refine lv_dup S.1 S.2.1 (dd_at ddX10_init 4 rfl) rfl ?_
  refine r_callVL hw (r_runI (As := []) (rest := [.ref q_1, .ref a0]) S hw (m_X8_init l D cs (nE E q_1 8 0) (nD d q_1) H.size q_1 _) (cwI 0 S.2.2.2.2 (gC wg46) rfl rfl rfl (S.2.2.2.2 _ (List.mem_cons_of_mem _ wg15)) (S.2.2.2.2 _ (List.mem_cons_of_mem _ wg44)) (S.2.2.2.2 _ (List.mem_cons_of_mem _ wg45)) rfl (by decide +kernel) ⟨Nat.le_of_ble_eq_true rfl, Nat.le_of_ble_eq_true rfl⟩) h rfl hl.1 rfl (Nat.le_of_ble_eq_true rfl) (dd_at ddX10_init 5 rfl) ⟨Nat.le_of_ble_eq_true rfl, Nat.le_of_ble_eq_true rfl⟩) (fun E_4 d_5 H locs h hx_6 hw => ?_)
  have ha0 := Ext_O hx_6 ha0
  have ho_3 := Ext_O hx_6 ho_3
  have hx := Ext_tr hx hx_6
  refine r_putRF S hw hinit 10 0 (ty := (.object "HutRow$Told")) rfl inG10 tyX10 tyX10_ok nmX10 (by decide) (List.mem_cons_of_mem _ wg16) (by decide) rfl rfl (by decide +kernel) rfl rfl ha0 (dd_at ddX10_init 6 rfl) (fun H locs hw => ?_)
  have ha0 := Ext_O (Ext_sR _ a0 0 (some q_1)) ha0
  have ho_3 := Ext_O (Ext_sR _ a0 0 (some q_1)) ho_3
  have hx := Ext_tr hx (Ext_sR _ a0 0 (some q_1))
  refine lv_aload_n S.1 S.2.1 (dd_at ddX10_init 7 rfl) rfl (lv_at hl 0 rfl) ?_
  refine r_new S hw 8 rfl (by decide) inG8 tyX8 tyX8_ok (List.mem_cons_of_mem _ wg13) (List.mem_cons_of_mem _ wg14) (List.mem_cons_of_mem _ wg15) dF8 (Nat.le_of_ble_eq_true rfl) (Nat.le_of_ble_eq_true rfl) (dd_at ddX10_init 8 rfl) (fun q_7 H hq_8 hw => ?_)
  refine W.widen (k := 23) (n := 4068) (Nat.le_of_ble_eq_true rfl) (Nat.le_of_ble_eq_true rfl) ?_
  have h := h q_7 hq_8
  have ha0 := Ext_O (Ext_nE 8 0 hq_8) ha0
  have ho_3 := Ext_O (Ext_nE 8 0 hq_8) ho_3
  have hx := Ext_tr hx (Ext_nE 8 0 hq_8)
  have ho_9 := okO_new (sR E_4 a0 0 (some q_1)) q_7 0 (ci := 8) (by decide)
  refine lv_dup S.1 S.2.1 (dd_at ddX10_init 9 rfl) rfl ?_
  refine r_callVL hw (r_runI (As := []) (rest := [.ref q_7, .ref a0]) S hw (m_X8_init l D cs (nE (sR E_4 a0 0 (some q_1)) q_7 8 0) (nD d_5 q_7) H.size q_7 _) (cwI 0 S.2.2.2.2 (gC wg46) rfl rfl rfl (S.2.2.2.2 _ (List.mem_cons_of_mem _ wg15)) (S.2.2.2.2 _ (List.mem_cons_of_mem _ wg44)) (S.2.2.2.2 _ (List.mem_cons_of_mem _ wg45)) rfl (by decide +kernel) ⟨Nat.le_of_ble_eq_true rfl, Nat.le_of_ble_eq_true rfl⟩) h rfl hl.1 rfl (Nat.le_of_ble_eq_true rfl) (dd_at ddX10_init 10 rfl) ⟨Nat.le_of_ble_eq_true rfl, Nat.le_of_ble_eq_true rfl⟩) (fun E_10 d_11 H locs h hx_12 hw => ?_)
  have ha0 := Ext_O hx_12 ha0
  have ho_3 := Ext_O hx_12 ho_3
  have ho_9 := Ext_O hx_12 ho_9
  have hx := Ext_tr hx hx_12
  refine r_putRF S hw hinit 10 1 (ty := (.object "HutRow$Told")) rfl inG10 tyX10 tyX10_ok nmX10 (by decide) (List.mem_cons_of_mem _ wg17) (by decide) rfl rfl (by decide +kernel) rfl rfl ha0 (dd_at ddX10_init 11 rfl) (fun H locs hw => ?_)
  have ha0 := Ext_O (Ext_sR _ a0 1 (some q_7)) ha0
  have ho_3 := Ext_O (Ext_sR _ a0 1 (some q_7)) ho_3
  have ho_9 := Ext_O (Ext_sR _ a0 1 (some q_7)) ho_9
  have hx := Ext_tr hx (Ext_sR _ a0 1 (some q_7))
  refine lv_aload_n S.1 S.2.1 (dd_at ddX10_init 12 rfl) rfl (lv_at hl 0 rfl) ?_
  refine r_new S hw 2 rfl (by decide) inG2 tyX2 tyX2_ok (List.mem_cons_of_mem _ wg18) (List.mem_cons_of_mem _ wg19) (List.mem_cons_of_mem _ wg20) dF2 (Nat.le_of_ble_eq_true rfl) (Nat.le_of_ble_eq_true rfl) (dd_at ddX10_init 13 rfl) (fun q_13 H hq_14 hw => ?_)
  refine W.widen (k := 45) (n := 8122) (Nat.le_of_ble_eq_true rfl) (Nat.le_of_ble_eq_true rfl) ?_
  have h := h q_13 hq_14
  have ha0 := Ext_O (Ext_nE 2 0 hq_14) ha0
  have ho_3 := Ext_O (Ext_nE 2 0 hq_14) ho_3
  have ho_9 := Ext_O (Ext_nE 2 0 hq_14) ho_9
  have hx := Ext_tr hx (Ext_nE 2 0 hq_14)
  have ho_15 := okO_new (sR E_10 a0 1 (some q_7)) q_13 0 (ci := 2) (by decide)
  refine lv_dup S.1 S.2.1 (dd_at ddX10_init 14 rfl) rfl ?_
  refine r_callVL hw (r_runIN (As := []) (rest := [.ref q_13, .ref a0]) S hw (m_X2_init l D cs (nE (sR E_10 a0 1 (some q_7)) q_13 2 0) (nD d_11 q_13) H.size q_13 _) ⟨va_cnB 0 S.2.2.2.2 (gC wg86) rfl rfl rfl (hw.2.2.2.2.2.2.1 _ nx22) (S.2.2.2.2 _ (List.mem_cons_of_mem _ wg20)) (by decide +kernel) ⟨Nat.le_of_ble_eq_true rfl, Nat.le_of_ble_eq_true rfl⟩, rfl, (S.2.2.2.2 _ (List.mem_cons_of_mem _ wg85))⟩ h rfl hl.1 rfl (Nat.le_of_ble_eq_true rfl) (dd_at ddX10_init 15 rfl) ⟨Nat.le_of_ble_eq_true rfl, Nat.le_of_ble_eq_true rfl⟩) (fun E_16 d_17 H locs h hx_18 hw => ?_)
  have ha0 := Ext_O hx_18 ha0
  have ho_3 := Ext_O hx_18 ho_3
  have ho_9 := Ext_O hx_18 ho_9
  have ho_15 := Ext_O hx_18 ho_15
  have hx := Ext_tr hx hx_18
  refine r_putRF S hw hinit 10 3 (ty := (.object "HutRow$Reader")) rfl inG10 tyX10 tyX10_ok nmX10 (by decide) (List.mem_cons_of_mem _ wg21) (by decide) rfl rfl (by decide +kernel) rfl rfl ha0 (dd_at ddX10_init 16 rfl) (fun H locs hw => ?_)
  have ha0 := Ext_O (Ext_sR _ a0 3 (some q_13)) ha0
  have ho_3 := Ext_O (Ext_sR _ a0 3 (some q_13)) ho_3
  have ho_9 := Ext_O (Ext_sR _ a0 3 (some q_13)) ho_9
  have ho_15 := Ext_O (Ext_sR _ a0 3 (some q_13)) ho_15
  have hx := Ext_tr hx (Ext_sR _ a0 3 (some q_13))
  refine lv_aload_n S.1 S.2.1 (dd_at ddX10_init 17 rfl) rfl (lv_at hl 0 rfl) ?_
  refine lv_iconst (v := -1) S.1 S.2.1 (dd_at ddX10_init 18 rfl) (by decide) ?_
  refine r_putI S hw 10 4 (ty := .int) (v := -1) rfl inG10 tyX10 tyX10_ok nmX10 (by decide) (List.mem_cons_of_mem _ wg22) (by decide) rfl (by decide +kernel) rfl rfl ha0 (dd_at ddX10_init 19 rfl) (fun H locs hw => ?_)
  refine lv_aload_n S.1 S.2.1 (dd_at ddX10_init 20 rfl) rfl (lv_at hl 0 rfl) ?_
  refine r_new S hw 3 rfl (by decide) inG3 tyX3 tyX3_ok (List.mem_cons_of_mem _ wg23) (List.mem_cons_of_mem _ wg24) (List.mem_cons_of_mem _ wg25) dF3 (Nat.le_of_ble_eq_true rfl) (Nat.le_of_ble_eq_true rfl) (dd_at ddX10_init 21 rfl) (fun q_19 H hq_20 hw => ?_)
  refine W.widen (k := 50) (n := 9335) (Nat.le_of_ble_eq_true rfl) (Nat.le_of_ble_eq_true rfl) ?_
  have h := h q_19 hq_20
  have ha0 := Ext_O (Ext_nE 3 0 hq_20) ha0
  have ho_3 := Ext_O (Ext_nE 3 0 hq_20) ho_3
  have ho_9 := Ext_O (Ext_nE 3 0 hq_20) ho_9
  have ho_15 := Ext_O (Ext_nE 3 0 hq_20) ho_15
  have hx := Ext_tr hx (Ext_nE 3 0 hq_20)
  have ho_21 := okO_new (sR E_16 a0 3 (some q_13)) q_19 0 (ci := 3) (by decide)
  refine lv_dup S.1 S.2.1 (dd_at ddX10_init 22 rfl) rfl ?_
  refine lv_aload_n S.1 S.2.1 (dd_at ddX10_init 23 rfl) rfl (lv_at hl 0 rfl) ?_
  obtain ⟨b_22, hb_23, ho_24, h⟩ := h
  refine r_getR S hw 10 0 rfl inG10 (by decide) (List.mem_cons_of_mem _ wg16) (by decide) ha0 hb_23 (dd_at ddX10_init 24 rfl) ?_
  refine r_callVL hw (r_runI (As := [.ref b_22]) (rest := [.ref q_19, .ref a0]) S hw (m_X3_init l D cs (nE (sR E_16 a0 3 (some q_13)) q_19 3 0) (nD (pI d_17 a0 4 (-1)) q_19) H.size q_19 b_22 _) (cwI 1 S.2.2.2.2 (gC wg95) rfl rfl rfl (S.2.2.2.2 _ (List.mem_cons_of_mem _ wg25)) (S.2.2.2.2 _ (List.mem_cons_of_mem _ wg93)) (S.2.2.2.2 _ (List.mem_cons_of_mem _ wg94)) rfl (by decide +kernel) ⟨Nat.le_of_ble_eq_true rfl, Nat.le_of_ble_eq_true rfl⟩) h rfl hl.1 rfl (Nat.le_of_ble_eq_true rfl) (dd_at ddX10_init 25 rfl) ⟨Nat.le_of_ble_eq_true rfl, Nat.le_of_ble_eq_true rfl⟩) (fun E_25 d_26 H locs h hx_27 hw => ?_)
  have ha0 := Ext_O hx_27 ha0
  have ho_3 := Ext_O hx_27 ho_3
  have ho_9 := Ext_O hx_27 ho_9
  have ho_15 := Ext_O hx_27 ho_15
  have ho_21 := Ext_O hx_27 ho_21
  have ho_24 := Ext_O hx_27 ho_24
  have hx := Ext_tr hx hx_27
  refine r_putRF S hw hinit 10 5 (ty := (.object "HutRow$Replay")) rfl inG10 tyX10 tyX10_ok nmX10 (by decide) (List.mem_cons_of_mem _ wg26) (by decide) rfl rfl (by decide +kernel) rfl rfl ha0 (dd_at ddX10_init 26 rfl) (fun H locs hw => ?_)
  have ha0 := Ext_O (Ext_sR _ a0 5 (some q_19)) ha0
  have ho_3 := Ext_O (Ext_sR _ a0 5 (some q_19)) ho_3
  have ho_9 := Ext_O (Ext_sR _ a0 5 (some q_19)) ho_9
  have ho_15 := Ext_O (Ext_sR _ a0 5 (some q_19)) ho_15
  have ho_21 := Ext_O (Ext_sR _ a0 5 (some q_19)) ho_21
  have ho_24 := Ext_O (Ext_sR _ a0 5 (some q_19)) ho_24
  have hx := Ext_tr hx (Ext_sR _ a0 5 (some q_19))
  refine lv_aload_n S.1 S.2.1 (dd_at ddX10_init 27 rfl) rfl (lv_at hl 0 rfl) ?_
  refine r_new S hw 3 rfl (by decide) inG3 tyX3 tyX3_ok (List.mem_cons_of_mem _ wg23) (List.mem_cons_of_mem _ wg24) (List.mem_cons_of_mem _ wg25) dF3 (Nat.le_of_ble_eq_true rfl) (Nat.le_of_ble_eq_true rfl) (dd_at ddX10_init 28 rfl) (fun q_28 H hq_29 hw => ?_)
  refine W.widen (k := 60) (n := 10592) (Nat.le_of_ble_eq_true rfl) (Nat.le_of_ble_eq_true rfl) ?_
  have h := h q_28 hq_29
  have ha0 := Ext_O (Ext_nE 3 0 hq_29) ha0
  have ho_3 := Ext_O (Ext_nE 3 0 hq_29) ho_3
  have ho_9 := Ext_O (Ext_nE 3 0 hq_29) ho_9
  have ho_15 := Ext_O (Ext_nE 3 0 hq_29) ho_15
  have ho_21 := Ext_O (Ext_nE 3 0 hq_29) ho_21
  have ho_24 := Ext_O (Ext_nE 3 0 hq_29) ho_24
  have hx := Ext_tr hx (Ext_nE 3 0 hq_29)
  have ho_30 := okO_new (sR E_25 a0 5 (some q_19)) q_28 0 (ci := 3) (by decide)
  refine lv_dup S.1 S.2.1 (dd_at ddX10_init 29 rfl) rfl ?_
  refine lv_aload_n S.1 S.2.1 (dd_at ddX10_init 30 rfl) rfl (lv_at hl 0 rfl) ?_
  obtain ⟨b_31, hb_32, ho_33, h⟩ := h
  refine r_getR S hw 10 0 rfl inG10 (by decide) (List.mem_cons_of_mem _ wg16) (by decide) ha0 hb_32 (dd_at ddX10_init 31 rfl) ?_
  refine r_callVL hw (r_runI (As := [.ref b_31]) (rest := [.ref q_28, .ref a0]) S hw (m_X3_init l D cs (nE (sR E_25 a0 5 (some q_19)) q_28 3 0) (nD d_26 q_28) H.size q_28 b_31 _) (cwI 1 S.2.2.2.2 (gC wg95) rfl rfl rfl (S.2.2.2.2 _ (List.mem_cons_of_mem _ wg25)) (S.2.2.2.2 _ (List.mem_cons_of_mem _ wg93)) (S.2.2.2.2 _ (List.mem_cons_of_mem _ wg94)) rfl (by decide +kernel) ⟨Nat.le_of_ble_eq_true rfl, Nat.le_of_ble_eq_true rfl⟩) h rfl hl.1 rfl (Nat.le_of_ble_eq_true rfl) (dd_at ddX10_init 32 rfl) ⟨Nat.le_of_ble_eq_true rfl, Nat.le_of_ble_eq_true rfl⟩) (fun E_34 d_35 H locs h hx_36 hw => ?_)
  have ha0 := Ext_O hx_36 ha0
  have ho_3 := Ext_O hx_36 ho_3
  have ho_9 := Ext_O hx_36 ho_9
  have ho_15 := Ext_O hx_36 ho_15
  have ho_21 := Ext_O hx_36 ho_21
  have ho_24 := Ext_O hx_36 ho_24
  have ho_30 := Ext_O hx_36 ho_30
  have ho_33 := Ext_O hx_36 ho_33
  have hx := Ext_tr hx hx_36
  refine r_putRF S hw hinit 10 6 (ty := (.object "HutRow$Replay")) rfl inG10 tyX10 tyX10_ok nmX10 (by decide) (List.mem_cons_of_mem _ wg27) (by decide) rfl rfl (by decide +kernel) rfl rfl ha0 (dd_at ddX10_init 33 rfl) (fun H locs hw => ?_)
  have ha0 := Ext_O (Ext_sR _ a0 6 (some q_28)) ha0
  have ho_3 := Ext_O (Ext_sR _ a0 6 (some q_28)) ho_3
  have ho_9 := Ext_O (Ext_sR _ a0 6 (some q_28)) ho_9
  have ho_15 := Ext_O (Ext_sR _ a0 6 (some q_28)) ho_15
  have ho_21 := Ext_O (Ext_sR _ a0 6 (some q_28)) ho_21
  have ho_24 := Ext_O (Ext_sR _ a0 6 (some q_28)) ho_24
  have ho_30 := Ext_O (Ext_sR _ a0 6 (some q_28)) ho_30
  have ho_33 := Ext_O (Ext_sR _ a0 6 (some q_28)) ho_33
  have hx := Ext_tr hx (Ext_sR _ a0 6 (some q_28))
  refine lv_aload_n S.1 S.2.1 (dd_at ddX10_init 34 rfl) rfl (lv_at hl 0 rfl) ?_
  refine r_new S hw 1 rfl (by decide) inG1 tyX1 tyX1_ok (List.mem_cons_of_mem _ wg28) (List.mem_cons_of_mem _ wg29) (List.mem_cons_of_mem _ wg30) dF1 (Nat.le_of_ble_eq_true rfl) (Nat.le_of_ble_eq_true rfl) (dd_at ddX10_init 35 rfl) (fun q_37 H hq_38 hw => ?_)
  refine W.widen (k := 70) (n := 11843) (Nat.le_of_ble_eq_true rfl) (Nat.le_of_ble_eq_true rfl) ?_
  have h := h q_37 hq_38
  have ha0 := Ext_O (Ext_nE 1 0 hq_38) ha0
  have ho_3 := Ext_O (Ext_nE 1 0 hq_38) ho_3
  have ho_9 := Ext_O (Ext_nE 1 0 hq_38) ho_9
  have ho_15 := Ext_O (Ext_nE 1 0 hq_38) ho_15
  have ho_21 := Ext_O (Ext_nE 1 0 hq_38) ho_21
  have ho_24 := Ext_O (Ext_nE 1 0 hq_38) ho_24
  have ho_30 := Ext_O (Ext_nE 1 0 hq_38) ho_30
  have ho_33 := Ext_O (Ext_nE 1 0 hq_38) ho_33
  have hx := Ext_tr hx (Ext_nE 1 0 hq_38)
  have ho_39 := okO_new (sR E_34 a0 6 (some q_28)) q_37 0 (ci := 1) (by decide)
  refine lv_dup S.1 S.2.1 (dd_at ddX10_init 36 rfl) rfl ?_
  refine lv_aload_n S.1 S.2.1 (dd_at ddX10_init 37 rfl) rfl (lv_at hl 0 rfl) ?_
  obtain ⟨b_40, hb_41, ho_42, h⟩ := h
  refine r_getR S hw 10 0 rfl inG10 (by decide) (List.mem_cons_of_mem _ wg16) (by decide) ha0 hb_41 (dd_at ddX10_init 38 rfl) ?_
  refine lv_aload_n S.1 S.2.1 (dd_at ddX10_init 39 rfl) rfl (lv_at hl 0 rfl) ?_
  obtain ⟨b_43, hb_44, ho_45, h⟩ := h
  refine r_getR S hw 10 5 rfl inG10 (by decide) (List.mem_cons_of_mem _ wg26) (by decide) ha0 hb_44 (dd_at ddX10_init 40 rfl) ?_
  refine r_callVL hw (r_runI (As := [.ref b_40, .ref b_43]) (rest := [.ref q_37, .ref a0]) S hw (m_X1_init l D cs (nE (sR E_34 a0 6 (some q_28)) q_37 1 0) (nD d_35 q_37) H.size q_37 b_40 b_43 _) (cwI 2 S.2.2.2.2 (gC wg114) rfl rfl rfl (S.2.2.2.2 _ (List.mem_cons_of_mem _ wg30)) (S.2.2.2.2 _ (List.mem_cons_of_mem _ wg112)) (S.2.2.2.2 _ (List.mem_cons_of_mem _ wg113)) rfl (by decide +kernel) ⟨Nat.le_of_ble_eq_true rfl, Nat.le_of_ble_eq_true rfl⟩) h rfl hl.1 rfl (Nat.le_of_ble_eq_true rfl) (dd_at ddX10_init 41 rfl) ⟨Nat.le_of_ble_eq_true rfl, Nat.le_of_ble_eq_true rfl⟩) (fun E_46 d_47 H locs h hx_48 hw => ?_)
  have ha0 := Ext_O hx_48 ha0
  have ho_3 := Ext_O hx_48 ho_3
  have ho_9 := Ext_O hx_48 ho_9
  have ho_15 := Ext_O hx_48 ho_15
  have ho_21 := Ext_O hx_48 ho_21
  have ho_24 := Ext_O hx_48 ho_24
  have ho_30 := Ext_O hx_48 ho_30
  have ho_33 := Ext_O hx_48 ho_33
  have ho_39 := Ext_O hx_48 ho_39
  have ho_42 := Ext_O hx_48 ho_42
  have ho_45 := Ext_O hx_48 ho_45
  have hx := Ext_tr hx hx_48
  refine r_putRF S hw hinit 10 7 (ty := (.object "HutRow$Queue")) rfl inG10 tyX10 tyX10_ok nmX10 (by decide) (List.mem_cons_of_mem _ wg31) (by decide) rfl rfl (by decide +kernel) rfl rfl ha0 (dd_at ddX10_init 42 rfl) (fun H locs hw => ?_)
  have ha0 := Ext_O (Ext_sR _ a0 7 (some q_37)) ha0
  have ho_3 := Ext_O (Ext_sR _ a0 7 (some q_37)) ho_3
  have ho_9 := Ext_O (Ext_sR _ a0 7 (some q_37)) ho_9
  have ho_15 := Ext_O (Ext_sR _ a0 7 (some q_37)) ho_15
  have ho_21 := Ext_O (Ext_sR _ a0 7 (some q_37)) ho_21
  have ho_24 := Ext_O (Ext_sR _ a0 7 (some q_37)) ho_24
  have ho_30 := Ext_O (Ext_sR _ a0 7 (some q_37)) ho_30
  have ho_33 := Ext_O (Ext_sR _ a0 7 (some q_37)) ho_33
  have ho_39 := Ext_O (Ext_sR _ a0 7 (some q_37)) ho_39
  have ho_42 := Ext_O (Ext_sR _ a0 7 (some q_37)) ho_42
  have ho_45 := Ext_O (Ext_sR _ a0 7 (some q_37)) ho_45
  have hx := Ext_tr hx (Ext_sR _ a0 7 (some q_37))
  refine lv_aload_n S.1 S.2.1 (dd_at ddX10_init 43 rfl) rfl (lv_at hl 0 rfl) ?_
  refine r_new S hw 9 rfl (by decide) inG9 tyX9 tyX9_ok (List.mem_cons_of_mem _ wg32) (List.mem_cons_of_mem _ wg33) (List.mem_cons_of_mem _ wg34) dF9 (Nat.le_of_ble_eq_true rfl) (Nat.le_of_ble_eq_true rfl) (dd_at ddX10_init 44 rfl) (fun q_49 H hq_50 hw => ?_)
  refine W.widen (k := 73) (n := 12256) (Nat.le_of_ble_eq_true rfl) (Nat.le_of_ble_eq_true rfl) ?_
  have h := h q_49 hq_50
  have ha0 := Ext_O (Ext_nE 9 0 hq_50) ha0
  have ho_3 := Ext_O (Ext_nE 9 0 hq_50) ho_3
  have ho_9 := Ext_O (Ext_nE 9 0 hq_50) ho_9
  have ho_15 := Ext_O (Ext_nE 9 0 hq_50) ho_15
  have ho_21 := Ext_O (Ext_nE 9 0 hq_50) ho_21
  have ho_24 := Ext_O (Ext_nE 9 0 hq_50) ho_24
  have ho_30 := Ext_O (Ext_nE 9 0 hq_50) ho_30
  have ho_33 := Ext_O (Ext_nE 9 0 hq_50) ho_33
  have ho_39 := Ext_O (Ext_nE 9 0 hq_50) ho_39
  have ho_42 := Ext_O (Ext_nE 9 0 hq_50) ho_42
  have ho_45 := Ext_O (Ext_nE 9 0 hq_50) ho_45
  have hx := Ext_tr hx (Ext_nE 9 0 hq_50)
  have ho_51 := okO_new (sR E_46 a0 7 (some q_37)) q_49 0 (ci := 9) (by decide)
  refine lv_dup S.1 S.2.1 (dd_at ddX10_init 45 rfl) rfl ?_
  refine r_callVL hw (r_runIN (As := []) (rest := [.ref q_49, .ref a0]) S hw (m_X9_init l D cs (nE (sR E_46 a0 7 (some q_37)) q_49 9 0) (nD d_47 q_49) H.size q_49 _) ⟨va_cnB 0 S.2.2.2.2 (gC wg122) rfl rfl rfl (hw.2.2.2.2.2.2.1 _ nx24) (S.2.2.2.2 _ (List.mem_cons_of_mem _ wg34)) (by decide +kernel) ⟨Nat.le_of_ble_eq_true rfl, Nat.le_of_ble_eq_true rfl⟩, rfl, (S.2.2.2.2 _ (List.mem_cons_of_mem _ wg121))⟩ h rfl hl.1 rfl (Nat.le_of_ble_eq_true rfl) (dd_at ddX10_init 46 rfl) ⟨Nat.le_of_ble_eq_true rfl, Nat.le_of_ble_eq_true rfl⟩) (fun E_52 d_53 H locs h hx_54 hw => ?_)
  have ha0 := Ext_O hx_54 ha0
  have ho_3 := Ext_O hx_54 ho_3
  have ho_9 := Ext_O hx_54 ho_9
  have ho_15 := Ext_O hx_54 ho_15
  have ho_21 := Ext_O hx_54 ho_21
  have ho_24 := Ext_O hx_54 ho_24
  have ho_30 := Ext_O hx_54 ho_30
  have ho_33 := Ext_O hx_54 ho_33
  have ho_39 := Ext_O hx_54 ho_39
  have ho_42 := Ext_O hx_54 ho_42
  have ho_45 := Ext_O hx_54 ho_45
  have ho_51 := Ext_O hx_54 ho_51
  have hx := Ext_tr hx hx_54
  refine r_putRF S hw hinit 10 8 (ty := (.object "HutRow$Yard")) rfl inG10 tyX10 tyX10_ok nmX10 (by decide) (List.mem_cons_of_mem _ wg35) (by decide) rfl rfl (by decide +kernel) rfl rfl ha0 (dd_at ddX10_init 47 rfl) (fun H locs hw => ?_)
  have ha0 := Ext_O (Ext_sR _ a0 8 (some q_49)) ha0
  have ho_3 := Ext_O (Ext_sR _ a0 8 (some q_49)) ho_3
  have ho_9 := Ext_O (Ext_sR _ a0 8 (some q_49)) ho_9
  have ho_15 := Ext_O (Ext_sR _ a0 8 (some q_49)) ho_15
  have ho_21 := Ext_O (Ext_sR _ a0 8 (some q_49)) ho_21
  have ho_24 := Ext_O (Ext_sR _ a0 8 (some q_49)) ho_24
  have ho_30 := Ext_O (Ext_sR _ a0 8 (some q_49)) ho_30
  have ho_33 := Ext_O (Ext_sR _ a0 8 (some q_49)) ho_33
  have ho_39 := Ext_O (Ext_sR _ a0 8 (some q_49)) ho_39
  have ho_42 := Ext_O (Ext_sR _ a0 8 (some q_49)) ho_42
  have ho_45 := Ext_O (Ext_sR _ a0 8 (some q_49)) ho_45
  have ho_51 := Ext_O (Ext_sR _ a0 8 (some q_49)) ho_51
  have hx := Ext_tr hx (Ext_sR _ a0 8 (some q_49))
  refine lv_aload_n S.1 S.2.1 (dd_at ddX10_init 48 rfl) rfl (lv_at hl 0 rfl) ?_
  refine r_new S hw 5 rfl (by decide) inG5 tyX5 tyX5_ok (List.mem_cons_of_mem _ wg36) (List.mem_cons_of_mem _ wg37) (List.mem_cons_of_mem _ wg38) dF5 (Nat.le_of_ble_eq_true rfl) (Nat.le_of_ble_eq_true rfl) (dd_at ddX10_init 49 rfl) (fun q_55 H hq_56 hw => ?_)
  refine W.widen (k := 80) (n := 12301) (Nat.le_of_ble_eq_true rfl) (Nat.le_of_ble_eq_true rfl) ?_
  have h := h q_55 hq_56
  have ha0 := Ext_O (Ext_nE 5 0 hq_56) ha0
  have ho_3 := Ext_O (Ext_nE 5 0 hq_56) ho_3
  have ho_9 := Ext_O (Ext_nE 5 0 hq_56) ho_9
  have ho_15 := Ext_O (Ext_nE 5 0 hq_56) ho_15
  have ho_21 := Ext_O (Ext_nE 5 0 hq_56) ho_21
  have ho_24 := Ext_O (Ext_nE 5 0 hq_56) ho_24
  have ho_30 := Ext_O (Ext_nE 5 0 hq_56) ho_30
  have ho_33 := Ext_O (Ext_nE 5 0 hq_56) ho_33
  have ho_39 := Ext_O (Ext_nE 5 0 hq_56) ho_39
  have ho_42 := Ext_O (Ext_nE 5 0 hq_56) ho_42
  have ho_45 := Ext_O (Ext_nE 5 0 hq_56) ho_45
  have ho_51 := Ext_O (Ext_nE 5 0 hq_56) ho_51
  have hx := Ext_tr hx (Ext_nE 5 0 hq_56)
  have ho_57 := okO_new (sR E_52 a0 8 (some q_49)) q_55 0 (ci := 5) (by decide)
  refine lv_dup S.1 S.2.1 (dd_at ddX10_init 50 rfl) rfl ?_
  refine lv_aload_n S.1 S.2.1 (dd_at ddX10_init 51 rfl) rfl (lv_at hl 0 rfl) ?_
  obtain ⟨b_58, hb_59, ho_60, h⟩ := h
  refine r_getR S hw 10 0 rfl inG10 (by decide) (List.mem_cons_of_mem _ wg16) (by decide) ha0 hb_59 (dd_at ddX10_init 52 rfl) ?_
  refine r_callVL hw (r_runI (As := [.ref b_58]) (rest := [.ref q_55, .ref a0]) S hw (m_X5_init l D cs (nE (sR E_52 a0 8 (some q_49)) q_55 5 0) (nD d_53 q_55) H.size q_55 b_58 _) (cwI 1 S.2.2.2.2 (gC wg132) rfl rfl rfl (S.2.2.2.2 _ (List.mem_cons_of_mem _ wg38)) (S.2.2.2.2 _ (List.mem_cons_of_mem _ wg130)) (S.2.2.2.2 _ (List.mem_cons_of_mem _ wg131)) rfl (by decide +kernel) ⟨Nat.le_of_ble_eq_true rfl, Nat.le_of_ble_eq_true rfl⟩) h rfl hl.1 rfl (Nat.le_of_ble_eq_true rfl) (dd_at ddX10_init 53 rfl) ⟨Nat.le_of_ble_eq_true rfl, Nat.le_of_ble_eq_true rfl⟩) (fun E_61 d_62 H locs h hx_63 hw => ?_)
  have ha0 := Ext_O hx_63 ha0
  have ho_3 := Ext_O hx_63 ho_3
  have ho_9 := Ext_O hx_63 ho_9
  have ho_15 := Ext_O hx_63 ho_15
  have ho_21 := Ext_O hx_63 ho_21
  have ho_24 := Ext_O hx_63 ho_24
  have ho_30 := Ext_O hx_63 ho_30
  have ho_33 := Ext_O hx_63 ho_33
  have ho_39 := Ext_O hx_63 ho_39
  have ho_42 := Ext_O hx_63 ho_42
  have ho_45 := Ext_O hx_63 ho_45
  have ho_51 := Ext_O hx_63 ho_51
  have ho_57 := Ext_O hx_63 ho_57
  have ho_60 := Ext_O hx_63 ho_60
  have hx := Ext_tr hx hx_63
  refine r_putRF S hw hinit 10 9 (ty := (.object "HutRow$Shore")) rfl inG10 tyX10 tyX10_ok nmX10 (by decide) (List.mem_cons_of_mem _ wg39) (by decide) rfl rfl (by decide +kernel) rfl rfl ha0 (dd_at ddX10_init 54 rfl) (fun H locs hw => ?_)
  have ha0 := Ext_O (Ext_sR _ a0 9 (some q_55)) ha0
  have ho_3 := Ext_O (Ext_sR _ a0 9 (some q_55)) ho_3
  have ho_9 := Ext_O (Ext_sR _ a0 9 (some q_55)) ho_9
  have ho_15 := Ext_O (Ext_sR _ a0 9 (some q_55)) ho_15
  have ho_21 := Ext_O (Ext_sR _ a0 9 (some q_55)) ho_21
  have ho_24 := Ext_O (Ext_sR _ a0 9 (some q_55)) ho_24
  have ho_30 := Ext_O (Ext_sR _ a0 9 (some q_55)) ho_30
  have ho_33 := Ext_O (Ext_sR _ a0 9 (some q_55)) ho_33
  have ho_39 := Ext_O (Ext_sR _ a0 9 (some q_55)) ho_39
  have ho_42 := Ext_O (Ext_sR _ a0 9 (some q_55)) ho_42
  have ho_45 := Ext_O (Ext_sR _ a0 9 (some q_55)) ho_45
  have ho_51 := Ext_O (Ext_sR _ a0 9 (some q_55)) ho_51
  have ho_57 := Ext_O (Ext_sR _ a0 9 (some q_55)) ho_57
  have ho_60 := Ext_O (Ext_sR _ a0 9 (some q_55)) ho_60
  have hx := Ext_tr hx (Ext_sR _ a0 9 (some q_55))
  refine lv_aload_n S.1 S.2.1 (dd_at ddX10_init 55 rfl) rfl (lv_at hl 0 rfl) ?_
  refine r_new S hw 4 rfl (by decide) inG4 tyX4 tyX4_ok (List.mem_cons_of_mem _ wg40) (List.mem_cons_of_mem _ wg41) (List.mem_cons_of_mem _ wg42) dF4 (Nat.le_of_ble_eq_true rfl) (Nat.le_of_ble_eq_true rfl) (dd_at ddX10_init 56 rfl) (fun q_64 H hq_65 hw => ?_)
  refine W.widen (k := 85) (n := 12346) (Nat.le_of_ble_eq_true rfl) (Nat.le_of_ble_eq_true rfl) ?_
  have h := h q_64 hq_65
  have ha0 := Ext_O (Ext_nE 4 0 hq_65) ha0
  have ho_3 := Ext_O (Ext_nE 4 0 hq_65) ho_3
  have ho_9 := Ext_O (Ext_nE 4 0 hq_65) ho_9
  have ho_15 := Ext_O (Ext_nE 4 0 hq_65) ho_15
  have ho_21 := Ext_O (Ext_nE 4 0 hq_65) ho_21
  have ho_24 := Ext_O (Ext_nE 4 0 hq_65) ho_24
  have ho_30 := Ext_O (Ext_nE 4 0 hq_65) ho_30
  have ho_33 := Ext_O (Ext_nE 4 0 hq_65) ho_33
  have ho_39 := Ext_O (Ext_nE 4 0 hq_65) ho_39
  have ho_42 := Ext_O (Ext_nE 4 0 hq_65) ho_42
  have ho_45 := Ext_O (Ext_nE 4 0 hq_65) ho_45
  have ho_51 := Ext_O (Ext_nE 4 0 hq_65) ho_51
  have ho_57 := Ext_O (Ext_nE 4 0 hq_65) ho_57
  have ho_60 := Ext_O (Ext_nE 4 0 hq_65) ho_60
  have hx := Ext_tr hx (Ext_nE 4 0 hq_65)
  have ho_66 := okO_new (sR E_61 a0 9 (some q_55)) q_64 0 (ci := 4) (by decide)
  refine lv_dup S.1 S.2.1 (dd_at ddX10_init 57 rfl) rfl ?_
  refine lv_aload_n S.1 S.2.1 (dd_at ddX10_init 58 rfl) rfl (lv_at hl 0 rfl) ?_
  obtain ⟨b_67, hb_68, ho_69, h⟩ := h
  refine r_getR S hw 10 0 rfl inG10 (by decide) (List.mem_cons_of_mem _ wg16) (by decide) ha0 hb_68 (dd_at ddX10_init 59 rfl) ?_
  refine lv_aload_n S.1 S.2.1 (dd_at ddX10_init 60 rfl) rfl (lv_at hl 0 rfl) ?_
  obtain ⟨b_70, hb_71, ho_72, h⟩ := h
  refine r_getR S hw 10 5 rfl inG10 (by decide) (List.mem_cons_of_mem _ wg26) (by decide) ha0 hb_71 (dd_at ddX10_init 61 rfl) ?_
  refine r_callVL hw (r_runI (As := [.ref b_67, .ref b_70]) (rest := [.ref q_64, .ref a0]) S hw (m_X4_init l D cs (nE (sR E_61 a0 9 (some q_55)) q_64 4 0) (nD d_62 q_64) H.size q_64 b_67 b_70 _) (cwI 2 S.2.2.2.2 (gC wg141) rfl rfl rfl (S.2.2.2.2 _ (List.mem_cons_of_mem _ wg42)) (S.2.2.2.2 _ (List.mem_cons_of_mem _ wg139)) (S.2.2.2.2 _ (List.mem_cons_of_mem _ wg140)) rfl (by decide +kernel) ⟨Nat.le_of_ble_eq_true rfl, Nat.le_of_ble_eq_true rfl⟩) h rfl hl.1 rfl (Nat.le_of_ble_eq_true rfl) (dd_at ddX10_init 62 rfl) ⟨Nat.le_of_ble_eq_true rfl, Nat.le_of_ble_eq_true rfl⟩) (fun E_73 d_74 H locs h hx_75 hw => ?_)
  have ha0 := Ext_O hx_75 ha0
  have ho_3 := Ext_O hx_75 ho_3
  have ho_9 := Ext_O hx_75 ho_9
  have ho_15 := Ext_O hx_75 ho_15
  have ho_21 := Ext_O hx_75 ho_21
  have ho_24 := Ext_O hx_75 ho_24
  have ho_30 := Ext_O hx_75 ho_30
  have ho_33 := Ext_O hx_75 ho_33
  have ho_39 := Ext_O hx_75 ho_39
  have ho_42 := Ext_O hx_75 ho_42
  have ho_45 := Ext_O hx_75 ho_45
  have ho_51 := Ext_O hx_75 ho_51
  have ho_57 := Ext_O hx_75 ho_57
  have ho_60 := Ext_O hx_75 ho_60
  have ho_66 := Ext_O hx_75 ho_66
  have ho_69 := Ext_O hx_75 ho_69
  have ho_72 := Ext_O hx_75 ho_72
  have hx := Ext_tr hx hx_75
  refine r_putRF S hw hinit 10 10 (ty := (.object "HutRow$Road")) rfl inG10 tyX10 tyX10_ok nmX10 (by decide) (List.mem_cons_of_mem _ wg43) (by decide) rfl rfl (by decide +kernel) rfl rfl ha0 (dd_at ddX10_init 63 rfl) (fun H locs hw => ?_)
  have ha0 := Ext_O (Ext_sR _ a0 10 (some q_64)) ha0
  have ho_3 := Ext_O (Ext_sR _ a0 10 (some q_64)) ho_3
  have ho_9 := Ext_O (Ext_sR _ a0 10 (some q_64)) ho_9
  have ho_15 := Ext_O (Ext_sR _ a0 10 (some q_64)) ho_15
  have ho_21 := Ext_O (Ext_sR _ a0 10 (some q_64)) ho_21
  have ho_24 := Ext_O (Ext_sR _ a0 10 (some q_64)) ho_24
  have ho_30 := Ext_O (Ext_sR _ a0 10 (some q_64)) ho_30
  have ho_33 := Ext_O (Ext_sR _ a0 10 (some q_64)) ho_33
  have ho_39 := Ext_O (Ext_sR _ a0 10 (some q_64)) ho_39
  have ho_42 := Ext_O (Ext_sR _ a0 10 (some q_64)) ho_42
  have ho_45 := Ext_O (Ext_sR _ a0 10 (some q_64)) ho_45
  have ho_51 := Ext_O (Ext_sR _ a0 10 (some q_64)) ho_51
  have ho_57 := Ext_O (Ext_sR _ a0 10 (some q_64)) ho_57
  have ho_60 := Ext_O (Ext_sR _ a0 10 (some q_64)) ho_60
  have ho_66 := Ext_O (Ext_sR _ a0 10 (some q_64)) ho_66
  have ho_69 := Ext_O (Ext_sR _ a0 10 (some q_64)) ho_69
  have ho_72 := Ext_O (Ext_sR _ a0 10 (some q_64)) ho_72
  have hx := Ext_tr hx (Ext_sR _ a0 10 (some q_64))
  exact e_VL S hr hlocks hw hx h (dd_at ddX10_init 64 rfl)

def w_X10_feed (E : En) (a0 : Nat) (p1 : Int32) (p2 : Int32) (p3 : Int32) (p4 : Int32) (p5 : Int32) (d : Dy) (K : Int32 → Dy → Prop) : Prop := okO E a0 10 ∧ ∃ b_1 : Nat, eR E a0 3 = some b_1 ∧ okO E b_1 2 ∧ w_X2_hasRoom E b_1 20 d (fun r_5 d_4 => ((¬ r_5 = 0 → ∃ b_7 : Nat, eR E a0 3 = some b_7 ∧ okO E b_7 2 ∧ w_X2_addNumber E b_7 p1 d_4 (fun d_10 => ∃ b_12 : Nat, eR E a0 3 = some b_12 ∧ okO E b_12 2 ∧ w_X2_addNumber E b_12 p2 d_10 (fun d_15 => ∃ b_17 : Nat, eR E a0 3 = some b_17 ∧ okO E b_17 2 ∧ w_X2_addNumber E b_17 p3 d_15 (fun d_20 => ∃ b_22 : Nat, eR E a0 3 = some b_22 ∧ okO E b_22 2 ∧ w_X2_addNumber E b_22 p4 d_20 (fun d_25 => ∃ b_27 : Nat, eR E a0 3 = some b_27 ∧ okO E b_27 2 ∧ w_X2_addNumber E b_27 p5 d_25 (fun d_30 => ∃ b_32 : Nat, eR E a0 3 = some b_32 ∧ okO E b_32 2 ∧ w_X2_length E b_32 d_30 (fun r_36 d_35 => K r_36 d_35))))))) ∧ (r_5 = 0 → K (-1) d_4)))
abbrev rm_X10_feed : Room := { frames := 1, cells := 0, slots := 0, locals := 22 }
set_option maxRecDepth 100000 in
set_option maxHeartbeats 4000000 in
theorem m_X10_feed (l : Launch) (D : va_G) (cs : Nat → ClassId) (E : En) (d : Dy) (sz : Nat) (a0 : Nat) (p1 : Int32) (p2 : Int32) (p3 : Int32) (p4 : Int32) (p5 : Int32) (K : Int32 → Dy → Prop) : CI l yX10_feed (.code yX10_feed cX10_feed 6 (some .int) :: wsL_law) rm_X10_feed D cs E d sz [.ref a0, .int p1, .int p2, .int p3, .int p4, .int p5] (w_X10_feed E a0 p1 p2 p3 p4 p5 d K) K := by
  refine e_of (cc := cX10_feed) (maxL := 6) (ret := (some .int)) (own := RX10) (by decide) rfl rfl (Nat.le_of_ble_eq_true rfl) ?_
  intro p e s m below meth c S hr hlocks hsz H locs hw h ls hl
  have hl : lv_has ls 6 [(0, .ref a0), (1, .int p1), (2, .int p2), (3, .int p3), (4, .int p4), (5, .int p5)] := hl
  unfold w_X10_feed at h
  obtain ⟨ha0, h⟩ := h
  refine lv_aload_n S.1 S.2.1 (dd_at ddX10_feed 0 rfl) rfl (lv_at hl 0 rfl) ?_
  obtain ⟨b_1, hb_2, ho_3, h⟩ := h
  refine r_getR S hw 10 3 rfl inG10 (by decide) (List.mem_cons_of_mem _ wg21) (by decide) ha0 hb_2 (dd_at ddX10_feed 1 rfl) ?_
  refine lv_bipush (v := 20) S.1 S.2.1 (dd_at ddX10_feed 2 rfl) (by decide) ?_
  refine r_callI hw (r_runV (As := [.int 20]) (rest := []) S hw (m_X2_hasRoom l D cs E d H.size b_1 20 _) (cwV 1 S.2.2.2.2 (gV wg184 wg185 wg186 wg20 wg187) rfl rfl rfl (by decide +kernel) ⟨Nat.le_of_ble_eq_true rfl, Nat.le_of_ble_eq_true rfl⟩) (ci := 2) rfl ho_3 h rfl hl.1 rfl (Nat.le_of_ble_eq_true rfl) (dd_at ddX10_feed 3 rfl) ⟨Nat.le_of_ble_eq_true rfl, Nat.le_of_ble_eq_true rfl⟩) (fun r_5 d_4 H locs h hw => ?_)
  refine lv_if_ne (tgt := 14) S.1 S.2.1 (dd_at ddX10_feed 4 rfl) (by decide) (fun hc_6 => ?_) (fun hc_6 => ?_)
  · have h := h.1 hc_6
    refine lv_aload_n S.1 S.2.1 (dd_at ddX10_feed 7 rfl) rfl (lv_at hl 0 rfl) ?_
    obtain ⟨b_7, hb_8, ho_9, h⟩ := h
    refine r_getR S hw 10 3 rfl inG10 (by decide) (List.mem_cons_of_mem _ wg21) (by decide) ha0 hb_8 (dd_at ddX10_feed 8 rfl) ?_
    refine lv_iload_n S.1 S.2.1 (dd_at ddX10_feed 9 rfl) rfl (lv_at hl 1 rfl) ?_
    refine r_callV hw (r_runV (As := [.int p1]) (rest := []) S hw (m_X2_addNumber l D cs E d_4 H.size b_7 p1 _) (cwV 1 S.2.2.2.2 (gV wg189 wg190 wg191 wg20 wg192) rfl rfl rfl (by decide +kernel) ⟨Nat.le_of_ble_eq_true rfl, Nat.le_of_ble_eq_true rfl⟩) (ci := 2) rfl ho_9 h rfl hl.1 rfl (Nat.le_of_ble_eq_true rfl) (dd_at ddX10_feed 10 rfl) ⟨Nat.le_of_ble_eq_true rfl, Nat.le_of_ble_eq_true rfl⟩) (fun d_10 H locs h hw => ?_)
    refine lv_aload_n S.1 S.2.1 (dd_at ddX10_feed 11 rfl) rfl (lv_at hl 0 rfl) ?_
    obtain ⟨b_12, hb_13, ho_14, h⟩ := h
    refine r_getR S hw 10 3 rfl inG10 (by decide) (List.mem_cons_of_mem _ wg21) (by decide) ha0 hb_13 (dd_at ddX10_feed 12 rfl) ?_
    refine lv_iload_n S.1 S.2.1 (dd_at ddX10_feed 13 rfl) rfl (lv_at hl 2 rfl) ?_
    refine r_callV hw (r_runV (As := [.int p2]) (rest := []) S hw (m_X2_addNumber l D cs E d_10 H.size b_12 p2 _) (cwV 1 S.2.2.2.2 (gV wg189 wg190 wg191 wg20 wg192) rfl rfl rfl (by decide +kernel) ⟨Nat.le_of_ble_eq_true rfl, Nat.le_of_ble_eq_true rfl⟩) (ci := 2) rfl ho_14 h rfl hl.1 rfl (Nat.le_of_ble_eq_true rfl) (dd_at ddX10_feed 14 rfl) ⟨Nat.le_of_ble_eq_true rfl, Nat.le_of_ble_eq_true rfl⟩) (fun d_15 H locs h hw => ?_)
    refine lv_aload_n S.1 S.2.1 (dd_at ddX10_feed 15 rfl) rfl (lv_at hl 0 rfl) ?_
    obtain ⟨b_17, hb_18, ho_19, h⟩ := h
    refine r_getR S hw 10 3 rfl inG10 (by decide) (List.mem_cons_of_mem _ wg21) (by decide) ha0 hb_18 (dd_at ddX10_feed 16 rfl) ?_
    refine lv_iload_n S.1 S.2.1 (dd_at ddX10_feed 17 rfl) rfl (lv_at hl 3 rfl) ?_
    refine r_callV hw (r_runV (As := [.int p3]) (rest := []) S hw (m_X2_addNumber l D cs E d_15 H.size b_17 p3 _) (cwV 1 S.2.2.2.2 (gV wg189 wg190 wg191 wg20 wg192) rfl rfl rfl (by decide +kernel) ⟨Nat.le_of_ble_eq_true rfl, Nat.le_of_ble_eq_true rfl⟩) (ci := 2) rfl ho_19 h rfl hl.1 rfl (Nat.le_of_ble_eq_true rfl) (dd_at ddX10_feed 18 rfl) ⟨Nat.le_of_ble_eq_true rfl, Nat.le_of_ble_eq_true rfl⟩) (fun d_20 H locs h hw => ?_)
    refine lv_aload_n S.1 S.2.1 (dd_at ddX10_feed 19 rfl) rfl (lv_at hl 0 rfl) ?_
    obtain ⟨b_22, hb_23, ho_24, h⟩ := h
    refine r_getR S hw 10 3 rfl inG10 (by decide) (List.mem_cons_of_mem _ wg21) (by decide) ha0 hb_23 (dd_at ddX10_feed 20 rfl) ?_
    refine lv_iload S.1 S.2.1 (dd_at ddX10_feed 21 rfl) (lv_at hl 4 rfl) ?_
    refine r_callV hw (r_runV (As := [.int p4]) (rest := []) S hw (m_X2_addNumber l D cs E d_20 H.size b_22 p4 _) (cwV 1 S.2.2.2.2 (gV wg189 wg190 wg191 wg20 wg192) rfl rfl rfl (by decide +kernel) ⟨Nat.le_of_ble_eq_true rfl, Nat.le_of_ble_eq_true rfl⟩) (ci := 2) rfl ho_24 h rfl hl.1 rfl (Nat.le_of_ble_eq_true rfl) (dd_at ddX10_feed 22 rfl) ⟨Nat.le_of_ble_eq_true rfl, Nat.le_of_ble_eq_true rfl⟩) (fun d_25 H locs h hw => ?_)
    refine lv_aload_n S.1 S.2.1 (dd_at ddX10_feed 23 rfl) rfl (lv_at hl 0 rfl) ?_
    obtain ⟨b_27, hb_28, ho_29, h⟩ := h
    refine r_getR S hw 10 3 rfl inG10 (by decide) (List.mem_cons_of_mem _ wg21) (by decide) ha0 hb_28 (dd_at ddX10_feed 24 rfl) ?_
    refine lv_iload S.1 S.2.1 (dd_at ddX10_feed 25 rfl) (lv_at hl 5 rfl) ?_
    refine r_callV hw (r_runV (As := [.int p5]) (rest := []) S hw (m_X2_addNumber l D cs E d_25 H.size b_27 p5 _) (cwV 1 S.2.2.2.2 (gV wg189 wg190 wg191 wg20 wg192) rfl rfl rfl (by decide +kernel) ⟨Nat.le_of_ble_eq_true rfl, Nat.le_of_ble_eq_true rfl⟩) (ci := 2) rfl ho_29 h rfl hl.1 rfl (Nat.le_of_ble_eq_true rfl) (dd_at ddX10_feed 26 rfl) ⟨Nat.le_of_ble_eq_true rfl, Nat.le_of_ble_eq_true rfl⟩) (fun d_30 H locs h hw => ?_)
    refine lv_aload_n S.1 S.2.1 (dd_at ddX10_feed 27 rfl) rfl (lv_at hl 0 rfl) ?_
    obtain ⟨b_32, hb_33, ho_34, h⟩ := h
    refine r_getR S hw 10 3 rfl inG10 (by decide) (List.mem_cons_of_mem _ wg21) (by decide) ha0 hb_33 (dd_at ddX10_feed 28 rfl) ?_
    refine r_callI hw (r_runV (As := []) (rest := []) S hw (m_X2_length l D cs E d_30 H.size b_32 _) (cwV 0 S.2.2.2.2 (gV wg193 wg194 wg195 wg20 wg196) rfl rfl rfl (by decide +kernel) ⟨Nat.le_of_ble_eq_true rfl, Nat.le_of_ble_eq_true rfl⟩) (ci := 2) rfl ho_34 h rfl hl.1 rfl (Nat.le_of_ble_eq_true rfl) (dd_at ddX10_feed 29 rfl) ⟨Nat.le_of_ble_eq_true rfl, Nat.le_of_ble_eq_true rfl⟩) (fun r_36 d_35 H locs h hw => ?_)
    exact e_I S hr hlocks hw h (dd_at ddX10_feed 30 rfl)
  · have h := h.2 hc_6
    refine lv_iconst (v := -1) S.1 S.2.1 (dd_at ddX10_feed 5 rfl) (by decide) ?_
    exact e_I S hr hlocks hw h (dd_at ddX10_feed 6 rfl)

def w_X10_end (E : En) (a0 : Nat) (p1 : Int32) (d : Dy) (K : Int32 → Dy → Prop) : Prop := okO E a0 10 ∧ ((p1 < 0 → K 0 d) ∧ (¬ p1 < 0 → ∃ b_2 : Nat, eR E a0 3 = some b_2 ∧ okO E b_2 2 ∧ w_X2_length E b_2 d (fun r_6 d_5 => ((p1 ≤ r_6 → ∃ b_8 : Nat, eR E a0 3 = some b_8 ∧ okO E b_8 2 ∧ w_X2_cut E b_8 p1 d_5 (fun d_11 => K 1 d_11)) ∧ (¬ p1 ≤ r_6 → K 0 d_5)))))
abbrev rm_X10_end : Room := { frames := 2, cells := 0, slots := 0, locals := 61 }
set_option maxRecDepth 100000 in
set_option maxHeartbeats 4000000 in
theorem m_X10_end (l : Launch) (D : va_G) (cs : Nat → ClassId) (E : En) (d : Dy) (sz : Nat) (a0 : Nat) (p1 : Int32) (K : Int32 → Dy → Prop) : CI l yX10_end (.code yX10_end cX10_end 2 (some .boolean) :: wsL_law) rm_X10_end D cs E d sz [.ref a0, .int p1] (w_X10_end E a0 p1 d K) K := by
  refine e_of (cc := cX10_end) (maxL := 2) (ret := (some .boolean)) (own := RX10) (by decide) rfl rfl (Nat.le_of_ble_eq_true rfl) ?_
  intro p e s m below meth c S hr hlocks hsz H locs hw h ls hl
  have hl : lv_has ls 2 [(0, .ref a0), (1, .int p1)] := hl
  unfold w_X10_end at h
  obtain ⟨ha0, h⟩ := h
  refine lv_iload_n S.1 S.2.1 (dd_at ddX10_end 0 rfl) rfl (lv_at hl 1 rfl) ?_
  refine lv_if_lt (tgt := 15) S.1 S.2.1 (dd_at ddX10_end 1 rfl) (by decide) (fun hc_1 => ?_) (fun hc_1 => ?_)
  · have h := h.1 hc_1
    refine lv_iconst (v := 0) S.1 S.2.1 (dd_at ddX10_end 7 rfl) (by decide) ?_
    exact e_Z S hr hlocks hw (Or.inl rfl) h (dd_at ddX10_end 8 rfl)
  · have h := h.2 hc_1
    refine lv_iload_n S.1 S.2.1 (dd_at ddX10_end 2 rfl) rfl (lv_at hl 1 rfl) ?_
    refine lv_aload_n S.1 S.2.1 (dd_at ddX10_end 3 rfl) rfl (lv_at hl 0 rfl) ?_
    obtain ⟨b_2, hb_3, ho_4, h⟩ := h
    refine r_getR S hw 10 3 rfl inG10 (by decide) (List.mem_cons_of_mem _ wg21) (by decide) ha0 hb_3 (dd_at ddX10_end 4 rfl) ?_
    refine r_callI hw (r_runV (As := []) (rest := [.int p1]) S hw (m_X2_length l D cs E d H.size b_2 _) (cwV 0 S.2.2.2.2 (gV wg193 wg194 wg195 wg20 wg196) rfl rfl rfl (by decide +kernel) ⟨Nat.le_of_ble_eq_true rfl, Nat.le_of_ble_eq_true rfl⟩) (ci := 2) rfl ho_4 h rfl hl.1 rfl (Nat.le_of_ble_eq_true rfl) (dd_at ddX10_end 5 rfl) ⟨Nat.le_of_ble_eq_true rfl, Nat.le_of_ble_eq_true rfl⟩) (fun r_6 d_5 H locs h hw => ?_)
    refine lv_icmp_le (tgt := 17) S.1 S.2.1 (dd_at ddX10_end 6 rfl) (by decide) (fun hc_7 => ?_) (fun hc_7 => ?_)
    · have h := h.1 hc_7
      refine lv_aload_n S.1 S.2.1 (dd_at ddX10_end 9 rfl) rfl (lv_at hl 0 rfl) ?_
      obtain ⟨b_8, hb_9, ho_10, h⟩ := h
      refine r_getR S hw 10 3 rfl inG10 (by decide) (List.mem_cons_of_mem _ wg21) (by decide) ha0 hb_9 (dd_at ddX10_end 10 rfl) ?_
      refine lv_iload_n S.1 S.2.1 (dd_at ddX10_end 11 rfl) rfl (lv_at hl 1 rfl) ?_
      refine r_callV hw (r_runV (As := [.int p1]) (rest := []) S hw (m_X2_cut l D cs E d_5 H.size b_8 p1 _) (cwV 1 S.2.2.2.2 (gV wg207 wg208 wg209 wg20 wg210) rfl rfl rfl (by decide +kernel) ⟨Nat.le_of_ble_eq_true rfl, Nat.le_of_ble_eq_true rfl⟩) (ci := 2) rfl ho_10 h rfl hl.1 rfl (Nat.le_of_ble_eq_true rfl) (dd_at ddX10_end 12 rfl) ⟨Nat.le_of_ble_eq_true rfl, Nat.le_of_ble_eq_true rfl⟩) (fun d_11 H locs h hw => ?_)
      refine lv_iconst (v := 1) S.1 S.2.1 (dd_at ddX10_end 13 rfl) (by decide) ?_
      exact e_Z S hr hlocks hw (Or.inr rfl) h (dd_at ddX10_end 14 rfl)
    · have h := h.2 hc_7
      refine lv_iconst (v := 0) S.1 S.2.1 (dd_at ddX10_end 7 rfl) (by decide) ?_
      exact e_Z S hr hlocks hw (Or.inl rfl) h (dd_at ddX10_end 8 rfl)

def w_X10_need (E : En) (p0 : Int32) (d : Dy) (K : Dy → Prop) (X : String → Dy → Prop) : Prop := ((¬ p0 = 0 → K d) ∧ (p0 = 0 → X "java/lang/IllegalArgumentException" d))
abbrev rm_X10_need : Room := { frames := 6, cells := 1, slots := 6, locals := 100 }
set_option maxRecDepth 100000 in
set_option maxHeartbeats 4000000 in
theorem m_X10_need (l : Launch) (hst : l.stackTraces = false) (D : va_G) (cs : Nat → ClassId) (E : En) (d : Dy) (sz : Nat) (p0 : Int32) (K : Dy → Prop) (X : String → Dy → Prop) : XV l yX10_need (.code yX10_need cX10_need 1 none :: wsL_law) rm_X10_need D cs E d sz [.int p0] (w_X10_need E p0 d K X) K X := by
  refine e_ofX (cc := cX10_need) (maxL := 1) (ret := none) (own := RX10) (by decide) rfl rfl (Nat.le_of_ble_eq_true rfl) ?_
  intro p e s m below meth c S hr hlocks hsz hT H locs hw h ls hl
  have hl : lv_has ls 1 [(0, .int p0)] := hl
  unfold w_X10_need at h
  refine lv_iload_n S.1 S.2.1 (dd_at ddX10_need 0 rfl) rfl (lv_at hl 0 rfl) ?_
  refine lv_if_ne (tgt := 12) S.1 S.2.1 (dd_at ddX10_need 1 rfl) (by decide) (fun hc_1 => ?_) (fun hc_1 => ?_)
  · have h := h.1 hc_1
    refine W.widen (k := 1) (n := 6) (Nat.le_of_ble_eq_true rfl) (Nat.le_of_ble_eq_true rfl) ?_
    exact vx_ret (e_V S hr hlocks hw h (dd_at ddX10_need 6 rfl))
  · have h := h.2 hc_1
    exact r_throw hst S hT hlocks hw wg228 wg229 xa89 xn89 (by decide) xg87_89 hl.1 (dd_at ddX10_need 2 rfl) (dd_at ddX10_need 3 rfl) (dd_at ddX10_need 4 rfl) (dd_at ddX10_need 5 rfl) (Nat.lt_of_lt_of_le (Nat.lt_succ_self 5) (Nat.le_of_ble_eq_true rfl)) (Nat.le_of_ble_eq_true rfl) (Nat.le_of_ble_eq_true rfl) (Nat.le_of_ble_eq_true rfl) h (Nat.le_of_ble_eq_true rfl) (Nat.le_of_ble_eq_true rfl)

def b_X10_text_9 (E : En) (a0 : Nat) (p1 : Int32) (K : Int32 → En → Dy → Prop) (X : String → Dy → Prop) (d : Dy) : Prop := ∃ b_1 : Nat, eR E a0 3 = some b_1 ∧ okO E b_1 2 ∧ w_X2_cut E b_1 0 d (fun d_4 => X "java/lang/IllegalArgumentException" d_4)
def b_X10_text_58 (E : En) (a0 : Nat) (p1 : Int32) (K : Int32 → En → Dy → Prop) (X : String → Dy → Prop) (v2 : Int32) (s0 : Nat) (s1 : Int32) (d : Dy) : Prop := okO E s0 10 ∧ w_X10_need E v2 (pI d s0 4 s1) (fun d_6 => ∃ b_8 : Nat, eR E a0 3 = some b_8 ∧ okO E b_8 2 ∧ w_X2_compiled E b_8 d_6 (fun r_12 E_13 d_11 => okO E_13 r_12 7 ∧ ∃ b_16 : Nat, eR E_13 a0 0 = some b_16 ∧ okO E_13 b_16 8 ∧ w_X8_enforce E_13 b_16 p1 r_12 d_11 (fun d_19 => w_X7_size E_13 r_12 d_19 (fun r_22 d_21 => K r_22 E_13 d_21)))) X
def w_X10_text (E : En) (a0 : Nat) (p1 : Int32) (d : Dy) (K : Int32 → En → Dy → Prop) (X : String → Dy → Prop) : Prop := okO E a0 10 ∧ ((p1 < 0 → b_X10_text_9 E a0 p1 K X d) ∧ (¬ p1 < 0 → ((p1 < 4 → ∃ b_25 : Nat, eR E a0 3 = some b_25 ∧ okO E b_25 2 ∧ w_X2_reads E b_25 p1 d (fun r_29 d_28 => ∃ b_30 : Nat, eR E a0 3 = some b_30 ∧ okO E b_30 2 ∧ w_X2_cut E b_30 0 d_28 (fun d_33 => ((r_29 = 0 → ∃ b_36 : Nat, eR E a0 3 = some b_36 ∧ okO E b_36 2 ∧ w_X2_wrongAt E b_36 d_33 (fun r_40 d_39 => b_X10_text_58 E a0 p1 K X r_29 a0 r_40 d_39)) ∧ (¬ r_29 = 0 → b_X10_text_58 E a0 p1 K X r_29 a0 (-1) d_33))))) ∧ (¬ p1 < 4 → b_X10_text_9 E a0 p1 K X d))))
abbrev rm_X10_text : Room := { frames := 71, cells := 5, slots := 812, locals := 1696 }
set_option maxRecDepth 100000 in
set_option maxHeartbeats 4000000 in
theorem m_X10_text (l : Launch) (hst : l.stackTraces = false) (D : va_G) (cs : Nat → ClassId) (E : En) (d : Dy) (sz : Nat) (a0 : Nat) (p1 : Int32) (K : Int32 → En → Dy → Prop) (X : String → Dy → Prop) : XLI l yX10_text (.code yX10_text cX10_text 4 (some .int) :: wsL_law) rm_X10_text D cs E d sz [.ref a0, .int p1] (w_X10_text E a0 p1 d K X) K X := by
  refine e_ofX (cc := cX10_text) (maxL := 4) (ret := (some .int)) (own := RX10) (by decide) rfl rfl (Nat.le_of_ble_eq_true rfl) ?_
  intro p e s m below meth c S hr hlocks hsz hT H locs hw h ls hl
  have hx : Ext E E := Ext_rf E
  have hl : lv_has ls 4 [(0, .ref a0), (1, .int p1)] := hl
  unfold w_X10_text at h
  obtain ⟨ha0, h⟩ := h
  have tb9 : ∀ (d : Dy) (H : Heap) (locs : List Loc) (ls : Array Slot), b_X10_text_9 E a0 p1 K X d → Wd D cs (AW E sz) s.heap s E d H locs → lv_has ls 4 [(0, .ref a0)] → W p l e rm_X10_text s m ([.ref a0, .int p1] : List Value).toArray below meth c H locs 0 0 (vx_MQ below (va_Qi (fun (r : Int32) (u : En × Dy) => K r u.1 u.2 ∧ Ext E u.1) (OutL D cs (AW E sz)) (AW E sz)) (XX D cs E sz X) ([.ref a0, .int p1] : List Value).toArray s rm_X10_text.cells rm_X10_text.slots (AW E sz)) (F0 m 9 ls []) := by
    intro d H locs ls h hw hl
    unfold b_X10_text_9 at h
    have hx : Ext E E := Ext_rf E
    refine lv_aload_n S.1 S.2.1 (dd_at ddX10_text 5 rfl) rfl (lv_at hl 0 rfl) ?_
    obtain ⟨b_1, hb_2, ho_3, h⟩ := h
    refine r_getR S hw 10 3 rfl inG10 (by decide) (List.mem_cons_of_mem _ wg21) (by decide) ha0 hb_2 (dd_at ddX10_text 6 rfl) ?_
    refine lv_iconst (v := 0) S.1 S.2.1 (dd_at ddX10_text 7 rfl) (by decide) ?_
    refine r_callV hw (r_runV (As := [.int 0]) (rest := []) S hw (m_X2_cut l D cs E d H.size b_1 0 _) (cwV 1 S.2.2.2.2 (gV wg207 wg208 wg209 wg20 wg210) rfl rfl rfl (by decide +kernel) ⟨Nat.le_of_ble_eq_true rfl, Nat.le_of_ble_eq_true rfl⟩) (ci := 2) rfl ho_3 h rfl hl.1 rfl (Nat.le_of_ble_eq_true rfl) (dd_at ddX10_text 8 rfl) ⟨Nat.le_of_ble_eq_true rfl, Nat.le_of_ble_eq_true rfl⟩) (fun d_4 H locs h hw => ?_)
    exact r_throw hst S hT hlocks hw wg228 wg229 xa89 xn89 (by decide) xg87_89 hl.1 (dd_at ddX10_text 9 rfl) (dd_at ddX10_text 10 rfl) (dd_at ddX10_text 11 rfl) (dd_at ddX10_text 12 rfl) (Nat.lt_of_lt_of_le (Nat.lt_succ_self 5) (Nat.le_of_ble_eq_true rfl)) (Nat.le_of_ble_eq_true rfl) (Nat.le_of_ble_eq_true rfl) (Nat.le_of_ble_eq_true rfl) h (Nat.le_of_ble_eq_true rfl) (Nat.le_of_ble_eq_true rfl)
  have tb58 : ∀ (v2 : Int32) (s0 : Nat) (s1 : Int32) (d : Dy) (H : Heap) (locs : List Loc) (ls : Array Slot), b_X10_text_58 E a0 p1 K X v2 s0 s1 d → Wd D cs (AW E sz) s.heap s E d H locs → lv_has ls 4 [(0, .ref a0), (1, .int p1), (2, .int v2)] → W p l e rm_X10_text s m ([.ref a0, .int p1] : List Value).toArray below meth c H locs 0 0 (vx_MQ below (va_Qi (fun (r : Int32) (u : En × Dy) => K r u.1 u.2 ∧ Ext E u.1) (OutL D cs (AW E sz)) (AW E sz)) (XX D cs E sz X) ([.ref a0, .int p1] : List Value).toArray s rm_X10_text.cells rm_X10_text.slots (AW E sz)) (F0 m 58 ls [.int s1, .ref s0]) := by
    intro v2 s0 s1 d H locs ls h hw hl
    unfold b_X10_text_58 at h
    obtain ⟨hos0, h⟩ := h
    have hx : Ext E E := Ext_rf E
    refine r_putI S hw 10 4 (ty := .int) (v := s1) rfl inG10 tyX10 tyX10_ok nmX10 (by decide) (List.mem_cons_of_mem _ wg22) (by decide) rfl (by decide +kernel) rfl rfl hos0 (dd_at ddX10_text 30 rfl) (fun H locs hw => ?_)
    refine lv_iload_n S.1 S.2.1 (dd_at ddX10_text 31 rfl) rfl (lv_at hl 2 rfl) ?_
    refine r_xcallV hT hlocks hw (r_xrunS (As := [.int v2]) (rest := []) S hw (m_X10_need l hst D cs E (pI d s0 4 s1) H.size v2 _ _) (va_cwS 1 S.2.2.2.2 (gS wg361 wg362 wg2 wg363) rfl rfl rfl (by decide +kernel) ⟨Nat.le_of_ble_eq_true rfl, Nat.le_of_ble_eq_true rfl⟩) h rfl hl.1 rfl (Nat.le_of_ble_eq_true rfl) (dd_at ddX10_text 32 rfl) ⟨Nat.le_of_ble_eq_true rfl, Nat.le_of_ble_eq_true rfl⟩) (Nat.le_of_ble_eq_true rfl) (Nat.le_of_ble_eq_true rfl) (fun d_6 H locs h hw => ?_)
    refine lv_aload_n S.1 S.2.1 (dd_at ddX10_text 33 rfl) rfl (lv_at hl 0 rfl) ?_
    obtain ⟨b_8, hb_9, ho_10, h⟩ := h
    refine r_getR S hw 10 3 rfl inG10 (by decide) (List.mem_cons_of_mem _ wg21) (by decide) ha0 hb_9 (dd_at ddX10_text 34 rfl) ?_
    refine r_callRL hw (r_runV (As := []) (rest := []) S hw (m_X2_compiled l D cs E d_6 H.size b_8 _) (cwV 0 S.2.2.2.2 (gV wg364 wg365 wg366 wg20 wg367) rfl rfl rfl (by decide +kernel) ⟨Nat.le_of_ble_eq_true rfl, Nat.le_of_ble_eq_true rfl⟩) (ci := 2) rfl ho_10 h rfl hl.1 rfl (Nat.le_of_ble_eq_true rfl) (dd_at ddX10_text 35 rfl) ⟨Nat.le_of_ble_eq_true rfl, Nat.le_of_ble_eq_true rfl⟩) (fun r_12 E_13 d_11 H locs h hx_14 hw => ?_)
    have ha0 := Ext_O hx_14 ha0
    have hos0 := Ext_O hx_14 hos0
    have ho_10 := Ext_O hx_14 ho_10
    have hx := Ext_tr hx hx_14
    obtain ⟨ho_15, h⟩ := h
    refine lv_astore_n (lv' := [(3, .ref r_12), (0, .ref a0), (1, .int p1), (2, .int v2)]) S.1 S.2.1 (dd_at ddX10_text 36 rfl) rfl hl (by decide) rfl (fun ls hl => ?_)
    refine lv_aload_n S.1 S.2.1 (dd_at ddX10_text 37 rfl) rfl (lv_at hl 1 rfl) ?_
    obtain ⟨b_16, hb_17, ho_18, h⟩ := h
    refine r_getR S hw 10 0 rfl inG10 (by decide) (List.mem_cons_of_mem _ wg16) (by decide) ha0 hb_17 (dd_at ddX10_text 38 rfl) ?_
    refine lv_iload_n S.1 S.2.1 (dd_at ddX10_text 39 rfl) rfl (lv_at hl 2 rfl) ?_
    refine lv_aload_n S.1 S.2.1 (dd_at ddX10_text 40 rfl) rfl (lv_at hl 0 rfl) ?_
    refine r_callV hw (r_runV (As := [.int p1, .ref r_12]) (rest := []) S hw (m_X8_enforce l D cs E_13 d_11 H.size b_16 p1 r_12 _) (cwV 2 S.2.2.2.2 (gV wg400 wg401 wg402 wg15 wg403) rfl rfl rfl (by decide +kernel) ⟨Nat.le_of_ble_eq_true rfl, Nat.le_of_ble_eq_true rfl⟩) (ci := 8) rfl ho_18 h rfl hl.1 rfl (Nat.le_of_ble_eq_true rfl) (dd_at ddX10_text 41 rfl) ⟨Nat.le_of_ble_eq_true rfl, Nat.le_of_ble_eq_true rfl⟩) (fun d_19 H locs h hw => ?_)
    refine lv_aload_n S.1 S.2.1 (dd_at ddX10_text 42 rfl) rfl (lv_at hl 0 rfl) ?_
    refine r_callI hw (r_runV (As := []) (rest := []) S hw (m_X7_size l D cs E_13 d_19 H.size r_12 _) (cwV 0 S.2.2.2.2 (gV wg404 wg405 wg406 wg370 wg407) rfl rfl rfl (by decide +kernel) ⟨Nat.le_of_ble_eq_true rfl, Nat.le_of_ble_eq_true rfl⟩) (ci := 7) rfl ho_15 h rfl hl.1 rfl (Nat.le_of_ble_eq_true rfl) (dd_at ddX10_text 43 rfl) ⟨Nat.le_of_ble_eq_true rfl, Nat.le_of_ble_eq_true rfl⟩) (fun r_22 d_21 H locs h hw => ?_)
    exact vx_ret (e_IL S hr hlocks hw hx h (dd_at ddX10_text 44 rfl))
  refine lv_iload_n S.1 S.2.1 (dd_at ddX10_text 0 rfl) rfl (lv_at hl 1 rfl) ?_
  refine lv_if_lt (tgt := 9) S.1 S.2.1 (dd_at ddX10_text 1 rfl) (by decide) (fun hc_23 => ?_) (fun hc_23 => ?_)
  · have h := h.1 hc_23
    exact tb9 d H locs ls h hw (lv_sub hl [0] rfl)
  · have h := h.2 hc_23
    refine lv_iload_n S.1 S.2.1 (dd_at ddX10_text 2 rfl) rfl (lv_at hl 1 rfl) ?_
    refine lv_iconst (v := 4) S.1 S.2.1 (dd_at ddX10_text 3 rfl) (by decide) ?_
    refine lv_icmp_lt (tgt := 25) S.1 S.2.1 (dd_at ddX10_text 4 rfl) (by decide) (fun hc_24 => ?_) (fun hc_24 => ?_)
    · have h := h.1 hc_24
      refine lv_aload_n S.1 S.2.1 (dd_at ddX10_text 13 rfl) rfl (lv_at hl 0 rfl) ?_
      obtain ⟨b_25, hb_26, ho_27, h⟩ := h
      refine r_getR S hw 10 3 rfl inG10 (by decide) (List.mem_cons_of_mem _ wg21) (by decide) ha0 hb_26 (dd_at ddX10_text 14 rfl) ?_
      refine lv_iload_n S.1 S.2.1 (dd_at ddX10_text 15 rfl) rfl (lv_at hl 1 rfl) ?_
      refine r_callI hw (r_runV (As := [.int p1]) (rest := []) S hw (m_X2_reads l D cs E d H.size b_25 p1 _) (cwV 1 S.2.2.2.2 (gV wg230 wg231 wg232 wg20 wg233) rfl rfl rfl (by decide +kernel) ⟨Nat.le_of_ble_eq_true rfl, Nat.le_of_ble_eq_true rfl⟩) (ci := 2) rfl ho_27 h rfl hl.1 rfl (Nat.le_of_ble_eq_true rfl) (dd_at ddX10_text 16 rfl) ⟨Nat.le_of_ble_eq_true rfl, Nat.le_of_ble_eq_true rfl⟩) (fun r_29 d_28 H locs h hw => ?_)
      refine lv_istore_n (lv' := [(2, .int r_29), (0, .ref a0), (1, .int p1)]) S.1 S.2.1 (dd_at ddX10_text 17 rfl) rfl hl (by decide) rfl (fun ls hl => ?_)
      refine lv_aload_n S.1 S.2.1 (dd_at ddX10_text 18 rfl) rfl (lv_at hl 1 rfl) ?_
      obtain ⟨b_30, hb_31, ho_32, h⟩ := h
      refine r_getR S hw 10 3 rfl inG10 (by decide) (List.mem_cons_of_mem _ wg21) (by decide) ha0 hb_31 (dd_at ddX10_text 19 rfl) ?_
      refine lv_iconst (v := 0) S.1 S.2.1 (dd_at ddX10_text 20 rfl) (by decide) ?_
      refine r_callV hw (r_runV (As := [.int 0]) (rest := []) S hw (m_X2_cut l D cs E d_28 H.size b_30 0 _) (cwV 1 S.2.2.2.2 (gV wg207 wg208 wg209 wg20 wg210) rfl rfl rfl (by decide +kernel) ⟨Nat.le_of_ble_eq_true rfl, Nat.le_of_ble_eq_true rfl⟩) (ci := 2) rfl ho_32 h rfl hl.1 rfl (Nat.le_of_ble_eq_true rfl) (dd_at ddX10_text 21 rfl) ⟨Nat.le_of_ble_eq_true rfl, Nat.le_of_ble_eq_true rfl⟩) (fun d_33 H locs h hw => ?_)
      refine lv_aload_n S.1 S.2.1 (dd_at ddX10_text 22 rfl) rfl (lv_at hl 1 rfl) ?_
      refine lv_iload_n S.1 S.2.1 (dd_at ddX10_text 23 rfl) rfl (lv_at hl 0 rfl) ?_
      refine lv_if_eq (tgt := 51) S.1 S.2.1 (dd_at ddX10_text 24 rfl) (by decide) (fun hc_35 => ?_) (fun hc_35 => ?_)
      · have h := h.1 hc_35
        refine lv_aload_n S.1 S.2.1 (dd_at ddX10_text 27 rfl) rfl (lv_at hl 1 rfl) ?_
        obtain ⟨b_36, hb_37, ho_38, h⟩ := h
        refine r_getR S hw 10 3 rfl inG10 (by decide) (List.mem_cons_of_mem _ wg21) (by decide) ha0 hb_37 (dd_at ddX10_text 28 rfl) ?_
        refine r_callI hw (r_runV (As := []) (rest := [.ref a0]) S hw (m_X2_wrongAt l D cs E d_33 H.size b_36 _) (cwV 0 S.2.2.2.2 (gV wg357 wg358 wg359 wg20 wg360) rfl rfl rfl (by decide +kernel) ⟨Nat.le_of_ble_eq_true rfl, Nat.le_of_ble_eq_true rfl⟩) (ci := 2) rfl ho_38 h rfl hl.1 rfl (Nat.le_of_ble_eq_true rfl) (dd_at ddX10_text 29 rfl) ⟨Nat.le_of_ble_eq_true rfl, Nat.le_of_ble_eq_true rfl⟩) (fun r_40 d_39 H locs h hw => ?_)
        exact tb58 r_29 a0 r_40 d_39 H locs ls h hw (lv_sub hl [1, 2, 0] rfl)
      · have h := h.2 hc_35
        refine lv_iconst (v := -1) S.1 S.2.1 (dd_at ddX10_text 25 rfl) (by decide) ?_
        refine lv_goto (tgt := 58) S.1 S.2.1 (dd_at ddX10_text 26 rfl) (by decide) ?_
        exact tb58 r_29 a0 (-1) d_33 H locs ls h hw (lv_sub hl [1, 2, 0] rfl)
    · have h := h.2 hc_24
      exact tb9 d H locs ls h hw (lv_sub hl [0] rfl)

def w_X10_fault (E : En) (a0 : Nat) (d : Dy) (K : Int32 → Dy → Prop) : Prop := okO E a0 10 ∧ K (gI d a0 4) d
abbrev rm_X10_fault : Room := { frames := 0, cells := 0, slots := 0, locals := 0 }
set_option maxRecDepth 100000 in
set_option maxHeartbeats 4000000 in
theorem m_X10_fault (l : Launch) (D : va_G) (cs : Nat → ClassId) (E : En) (d : Dy) (sz : Nat) (a0 : Nat) (K : Int32 → Dy → Prop) : CI l yX10_fault (.code yX10_fault cX10_fault 1 (some .int) :: wsL_law) rm_X10_fault D cs E d sz [.ref a0] (w_X10_fault E a0 d K) K := by
  refine e_of (cc := cX10_fault) (maxL := 1) (ret := (some .int)) (own := RX10) (by decide) rfl rfl (Nat.le_of_ble_eq_true rfl) ?_
  intro p e s m below meth c S hr hlocks hsz H locs hw h ls hl
  have hl : lv_has ls 1 [(0, .ref a0)] := hl
  unfold w_X10_fault at h
  obtain ⟨ha0, h⟩ := h
  refine lv_aload_n S.1 S.2.1 (dd_at ddX10_fault 0 rfl) rfl (lv_at hl 0 rfl) ?_
  refine r_getI S hw 10 4 rfl inG10 (by decide) (List.mem_cons_of_mem _ wg22) (by decide) ha0 (dd_at ddX10_fault 1 rfl) ?_
  exact e_I S hr hlocks hw h (dd_at ddX10_fault 2 rfl)

def w_X10_needBetween (E : En) (p0 : Int32) (p1 : Int32) (p2 : Int32) (d : Dy) (K : Dy → Prop) (X : String → Dy → Prop) : Prop := ((p0 < p1 → w_X10_need E 0 d (fun d_2 => K d_2) X) ∧ (¬ p0 < p1 → ((p2 < p0 → w_X10_need E 0 d (fun d_5 => K d_5) X) ∧ (¬ p2 < p0 → w_X10_need E 1 d (fun d_7 => K d_7) X))))
abbrev rm_X10_needBetween : Room := { frames := 7, cells := 1, slots := 6, locals := 120 }
set_option maxRecDepth 100000 in
set_option maxHeartbeats 4000000 in
theorem m_X10_needBetween (l : Launch) (hst : l.stackTraces = false) (D : va_G) (cs : Nat → ClassId) (E : En) (d : Dy) (sz : Nat) (p0 : Int32) (p1 : Int32) (p2 : Int32) (K : Dy → Prop) (X : String → Dy → Prop) : XV l yX10_needBetween (.code yX10_needBetween cX10_needBetween 3 none :: wsL_law) rm_X10_needBetween D cs E d sz [.int p0, .int p1, .int p2] (w_X10_needBetween E p0 p1 p2 d K X) K X := by
  refine e_ofX (cc := cX10_needBetween) (maxL := 3) (ret := none) (own := RX10) (by decide) rfl rfl (Nat.le_of_ble_eq_true rfl) ?_
  intro p e s m below meth c S hr hlocks hsz hT H locs hw h ls hl
  have hl : lv_has ls 3 [(0, .int p0), (1, .int p1), (2, .int p2)] := hl
  unfold w_X10_needBetween at h
  refine lv_iload_n S.1 S.2.1 (dd_at ddX10_needBetween 0 rfl) rfl (lv_at hl 0 rfl) ?_
  refine lv_iload_n S.1 S.2.1 (dd_at ddX10_needBetween 1 rfl) rfl (lv_at hl 1 rfl) ?_
  refine lv_icmp_lt (tgt := 14) S.1 S.2.1 (dd_at ddX10_needBetween 2 rfl) (by decide) (fun hc_1 => ?_) (fun hc_1 => ?_)
  · have h := h.1 hc_1
    refine lv_iconst (v := 0) S.1 S.2.1 (dd_at ddX10_needBetween 8 rfl) (by decide) ?_
    refine r_xcallV hT hlocks hw (r_xrunS (As := [.int 0]) (rest := []) S hw (m_X10_need l hst D cs E d H.size 0 _ _) (va_cwS 1 S.2.2.2.2 (gS wg361 wg362 wg2 wg363) rfl rfl rfl (by decide +kernel) ⟨Nat.le_of_ble_eq_true rfl, Nat.le_of_ble_eq_true rfl⟩) h rfl hl.1 rfl (Nat.le_of_ble_eq_true rfl) (dd_at ddX10_needBetween 9 rfl) ⟨Nat.le_of_ble_eq_true rfl, Nat.le_of_ble_eq_true rfl⟩) (Nat.le_of_ble_eq_true rfl) (Nat.le_of_ble_eq_true rfl) (fun d_2 H locs h hw => ?_)
    exact vx_ret (e_V S hr hlocks hw h (dd_at ddX10_needBetween 10 rfl))
  · have h := h.2 hc_1
    refine lv_iload_n S.1 S.2.1 (dd_at ddX10_needBetween 3 rfl) rfl (lv_at hl 0 rfl) ?_
    refine lv_iload_n S.1 S.2.1 (dd_at ddX10_needBetween 4 rfl) rfl (lv_at hl 2 rfl) ?_
    refine lv_icmp_gt (tgt := 14) S.1 S.2.1 (dd_at ddX10_needBetween 5 rfl) (by decide) (fun hc_4 => ?_) (fun hc_4 => ?_)
    · have h := h.1 hc_4
      refine lv_iconst (v := 0) S.1 S.2.1 (dd_at ddX10_needBetween 8 rfl) (by decide) ?_
      refine r_xcallV hT hlocks hw (r_xrunS (As := [.int 0]) (rest := []) S hw (m_X10_need l hst D cs E d H.size 0 _ _) (va_cwS 1 S.2.2.2.2 (gS wg361 wg362 wg2 wg363) rfl rfl rfl (by decide +kernel) ⟨Nat.le_of_ble_eq_true rfl, Nat.le_of_ble_eq_true rfl⟩) h rfl hl.1 rfl (Nat.le_of_ble_eq_true rfl) (dd_at ddX10_needBetween 9 rfl) ⟨Nat.le_of_ble_eq_true rfl, Nat.le_of_ble_eq_true rfl⟩) (Nat.le_of_ble_eq_true rfl) (Nat.le_of_ble_eq_true rfl) (fun d_5 H locs h hw => ?_)
      exact vx_ret (e_V S hr hlocks hw h (dd_at ddX10_needBetween 10 rfl))
    · have h := h.2 hc_4
      refine lv_iconst (v := 1) S.1 S.2.1 (dd_at ddX10_needBetween 6 rfl) (by decide) ?_
      refine lv_goto (tgt := 15) S.1 S.2.1 (dd_at ddX10_needBetween 7 rfl) (by decide) ?_
      refine r_xcallV hT hlocks hw (r_xrunS (As := [.int 1]) (rest := []) S hw (m_X10_need l hst D cs E d H.size 1 _ _) (va_cwS 1 S.2.2.2.2 (gS wg361 wg362 wg2 wg363) rfl rfl rfl (by decide +kernel) ⟨Nat.le_of_ble_eq_true rfl, Nat.le_of_ble_eq_true rfl⟩) h rfl hl.1 rfl (Nat.le_of_ble_eq_true rfl) (dd_at ddX10_needBetween 9 rfl) ⟨Nat.le_of_ble_eq_true rfl, Nat.le_of_ble_eq_true rfl⟩) (Nat.le_of_ble_eq_true rfl) (Nat.le_of_ble_eq_true rfl) (fun d_7 H locs h hw => ?_)
      exact vx_ret (e_V S hr hlocks hw h (dd_at ddX10_needBetween 10 rfl))

def w_X10_years (E : En) (a0 : Nat) (p1 : Int32) (d : Dy) (K : Int32 → Dy → Prop) (X : String → Dy → Prop) : Prop := okO E a0 10 ∧ ∃ b_1 : Nat, eR E a0 0 = some b_1 ∧ okO E b_1 8 ∧ w_X10_needBetween E p1 0 (2099 - (gI d b_1 0)) d (fun d_4 => ∃ b_6 : Nat, eR E a0 0 = some b_6 ∧ okO E b_6 8 ∧ ∃ b_9 : Nat, eR E a0 0 = some b_9 ∧ okO E b_9 8 ∧ K (gI (pI d_4 b_6 0 ((gI d_4 b_6 0) + p1)) b_9 0) (pI d_4 b_6 0 ((gI d_4 b_6 0) + p1))) X
abbrev rm_X10_years : Room := { frames := 8, cells := 1, slots := 6, locals := 142 }
set_option maxRecDepth 100000 in
set_option maxHeartbeats 4000000 in
theorem m_X10_years (l : Launch) (hst : l.stackTraces = false) (D : va_G) (cs : Nat → ClassId) (E : En) (d : Dy) (sz : Nat) (a0 : Nat) (p1 : Int32) (K : Int32 → Dy → Prop) (X : String → Dy → Prop) : XI l yX10_years (.code yX10_years cX10_years 2 (some .int) :: wsL_law) rm_X10_years D cs E d sz [.ref a0, .int p1] (w_X10_years E a0 p1 d K X) K X := by
  refine e_ofX (cc := cX10_years) (maxL := 2) (ret := (some .int)) (own := RX10) (by decide) rfl rfl (Nat.le_of_ble_eq_true rfl) ?_
  intro p e s m below meth c S hr hlocks hsz hT H locs hw h ls hl
  have hl : lv_has ls 2 [(0, .ref a0), (1, .int p1)] := hl
  unfold w_X10_years at h
  obtain ⟨ha0, h⟩ := h
  refine lv_iload_n S.1 S.2.1 (dd_at ddX10_years 0 rfl) rfl (lv_at hl 1 rfl) ?_
  refine lv_iconst (v := 0) S.1 S.2.1 (dd_at ddX10_years 1 rfl) (by decide) ?_
  refine lv_sipush (v := 2099) S.1 S.2.1 (dd_at ddX10_years 2 rfl) (by decide) ?_
  refine lv_aload_n S.1 S.2.1 (dd_at ddX10_years 3 rfl) rfl (lv_at hl 0 rfl) ?_
  obtain ⟨b_1, hb_2, ho_3, h⟩ := h
  refine r_getR S hw 10 0 rfl inG10 (by decide) (List.mem_cons_of_mem _ wg16) (by decide) ha0 hb_2 (dd_at ddX10_years 4 rfl) ?_
  refine r_getIN S hw 8 0 rfl inG8 (by decide) nx0 (by decide) ho_3 (dd_at ddX10_years 5 rfl) ?_
  refine lv_isub S.1 S.2.1 (dd_at ddX10_years 6 rfl) ?_
  refine r_xcallV hT hlocks hw (r_xrunS (As := [.int p1, .int 0, .int (2099 - (gI d b_1 0))]) (rest := []) S hw (m_X10_needBetween l hst D cs E d H.size p1 0 (2099 - (gI d b_1 0)) _ _) (va_cwS 3 S.2.2.2.2 (gS wg525 wg526 wg2 wg527) rfl rfl rfl (by decide +kernel) ⟨Nat.le_of_ble_eq_true rfl, Nat.le_of_ble_eq_true rfl⟩) h rfl hl.1 rfl (Nat.le_of_ble_eq_true rfl) (dd_at ddX10_years 7 rfl) ⟨Nat.le_of_ble_eq_true rfl, Nat.le_of_ble_eq_true rfl⟩) (Nat.le_of_ble_eq_true rfl) (Nat.le_of_ble_eq_true rfl) (fun d_4 H locs h hw => ?_)
  refine lv_aload_n S.1 S.2.1 (dd_at ddX10_years 8 rfl) rfl (lv_at hl 0 rfl) ?_
  obtain ⟨b_6, hb_7, ho_8, h⟩ := h
  refine r_getR S hw 10 0 rfl inG10 (by decide) (List.mem_cons_of_mem _ wg16) (by decide) ha0 hb_7 (dd_at ddX10_years 9 rfl) ?_
  refine lv_dup S.1 S.2.1 (dd_at ddX10_years 10 rfl) rfl ?_
  refine r_getIN S hw 8 0 rfl inG8 (by decide) nx0 (by decide) ho_8 (dd_at ddX10_years 11 rfl) ?_
  refine lv_iload_n S.1 S.2.1 (dd_at ddX10_years 12 rfl) rfl (lv_at hl 1 rfl) ?_
  refine lv_iadd S.1 S.2.1 (dd_at ddX10_years 13 rfl) ?_
  refine r_putIN S hw 8 0 (ty := .int) (v := (gI d_4 b_6 0) + p1) rfl inG8 tyX8 tyX8_ok nmX8 (by decide) nx0 (by decide) rfl (by decide +kernel) rfl rfl ho_8 (dd_at ddX10_years 14 rfl) (fun H locs hw => ?_)
  refine lv_aload_n S.1 S.2.1 (dd_at ddX10_years 15 rfl) rfl (lv_at hl 0 rfl) ?_
  obtain ⟨b_9, hb_10, ho_11, h⟩ := h
  refine r_getR S hw 10 0 rfl inG10 (by decide) (List.mem_cons_of_mem _ wg16) (by decide) ha0 hb_10 (dd_at ddX10_years 16 rfl) ?_
  refine r_getIN S hw 8 0 rfl inG8 (by decide) nx0 (by decide) ho_11 (dd_at ddX10_years 17 rfl) ?_
  exact vx_ret (e_I S hr hlocks hw h (dd_at ddX10_years 18 rfl))

def w_X10_needRoom (E : En) (a0 : Nat) (d : Dy) (K : Dy → Prop) (X : String → Dy → Prop) : Prop := okO E a0 6 ∧ w_X6_isFull E a0 d (fun r_2 d_1 => ((r_2 = 0 → K d_1) ∧ (¬ r_2 = 0 → X "java/lang/UnsupportedOperationException" d_1)))
abbrev rm_X10_needRoom : Room := { frames := 6, cells := 1, slots := 6, locals := 100 }
set_option maxRecDepth 100000 in
set_option maxHeartbeats 4000000 in
theorem m_X10_needRoom (l : Launch) (hst : l.stackTraces = false) (D : va_G) (cs : Nat → ClassId) (E : En) (d : Dy) (sz : Nat) (a0 : Nat) (K : Dy → Prop) (X : String → Dy → Prop) : XV l yX10_needRoom (.code yX10_needRoom cX10_needRoom 1 none :: wsL_law) rm_X10_needRoom D cs E d sz [.ref a0] (w_X10_needRoom E a0 d K X) K X := by
  refine e_ofX (cc := cX10_needRoom) (maxL := 1) (ret := none) (own := RX10) (by decide) rfl rfl (Nat.le_of_ble_eq_true rfl) ?_
  intro p e s m below meth c S hr hlocks hsz hT H locs hw h ls hl
  have hl : lv_has ls 1 [(0, .ref a0)] := hl
  unfold w_X10_needRoom at h
  obtain ⟨ha0, h⟩ := h
  refine lv_aload_n S.1 S.2.1 (dd_at ddX10_needRoom 0 rfl) rfl (lv_at hl 0 rfl) ?_
  refine r_callI hw (r_runV (As := []) (rest := []) S hw (m_X6_isFull l D cs E d H.size a0 _) (cwV 0 S.2.2.2.2 (gV wg545 wg546 wg547 wg51 wg548) rfl rfl rfl (by decide +kernel) ⟨Nat.le_of_ble_eq_true rfl, Nat.le_of_ble_eq_true rfl⟩) (ci := 6) rfl ha0 h rfl hl.1 rfl (Nat.le_of_ble_eq_true rfl) (dd_at ddX10_needRoom 1 rfl) ⟨Nat.le_of_ble_eq_true rfl, Nat.le_of_ble_eq_true rfl⟩) (fun r_2 d_1 H locs h hw => ?_)
  refine lv_if_eq (tgt := 15) S.1 S.2.1 (dd_at ddX10_needRoom 2 rfl) (by decide) (fun hc_3 => ?_) (fun hc_3 => ?_)
  · have h := h.1 hc_3
    refine W.widen (k := 1) (n := 6) (Nat.le_of_ble_eq_true rfl) (Nat.le_of_ble_eq_true rfl) ?_
    exact vx_ret (e_V S hr hlocks hw h (dd_at ddX10_needRoom 7 rfl))
  · have h := h.2 hc_3
    exact r_throw hst S hT hlocks hw wg543 wg544 xa347 xn347 (by decide) xg345_347 hl.1 (dd_at ddX10_needRoom 3 rfl) (dd_at ddX10_needRoom 4 rfl) (dd_at ddX10_needRoom 5 rfl) (dd_at ddX10_needRoom 6 rfl) (Nat.lt_of_lt_of_le (Nat.lt_succ_self 5) (Nat.le_of_ble_eq_true rfl)) (Nat.le_of_ble_eq_true rfl) (Nat.le_of_ble_eq_true rfl) (Nat.le_of_ble_eq_true rfl) h (Nat.le_of_ble_eq_true rfl) (Nat.le_of_ble_eq_true rfl)

def w_X10_person (E : En) (a0 : Nat) (p1 : Int32) (p2 : Int32) (p3 : Int32) (d : Dy) (K : Int32 → Dy → Prop) (X : String → Dy → Prop) : Prop := okO E a0 10 ∧ w_X10_needBetween E p1 1900 2099 d (fun d_1 => w_X10_needBetween E p2 0 9999 d_1 (fun d_3 => ∃ b_5 : Nat, eR E a0 0 = some b_5 ∧ okO E b_5 8 ∧ ∃ b_8 : Nat, eR E b_5 1 = some b_8 ∧ okO E b_8 6 ∧ w_X10_needRoom E b_8 d_3 (fun d_11 => ∃ b_13 : Nat, eR E a0 0 = some b_13 ∧ okO E b_13 8 ∧ ∃ b_16 : Nat, eR E b_13 1 = some b_16 ∧ okO E b_16 6 ∧ w_X6_open E b_16 d_11 (fun r_20 d_19 => ∃ b_21 : Nat, eR E a0 0 = some b_21 ∧ okO E b_21 8 ∧ ∃ b_24 : Nat, eR E b_21 1 = some b_24 ∧ okO E b_24 6 ∧ w_X6_set E b_24 r_20 0 p1 d_19 (fun d_27 => ∃ b_29 : Nat, eR E a0 0 = some b_29 ∧ okO E b_29 8 ∧ ∃ b_32 : Nat, eR E b_29 1 = some b_32 ∧ okO E b_32 6 ∧ w_X6_set E b_32 r_20 1 p2 d_27 (fun d_35 => ∃ b_37 : Nat, eR E a0 0 = some b_37 ∧ okO E b_37 8 ∧ ∃ b_40 : Nat, eR E b_37 1 = some b_40 ∧ okO E b_40 6 ∧ ((p3 = 0 → w_X6_set E b_40 r_20 2 0 d_35 (fun d_44 => K r_20 d_44)) ∧ (¬ p3 = 0 → w_X6_set E b_40 r_20 2 1 d_35 (fun d_46 => K r_20 d_46))))))) X) X) X
abbrev rm_X10_person : Room := { frames := 8, cells := 3, slots := 18, locals := 142 }
set_option maxRecDepth 100000 in
set_option maxHeartbeats 4000000 in
theorem m_X10_person (l : Launch) (hst : l.stackTraces = false) (D : va_G) (cs : Nat → ClassId) (E : En) (d : Dy) (sz : Nat) (a0 : Nat) (p1 : Int32) (p2 : Int32) (p3 : Int32) (K : Int32 → Dy → Prop) (X : String → Dy → Prop) : XI l yX10_person (.code yX10_person cX10_person 5 (some .int) :: wsL_law) rm_X10_person D cs E d sz [.ref a0, .int p1, .int p2, .int p3] (w_X10_person E a0 p1 p2 p3 d K X) K X := by
  refine e_ofX (cc := cX10_person) (maxL := 5) (ret := (some .int)) (own := RX10) (by decide) rfl rfl (Nat.le_of_ble_eq_true rfl) ?_
  intro p e s m below meth c S hr hlocks hsz hT H locs hw h ls hl
  have hl : lv_has ls 5 [(0, .ref a0), (1, .int p1), (2, .int p2), (3, .int p3)] := hl
  unfold w_X10_person at h
  obtain ⟨ha0, h⟩ := h
  refine lv_iload_n S.1 S.2.1 (dd_at ddX10_person 0 rfl) rfl (lv_at hl 1 rfl) ?_
  refine lv_sipush (v := 1900) S.1 S.2.1 (dd_at ddX10_person 1 rfl) (by decide) ?_
  refine lv_sipush (v := 2099) S.1 S.2.1 (dd_at ddX10_person 2 rfl) (by decide) ?_
  refine r_xcallV hT hlocks hw (r_xrunS (As := [.int p1, .int 1900, .int 2099]) (rest := []) S hw (m_X10_needBetween l hst D cs E d H.size p1 1900 2099 _ _) (va_cwS 3 S.2.2.2.2 (gS wg525 wg526 wg2 wg527) rfl rfl rfl (by decide +kernel) ⟨Nat.le_of_ble_eq_true rfl, Nat.le_of_ble_eq_true rfl⟩) h rfl hl.1 rfl (Nat.le_of_ble_eq_true rfl) (dd_at ddX10_person 3 rfl) ⟨Nat.le_of_ble_eq_true rfl, Nat.le_of_ble_eq_true rfl⟩) (Nat.le_of_ble_eq_true rfl) (Nat.le_of_ble_eq_true rfl) (fun d_1 H locs h hw => ?_)
  refine lv_iload_n S.1 S.2.1 (dd_at ddX10_person 4 rfl) rfl (lv_at hl 2 rfl) ?_
  refine lv_iconst (v := 0) S.1 S.2.1 (dd_at ddX10_person 5 rfl) (by decide) ?_
  refine lv_sipush (v := 9999) S.1 S.2.1 (dd_at ddX10_person 6 rfl) (by decide) ?_
  refine r_xcallV hT hlocks hw (r_xrunS (As := [.int p2, .int 0, .int 9999]) (rest := []) S hw (m_X10_needBetween l hst D cs E d_1 H.size p2 0 9999 _ _) (va_cwS 3 S.2.2.2.2 (gS wg525 wg526 wg2 wg527) rfl rfl rfl (by decide +kernel) ⟨Nat.le_of_ble_eq_true rfl, Nat.le_of_ble_eq_true rfl⟩) h rfl hl.1 rfl (Nat.le_of_ble_eq_true rfl) (dd_at ddX10_person 7 rfl) ⟨Nat.le_of_ble_eq_true rfl, Nat.le_of_ble_eq_true rfl⟩) (Nat.le_of_ble_eq_true rfl) (Nat.le_of_ble_eq_true rfl) (fun d_3 H locs h hw => ?_)
  refine lv_aload_n S.1 S.2.1 (dd_at ddX10_person 8 rfl) rfl (lv_at hl 0 rfl) ?_
  obtain ⟨b_5, hb_6, ho_7, h⟩ := h
  refine r_getR S hw 10 0 rfl inG10 (by decide) (List.mem_cons_of_mem _ wg16) (by decide) ha0 hb_6 (dd_at ddX10_person 9 rfl) ?_
  obtain ⟨b_8, hb_9, ho_10, h⟩ := h
  refine r_getRN S hw 8 1 rfl inG8 (by decide) nx3 (by decide) ho_7 hb_9 (dd_at ddX10_person 10 rfl) ?_
  refine r_xcallV hT hlocks hw (r_xrunS (As := [.ref b_8]) (rest := []) S hw (m_X10_needRoom l hst D cs E d_3 H.size b_8 _ _) (va_cwS 1 S.2.2.2.2 (gS wg540 wg541 wg2 wg542) rfl rfl rfl (by decide +kernel) ⟨Nat.le_of_ble_eq_true rfl, Nat.le_of_ble_eq_true rfl⟩) h rfl hl.1 rfl (Nat.le_of_ble_eq_true rfl) (dd_at ddX10_person 11 rfl) ⟨Nat.le_of_ble_eq_true rfl, Nat.le_of_ble_eq_true rfl⟩) (Nat.le_of_ble_eq_true rfl) (Nat.le_of_ble_eq_true rfl) (fun d_11 H locs h hw => ?_)
  refine lv_aload_n S.1 S.2.1 (dd_at ddX10_person 12 rfl) rfl (lv_at hl 0 rfl) ?_
  obtain ⟨b_13, hb_14, ho_15, h⟩ := h
  refine r_getR S hw 10 0 rfl inG10 (by decide) (List.mem_cons_of_mem _ wg16) (by decide) ha0 hb_14 (dd_at ddX10_person 13 rfl) ?_
  obtain ⟨b_16, hb_17, ho_18, h⟩ := h
  refine r_getRN S hw 8 1 rfl inG8 (by decide) nx3 (by decide) ho_15 hb_17 (dd_at ddX10_person 14 rfl) ?_
  refine r_callI hw (r_runV (As := []) (rest := []) S hw (m_X6_open l D cs E d_11 H.size b_16 _) (cwV 0 S.2.2.2.2 (gV wg549 wg310 wg311 wg51 wg312) rfl rfl rfl (by decide +kernel) ⟨Nat.le_of_ble_eq_true rfl, Nat.le_of_ble_eq_true rfl⟩) (ci := 6) rfl ho_18 h rfl hl.1 rfl (Nat.le_of_ble_eq_true rfl) (dd_at ddX10_person 15 rfl) ⟨Nat.le_of_ble_eq_true rfl, Nat.le_of_ble_eq_true rfl⟩) (fun r_20 d_19 H locs h hw => ?_)
  refine lv_istore (lv' := [(4, .int r_20), (0, .ref a0), (1, .int p1), (2, .int p2), (3, .int p3)]) S.1 S.2.1 (dd_at ddX10_person 16 rfl) hl (by decide) rfl (fun ls hl => ?_)
  refine lv_aload_n S.1 S.2.1 (dd_at ddX10_person 17 rfl) rfl (lv_at hl 1 rfl) ?_
  obtain ⟨b_21, hb_22, ho_23, h⟩ := h
  refine r_getR S hw 10 0 rfl inG10 (by decide) (List.mem_cons_of_mem _ wg16) (by decide) ha0 hb_22 (dd_at ddX10_person 18 rfl) ?_
  obtain ⟨b_24, hb_25, ho_26, h⟩ := h
  refine r_getRN S hw 8 1 rfl inG8 (by decide) nx3 (by decide) ho_23 hb_25 (dd_at ddX10_person 19 rfl) ?_
  refine lv_iload S.1 S.2.1 (dd_at ddX10_person 20 rfl) (lv_at hl 0 rfl) ?_
  refine lv_iconst (v := 0) S.1 S.2.1 (dd_at ddX10_person 21 rfl) (by decide) ?_
  refine lv_iload_n S.1 S.2.1 (dd_at ddX10_person 22 rfl) rfl (lv_at hl 2 rfl) ?_
  refine r_callV hw (r_runV (As := [.int r_20, .int 0, .int p1]) (rest := []) S hw (m_X6_set l D cs E d_19 H.size b_24 r_20 0 p1 _) (cwV 3 S.2.2.2.2 (gV wg550 wg318 wg319 wg51 wg320) rfl rfl rfl (by decide +kernel) ⟨Nat.le_of_ble_eq_true rfl, Nat.le_of_ble_eq_true rfl⟩) (ci := 6) rfl ho_26 h rfl hl.1 rfl (Nat.le_of_ble_eq_true rfl) (dd_at ddX10_person 23 rfl) ⟨Nat.le_of_ble_eq_true rfl, Nat.le_of_ble_eq_true rfl⟩) (fun d_27 H locs h hw => ?_)
  refine lv_aload_n S.1 S.2.1 (dd_at ddX10_person 24 rfl) rfl (lv_at hl 1 rfl) ?_
  obtain ⟨b_29, hb_30, ho_31, h⟩ := h
  refine r_getR S hw 10 0 rfl inG10 (by decide) (List.mem_cons_of_mem _ wg16) (by decide) ha0 hb_30 (dd_at ddX10_person 25 rfl) ?_
  obtain ⟨b_32, hb_33, ho_34, h⟩ := h
  refine r_getRN S hw 8 1 rfl inG8 (by decide) nx3 (by decide) ho_31 hb_33 (dd_at ddX10_person 26 rfl) ?_
  refine lv_iload S.1 S.2.1 (dd_at ddX10_person 27 rfl) (lv_at hl 0 rfl) ?_
  refine lv_iconst (v := 1) S.1 S.2.1 (dd_at ddX10_person 28 rfl) (by decide) ?_
  refine lv_iload_n S.1 S.2.1 (dd_at ddX10_person 29 rfl) rfl (lv_at hl 3 rfl) ?_
  refine r_callV hw (r_runV (As := [.int r_20, .int 1, .int p2]) (rest := []) S hw (m_X6_set l D cs E d_27 H.size b_32 r_20 1 p2 _) (cwV 3 S.2.2.2.2 (gV wg550 wg318 wg319 wg51 wg320) rfl rfl rfl (by decide +kernel) ⟨Nat.le_of_ble_eq_true rfl, Nat.le_of_ble_eq_true rfl⟩) (ci := 6) rfl ho_34 h rfl hl.1 rfl (Nat.le_of_ble_eq_true rfl) (dd_at ddX10_person 30 rfl) ⟨Nat.le_of_ble_eq_true rfl, Nat.le_of_ble_eq_true rfl⟩) (fun d_35 H locs h hw => ?_)
  refine lv_aload_n S.1 S.2.1 (dd_at ddX10_person 31 rfl) rfl (lv_at hl 1 rfl) ?_
  obtain ⟨b_37, hb_38, ho_39, h⟩ := h
  refine r_getR S hw 10 0 rfl inG10 (by decide) (List.mem_cons_of_mem _ wg16) (by decide) ha0 hb_38 (dd_at ddX10_person 32 rfl) ?_
  obtain ⟨b_40, hb_41, ho_42, h⟩ := h
  refine r_getRN S hw 8 1 rfl inG8 (by decide) nx3 (by decide) ho_39 hb_41 (dd_at ddX10_person 33 rfl) ?_
  refine lv_iload S.1 S.2.1 (dd_at ddX10_person 34 rfl) (lv_at hl 0 rfl) ?_
  refine lv_iconst (v := 2) S.1 S.2.1 (dd_at ddX10_person 35 rfl) (by decide) ?_
  refine lv_iload_n S.1 S.2.1 (dd_at ddX10_person 36 rfl) rfl (lv_at hl 4 rfl) ?_
  refine lv_if_eq (tgt := 86) S.1 S.2.1 (dd_at ddX10_person 37 rfl) (by decide) (fun hc_43 => ?_) (fun hc_43 => ?_)
  · have h := h.1 hc_43
    refine lv_iconst (v := 0) S.1 S.2.1 (dd_at ddX10_person 40 rfl) (by decide) ?_
    refine r_callV hw (r_runV (As := [.int r_20, .int 2, .int 0]) (rest := []) S hw (m_X6_set l D cs E d_35 H.size b_40 r_20 2 0 _) (cwV 3 S.2.2.2.2 (gV wg550 wg318 wg319 wg51 wg320) rfl rfl rfl (by decide +kernel) ⟨Nat.le_of_ble_eq_true rfl, Nat.le_of_ble_eq_true rfl⟩) (ci := 6) rfl ho_42 h rfl hl.1 rfl (Nat.le_of_ble_eq_true rfl) (dd_at ddX10_person 41 rfl) ⟨Nat.le_of_ble_eq_true rfl, Nat.le_of_ble_eq_true rfl⟩) (fun d_44 H locs h hw => ?_)
    refine lv_iload S.1 S.2.1 (dd_at ddX10_person 42 rfl) (lv_at hl 0 rfl) ?_
    exact vx_ret (e_I S hr hlocks hw h (dd_at ddX10_person 43 rfl))
  · have h := h.2 hc_43
    refine lv_iconst (v := 1) S.1 S.2.1 (dd_at ddX10_person 38 rfl) (by decide) ?_
    refine lv_goto (tgt := 87) S.1 S.2.1 (dd_at ddX10_person 39 rfl) (by decide) ?_
    refine r_callV hw (r_runV (As := [.int r_20, .int 2, .int 1]) (rest := []) S hw (m_X6_set l D cs E d_35 H.size b_40 r_20 2 1 _) (cwV 3 S.2.2.2.2 (gV wg550 wg318 wg319 wg51 wg320) rfl rfl rfl (by decide +kernel) ⟨Nat.le_of_ble_eq_true rfl, Nat.le_of_ble_eq_true rfl⟩) (ci := 6) rfl ho_42 h rfl hl.1 rfl (Nat.le_of_ble_eq_true rfl) (dd_at ddX10_person 41 rfl) ⟨Nat.le_of_ble_eq_true rfl, Nat.le_of_ble_eq_true rfl⟩) (fun d_46 H locs h hw => ?_)
    refine lv_iload S.1 S.2.1 (dd_at ddX10_person 42 rfl) (lv_at hl 0 rfl) ?_
    exact vx_ret (e_I S hr hlocks hw h (dd_at ddX10_person 43 rfl))

def w_X10_needIndex (E : En) (p0 : Int32) (p1 : Int32) (d : Dy) (K : Dy → Prop) (X : String → Dy → Prop) : Prop := ((p0 < 0 → X "java/lang/IndexOutOfBoundsException" d) ∧ (¬ p0 < 0 → ((p0 < p1 → K d) ∧ (¬ p0 < p1 → X "java/lang/IndexOutOfBoundsException" d))))
abbrev rm_X10_needIndex : Room := { frames := 6, cells := 1, slots := 6, locals := 100 }
set_option maxRecDepth 100000 in
set_option maxHeartbeats 4000000 in
theorem m_X10_needIndex (l : Launch) (hst : l.stackTraces = false) (D : va_G) (cs : Nat → ClassId) (E : En) (d : Dy) (sz : Nat) (p0 : Int32) (p1 : Int32) (K : Dy → Prop) (X : String → Dy → Prop) : XV l yX10_needIndex (.code yX10_needIndex cX10_needIndex 2 none :: wsL_law) rm_X10_needIndex D cs E d sz [.int p0, .int p1] (w_X10_needIndex E p0 p1 d K X) K X := by
  refine e_ofX (cc := cX10_needIndex) (maxL := 2) (ret := none) (own := RX10) (by decide) rfl rfl (Nat.le_of_ble_eq_true rfl) ?_
  intro p e s m below meth c S hr hlocks hsz hT H locs hw h ls hl
  have hl : lv_has ls 2 [(0, .int p0), (1, .int p1)] := hl
  unfold w_X10_needIndex at h
  refine lv_iload_n S.1 S.2.1 (dd_at ddX10_needIndex 0 rfl) rfl (lv_at hl 0 rfl) ?_
  refine lv_if_lt (tgt := 9) S.1 S.2.1 (dd_at ddX10_needIndex 1 rfl) (by decide) (fun hc_1 => ?_) (fun hc_1 => ?_)
  · have h := h.1 hc_1
    exact r_throw hst S hT hlocks hw wg582 wg583 xa340 xn340 (by decide) xg338_340 hl.1 (dd_at ddX10_needIndex 5 rfl) (dd_at ddX10_needIndex 6 rfl) (dd_at ddX10_needIndex 7 rfl) (dd_at ddX10_needIndex 8 rfl) (Nat.lt_of_lt_of_le (Nat.lt_succ_self 5) (Nat.le_of_ble_eq_true rfl)) (Nat.le_of_ble_eq_true rfl) (Nat.le_of_ble_eq_true rfl) (Nat.le_of_ble_eq_true rfl) h (Nat.le_of_ble_eq_true rfl) (Nat.le_of_ble_eq_true rfl)
  · have h := h.2 hc_1
    refine lv_iload_n S.1 S.2.1 (dd_at ddX10_needIndex 2 rfl) rfl (lv_at hl 0 rfl) ?_
    refine lv_iload_n S.1 S.2.1 (dd_at ddX10_needIndex 3 rfl) rfl (lv_at hl 1 rfl) ?_
    refine lv_icmp_lt (tgt := 17) S.1 S.2.1 (dd_at ddX10_needIndex 4 rfl) (by decide) (fun hc_2 => ?_) (fun hc_2 => ?_)
    · have h := h.1 hc_2
      refine W.widen (k := 1) (n := 6) (Nat.le_of_ble_eq_true rfl) (Nat.le_of_ble_eq_true rfl) ?_
      exact vx_ret (e_V S hr hlocks hw h (dd_at ddX10_needIndex 9 rfl))
    · have h := h.2 hc_2
      exact r_throw hst S hT hlocks hw wg582 wg583 xa340 xn340 (by decide) xg338_340 hl.1 (dd_at ddX10_needIndex 5 rfl) (dd_at ddX10_needIndex 6 rfl) (dd_at ddX10_needIndex 7 rfl) (dd_at ddX10_needIndex 8 rfl) (Nat.lt_of_lt_of_le (Nat.lt_succ_self 5) (Nat.le_of_ble_eq_true rfl)) (Nat.le_of_ble_eq_true rfl) (Nat.le_of_ble_eq_true rfl) (Nat.le_of_ble_eq_true rfl) h (Nat.le_of_ble_eq_true rfl) (Nat.le_of_ble_eq_true rfl)

def w_X10_needPerson (E : En) (a0 : Nat) (p1 : Int32) (d : Dy) (K : Dy → Prop) (X : String → Dy → Prop) : Prop := okO E a0 10 ∧ ∃ b_1 : Nat, eR E a0 0 = some b_1 ∧ okO E b_1 8 ∧ ∃ b_4 : Nat, eR E b_1 1 = some b_4 ∧ okO E b_4 6 ∧ w_X6_size E b_4 d (fun r_8 d_7 => w_X10_needIndex E p1 r_8 d_7 (fun d_9 => K d_9) X)
abbrev rm_X10_needPerson : Room := { frames := 7, cells := 1, slots := 6, locals := 121 }
set_option maxRecDepth 100000 in
set_option maxHeartbeats 4000000 in
theorem m_X10_needPerson (l : Launch) (hst : l.stackTraces = false) (D : va_G) (cs : Nat → ClassId) (E : En) (d : Dy) (sz : Nat) (a0 : Nat) (p1 : Int32) (K : Dy → Prop) (X : String → Dy → Prop) : XV l yX10_needPerson (.code yX10_needPerson cX10_needPerson 2 none :: wsL_law) rm_X10_needPerson D cs E d sz [.ref a0, .int p1] (w_X10_needPerson E a0 p1 d K X) K X := by
  refine e_ofX (cc := cX10_needPerson) (maxL := 2) (ret := none) (own := RX10) (by decide) rfl rfl (Nat.le_of_ble_eq_true rfl) ?_
  intro p e s m below meth c S hr hlocks hsz hT H locs hw h ls hl
  have hl : lv_has ls 2 [(0, .ref a0), (1, .int p1)] := hl
  unfold w_X10_needPerson at h
  obtain ⟨ha0, h⟩ := h
  refine lv_iload_n S.1 S.2.1 (dd_at ddX10_needPerson 0 rfl) rfl (lv_at hl 1 rfl) ?_
  refine lv_aload_n S.1 S.2.1 (dd_at ddX10_needPerson 1 rfl) rfl (lv_at hl 0 rfl) ?_
  obtain ⟨b_1, hb_2, ho_3, h⟩ := h
  refine r_getR S hw 10 0 rfl inG10 (by decide) (List.mem_cons_of_mem _ wg16) (by decide) ha0 hb_2 (dd_at ddX10_needPerson 2 rfl) ?_
  obtain ⟨b_4, hb_5, ho_6, h⟩ := h
  refine r_getRN S hw 8 1 rfl inG8 (by decide) nx3 (by decide) ho_3 hb_5 (dd_at ddX10_needPerson 3 rfl) ?_
  refine r_callI hw (r_runV (As := []) (rest := [.int p1]) S hw (m_X6_size l D cs E d H.size b_4 _) (cwV 0 S.2.2.2.2 (gV wg578 wg372 wg373 wg51 wg374) rfl rfl rfl (by decide +kernel) ⟨Nat.le_of_ble_eq_true rfl, Nat.le_of_ble_eq_true rfl⟩) (ci := 6) rfl ho_6 h rfl hl.1 rfl (Nat.le_of_ble_eq_true rfl) (dd_at ddX10_needPerson 4 rfl) ⟨Nat.le_of_ble_eq_true rfl, Nat.le_of_ble_eq_true rfl⟩) (fun r_8 d_7 H locs h hw => ?_)
  refine r_xcallV hT hlocks hw (r_xrunS (As := [.int p1, .int r_8]) (rest := []) S hw (m_X10_needIndex l hst D cs E d_7 H.size p1 r_8 _ _) (va_cwS 2 S.2.2.2.2 (gS wg579 wg580 wg2 wg581) rfl rfl rfl (by decide +kernel) ⟨Nat.le_of_ble_eq_true rfl, Nat.le_of_ble_eq_true rfl⟩) h rfl hl.1 rfl (Nat.le_of_ble_eq_true rfl) (dd_at ddX10_needPerson 5 rfl) ⟨Nat.le_of_ble_eq_true rfl, Nat.le_of_ble_eq_true rfl⟩) (Nat.le_of_ble_eq_true rfl) (Nat.le_of_ble_eq_true rfl) (fun d_9 H locs h hw => ?_)
  exact vx_ret (e_V S hr hlocks hw h (dd_at ddX10_needPerson 6 rfl))

def b_X10_hut_10 (E : En) (a0 : Nat) (p1 : Int32) (p2 : Int32) (p3 : Int32) (K : Int32 → Dy → Prop) (X : String → Dy → Prop) (d : Dy) : Prop := w_X10_needBetween E p1 1 9 d (fun d_1 => w_X10_needBetween E p3 0 20 d_1 (fun d_3 => ∃ b_5 : Nat, eR E a0 0 = some b_5 ∧ okO E b_5 8 ∧ ∃ b_8 : Nat, eR E b_5 2 = some b_8 ∧ okO E b_8 6 ∧ w_X10_needRoom E b_8 d_3 (fun d_11 => ∃ b_13 : Nat, eR E a0 0 = some b_13 ∧ okO E b_13 8 ∧ ∃ b_16 : Nat, eR E b_13 2 = some b_16 ∧ okO E b_16 6 ∧ w_X6_open E b_16 d_11 (fun r_20 d_19 => ∃ b_21 : Nat, eR E a0 0 = some b_21 ∧ okO E b_21 8 ∧ ∃ b_24 : Nat, eR E b_21 2 = some b_24 ∧ okO E b_24 6 ∧ w_X6_set E b_24 r_20 0 p1 d_19 (fun d_27 => ∃ b_29 : Nat, eR E a0 0 = some b_29 ∧ okO E b_29 8 ∧ ∃ b_32 : Nat, eR E b_29 2 = some b_32 ∧ okO E b_32 6 ∧ w_X6_set E b_32 r_20 1 p2 d_27 (fun d_35 => ∃ b_37 : Nat, eR E a0 0 = some b_37 ∧ okO E b_37 8 ∧ ∃ b_40 : Nat, eR E b_37 2 = some b_40 ∧ okO E b_40 6 ∧ w_X6_set E b_40 r_20 2 p3 d_35 (fun d_43 => ∃ b_45 : Nat, eR E a0 0 = some b_45 ∧ okO E b_45 8 ∧ ∃ b_48 : Nat, eR E b_45 2 = some b_48 ∧ okO E b_48 6 ∧ w_X6_set E b_48 r_20 4 99 d_43 (fun d_51 => K r_20 d_51)))))) X) X) X
def w_X10_hut (E : En) (a0 : Nat) (p1 : Int32) (p2 : Int32) (p3 : Int32) (d : Dy) (K : Int32 → Dy → Prop) (X : String → Dy → Prop) : Prop := okO E a0 10 ∧ ((p2 = (-1) → b_X10_hut_10 E a0 p1 p2 p3 K X d) ∧ (¬ p2 = (-1) → w_X10_needPerson E a0 p2 d (fun d_54 => b_X10_hut_10 E a0 p1 p2 p3 K X d_54) X))
abbrev rm_X10_hut : Room := { frames := 8, cells := 4, slots := 24, locals := 142 }
set_option maxRecDepth 100000 in
set_option maxHeartbeats 4000000 in
theorem m_X10_hut (l : Launch) (hst : l.stackTraces = false) (D : va_G) (cs : Nat → ClassId) (E : En) (d : Dy) (sz : Nat) (a0 : Nat) (p1 : Int32) (p2 : Int32) (p3 : Int32) (K : Int32 → Dy → Prop) (X : String → Dy → Prop) : XI l yX10_hut (.code yX10_hut cX10_hut 5 (some .int) :: wsL_law) rm_X10_hut D cs E d sz [.ref a0, .int p1, .int p2, .int p3] (w_X10_hut E a0 p1 p2 p3 d K X) K X := by
  refine e_ofX (cc := cX10_hut) (maxL := 5) (ret := (some .int)) (own := RX10) (by decide) rfl rfl (Nat.le_of_ble_eq_true rfl) ?_
  intro p e s m below meth c S hr hlocks hsz hT H locs hw h ls hl
  have hl : lv_has ls 5 [(0, .ref a0), (1, .int p1), (2, .int p2), (3, .int p3)] := hl
  unfold w_X10_hut at h
  obtain ⟨ha0, h⟩ := h
  have tb10 : ∀ (d : Dy) (H : Heap) (locs : List Loc) (ls : Array Slot), b_X10_hut_10 E a0 p1 p2 p3 K X d → Wd D cs (AW E sz) s.heap s E d H locs → lv_has ls 5 [(0, .ref a0), (1, .int p1), (2, .int p2), (3, .int p3)] → W p l e rm_X10_hut s m ([.ref a0, .int p1, .int p2, .int p3] : List Value).toArray below meth c H locs 1 6 (vx_MQ below (va_Qi K (OutW D cs E (AW E sz)) (AW E sz)) (XX D cs E sz X) ([.ref a0, .int p1, .int p2, .int p3] : List Value).toArray s rm_X10_hut.cells rm_X10_hut.slots (AW E sz)) (F0 m 10 ls []) := by
    intro d H locs ls h hw hl
    unfold b_X10_hut_10 at h
    refine lv_iload_n S.1 S.2.1 (dd_at ddX10_hut 6 rfl) rfl (lv_at hl 1 rfl) ?_
    refine lv_iconst (v := 1) S.1 S.2.1 (dd_at ddX10_hut 7 rfl) (by decide) ?_
    refine lv_bipush (v := 9) S.1 S.2.1 (dd_at ddX10_hut 8 rfl) (by decide) ?_
    refine r_xcallV hT hlocks hw (r_xrunS (As := [.int p1, .int 1, .int 9]) (rest := []) S hw (m_X10_needBetween l hst D cs E d H.size p1 1 9 _ _) (va_cwS 3 S.2.2.2.2 (gS wg525 wg526 wg2 wg527) rfl rfl rfl (by decide +kernel) ⟨Nat.le_of_ble_eq_true rfl, Nat.le_of_ble_eq_true rfl⟩) h rfl hl.1 rfl (Nat.le_of_ble_eq_true rfl) (dd_at ddX10_hut 9 rfl) ⟨Nat.le_of_ble_eq_true rfl, Nat.le_of_ble_eq_true rfl⟩) (Nat.le_of_ble_eq_true rfl) (Nat.le_of_ble_eq_true rfl) (fun d_1 H locs h hw => ?_)
    refine lv_iload_n S.1 S.2.1 (dd_at ddX10_hut 10 rfl) rfl (lv_at hl 3 rfl) ?_
    refine lv_iconst (v := 0) S.1 S.2.1 (dd_at ddX10_hut 11 rfl) (by decide) ?_
    refine lv_bipush (v := 20) S.1 S.2.1 (dd_at ddX10_hut 12 rfl) (by decide) ?_
    refine r_xcallV hT hlocks hw (r_xrunS (As := [.int p3, .int 0, .int 20]) (rest := []) S hw (m_X10_needBetween l hst D cs E d_1 H.size p3 0 20 _ _) (va_cwS 3 S.2.2.2.2 (gS wg525 wg526 wg2 wg527) rfl rfl rfl (by decide +kernel) ⟨Nat.le_of_ble_eq_true rfl, Nat.le_of_ble_eq_true rfl⟩) h rfl hl.1 rfl (Nat.le_of_ble_eq_true rfl) (dd_at ddX10_hut 13 rfl) ⟨Nat.le_of_ble_eq_true rfl, Nat.le_of_ble_eq_true rfl⟩) (Nat.le_of_ble_eq_true rfl) (Nat.le_of_ble_eq_true rfl) (fun d_3 H locs h hw => ?_)
    refine lv_aload_n S.1 S.2.1 (dd_at ddX10_hut 14 rfl) rfl (lv_at hl 0 rfl) ?_
    obtain ⟨b_5, hb_6, ho_7, h⟩ := h
    refine r_getR S hw 10 0 rfl inG10 (by decide) (List.mem_cons_of_mem _ wg16) (by decide) ha0 hb_6 (dd_at ddX10_hut 15 rfl) ?_
    obtain ⟨b_8, hb_9, ho_10, h⟩ := h
    refine r_getRN S hw 8 2 rfl inG8 (by decide) nx7 (by decide) ho_7 hb_9 (dd_at ddX10_hut 16 rfl) ?_
    refine r_xcallV hT hlocks hw (r_xrunS (As := [.ref b_8]) (rest := []) S hw (m_X10_needRoom l hst D cs E d_3 H.size b_8 _ _) (va_cwS 1 S.2.2.2.2 (gS wg540 wg541 wg2 wg542) rfl rfl rfl (by decide +kernel) ⟨Nat.le_of_ble_eq_true rfl, Nat.le_of_ble_eq_true rfl⟩) h rfl hl.1 rfl (Nat.le_of_ble_eq_true rfl) (dd_at ddX10_hut 17 rfl) ⟨Nat.le_of_ble_eq_true rfl, Nat.le_of_ble_eq_true rfl⟩) (Nat.le_of_ble_eq_true rfl) (Nat.le_of_ble_eq_true rfl) (fun d_11 H locs h hw => ?_)
    refine lv_aload_n S.1 S.2.1 (dd_at ddX10_hut 18 rfl) rfl (lv_at hl 0 rfl) ?_
    obtain ⟨b_13, hb_14, ho_15, h⟩ := h
    refine r_getR S hw 10 0 rfl inG10 (by decide) (List.mem_cons_of_mem _ wg16) (by decide) ha0 hb_14 (dd_at ddX10_hut 19 rfl) ?_
    obtain ⟨b_16, hb_17, ho_18, h⟩ := h
    refine r_getRN S hw 8 2 rfl inG8 (by decide) nx7 (by decide) ho_15 hb_17 (dd_at ddX10_hut 20 rfl) ?_
    refine r_callI hw (r_runV (As := []) (rest := []) S hw (m_X6_open l D cs E d_11 H.size b_16 _) (cwV 0 S.2.2.2.2 (gV wg549 wg310 wg311 wg51 wg312) rfl rfl rfl (by decide +kernel) ⟨Nat.le_of_ble_eq_true rfl, Nat.le_of_ble_eq_true rfl⟩) (ci := 6) rfl ho_18 h rfl hl.1 rfl (Nat.le_of_ble_eq_true rfl) (dd_at ddX10_hut 21 rfl) ⟨Nat.le_of_ble_eq_true rfl, Nat.le_of_ble_eq_true rfl⟩) (fun r_20 d_19 H locs h hw => ?_)
    refine lv_istore (lv' := [(4, .int r_20), (0, .ref a0), (1, .int p1), (2, .int p2), (3, .int p3)]) S.1 S.2.1 (dd_at ddX10_hut 22 rfl) hl (by decide) rfl (fun ls hl => ?_)
    refine lv_aload_n S.1 S.2.1 (dd_at ddX10_hut 23 rfl) rfl (lv_at hl 1 rfl) ?_
    obtain ⟨b_21, hb_22, ho_23, h⟩ := h
    refine r_getR S hw 10 0 rfl inG10 (by decide) (List.mem_cons_of_mem _ wg16) (by decide) ha0 hb_22 (dd_at ddX10_hut 24 rfl) ?_
    obtain ⟨b_24, hb_25, ho_26, h⟩ := h
    refine r_getRN S hw 8 2 rfl inG8 (by decide) nx7 (by decide) ho_23 hb_25 (dd_at ddX10_hut 25 rfl) ?_
    refine lv_iload S.1 S.2.1 (dd_at ddX10_hut 26 rfl) (lv_at hl 0 rfl) ?_
    refine lv_iconst (v := 0) S.1 S.2.1 (dd_at ddX10_hut 27 rfl) (by decide) ?_
    refine lv_iload_n S.1 S.2.1 (dd_at ddX10_hut 28 rfl) rfl (lv_at hl 2 rfl) ?_
    refine r_callV hw (r_runV (As := [.int r_20, .int 0, .int p1]) (rest := []) S hw (m_X6_set l D cs E d_19 H.size b_24 r_20 0 p1 _) (cwV 3 S.2.2.2.2 (gV wg550 wg318 wg319 wg51 wg320) rfl rfl rfl (by decide +kernel) ⟨Nat.le_of_ble_eq_true rfl, Nat.le_of_ble_eq_true rfl⟩) (ci := 6) rfl ho_26 h rfl hl.1 rfl (Nat.le_of_ble_eq_true rfl) (dd_at ddX10_hut 29 rfl) ⟨Nat.le_of_ble_eq_true rfl, Nat.le_of_ble_eq_true rfl⟩) (fun d_27 H locs h hw => ?_)
    refine lv_aload_n S.1 S.2.1 (dd_at ddX10_hut 30 rfl) rfl (lv_at hl 1 rfl) ?_
    obtain ⟨b_29, hb_30, ho_31, h⟩ := h
    refine r_getR S hw 10 0 rfl inG10 (by decide) (List.mem_cons_of_mem _ wg16) (by decide) ha0 hb_30 (dd_at ddX10_hut 31 rfl) ?_
    obtain ⟨b_32, hb_33, ho_34, h⟩ := h
    refine r_getRN S hw 8 2 rfl inG8 (by decide) nx7 (by decide) ho_31 hb_33 (dd_at ddX10_hut 32 rfl) ?_
    refine lv_iload S.1 S.2.1 (dd_at ddX10_hut 33 rfl) (lv_at hl 0 rfl) ?_
    refine lv_iconst (v := 1) S.1 S.2.1 (dd_at ddX10_hut 34 rfl) (by decide) ?_
    refine lv_iload_n S.1 S.2.1 (dd_at ddX10_hut 35 rfl) rfl (lv_at hl 3 rfl) ?_
    refine r_callV hw (r_runV (As := [.int r_20, .int 1, .int p2]) (rest := []) S hw (m_X6_set l D cs E d_27 H.size b_32 r_20 1 p2 _) (cwV 3 S.2.2.2.2 (gV wg550 wg318 wg319 wg51 wg320) rfl rfl rfl (by decide +kernel) ⟨Nat.le_of_ble_eq_true rfl, Nat.le_of_ble_eq_true rfl⟩) (ci := 6) rfl ho_34 h rfl hl.1 rfl (Nat.le_of_ble_eq_true rfl) (dd_at ddX10_hut 36 rfl) ⟨Nat.le_of_ble_eq_true rfl, Nat.le_of_ble_eq_true rfl⟩) (fun d_35 H locs h hw => ?_)
    refine lv_aload_n S.1 S.2.1 (dd_at ddX10_hut 37 rfl) rfl (lv_at hl 1 rfl) ?_
    obtain ⟨b_37, hb_38, ho_39, h⟩ := h
    refine r_getR S hw 10 0 rfl inG10 (by decide) (List.mem_cons_of_mem _ wg16) (by decide) ha0 hb_38 (dd_at ddX10_hut 38 rfl) ?_
    obtain ⟨b_40, hb_41, ho_42, h⟩ := h
    refine r_getRN S hw 8 2 rfl inG8 (by decide) nx7 (by decide) ho_39 hb_41 (dd_at ddX10_hut 39 rfl) ?_
    refine lv_iload S.1 S.2.1 (dd_at ddX10_hut 40 rfl) (lv_at hl 0 rfl) ?_
    refine lv_iconst (v := 2) S.1 S.2.1 (dd_at ddX10_hut 41 rfl) (by decide) ?_
    refine lv_iload_n S.1 S.2.1 (dd_at ddX10_hut 42 rfl) rfl (lv_at hl 4 rfl) ?_
    refine r_callV hw (r_runV (As := [.int r_20, .int 2, .int p3]) (rest := []) S hw (m_X6_set l D cs E d_35 H.size b_40 r_20 2 p3 _) (cwV 3 S.2.2.2.2 (gV wg550 wg318 wg319 wg51 wg320) rfl rfl rfl (by decide +kernel) ⟨Nat.le_of_ble_eq_true rfl, Nat.le_of_ble_eq_true rfl⟩) (ci := 6) rfl ho_42 h rfl hl.1 rfl (Nat.le_of_ble_eq_true rfl) (dd_at ddX10_hut 43 rfl) ⟨Nat.le_of_ble_eq_true rfl, Nat.le_of_ble_eq_true rfl⟩) (fun d_43 H locs h hw => ?_)
    refine lv_aload_n S.1 S.2.1 (dd_at ddX10_hut 44 rfl) rfl (lv_at hl 1 rfl) ?_
    obtain ⟨b_45, hb_46, ho_47, h⟩ := h
    refine r_getR S hw 10 0 rfl inG10 (by decide) (List.mem_cons_of_mem _ wg16) (by decide) ha0 hb_46 (dd_at ddX10_hut 45 rfl) ?_
    obtain ⟨b_48, hb_49, ho_50, h⟩ := h
    refine r_getRN S hw 8 2 rfl inG8 (by decide) nx7 (by decide) ho_47 hb_49 (dd_at ddX10_hut 46 rfl) ?_
    refine lv_iload S.1 S.2.1 (dd_at ddX10_hut 47 rfl) (lv_at hl 0 rfl) ?_
    refine lv_iconst (v := 4) S.1 S.2.1 (dd_at ddX10_hut 48 rfl) (by decide) ?_
    refine lv_bipush (v := 99) S.1 S.2.1 (dd_at ddX10_hut 49 rfl) (by decide) ?_
    refine r_callV hw (r_runV (As := [.int r_20, .int 4, .int 99]) (rest := []) S hw (m_X6_set l D cs E d_43 H.size b_48 r_20 4 99 _) (cwV 3 S.2.2.2.2 (gV wg550 wg318 wg319 wg51 wg320) rfl rfl rfl (by decide +kernel) ⟨Nat.le_of_ble_eq_true rfl, Nat.le_of_ble_eq_true rfl⟩) (ci := 6) rfl ho_50 h rfl hl.1 rfl (Nat.le_of_ble_eq_true rfl) (dd_at ddX10_hut 50 rfl) ⟨Nat.le_of_ble_eq_true rfl, Nat.le_of_ble_eq_true rfl⟩) (fun d_51 H locs h hw => ?_)
    refine lv_iload S.1 S.2.1 (dd_at ddX10_hut 51 rfl) (lv_at hl 0 rfl) ?_
    exact vx_ret (e_I S hr hlocks hw h (dd_at ddX10_hut 52 rfl))
  refine lv_iload_n S.1 S.2.1 (dd_at ddX10_hut 0 rfl) rfl (lv_at hl 2 rfl) ?_
  refine lv_iconst (v := -1) S.1 S.2.1 (dd_at ddX10_hut 1 rfl) (by decide) ?_
  refine lv_icmp_eq (tgt := 10) S.1 S.2.1 (dd_at ddX10_hut 2 rfl) (by decide) (fun hc_53 => ?_) (fun hc_53 => ?_)
  · have h := h.1 hc_53
    refine W.widen (k := 1) (n := 6) (Nat.le_of_ble_eq_true rfl) (Nat.le_of_ble_eq_true rfl) ?_
    exact tb10 d H locs ls h hw (lv_sub hl [0, 1, 2, 3] rfl)
  · have h := h.2 hc_53
    refine lv_aload_n S.1 S.2.1 (dd_at ddX10_hut 3 rfl) rfl (lv_at hl 0 rfl) ?_
    refine lv_iload_n S.1 S.2.1 (dd_at ddX10_hut 4 rfl) rfl (lv_at hl 2 rfl) ?_
    refine r_xcallV hT hlocks hw (r_xrunV (As := [.int p2]) (rest := []) S hw (m_X10_needPerson l hst D cs E d H.size a0 p2 _ _) (cwV 1 S.2.2.2.2 (gV wg574 wg575 wg576 wg2 wg577) rfl rfl rfl (by decide +kernel) ⟨Nat.le_of_ble_eq_true rfl, Nat.le_of_ble_eq_true rfl⟩) (ci := 10) rfl ha0 h rfl hl.1 rfl (Nat.le_of_ble_eq_true rfl) (dd_at ddX10_hut 5 rfl) ⟨Nat.le_of_ble_eq_true rfl, Nat.le_of_ble_eq_true rfl⟩) (Nat.le_of_ble_eq_true rfl) (Nat.le_of_ble_eq_true rfl) (fun d_54 H locs h hw => ?_)
    exact tb10 d_54 H locs ls h hw (lv_sub hl [0, 1, 2, 3] rfl)

def w_X10_needYear (E : En) (p0 : Int32) (d : Dy) (K : Dy → Prop) (X : String → Dy → Prop) : Prop := ((p0 < 1900 → X "java/lang/IndexOutOfBoundsException" d) ∧ (¬ p0 < 1900 → ((p0 ≤ 2099 → K d) ∧ (¬ p0 ≤ 2099 → X "java/lang/IndexOutOfBoundsException" d))))
abbrev rm_X10_needYear : Room := { frames := 6, cells := 1, slots := 6, locals := 100 }
set_option maxRecDepth 100000 in
set_option maxHeartbeats 4000000 in
theorem m_X10_needYear (l : Launch) (hst : l.stackTraces = false) (D : va_G) (cs : Nat → ClassId) (E : En) (d : Dy) (sz : Nat) (p0 : Int32) (K : Dy → Prop) (X : String → Dy → Prop) : XV l yX10_needYear (.code yX10_needYear cX10_needYear 1 none :: wsL_law) rm_X10_needYear D cs E d sz [.int p0] (w_X10_needYear E p0 d K X) K X := by
  refine e_ofX (cc := cX10_needYear) (maxL := 1) (ret := none) (own := RX10) (by decide) rfl rfl (Nat.le_of_ble_eq_true rfl) ?_
  intro p e s m below meth c S hr hlocks hsz hT H locs hw h ls hl
  have hl : lv_has ls 1 [(0, .int p0)] := hl
  unfold w_X10_needYear at h
  refine lv_iload_n S.1 S.2.1 (dd_at ddX10_needYear 0 rfl) rfl (lv_at hl 0 rfl) ?_
  refine lv_sipush (v := 1900) S.1 S.2.1 (dd_at ddX10_needYear 1 rfl) (by decide) ?_
  refine lv_icmp_lt (tgt := 14) S.1 S.2.1 (dd_at ddX10_needYear 2 rfl) (by decide) (fun hc_1 => ?_) (fun hc_1 => ?_)
  · have h := h.1 hc_1
    exact r_throw hst S hT hlocks hw wg582 wg583 xa340 xn340 (by decide) xg338_340 hl.1 (dd_at ddX10_needYear 6 rfl) (dd_at ddX10_needYear 7 rfl) (dd_at ddX10_needYear 8 rfl) (dd_at ddX10_needYear 9 rfl) (Nat.lt_of_lt_of_le (Nat.lt_succ_self 5) (Nat.le_of_ble_eq_true rfl)) (Nat.le_of_ble_eq_true rfl) (Nat.le_of_ble_eq_true rfl) (Nat.le_of_ble_eq_true rfl) h (Nat.le_of_ble_eq_true rfl) (Nat.le_of_ble_eq_true rfl)
  · have h := h.2 hc_1
    refine lv_iload_n S.1 S.2.1 (dd_at ddX10_needYear 3 rfl) rfl (lv_at hl 0 rfl) ?_
    refine lv_sipush (v := 2099) S.1 S.2.1 (dd_at ddX10_needYear 4 rfl) (by decide) ?_
    refine lv_icmp_le (tgt := 22) S.1 S.2.1 (dd_at ddX10_needYear 5 rfl) (by decide) (fun hc_2 => ?_) (fun hc_2 => ?_)
    · have h := h.1 hc_2
      refine W.widen (k := 1) (n := 6) (Nat.le_of_ble_eq_true rfl) (Nat.le_of_ble_eq_true rfl) ?_
      exact vx_ret (e_V S hr hlocks hw h (dd_at ddX10_needYear 10 rfl))
    · have h := h.2 hc_2
      exact r_throw hst S hT hlocks hw wg582 wg583 xa340 xn340 (by decide) xg338_340 hl.1 (dd_at ddX10_needYear 6 rfl) (dd_at ddX10_needYear 7 rfl) (dd_at ddX10_needYear 8 rfl) (dd_at ddX10_needYear 9 rfl) (Nat.lt_of_lt_of_le (Nat.lt_succ_self 5) (Nat.le_of_ble_eq_true rfl)) (Nat.le_of_ble_eq_true rfl) (Nat.le_of_ble_eq_true rfl) (Nat.le_of_ble_eq_true rfl) h (Nat.le_of_ble_eq_true rfl) (Nat.le_of_ble_eq_true rfl)

def w_X10_needHut (E : En) (a0 : Nat) (p1 : Int32) (d : Dy) (K : Dy → Prop) (X : String → Dy → Prop) : Prop := okO E a0 10 ∧ ∃ b_1 : Nat, eR E a0 0 = some b_1 ∧ okO E b_1 8 ∧ ∃ b_4 : Nat, eR E b_1 2 = some b_4 ∧ okO E b_4 6 ∧ w_X6_size E b_4 d (fun r_8 d_7 => w_X10_needIndex E p1 r_8 d_7 (fun d_9 => K d_9) X)
abbrev rm_X10_needHut : Room := { frames := 7, cells := 1, slots := 6, locals := 121 }
set_option maxRecDepth 100000 in
set_option maxHeartbeats 4000000 in
theorem m_X10_needHut (l : Launch) (hst : l.stackTraces = false) (D : va_G) (cs : Nat → ClassId) (E : En) (d : Dy) (sz : Nat) (a0 : Nat) (p1 : Int32) (K : Dy → Prop) (X : String → Dy → Prop) : XV l yX10_needHut (.code yX10_needHut cX10_needHut 2 none :: wsL_law) rm_X10_needHut D cs E d sz [.ref a0, .int p1] (w_X10_needHut E a0 p1 d K X) K X := by
  refine e_ofX (cc := cX10_needHut) (maxL := 2) (ret := none) (own := RX10) (by decide) rfl rfl (Nat.le_of_ble_eq_true rfl) ?_
  intro p e s m below meth c S hr hlocks hsz hT H locs hw h ls hl
  have hl : lv_has ls 2 [(0, .ref a0), (1, .int p1)] := hl
  unfold w_X10_needHut at h
  obtain ⟨ha0, h⟩ := h
  refine lv_iload_n S.1 S.2.1 (dd_at ddX10_needHut 0 rfl) rfl (lv_at hl 1 rfl) ?_
  refine lv_aload_n S.1 S.2.1 (dd_at ddX10_needHut 1 rfl) rfl (lv_at hl 0 rfl) ?_
  obtain ⟨b_1, hb_2, ho_3, h⟩ := h
  refine r_getR S hw 10 0 rfl inG10 (by decide) (List.mem_cons_of_mem _ wg16) (by decide) ha0 hb_2 (dd_at ddX10_needHut 2 rfl) ?_
  obtain ⟨b_4, hb_5, ho_6, h⟩ := h
  refine r_getRN S hw 8 2 rfl inG8 (by decide) nx7 (by decide) ho_3 hb_5 (dd_at ddX10_needHut 3 rfl) ?_
  refine r_callI hw (r_runV (As := []) (rest := [.int p1]) S hw (m_X6_size l D cs E d H.size b_4 _) (cwV 0 S.2.2.2.2 (gV wg578 wg372 wg373 wg51 wg374) rfl rfl rfl (by decide +kernel) ⟨Nat.le_of_ble_eq_true rfl, Nat.le_of_ble_eq_true rfl⟩) (ci := 6) rfl ho_6 h rfl hl.1 rfl (Nat.le_of_ble_eq_true rfl) (dd_at ddX10_needHut 4 rfl) ⟨Nat.le_of_ble_eq_true rfl, Nat.le_of_ble_eq_true rfl⟩) (fun r_8 d_7 H locs h hw => ?_)
  refine r_xcallV hT hlocks hw (r_xrunS (As := [.int p1, .int r_8]) (rest := []) S hw (m_X10_needIndex l hst D cs E d_7 H.size p1 r_8 _ _) (va_cwS 2 S.2.2.2.2 (gS wg579 wg580 wg2 wg581) rfl rfl rfl (by decide +kernel) ⟨Nat.le_of_ble_eq_true rfl, Nat.le_of_ble_eq_true rfl⟩) h rfl hl.1 rfl (Nat.le_of_ble_eq_true rfl) (dd_at ddX10_needHut 5 rfl) ⟨Nat.le_of_ble_eq_true rfl, Nat.le_of_ble_eq_true rfl⟩) (Nat.le_of_ble_eq_true rfl) (Nat.le_of_ble_eq_true rfl) (fun d_9 H locs h hw => ?_)
  exact vx_ret (e_V S hr hlocks hw h (dd_at ddX10_needHut 6 rfl))

def w_X10_addEvent (E : En) (a0 : Nat) (p1 : Int32) (p2 : Int32) (p3 : Int32) (p4 : Int32) (p5 : Int32) (d : Dy) (K : Int32 → Dy → Prop) (X : String → Dy → Prop) : Prop := okO E a0 10 ∧ ∃ b_1 : Nat, eR E a0 0 = some b_1 ∧ okO E b_1 8 ∧ ∃ b_4 : Nat, eR E b_1 3 = some b_4 ∧ okO E b_4 6 ∧ w_X10_needRoom E b_4 d (fun d_7 => ∃ b_9 : Nat, eR E a0 0 = some b_9 ∧ okO E b_9 8 ∧ ∃ b_12 : Nat, eR E b_9 3 = some b_12 ∧ okO E b_12 6 ∧ w_X6_openByYear E b_12 p1 d_7 (fun r_16 d_15 => ∃ b_17 : Nat, eR E a0 0 = some b_17 ∧ okO E b_17 8 ∧ ∃ b_20 : Nat, eR E b_17 3 = some b_20 ∧ okO E b_20 6 ∧ ∃ b_23 : Nat, eR E a0 0 = some b_23 ∧ okO E b_23 8 ∧ w_X6_set E b_20 r_16 1 (gI d_15 b_23 0) d_15 (fun d_26 => ∃ b_28 : Nat, eR E a0 0 = some b_28 ∧ okO E b_28 8 ∧ ∃ b_31 : Nat, eR E b_28 3 = some b_31 ∧ okO E b_31 6 ∧ w_X6_set E b_31 r_16 2 p2 d_26 (fun d_34 => ∃ b_36 : Nat, eR E a0 0 = some b_36 ∧ okO E b_36 8 ∧ ∃ b_39 : Nat, eR E b_36 3 = some b_39 ∧ okO E b_39 6 ∧ w_X6_set E b_39 r_16 3 p3 d_34 (fun d_42 => ∃ b_44 : Nat, eR E a0 0 = some b_44 ∧ okO E b_44 8 ∧ ∃ b_47 : Nat, eR E b_44 3 = some b_47 ∧ okO E b_47 6 ∧ w_X6_set E b_47 r_16 4 p4 d_42 (fun d_50 => ∃ b_52 : Nat, eR E a0 0 = some b_52 ∧ okO E b_52 8 ∧ ∃ b_55 : Nat, eR E b_52 3 = some b_55 ∧ okO E b_55 6 ∧ w_X6_set E b_55 r_16 5 p5 d_50 (fun d_58 => ∃ b_60 : Nat, eR E a0 0 = some b_60 ∧ okO E b_60 8 ∧ ∃ b_63 : Nat, eR E b_60 3 = some b_63 ∧ okO E b_63 6 ∧ w_X6_size E b_63 d_58 (fun r_67 d_66 => K r_67 d_66)))))))) X
abbrev rm_X10_addEvent : Room := { frames := 7, cells := 1, slots := 6, locals := 120 }
set_option maxRecDepth 100000 in
set_option maxHeartbeats 4000000 in
theorem m_X10_addEvent (l : Launch) (hst : l.stackTraces = false) (D : va_G) (cs : Nat → ClassId) (E : En) (d : Dy) (sz : Nat) (a0 : Nat) (p1 : Int32) (p2 : Int32) (p3 : Int32) (p4 : Int32) (p5 : Int32) (K : Int32 → Dy → Prop) (X : String → Dy → Prop) : XI l yX10_addEvent (.code yX10_addEvent cX10_addEvent 7 (some .int) :: wsL_law) rm_X10_addEvent D cs E d sz [.ref a0, .int p1, .int p2, .int p3, .int p4, .int p5] (w_X10_addEvent E a0 p1 p2 p3 p4 p5 d K X) K X := by
  refine e_ofX (cc := cX10_addEvent) (maxL := 7) (ret := (some .int)) (own := RX10) (by decide) rfl rfl (Nat.le_of_ble_eq_true rfl) ?_
  intro p e s m below meth c S hr hlocks hsz hT H locs hw h ls hl
  have hl : lv_has ls 7 [(0, .ref a0), (1, .int p1), (2, .int p2), (3, .int p3), (4, .int p4), (5, .int p5)] := hl
  unfold w_X10_addEvent at h
  obtain ⟨ha0, h⟩ := h
  refine lv_aload_n S.1 S.2.1 (dd_at ddX10_addEvent 0 rfl) rfl (lv_at hl 0 rfl) ?_
  obtain ⟨b_1, hb_2, ho_3, h⟩ := h
  refine r_getR S hw 10 0 rfl inG10 (by decide) (List.mem_cons_of_mem _ wg16) (by decide) ha0 hb_2 (dd_at ddX10_addEvent 1 rfl) ?_
  obtain ⟨b_4, hb_5, ho_6, h⟩ := h
  refine r_getRN S hw 8 3 rfl inG8 (by decide) nx9 (by decide) ho_3 hb_5 (dd_at ddX10_addEvent 2 rfl) ?_
  refine r_xcallV hT hlocks hw (r_xrunS (As := [.ref b_4]) (rest := []) S hw (m_X10_needRoom l hst D cs E d H.size b_4 _ _) (va_cwS 1 S.2.2.2.2 (gS wg540 wg541 wg2 wg542) rfl rfl rfl (by decide +kernel) ⟨Nat.le_of_ble_eq_true rfl, Nat.le_of_ble_eq_true rfl⟩) h rfl hl.1 rfl (Nat.le_of_ble_eq_true rfl) (dd_at ddX10_addEvent 3 rfl) ⟨Nat.le_of_ble_eq_true rfl, Nat.le_of_ble_eq_true rfl⟩) (Nat.le_of_ble_eq_true rfl) (Nat.le_of_ble_eq_true rfl) (fun d_7 H locs h hw => ?_)
  refine lv_aload_n S.1 S.2.1 (dd_at ddX10_addEvent 4 rfl) rfl (lv_at hl 0 rfl) ?_
  obtain ⟨b_9, hb_10, ho_11, h⟩ := h
  refine r_getR S hw 10 0 rfl inG10 (by decide) (List.mem_cons_of_mem _ wg16) (by decide) ha0 hb_10 (dd_at ddX10_addEvent 5 rfl) ?_
  obtain ⟨b_12, hb_13, ho_14, h⟩ := h
  refine r_getRN S hw 8 3 rfl inG8 (by decide) nx9 (by decide) ho_11 hb_13 (dd_at ddX10_addEvent 6 rfl) ?_
  refine lv_iload_n S.1 S.2.1 (dd_at ddX10_addEvent 7 rfl) rfl (lv_at hl 1 rfl) ?_
  refine r_callI hw (r_runV (As := [.int p1]) (rest := []) S hw (m_X6_openByYear l D cs E d_7 H.size b_12 p1 _) (cwV 1 S.2.2.2.2 (gV wg618 wg619 wg620 wg51 wg621) rfl rfl rfl (by decide +kernel) ⟨Nat.le_of_ble_eq_true rfl, Nat.le_of_ble_eq_true rfl⟩) (ci := 6) rfl ho_14 h rfl hl.1 rfl (Nat.le_of_ble_eq_true rfl) (dd_at ddX10_addEvent 8 rfl) ⟨Nat.le_of_ble_eq_true rfl, Nat.le_of_ble_eq_true rfl⟩) (fun r_16 d_15 H locs h hw => ?_)
  refine lv_istore (lv' := [(6, .int r_16), (0, .ref a0), (1, .int p1), (2, .int p2), (3, .int p3), (4, .int p4), (5, .int p5)]) S.1 S.2.1 (dd_at ddX10_addEvent 9 rfl) hl (by decide) rfl (fun ls hl => ?_)
  refine lv_aload_n S.1 S.2.1 (dd_at ddX10_addEvent 10 rfl) rfl (lv_at hl 1 rfl) ?_
  obtain ⟨b_17, hb_18, ho_19, h⟩ := h
  refine r_getR S hw 10 0 rfl inG10 (by decide) (List.mem_cons_of_mem _ wg16) (by decide) ha0 hb_18 (dd_at ddX10_addEvent 11 rfl) ?_
  obtain ⟨b_20, hb_21, ho_22, h⟩ := h
  refine r_getRN S hw 8 3 rfl inG8 (by decide) nx9 (by decide) ho_19 hb_21 (dd_at ddX10_addEvent 12 rfl) ?_
  refine lv_iload S.1 S.2.1 (dd_at ddX10_addEvent 13 rfl) (lv_at hl 0 rfl) ?_
  refine lv_iconst (v := 1) S.1 S.2.1 (dd_at ddX10_addEvent 14 rfl) (by decide) ?_
  refine lv_aload_n S.1 S.2.1 (dd_at ddX10_addEvent 15 rfl) rfl (lv_at hl 1 rfl) ?_
  obtain ⟨b_23, hb_24, ho_25, h⟩ := h
  refine r_getR S hw 10 0 rfl inG10 (by decide) (List.mem_cons_of_mem _ wg16) (by decide) ha0 hb_24 (dd_at ddX10_addEvent 16 rfl) ?_
  refine r_getIN S hw 8 0 rfl inG8 (by decide) nx0 (by decide) ho_25 (dd_at ddX10_addEvent 17 rfl) ?_
  refine r_callV hw (r_runV (As := [.int r_16, .int 1, .int (gI d_15 b_23 0)]) (rest := []) S hw (m_X6_set l D cs E d_15 H.size b_20 r_16 1 (gI d_15 b_23 0) _) (cwV 3 S.2.2.2.2 (gV wg550 wg318 wg319 wg51 wg320) rfl rfl rfl (by decide +kernel) ⟨Nat.le_of_ble_eq_true rfl, Nat.le_of_ble_eq_true rfl⟩) (ci := 6) rfl ho_22 h rfl hl.1 rfl (Nat.le_of_ble_eq_true rfl) (dd_at ddX10_addEvent 18 rfl) ⟨Nat.le_of_ble_eq_true rfl, Nat.le_of_ble_eq_true rfl⟩) (fun d_26 H locs h hw => ?_)
  refine lv_aload_n S.1 S.2.1 (dd_at ddX10_addEvent 19 rfl) rfl (lv_at hl 1 rfl) ?_
  obtain ⟨b_28, hb_29, ho_30, h⟩ := h
  refine r_getR S hw 10 0 rfl inG10 (by decide) (List.mem_cons_of_mem _ wg16) (by decide) ha0 hb_29 (dd_at ddX10_addEvent 20 rfl) ?_
  obtain ⟨b_31, hb_32, ho_33, h⟩ := h
  refine r_getRN S hw 8 3 rfl inG8 (by decide) nx9 (by decide) ho_30 hb_32 (dd_at ddX10_addEvent 21 rfl) ?_
  refine lv_iload S.1 S.2.1 (dd_at ddX10_addEvent 22 rfl) (lv_at hl 0 rfl) ?_
  refine lv_iconst (v := 2) S.1 S.2.1 (dd_at ddX10_addEvent 23 rfl) (by decide) ?_
  refine lv_iload_n S.1 S.2.1 (dd_at ddX10_addEvent 24 rfl) rfl (lv_at hl 3 rfl) ?_
  refine r_callV hw (r_runV (As := [.int r_16, .int 2, .int p2]) (rest := []) S hw (m_X6_set l D cs E d_26 H.size b_31 r_16 2 p2 _) (cwV 3 S.2.2.2.2 (gV wg550 wg318 wg319 wg51 wg320) rfl rfl rfl (by decide +kernel) ⟨Nat.le_of_ble_eq_true rfl, Nat.le_of_ble_eq_true rfl⟩) (ci := 6) rfl ho_33 h rfl hl.1 rfl (Nat.le_of_ble_eq_true rfl) (dd_at ddX10_addEvent 25 rfl) ⟨Nat.le_of_ble_eq_true rfl, Nat.le_of_ble_eq_true rfl⟩) (fun d_34 H locs h hw => ?_)
  refine lv_aload_n S.1 S.2.1 (dd_at ddX10_addEvent 26 rfl) rfl (lv_at hl 1 rfl) ?_
  obtain ⟨b_36, hb_37, ho_38, h⟩ := h
  refine r_getR S hw 10 0 rfl inG10 (by decide) (List.mem_cons_of_mem _ wg16) (by decide) ha0 hb_37 (dd_at ddX10_addEvent 27 rfl) ?_
  obtain ⟨b_39, hb_40, ho_41, h⟩ := h
  refine r_getRN S hw 8 3 rfl inG8 (by decide) nx9 (by decide) ho_38 hb_40 (dd_at ddX10_addEvent 28 rfl) ?_
  refine lv_iload S.1 S.2.1 (dd_at ddX10_addEvent 29 rfl) (lv_at hl 0 rfl) ?_
  refine lv_iconst (v := 3) S.1 S.2.1 (dd_at ddX10_addEvent 30 rfl) (by decide) ?_
  refine lv_iload_n S.1 S.2.1 (dd_at ddX10_addEvent 31 rfl) rfl (lv_at hl 4 rfl) ?_
  refine r_callV hw (r_runV (As := [.int r_16, .int 3, .int p3]) (rest := []) S hw (m_X6_set l D cs E d_34 H.size b_39 r_16 3 p3 _) (cwV 3 S.2.2.2.2 (gV wg550 wg318 wg319 wg51 wg320) rfl rfl rfl (by decide +kernel) ⟨Nat.le_of_ble_eq_true rfl, Nat.le_of_ble_eq_true rfl⟩) (ci := 6) rfl ho_41 h rfl hl.1 rfl (Nat.le_of_ble_eq_true rfl) (dd_at ddX10_addEvent 32 rfl) ⟨Nat.le_of_ble_eq_true rfl, Nat.le_of_ble_eq_true rfl⟩) (fun d_42 H locs h hw => ?_)
  refine lv_aload_n S.1 S.2.1 (dd_at ddX10_addEvent 33 rfl) rfl (lv_at hl 1 rfl) ?_
  obtain ⟨b_44, hb_45, ho_46, h⟩ := h
  refine r_getR S hw 10 0 rfl inG10 (by decide) (List.mem_cons_of_mem _ wg16) (by decide) ha0 hb_45 (dd_at ddX10_addEvent 34 rfl) ?_
  obtain ⟨b_47, hb_48, ho_49, h⟩ := h
  refine r_getRN S hw 8 3 rfl inG8 (by decide) nx9 (by decide) ho_46 hb_48 (dd_at ddX10_addEvent 35 rfl) ?_
  refine lv_iload S.1 S.2.1 (dd_at ddX10_addEvent 36 rfl) (lv_at hl 0 rfl) ?_
  refine lv_iconst (v := 4) S.1 S.2.1 (dd_at ddX10_addEvent 37 rfl) (by decide) ?_
  refine lv_iload S.1 S.2.1 (dd_at ddX10_addEvent 38 rfl) (lv_at hl 5 rfl) ?_
  refine r_callV hw (r_runV (As := [.int r_16, .int 4, .int p4]) (rest := []) S hw (m_X6_set l D cs E d_42 H.size b_47 r_16 4 p4 _) (cwV 3 S.2.2.2.2 (gV wg550 wg318 wg319 wg51 wg320) rfl rfl rfl (by decide +kernel) ⟨Nat.le_of_ble_eq_true rfl, Nat.le_of_ble_eq_true rfl⟩) (ci := 6) rfl ho_49 h rfl hl.1 rfl (Nat.le_of_ble_eq_true rfl) (dd_at ddX10_addEvent 39 rfl) ⟨Nat.le_of_ble_eq_true rfl, Nat.le_of_ble_eq_true rfl⟩) (fun d_50 H locs h hw => ?_)
  refine lv_aload_n S.1 S.2.1 (dd_at ddX10_addEvent 40 rfl) rfl (lv_at hl 1 rfl) ?_
  obtain ⟨b_52, hb_53, ho_54, h⟩ := h
  refine r_getR S hw 10 0 rfl inG10 (by decide) (List.mem_cons_of_mem _ wg16) (by decide) ha0 hb_53 (dd_at ddX10_addEvent 41 rfl) ?_
  obtain ⟨b_55, hb_56, ho_57, h⟩ := h
  refine r_getRN S hw 8 3 rfl inG8 (by decide) nx9 (by decide) ho_54 hb_56 (dd_at ddX10_addEvent 42 rfl) ?_
  refine lv_iload S.1 S.2.1 (dd_at ddX10_addEvent 43 rfl) (lv_at hl 0 rfl) ?_
  refine lv_iconst (v := 5) S.1 S.2.1 (dd_at ddX10_addEvent 44 rfl) (by decide) ?_
  refine lv_iload S.1 S.2.1 (dd_at ddX10_addEvent 45 rfl) (lv_at hl 6 rfl) ?_
  refine r_callV hw (r_runV (As := [.int r_16, .int 5, .int p5]) (rest := []) S hw (m_X6_set l D cs E d_50 H.size b_55 r_16 5 p5 _) (cwV 3 S.2.2.2.2 (gV wg550 wg318 wg319 wg51 wg320) rfl rfl rfl (by decide +kernel) ⟨Nat.le_of_ble_eq_true rfl, Nat.le_of_ble_eq_true rfl⟩) (ci := 6) rfl ho_57 h rfl hl.1 rfl (Nat.le_of_ble_eq_true rfl) (dd_at ddX10_addEvent 46 rfl) ⟨Nat.le_of_ble_eq_true rfl, Nat.le_of_ble_eq_true rfl⟩) (fun d_58 H locs h hw => ?_)
  refine lv_aload_n S.1 S.2.1 (dd_at ddX10_addEvent 47 rfl) rfl (lv_at hl 1 rfl) ?_
  obtain ⟨b_60, hb_61, ho_62, h⟩ := h
  refine r_getR S hw 10 0 rfl inG10 (by decide) (List.mem_cons_of_mem _ wg16) (by decide) ha0 hb_61 (dd_at ddX10_addEvent 48 rfl) ?_
  obtain ⟨b_63, hb_64, ho_65, h⟩ := h
  refine r_getRN S hw 8 3 rfl inG8 (by decide) nx9 (by decide) ho_62 hb_64 (dd_at ddX10_addEvent 49 rfl) ?_
  refine r_callI hw (r_runV (As := []) (rest := []) S hw (m_X6_size l D cs E d_58 H.size b_63 _) (cwV 0 S.2.2.2.2 (gV wg578 wg372 wg373 wg51 wg374) rfl rfl rfl (by decide +kernel) ⟨Nat.le_of_ble_eq_true rfl, Nat.le_of_ble_eq_true rfl⟩) (ci := 6) rfl ho_65 h rfl hl.1 rfl (Nat.le_of_ble_eq_true rfl) (dd_at ddX10_addEvent 50 rfl) ⟨Nat.le_of_ble_eq_true rfl, Nat.le_of_ble_eq_true rfl⟩) (fun r_67 d_66 H locs h hw => ?_)
  exact vx_ret (e_I S hr hlocks hw h (dd_at ddX10_addEvent 51 rfl))

def b_X10_event_125 (E : En) (a0 : Nat) (p1 : Int32) (p2 : Int32) (p3 : Int32) (p4 : Int32) (K : Int32 → Dy → Prop) (X : String → Dy → Prop) (d : Dy) : Prop := w_X10_addEvent E a0 p1 p2 p3 p4 0 d (fun r_2 d_1 => K r_2 d_1) X
def b_X10_event_78 (E : En) (a0 : Nat) (p1 : Int32) (p2 : Int32) (p3 : Int32) (p4 : Int32) (K : Int32 → Dy → Prop) (X : String → Dy → Prop) (s0 : Int32) (d : Dy) : Prop := w_X10_need E s0 d (fun d_3 => b_X10_event_125 E a0 p1 p2 p3 p4 K X d_3) X
def b_X10_event_56 (E : En) (a0 : Nat) (p1 : Int32) (p2 : Int32) (p3 : Int32) (p4 : Int32) (K : Int32 → Dy → Prop) (X : String → Dy → Prop) (d : Dy) : Prop := w_X10_needPerson E a0 p3 d (fun d_5 => w_X10_needPerson E a0 p4 d_5 (fun d_7 => ((p3 = p4 → b_X10_event_78 E a0 p1 p2 p3 p4 K X 0 d_7) ∧ (¬ p3 = p4 → b_X10_event_78 E a0 p1 p2 p3 p4 K X 1 d_7))) X) X
def b_X10_event_121 (E : En) (a0 : Nat) (p1 : Int32) (p2 : Int32) (p3 : Int32) (p4 : Int32) (K : Int32 → Dy → Prop) (X : String → Dy → Prop) (d : Dy) : Prop := w_X10_need E 0 d (fun d_10 => b_X10_event_125 E a0 p1 p2 p3 p4 K X d_10) X
def w_X10_event (E : En) (a0 : Nat) (p1 : Int32) (p2 : Int32) (p3 : Int32) (p4 : Int32) (d : Dy) (K : Int32 → Dy → Prop) (X : String → Dy → Prop) : Prop := okO E a0 10 ∧ w_X10_needYear E p1 d (fun d_12 => ((p2 = 0 → w_X10_needPerson E a0 p3 d_12 (fun d_15 => b_X10_event_125 E a0 p1 p2 p3 p4 K X d_15) X) ∧ (p2 = 1 → b_X10_event_56 E a0 p1 p2 p3 p4 K X d_12) ∧ (p2 = 2 → b_X10_event_56 E a0 p1 p2 p3 p4 K X d_12) ∧ (p2 = 3 → b_X10_event_56 E a0 p1 p2 p3 p4 K X d_12) ∧ (p2 = 4 → b_X10_event_121 E a0 p1 p2 p3 p4 K X d_12) ∧ (p2 = 5 → w_X10_needHut E a0 p3 d_12 (fun d_22 => w_X10_needPerson E a0 p4 d_22 (fun d_24 => b_X10_event_125 E a0 p1 p2 p3 p4 K X d_24) X) X) ∧ (p2 = 6 → w_X10_needHut E a0 p3 d_12 (fun d_27 => ∃ b_29 : Nat, eR E a0 0 = some b_29 ∧ okO E b_29 8 ∧ ∃ b_32 : Nat, eR E b_29 2 = some b_32 ∧ okO E b_32 6 ∧ w_X6_size E b_32 d_27 (fun r_36 d_35 => w_X10_needIndex E p4 r_36 d_35 (fun d_37 => b_X10_event_125 E a0 p1 p2 p3 p4 K X d_37) X)) X) ∧ (¬ p2 = 0 → ¬ p2 = 1 → ¬ p2 = 2 → ¬ p2 = 3 → ¬ p2 = 4 → ¬ p2 = 5 → ¬ p2 = 6 → b_X10_event_121 E a0 p1 p2 p3 p4 K X d_12))) X
abbrev rm_X10_event : Room := { frames := 8, cells := 5, slots := 30, locals := 146 }
set_option maxRecDepth 100000 in
set_option maxHeartbeats 4000000 in
theorem m_X10_event (l : Launch) (hst : l.stackTraces = false) (D : va_G) (cs : Nat → ClassId) (E : En) (d : Dy) (sz : Nat) (a0 : Nat) (p1 : Int32) (p2 : Int32) (p3 : Int32) (p4 : Int32) (K : Int32 → Dy → Prop) (X : String → Dy → Prop) : XI l yX10_event (.code yX10_event cX10_event 5 (some .int) :: wsL_law) rm_X10_event D cs E d sz [.ref a0, .int p1, .int p2, .int p3, .int p4] (w_X10_event E a0 p1 p2 p3 p4 d K X) K X := by
  refine e_ofX (cc := cX10_event) (maxL := 5) (ret := (some .int)) (own := RX10) (by decide) rfl rfl (Nat.le_of_ble_eq_true rfl) ?_
  intro p e s m below meth c S hr hlocks hsz hT H locs hw h ls hl
  have hl : lv_has ls 5 [(0, .ref a0), (1, .int p1), (2, .int p2), (3, .int p3), (4, .int p4)] := hl
  unfold w_X10_event at h
  obtain ⟨ha0, h⟩ := h
  have tb125 : ∀ (d : Dy) (H : Heap) (locs : List Loc) (ls : Array Slot), b_X10_event_125 E a0 p1 p2 p3 p4 K X d → Wd D cs (AW E sz) s.heap s E d H locs → lv_has ls 5 [(0, .ref a0), (1, .int p1), (2, .int p2), (3, .int p3), (4, .int p4)] → W p l e rm_X10_event s m ([.ref a0, .int p1, .int p2, .int p3, .int p4] : List Value).toArray below meth c H locs 4 24 (vx_MQ below (va_Qi K (OutW D cs E (AW E sz)) (AW E sz)) (XX D cs E sz X) ([.ref a0, .int p1, .int p2, .int p3, .int p4] : List Value).toArray s rm_X10_event.cells rm_X10_event.slots (AW E sz)) (F0 m 125 ls []) := by
    intro d H locs ls h hw hl
    unfold b_X10_event_125 at h
    refine lv_aload_n S.1 S.2.1 (dd_at ddX10_event 41 rfl) rfl (lv_at hl 0 rfl) ?_
    refine lv_iload_n S.1 S.2.1 (dd_at ddX10_event 42 rfl) rfl (lv_at hl 1 rfl) ?_
    refine lv_iload_n S.1 S.2.1 (dd_at ddX10_event 43 rfl) rfl (lv_at hl 2 rfl) ?_
    refine lv_iload_n S.1 S.2.1 (dd_at ddX10_event 44 rfl) rfl (lv_at hl 3 rfl) ?_
    refine lv_iload S.1 S.2.1 (dd_at ddX10_event 45 rfl) (lv_at hl 4 rfl) ?_
    refine lv_iconst (v := 0) S.1 S.2.1 (dd_at ddX10_event 46 rfl) (by decide) ?_
    refine r_xcallI hT hlocks hw (r_xrunV (As := [.int p1, .int p2, .int p3, .int p4, .int 0]) (rest := []) S hw (m_X10_addEvent l hst D cs E d H.size a0 p1 p2 p3 p4 0 _ _) (cwV 5 S.2.2.2.2 (gV wg614 wg615 wg616 wg2 wg617) rfl rfl rfl (by decide +kernel) ⟨Nat.le_of_ble_eq_true rfl, Nat.le_of_ble_eq_true rfl⟩) (ci := 10) rfl ha0 h rfl hl.1 rfl (Nat.le_of_ble_eq_true rfl) (dd_at ddX10_event 47 rfl) ⟨Nat.le_of_ble_eq_true rfl, Nat.le_of_ble_eq_true rfl⟩) (Nat.le_of_ble_eq_true rfl) (Nat.le_of_ble_eq_true rfl) (fun r_2 d_1 H locs h hw => ?_)
    exact vx_ret (e_I S hr hlocks hw h (dd_at ddX10_event 48 rfl))
  have tb78 : ∀ (s0 : Int32) (d : Dy) (H : Heap) (locs : List Loc) (ls : Array Slot), b_X10_event_78 E a0 p1 p2 p3 p4 K X s0 d → Wd D cs (AW E sz) s.heap s E d H locs → lv_has ls 5 [(0, .ref a0), (1, .int p1), (2, .int p2), (3, .int p3), (4, .int p4)] → W p l e rm_X10_event s m ([.ref a0, .int p1, .int p2, .int p3, .int p4] : List Value).toArray below meth c H locs 3 18 (vx_MQ below (va_Qi K (OutW D cs E (AW E sz)) (AW E sz)) (XX D cs E sz X) ([.ref a0, .int p1, .int p2, .int p3, .int p4] : List Value).toArray s rm_X10_event.cells rm_X10_event.slots (AW E sz)) (F0 m 78 ls [.int s0]) := by
    intro s0 d H locs ls h hw hl
    unfold b_X10_event_78 at h
    refine r_xcallV hT hlocks hw (r_xrunS (As := [.int s0]) (rest := []) S hw (m_X10_need l hst D cs E d H.size s0 _ _) (va_cwS 1 S.2.2.2.2 (gS wg361 wg362 wg2 wg363) rfl rfl rfl (by decide +kernel) ⟨Nat.le_of_ble_eq_true rfl, Nat.le_of_ble_eq_true rfl⟩) h rfl hl.1 rfl (Nat.le_of_ble_eq_true rfl) (dd_at ddX10_event 20 rfl) ⟨Nat.le_of_ble_eq_true rfl, Nat.le_of_ble_eq_true rfl⟩) (Nat.le_of_ble_eq_true rfl) (Nat.le_of_ble_eq_true rfl) (fun d_3 H locs h hw => ?_)
    refine lv_goto (tgt := 125) S.1 S.2.1 (dd_at ddX10_event 21 rfl) (by decide) ?_
    exact tb125 d_3 H locs ls h hw (lv_sub hl [0, 1, 2, 3, 4] rfl)
  have tb56 : ∀ (d : Dy) (H : Heap) (locs : List Loc) (ls : Array Slot), b_X10_event_56 E a0 p1 p2 p3 p4 K X d → Wd D cs (AW E sz) s.heap s E d H locs → lv_has ls 5 [(0, .ref a0), (1, .int p1), (2, .int p2), (3, .int p3), (4, .int p4)] → W p l e rm_X10_event s m ([.ref a0, .int p1, .int p2, .int p3, .int p4] : List Value).toArray below meth c H locs 1 6 (vx_MQ below (va_Qi K (OutW D cs E (AW E sz)) (AW E sz)) (XX D cs E sz X) ([.ref a0, .int p1, .int p2, .int p3, .int p4] : List Value).toArray s rm_X10_event.cells rm_X10_event.slots (AW E sz)) (F0 m 56 ls []) := by
    intro d H locs ls h hw hl
    unfold b_X10_event_56 at h
    refine lv_aload_n S.1 S.2.1 (dd_at ddX10_event 8 rfl) rfl (lv_at hl 0 rfl) ?_
    refine lv_iload_n S.1 S.2.1 (dd_at ddX10_event 9 rfl) rfl (lv_at hl 3 rfl) ?_
    refine r_xcallV hT hlocks hw (r_xrunV (As := [.int p3]) (rest := []) S hw (m_X10_needPerson l hst D cs E d H.size a0 p3 _ _) (cwV 1 S.2.2.2.2 (gV wg574 wg575 wg576 wg2 wg577) rfl rfl rfl (by decide +kernel) ⟨Nat.le_of_ble_eq_true rfl, Nat.le_of_ble_eq_true rfl⟩) (ci := 10) rfl ha0 h rfl hl.1 rfl (Nat.le_of_ble_eq_true rfl) (dd_at ddX10_event 10 rfl) ⟨Nat.le_of_ble_eq_true rfl, Nat.le_of_ble_eq_true rfl⟩) (Nat.le_of_ble_eq_true rfl) (Nat.le_of_ble_eq_true rfl) (fun d_5 H locs h hw => ?_)
    refine lv_aload_n S.1 S.2.1 (dd_at ddX10_event 11 rfl) rfl (lv_at hl 0 rfl) ?_
    refine lv_iload S.1 S.2.1 (dd_at ddX10_event 12 rfl) (lv_at hl 4 rfl) ?_
    refine r_xcallV hT hlocks hw (r_xrunV (As := [.int p4]) (rest := []) S hw (m_X10_needPerson l hst D cs E d_5 H.size a0 p4 _ _) (cwV 1 S.2.2.2.2 (gV wg574 wg575 wg576 wg2 wg577) rfl rfl rfl (by decide +kernel) ⟨Nat.le_of_ble_eq_true rfl, Nat.le_of_ble_eq_true rfl⟩) (ci := 10) rfl ha0 h rfl hl.1 rfl (Nat.le_of_ble_eq_true rfl) (dd_at ddX10_event 13 rfl) ⟨Nat.le_of_ble_eq_true rfl, Nat.le_of_ble_eq_true rfl⟩) (Nat.le_of_ble_eq_true rfl) (Nat.le_of_ble_eq_true rfl) (fun d_7 H locs h hw => ?_)
    refine lv_iload_n S.1 S.2.1 (dd_at ddX10_event 14 rfl) rfl (lv_at hl 3 rfl) ?_
    refine lv_iload S.1 S.2.1 (dd_at ddX10_event 15 rfl) (lv_at hl 4 rfl) ?_
    refine lv_icmp_eq (tgt := 77) S.1 S.2.1 (dd_at ddX10_event 16 rfl) (by decide) (fun hc_9 => ?_) (fun hc_9 => ?_)
    · have h := h.1 hc_9
      refine lv_iconst (v := 0) S.1 S.2.1 (dd_at ddX10_event 19 rfl) (by decide) ?_
      exact tb78 0 d_7 H locs ls h hw (lv_sub hl [0, 1, 2, 3, 4] rfl)
    · have h := h.2 hc_9
      refine lv_iconst (v := 1) S.1 S.2.1 (dd_at ddX10_event 17 rfl) (by decide) ?_
      refine lv_goto (tgt := 78) S.1 S.2.1 (dd_at ddX10_event 18 rfl) (by decide) ?_
      exact tb78 1 d_7 H locs ls h hw (lv_sub hl [0, 1, 2, 3, 4] rfl)
  have tb121 : ∀ (d : Dy) (H : Heap) (locs : List Loc) (ls : Array Slot), b_X10_event_121 E a0 p1 p2 p3 p4 K X d → Wd D cs (AW E sz) s.heap s E d H locs → lv_has ls 5 [(0, .ref a0), (1, .int p1), (2, .int p2), (3, .int p3), (4, .int p4)] → W p l e rm_X10_event s m ([.ref a0, .int p1, .int p2, .int p3, .int p4] : List Value).toArray below meth c H locs 1 6 (vx_MQ below (va_Qi K (OutW D cs E (AW E sz)) (AW E sz)) (XX D cs E sz X) ([.ref a0, .int p1, .int p2, .int p3, .int p4] : List Value).toArray s rm_X10_event.cells rm_X10_event.slots (AW E sz)) (F0 m 121 ls []) := by
    intro d H locs ls h hw hl
    unfold b_X10_event_121 at h
    refine lv_iconst (v := 0) S.1 S.2.1 (dd_at ddX10_event 39 rfl) (by decide) ?_
    refine r_xcallV hT hlocks hw (r_xrunS (As := [.int 0]) (rest := []) S hw (m_X10_need l hst D cs E d H.size 0 _ _) (va_cwS 1 S.2.2.2.2 (gS wg361 wg362 wg2 wg363) rfl rfl rfl (by decide +kernel) ⟨Nat.le_of_ble_eq_true rfl, Nat.le_of_ble_eq_true rfl⟩) h rfl hl.1 rfl (Nat.le_of_ble_eq_true rfl) (dd_at ddX10_event 40 rfl) ⟨Nat.le_of_ble_eq_true rfl, Nat.le_of_ble_eq_true rfl⟩) (Nat.le_of_ble_eq_true rfl) (Nat.le_of_ble_eq_true rfl) (fun d_10 H locs h hw => ?_)
    refine W.widen (k := 4) (n := 24) (Nat.le_of_ble_eq_true rfl) (Nat.le_of_ble_eq_true rfl) ?_
    exact tb125 d_10 H locs ls h hw (lv_sub hl [0, 1, 2, 3, 4] rfl)
  refine lv_iload_n S.1 S.2.1 (dd_at ddX10_event 0 rfl) rfl (lv_at hl 1 rfl) ?_
  refine r_xcallV hT hlocks hw (r_xrunS (As := [.int p1]) (rest := []) S hw (m_X10_needYear l hst D cs E d H.size p1 _ _) (va_cwS 1 S.2.2.2.2 (gS wg607 wg608 wg2 wg609) rfl rfl rfl (by decide +kernel) ⟨Nat.le_of_ble_eq_true rfl, Nat.le_of_ble_eq_true rfl⟩) h rfl hl.1 rfl (Nat.le_of_ble_eq_true rfl) (dd_at ddX10_event 1 rfl) ⟨Nat.le_of_ble_eq_true rfl, Nat.le_of_ble_eq_true rfl⟩) (Nat.le_of_ble_eq_true rfl) (Nat.le_of_ble_eq_true rfl) (fun d_12 H locs h hw => ?_)
  refine lv_iload_n S.1 S.2.1 (dd_at ddX10_event 2 rfl) rfl (lv_at hl 2 rfl) ?_
  by_cases hc_17 : p2 = 0
  · have h := h.1 hc_17
    refine lv_tableIn (off := 43) (tgt := 48) S.1 S.2.1 (dd_at ddX10_event 3 rfl) (by rw [hc_17]; decide) (by rw [hc_17]; decide) (by rw [hc_17]; rfl) (by decide) ?_
    refine lv_aload_n S.1 S.2.1 (dd_at ddX10_event 4 rfl) rfl (lv_at hl 0 rfl) ?_
    refine lv_iload_n S.1 S.2.1 (dd_at ddX10_event 5 rfl) rfl (lv_at hl 3 rfl) ?_
    refine r_xcallV hT hlocks hw (r_xrunV (As := [.int p3]) (rest := []) S hw (m_X10_needPerson l hst D cs E d_12 H.size a0 p3 _ _) (cwV 1 S.2.2.2.2 (gV wg574 wg575 wg576 wg2 wg577) rfl rfl rfl (by decide +kernel) ⟨Nat.le_of_ble_eq_true rfl, Nat.le_of_ble_eq_true rfl⟩) (ci := 10) rfl ha0 h rfl hl.1 rfl (Nat.le_of_ble_eq_true rfl) (dd_at ddX10_event 6 rfl) ⟨Nat.le_of_ble_eq_true rfl, Nat.le_of_ble_eq_true rfl⟩) (Nat.le_of_ble_eq_true rfl) (Nat.le_of_ble_eq_true rfl) (fun d_15 H locs h hw => ?_)
    refine lv_goto (tgt := 125) S.1 S.2.1 (dd_at ddX10_event 7 rfl) (by decide) ?_
    refine W.widen (k := 4) (n := 24) (Nat.le_of_ble_eq_true rfl) (Nat.le_of_ble_eq_true rfl) ?_
    exact tb125 d_15 H locs ls h hw (lv_sub hl [0, 1, 2, 3, 4] rfl)
  · skip
    by_cases hc_18 : p2 = 1
    · have h := h.2.1 hc_18
      refine lv_tableIn (off := 51) (tgt := 56) S.1 S.2.1 (dd_at ddX10_event 3 rfl) (by rw [hc_18]; decide) (by rw [hc_18]; decide) (by rw [hc_18]; rfl) (by decide) ?_
      exact tb56 d_12 H locs ls h hw (lv_sub hl [0, 1, 2, 3, 4] rfl)
    · skip
      by_cases hc_19 : p2 = 2
      · have h := h.2.2.1 hc_19
        refine lv_tableIn (off := 51) (tgt := 56) S.1 S.2.1 (dd_at ddX10_event 3 rfl) (by rw [hc_19]; decide) (by rw [hc_19]; decide) (by rw [hc_19]; rfl) (by decide) ?_
        exact tb56 d_12 H locs ls h hw (lv_sub hl [0, 1, 2, 3, 4] rfl)
      · skip
        by_cases hc_20 : p2 = 3
        · have h := h.2.2.2.1 hc_20
          refine lv_tableIn (off := 51) (tgt := 56) S.1 S.2.1 (dd_at ddX10_event 3 rfl) (by rw [hc_20]; decide) (by rw [hc_20]; decide) (by rw [hc_20]; rfl) (by decide) ?_
          exact tb56 d_12 H locs ls h hw (lv_sub hl [0, 1, 2, 3, 4] rfl)
        · skip
          by_cases hc_21 : p2 = 4
          · have h := h.2.2.2.2.1 hc_21
            refine lv_tableIn (off := 116) (tgt := 121) S.1 S.2.1 (dd_at ddX10_event 3 rfl) (by rw [hc_21]; decide) (by rw [hc_21]; decide) (by rw [hc_21]; rfl) (by decide) ?_
            exact tb121 d_12 H locs ls h hw (lv_sub hl [0, 1, 2, 3, 4] rfl)
          · skip
            by_cases hc_26 : p2 = 5
            · have h := h.2.2.2.2.2.1 hc_26
              refine lv_tableIn (off := 79) (tgt := 84) S.1 S.2.1 (dd_at ddX10_event 3 rfl) (by rw [hc_26]; decide) (by rw [hc_26]; decide) (by rw [hc_26]; rfl) (by decide) ?_
              refine lv_aload_n S.1 S.2.1 (dd_at ddX10_event 22 rfl) rfl (lv_at hl 0 rfl) ?_
              refine lv_iload_n S.1 S.2.1 (dd_at ddX10_event 23 rfl) rfl (lv_at hl 3 rfl) ?_
              refine r_xcallV hT hlocks hw (r_xrunV (As := [.int p3]) (rest := []) S hw (m_X10_needHut l hst D cs E d_12 H.size a0 p3 _ _) (cwV 1 S.2.2.2.2 (gV wg610 wg611 wg612 wg2 wg613) rfl rfl rfl (by decide +kernel) ⟨Nat.le_of_ble_eq_true rfl, Nat.le_of_ble_eq_true rfl⟩) (ci := 10) rfl ha0 h rfl hl.1 rfl (Nat.le_of_ble_eq_true rfl) (dd_at ddX10_event 24 rfl) ⟨Nat.le_of_ble_eq_true rfl, Nat.le_of_ble_eq_true rfl⟩) (Nat.le_of_ble_eq_true rfl) (Nat.le_of_ble_eq_true rfl) (fun d_22 H locs h hw => ?_)
              refine lv_aload_n S.1 S.2.1 (dd_at ddX10_event 25 rfl) rfl (lv_at hl 0 rfl) ?_
              refine lv_iload S.1 S.2.1 (dd_at ddX10_event 26 rfl) (lv_at hl 4 rfl) ?_
              refine r_xcallV hT hlocks hw (r_xrunV (As := [.int p4]) (rest := []) S hw (m_X10_needPerson l hst D cs E d_22 H.size a0 p4 _ _) (cwV 1 S.2.2.2.2 (gV wg574 wg575 wg576 wg2 wg577) rfl rfl rfl (by decide +kernel) ⟨Nat.le_of_ble_eq_true rfl, Nat.le_of_ble_eq_true rfl⟩) (ci := 10) rfl ha0 h rfl hl.1 rfl (Nat.le_of_ble_eq_true rfl) (dd_at ddX10_event 27 rfl) ⟨Nat.le_of_ble_eq_true rfl, Nat.le_of_ble_eq_true rfl⟩) (Nat.le_of_ble_eq_true rfl) (Nat.le_of_ble_eq_true rfl) (fun d_24 H locs h hw => ?_)
              refine lv_goto (tgt := 125) S.1 S.2.1 (dd_at ddX10_event 28 rfl) (by decide) ?_
              refine W.widen (k := 4) (n := 24) (Nat.le_of_ble_eq_true rfl) (Nat.le_of_ble_eq_true rfl) ?_
              exact tb125 d_24 H locs ls h hw (lv_sub hl [0, 1, 2, 3, 4] rfl)
            · skip
              by_cases hc_39 : p2 = 6
              · have h := h.2.2.2.2.2.2.1 hc_39
                refine lv_tableIn (off := 93) (tgt := 98) S.1 S.2.1 (dd_at ddX10_event 3 rfl) (by rw [hc_39]; decide) (by rw [hc_39]; decide) (by rw [hc_39]; rfl) (by decide) ?_
                refine lv_aload_n S.1 S.2.1 (dd_at ddX10_event 29 rfl) rfl (lv_at hl 0 rfl) ?_
                refine lv_iload_n S.1 S.2.1 (dd_at ddX10_event 30 rfl) rfl (lv_at hl 3 rfl) ?_
                refine r_xcallV hT hlocks hw (r_xrunV (As := [.int p3]) (rest := []) S hw (m_X10_needHut l hst D cs E d_12 H.size a0 p3 _ _) (cwV 1 S.2.2.2.2 (gV wg610 wg611 wg612 wg2 wg613) rfl rfl rfl (by decide +kernel) ⟨Nat.le_of_ble_eq_true rfl, Nat.le_of_ble_eq_true rfl⟩) (ci := 10) rfl ha0 h rfl hl.1 rfl (Nat.le_of_ble_eq_true rfl) (dd_at ddX10_event 31 rfl) ⟨Nat.le_of_ble_eq_true rfl, Nat.le_of_ble_eq_true rfl⟩) (Nat.le_of_ble_eq_true rfl) (Nat.le_of_ble_eq_true rfl) (fun d_27 H locs h hw => ?_)
                refine lv_iload S.1 S.2.1 (dd_at ddX10_event 32 rfl) (lv_at hl 4 rfl) ?_
                refine lv_aload_n S.1 S.2.1 (dd_at ddX10_event 33 rfl) rfl (lv_at hl 0 rfl) ?_
                obtain ⟨b_29, hb_30, ho_31, h⟩ := h
                refine r_getR S hw 10 0 rfl inG10 (by decide) (List.mem_cons_of_mem _ wg16) (by decide) ha0 hb_30 (dd_at ddX10_event 34 rfl) ?_
                obtain ⟨b_32, hb_33, ho_34, h⟩ := h
                refine r_getRN S hw 8 2 rfl inG8 (by decide) nx7 (by decide) ho_31 hb_33 (dd_at ddX10_event 35 rfl) ?_
                refine r_callI hw (r_runV (As := []) (rest := [.int p4]) S hw (m_X6_size l D cs E d_27 H.size b_32 _) (cwV 0 S.2.2.2.2 (gV wg578 wg372 wg373 wg51 wg374) rfl rfl rfl (by decide +kernel) ⟨Nat.le_of_ble_eq_true rfl, Nat.le_of_ble_eq_true rfl⟩) (ci := 6) rfl ho_34 h rfl hl.1 rfl (Nat.le_of_ble_eq_true rfl) (dd_at ddX10_event 36 rfl) ⟨Nat.le_of_ble_eq_true rfl, Nat.le_of_ble_eq_true rfl⟩) (fun r_36 d_35 H locs h hw => ?_)
                refine r_xcallV hT hlocks hw (r_xrunS (As := [.int p4, .int r_36]) (rest := []) S hw (m_X10_needIndex l hst D cs E d_35 H.size p4 r_36 _ _) (va_cwS 2 S.2.2.2.2 (gS wg579 wg580 wg2 wg581) rfl rfl rfl (by decide +kernel) ⟨Nat.le_of_ble_eq_true rfl, Nat.le_of_ble_eq_true rfl⟩) h rfl hl.1 rfl (Nat.le_of_ble_eq_true rfl) (dd_at ddX10_event 37 rfl) ⟨Nat.le_of_ble_eq_true rfl, Nat.le_of_ble_eq_true rfl⟩) (Nat.le_of_ble_eq_true rfl) (Nat.le_of_ble_eq_true rfl) (fun d_37 H locs h hw => ?_)
                refine lv_goto (tgt := 125) S.1 S.2.1 (dd_at ddX10_event 38 rfl) (by decide) ?_
                refine W.widen (k := 4) (n := 24) (Nat.le_of_ble_eq_true rfl) (Nat.le_of_ble_eq_true rfl) ?_
                exact tb125 d_37 H locs ls h hw (lv_sub hl [0, 1, 2, 3, 4] rfl)
              · skip
                have h := h.2.2.2.2.2.2.2 hc_17 hc_18 hc_19 hc_20 hc_21 hc_26 hc_39
                have thc_17 := lv_neT (k := 0) (a := 0) hc_17 (by decide)
                have thc_18 := lv_neT (k := 1) (a := 1) hc_18 (by decide)
                have thc_19 := lv_neT (k := 2) (a := 2) hc_19 (by decide)
                have thc_20 := lv_neT (k := 3) (a := 3) hc_20 (by decide)
                have thc_21 := lv_neT (k := 4) (a := 4) hc_21 (by decide)
                have thc_26 := lv_neT (k := 5) (a := 5) hc_26 (by decide)
                have thc_39 := lv_neT (k := 6) (a := 6) hc_39 (by decide)
                refine lv_tableOut (tgt := 121) S.1 S.2.1 (dd_at ddX10_event 3 rfl) (by omega) (by decide) ?_
                exact tb121 d_12 H locs ls h hw (lv_sub hl [0, 1, 2, 3, 4] rfl)

def w_X10_sale (E : En) (a0 : Nat) (p1 : Int32) (p2 : Int32) (p3 : Int32) (p4 : Int32) (d : Dy) (K : Int32 → Dy → Prop) (X : String → Dy → Prop) : Prop := okO E a0 10 ∧ w_X10_needYear E p1 d (fun d_1 => w_X10_needHut E a0 p2 d_1 (fun d_3 => w_X10_needPerson E a0 p3 d_3 (fun d_5 => w_X10_needBetween E p4 0 9999 d_5 (fun d_7 => w_X10_addEvent E a0 p1 4 p2 p3 p4 d_7 (fun r_10 d_9 => K r_10 d_9) X) X) X) X) X
abbrev rm_X10_sale : Room := { frames := 8, cells := 5, slots := 30, locals := 146 }
set_option maxRecDepth 100000 in
set_option maxHeartbeats 4000000 in
theorem m_X10_sale (l : Launch) (hst : l.stackTraces = false) (D : va_G) (cs : Nat → ClassId) (E : En) (d : Dy) (sz : Nat) (a0 : Nat) (p1 : Int32) (p2 : Int32) (p3 : Int32) (p4 : Int32) (K : Int32 → Dy → Prop) (X : String → Dy → Prop) : XI l yX10_sale (.code yX10_sale cX10_sale 5 (some .int) :: wsL_law) rm_X10_sale D cs E d sz [.ref a0, .int p1, .int p2, .int p3, .int p4] (w_X10_sale E a0 p1 p2 p3 p4 d K X) K X := by
  refine e_ofX (cc := cX10_sale) (maxL := 5) (ret := (some .int)) (own := RX10) (by decide) rfl rfl (Nat.le_of_ble_eq_true rfl) ?_
  intro p e s m below meth c S hr hlocks hsz hT H locs hw h ls hl
  have hl : lv_has ls 5 [(0, .ref a0), (1, .int p1), (2, .int p2), (3, .int p3), (4, .int p4)] := hl
  unfold w_X10_sale at h
  obtain ⟨ha0, h⟩ := h
  refine lv_iload_n S.1 S.2.1 (dd_at ddX10_sale 0 rfl) rfl (lv_at hl 1 rfl) ?_
  refine r_xcallV hT hlocks hw (r_xrunS (As := [.int p1]) (rest := []) S hw (m_X10_needYear l hst D cs E d H.size p1 _ _) (va_cwS 1 S.2.2.2.2 (gS wg607 wg608 wg2 wg609) rfl rfl rfl (by decide +kernel) ⟨Nat.le_of_ble_eq_true rfl, Nat.le_of_ble_eq_true rfl⟩) h rfl hl.1 rfl (Nat.le_of_ble_eq_true rfl) (dd_at ddX10_sale 1 rfl) ⟨Nat.le_of_ble_eq_true rfl, Nat.le_of_ble_eq_true rfl⟩) (Nat.le_of_ble_eq_true rfl) (Nat.le_of_ble_eq_true rfl) (fun d_1 H locs h hw => ?_)
  refine lv_aload_n S.1 S.2.1 (dd_at ddX10_sale 2 rfl) rfl (lv_at hl 0 rfl) ?_
  refine lv_iload_n S.1 S.2.1 (dd_at ddX10_sale 3 rfl) rfl (lv_at hl 2 rfl) ?_
  refine r_xcallV hT hlocks hw (r_xrunV (As := [.int p2]) (rest := []) S hw (m_X10_needHut l hst D cs E d_1 H.size a0 p2 _ _) (cwV 1 S.2.2.2.2 (gV wg610 wg611 wg612 wg2 wg613) rfl rfl rfl (by decide +kernel) ⟨Nat.le_of_ble_eq_true rfl, Nat.le_of_ble_eq_true rfl⟩) (ci := 10) rfl ha0 h rfl hl.1 rfl (Nat.le_of_ble_eq_true rfl) (dd_at ddX10_sale 4 rfl) ⟨Nat.le_of_ble_eq_true rfl, Nat.le_of_ble_eq_true rfl⟩) (Nat.le_of_ble_eq_true rfl) (Nat.le_of_ble_eq_true rfl) (fun d_3 H locs h hw => ?_)
  refine lv_aload_n S.1 S.2.1 (dd_at ddX10_sale 5 rfl) rfl (lv_at hl 0 rfl) ?_
  refine lv_iload_n S.1 S.2.1 (dd_at ddX10_sale 6 rfl) rfl (lv_at hl 3 rfl) ?_
  refine r_xcallV hT hlocks hw (r_xrunV (As := [.int p3]) (rest := []) S hw (m_X10_needPerson l hst D cs E d_3 H.size a0 p3 _ _) (cwV 1 S.2.2.2.2 (gV wg574 wg575 wg576 wg2 wg577) rfl rfl rfl (by decide +kernel) ⟨Nat.le_of_ble_eq_true rfl, Nat.le_of_ble_eq_true rfl⟩) (ci := 10) rfl ha0 h rfl hl.1 rfl (Nat.le_of_ble_eq_true rfl) (dd_at ddX10_sale 7 rfl) ⟨Nat.le_of_ble_eq_true rfl, Nat.le_of_ble_eq_true rfl⟩) (Nat.le_of_ble_eq_true rfl) (Nat.le_of_ble_eq_true rfl) (fun d_5 H locs h hw => ?_)
  refine lv_iload S.1 S.2.1 (dd_at ddX10_sale 8 rfl) (lv_at hl 4 rfl) ?_
  refine lv_iconst (v := 0) S.1 S.2.1 (dd_at ddX10_sale 9 rfl) (by decide) ?_
  refine lv_sipush (v := 9999) S.1 S.2.1 (dd_at ddX10_sale 10 rfl) (by decide) ?_
  refine r_xcallV hT hlocks hw (r_xrunS (As := [.int p4, .int 0, .int 9999]) (rest := []) S hw (m_X10_needBetween l hst D cs E d_5 H.size p4 0 9999 _ _) (va_cwS 3 S.2.2.2.2 (gS wg525 wg526 wg2 wg527) rfl rfl rfl (by decide +kernel) ⟨Nat.le_of_ble_eq_true rfl, Nat.le_of_ble_eq_true rfl⟩) h rfl hl.1 rfl (Nat.le_of_ble_eq_true rfl) (dd_at ddX10_sale 11 rfl) ⟨Nat.le_of_ble_eq_true rfl, Nat.le_of_ble_eq_true rfl⟩) (Nat.le_of_ble_eq_true rfl) (Nat.le_of_ble_eq_true rfl) (fun d_7 H locs h hw => ?_)
  refine lv_aload_n S.1 S.2.1 (dd_at ddX10_sale 12 rfl) rfl (lv_at hl 0 rfl) ?_
  refine lv_iload_n S.1 S.2.1 (dd_at ddX10_sale 13 rfl) rfl (lv_at hl 1 rfl) ?_
  refine lv_iconst (v := 4) S.1 S.2.1 (dd_at ddX10_sale 14 rfl) (by decide) ?_
  refine lv_iload_n S.1 S.2.1 (dd_at ddX10_sale 15 rfl) rfl (lv_at hl 2 rfl) ?_
  refine lv_iload_n S.1 S.2.1 (dd_at ddX10_sale 16 rfl) rfl (lv_at hl 3 rfl) ?_
  refine lv_iload S.1 S.2.1 (dd_at ddX10_sale 17 rfl) (lv_at hl 4 rfl) ?_
  refine r_xcallI hT hlocks hw (r_xrunV (As := [.int p1, .int 4, .int p2, .int p3, .int p4]) (rest := []) S hw (m_X10_addEvent l hst D cs E d_7 H.size a0 p1 4 p2 p3 p4 _ _) (cwV 5 S.2.2.2.2 (gV wg614 wg615 wg616 wg2 wg617) rfl rfl rfl (by decide +kernel) ⟨Nat.le_of_ble_eq_true rfl, Nat.le_of_ble_eq_true rfl⟩) (ci := 10) rfl ha0 h rfl hl.1 rfl (Nat.le_of_ble_eq_true rfl) (dd_at ddX10_sale 18 rfl) ⟨Nat.le_of_ble_eq_true rfl, Nat.le_of_ble_eq_true rfl⟩) (Nat.le_of_ble_eq_true rfl) (Nat.le_of_ble_eq_true rfl) (fun r_10 d_9 H locs h hw => ?_)
  exact vx_ret (e_I S hr hlocks hw h (dd_at ddX10_sale 19 rfl))

def w_X10_needHutInYears (E : En) (a0 : Nat) (p1 : Int32) (p2 : Int32) (p3 : Int32) (d : Dy) (K : Dy → Prop) (X : String → Dy → Prop) : Prop := okO E a0 10 ∧ w_X10_needHut E a0 p1 d (fun d_1 => w_X10_needYear E p2 d_1 (fun d_3 => w_X10_needYear E p3 d_3 (fun d_5 => K d_5) X) X) X
abbrev rm_X10_needHutInYears : Room := { frames := 8, cells := 3, slots := 18, locals := 142 }
set_option maxRecDepth 100000 in
set_option maxHeartbeats 4000000 in
theorem m_X10_needHutInYears (l : Launch) (hst : l.stackTraces = false) (D : va_G) (cs : Nat → ClassId) (E : En) (d : Dy) (sz : Nat) (a0 : Nat) (p1 : Int32) (p2 : Int32) (p3 : Int32) (K : Dy → Prop) (X : String → Dy → Prop) : XV l yX10_needHutInYears (.code yX10_needHutInYears cX10_needHutInYears 4 none :: wsL_law) rm_X10_needHutInYears D cs E d sz [.ref a0, .int p1, .int p2, .int p3] (w_X10_needHutInYears E a0 p1 p2 p3 d K X) K X := by
  refine e_ofX (cc := cX10_needHutInYears) (maxL := 4) (ret := none) (own := RX10) (by decide) rfl rfl (Nat.le_of_ble_eq_true rfl) ?_
  intro p e s m below meth c S hr hlocks hsz hT H locs hw h ls hl
  have hl : lv_has ls 4 [(0, .ref a0), (1, .int p1), (2, .int p2), (3, .int p3)] := hl
  unfold w_X10_needHutInYears at h
  obtain ⟨ha0, h⟩ := h
  refine lv_aload_n S.1 S.2.1 (dd_at ddX10_needHutInYears 0 rfl) rfl (lv_at hl 0 rfl) ?_
  refine lv_iload_n S.1 S.2.1 (dd_at ddX10_needHutInYears 1 rfl) rfl (lv_at hl 1 rfl) ?_
  refine r_xcallV hT hlocks hw (r_xrunV (As := [.int p1]) (rest := []) S hw (m_X10_needHut l hst D cs E d H.size a0 p1 _ _) (cwV 1 S.2.2.2.2 (gV wg610 wg611 wg612 wg2 wg613) rfl rfl rfl (by decide +kernel) ⟨Nat.le_of_ble_eq_true rfl, Nat.le_of_ble_eq_true rfl⟩) (ci := 10) rfl ha0 h rfl hl.1 rfl (Nat.le_of_ble_eq_true rfl) (dd_at ddX10_needHutInYears 2 rfl) ⟨Nat.le_of_ble_eq_true rfl, Nat.le_of_ble_eq_true rfl⟩) (Nat.le_of_ble_eq_true rfl) (Nat.le_of_ble_eq_true rfl) (fun d_1 H locs h hw => ?_)
  refine lv_iload_n S.1 S.2.1 (dd_at ddX10_needHutInYears 3 rfl) rfl (lv_at hl 2 rfl) ?_
  refine r_xcallV hT hlocks hw (r_xrunS (As := [.int p2]) (rest := []) S hw (m_X10_needYear l hst D cs E d_1 H.size p2 _ _) (va_cwS 1 S.2.2.2.2 (gS wg607 wg608 wg2 wg609) rfl rfl rfl (by decide +kernel) ⟨Nat.le_of_ble_eq_true rfl, Nat.le_of_ble_eq_true rfl⟩) h rfl hl.1 rfl (Nat.le_of_ble_eq_true rfl) (dd_at ddX10_needHutInYears 4 rfl) ⟨Nat.le_of_ble_eq_true rfl, Nat.le_of_ble_eq_true rfl⟩) (Nat.le_of_ble_eq_true rfl) (Nat.le_of_ble_eq_true rfl) (fun d_3 H locs h hw => ?_)
  refine lv_iload_n S.1 S.2.1 (dd_at ddX10_needHutInYears 5 rfl) rfl (lv_at hl 3 rfl) ?_
  refine r_xcallV hT hlocks hw (r_xrunS (As := [.int p3]) (rest := []) S hw (m_X10_needYear l hst D cs E d_3 H.size p3 _ _) (va_cwS 1 S.2.2.2.2 (gS wg607 wg608 wg2 wg609) rfl rfl rfl (by decide +kernel) ⟨Nat.le_of_ble_eq_true rfl, Nat.le_of_ble_eq_true rfl⟩) h rfl hl.1 rfl (Nat.le_of_ble_eq_true rfl) (dd_at ddX10_needHutInYears 6 rfl) ⟨Nat.le_of_ble_eq_true rfl, Nat.le_of_ble_eq_true rfl⟩) (Nat.le_of_ble_eq_true rfl) (Nat.le_of_ble_eq_true rfl) (fun d_5 H locs h hw => ?_)
  exact vx_ret (e_V S hr hlocks hw h (dd_at ddX10_needHutInYears 7 rfl))

def w_X10_holder (E : En) (a0 : Nat) (p1 : Int32) (p2 : Int32) (p3 : Int32) (d : Dy) (K : Int32 → Dy → Prop) (X : String → Dy → Prop) : Prop := okO E a0 10 ∧ w_X10_needHutInYears E a0 p1 p2 p3 d (fun d_1 => ∃ b_3 : Nat, eR E a0 5 = some b_3 ∧ okO E b_3 3 ∧ w_X3_begin E b_3 p3 d_1 (fun d_6 => ∃ b_8 : Nat, eR E a0 5 = some b_8 ∧ okO E b_8 3 ∧ w_X3_goTo E b_8 p2 d_6 (fun d_11 => ∃ b_13 : Nat, eR E a0 5 = some b_13 ∧ okO E b_13 3 ∧ w_X3_holderOf E b_13 p1 d_11 (fun r_17 d_16 => K r_17 d_16)))) X
abbrev rm_X10_holder : Room := { frames := 9, cells := 3, slots := 18, locals := 165 }
set_option maxRecDepth 100000 in
set_option maxHeartbeats 4000000 in
theorem m_X10_holder (l : Launch) (hst : l.stackTraces = false) (D : va_G) (cs : Nat → ClassId) (E : En) (d : Dy) (sz : Nat) (a0 : Nat) (p1 : Int32) (p2 : Int32) (p3 : Int32) (K : Int32 → Dy → Prop) (X : String → Dy → Prop) : XI l yX10_holder (.code yX10_holder cX10_holder 4 (some .int) :: wsL_law) rm_X10_holder D cs E d sz [.ref a0, .int p1, .int p2, .int p3] (w_X10_holder E a0 p1 p2 p3 d K X) K X := by
  refine e_ofX (cc := cX10_holder) (maxL := 4) (ret := (some .int)) (own := RX10) (by decide) rfl rfl (Nat.le_of_ble_eq_true rfl) ?_
  intro p e s m below meth c S hr hlocks hsz hT H locs hw h ls hl
  have hl : lv_has ls 4 [(0, .ref a0), (1, .int p1), (2, .int p2), (3, .int p3)] := hl
  unfold w_X10_holder at h
  obtain ⟨ha0, h⟩ := h
  refine lv_aload_n S.1 S.2.1 (dd_at ddX10_holder 0 rfl) rfl (lv_at hl 0 rfl) ?_
  refine lv_iload_n S.1 S.2.1 (dd_at ddX10_holder 1 rfl) rfl (lv_at hl 1 rfl) ?_
  refine lv_iload_n S.1 S.2.1 (dd_at ddX10_holder 2 rfl) rfl (lv_at hl 2 rfl) ?_
  refine lv_iload_n S.1 S.2.1 (dd_at ddX10_holder 3 rfl) rfl (lv_at hl 3 rfl) ?_
  refine r_xcallV hT hlocks hw (r_xrunV (As := [.int p1, .int p2, .int p3]) (rest := []) S hw (m_X10_needHutInYears l hst D cs E d H.size a0 p1 p2 p3 _ _) (cwV 3 S.2.2.2.2 (gV wg657 wg658 wg659 wg2 wg660) rfl rfl rfl (by decide +kernel) ⟨Nat.le_of_ble_eq_true rfl, Nat.le_of_ble_eq_true rfl⟩) (ci := 10) rfl ha0 h rfl hl.1 rfl (Nat.le_of_ble_eq_true rfl) (dd_at ddX10_holder 4 rfl) ⟨Nat.le_of_ble_eq_true rfl, Nat.le_of_ble_eq_true rfl⟩) (Nat.le_of_ble_eq_true rfl) (Nat.le_of_ble_eq_true rfl) (fun d_1 H locs h hw => ?_)
  refine lv_aload_n S.1 S.2.1 (dd_at ddX10_holder 5 rfl) rfl (lv_at hl 0 rfl) ?_
  obtain ⟨b_3, hb_4, ho_5, h⟩ := h
  refine r_getR S hw 10 5 rfl inG10 (by decide) (List.mem_cons_of_mem _ wg26) (by decide) ha0 hb_4 (dd_at ddX10_holder 6 rfl) ?_
  refine lv_iload_n S.1 S.2.1 (dd_at ddX10_holder 7 rfl) rfl (lv_at hl 3 rfl) ?_
  refine r_callV hw (r_runV (As := [.int p3]) (rest := []) S hw (m_X3_begin l D cs E d_1 H.size b_3 p3 _) (cwV 1 S.2.2.2.2 (gV wg661 wg662 wg663 wg25 wg664) rfl rfl rfl (by decide +kernel) ⟨Nat.le_of_ble_eq_true rfl, Nat.le_of_ble_eq_true rfl⟩) (ci := 3) rfl ho_5 h rfl hl.1 rfl (Nat.le_of_ble_eq_true rfl) (dd_at ddX10_holder 8 rfl) ⟨Nat.le_of_ble_eq_true rfl, Nat.le_of_ble_eq_true rfl⟩) (fun d_6 H locs h hw => ?_)
  refine lv_aload_n S.1 S.2.1 (dd_at ddX10_holder 9 rfl) rfl (lv_at hl 0 rfl) ?_
  obtain ⟨b_8, hb_9, ho_10, h⟩ := h
  refine r_getR S hw 10 5 rfl inG10 (by decide) (List.mem_cons_of_mem _ wg26) (by decide) ha0 hb_9 (dd_at ddX10_holder 10 rfl) ?_
  refine lv_iload_n S.1 S.2.1 (dd_at ddX10_holder 11 rfl) rfl (lv_at hl 2 rfl) ?_
  refine r_callV hw (r_runV (As := [.int p2]) (rest := []) S hw (m_X3_goTo l D cs E d_6 H.size b_8 p2 _) (cwV 1 S.2.2.2.2 (gV wg678 wg679 wg680 wg25 wg681) rfl rfl rfl (by decide +kernel) ⟨Nat.le_of_ble_eq_true rfl, Nat.le_of_ble_eq_true rfl⟩) (ci := 3) rfl ho_10 h rfl hl.1 rfl (Nat.le_of_ble_eq_true rfl) (dd_at ddX10_holder 12 rfl) ⟨Nat.le_of_ble_eq_true rfl, Nat.le_of_ble_eq_true rfl⟩) (fun d_11 H locs h hw => ?_)
  refine lv_aload_n S.1 S.2.1 (dd_at ddX10_holder 13 rfl) rfl (lv_at hl 0 rfl) ?_
  obtain ⟨b_13, hb_14, ho_15, h⟩ := h
  refine r_getR S hw 10 5 rfl inG10 (by decide) (List.mem_cons_of_mem _ wg26) (by decide) ha0 hb_14 (dd_at ddX10_holder 14 rfl) ?_
  refine lv_iload_n S.1 S.2.1 (dd_at ddX10_holder 15 rfl) rfl (lv_at hl 1 rfl) ?_
  refine r_callI hw (r_runV (As := [.int p1]) (rest := []) S hw (m_X3_holderOf l D cs E d_11 H.size b_13 p1 _) (cwV 1 S.2.2.2.2 (gV wg805 wg695 wg696 wg25 wg697) rfl rfl rfl (by decide +kernel) ⟨Nat.le_of_ble_eq_true rfl, Nat.le_of_ble_eq_true rfl⟩) (ci := 3) rfl ho_15 h rfl hl.1 rfl (Nat.le_of_ble_eq_true rfl) (dd_at ddX10_holder 16 rfl) ⟨Nat.le_of_ble_eq_true rfl, Nat.le_of_ble_eq_true rfl⟩) (fun r_17 d_16 H locs h hw => ?_)
  exact vx_ret (e_I S hr hlocks hw h (dd_at ddX10_holder 17 rfl))

def w_X10_since (E : En) (a0 : Nat) (p1 : Int32) (p2 : Int32) (p3 : Int32) (d : Dy) (K : Int32 → Dy → Prop) (X : String → Dy → Prop) : Prop := okO E a0 10 ∧ w_X10_needHutInYears E a0 p1 p2 p3 d (fun d_1 => ∃ b_3 : Nat, eR E a0 5 = some b_3 ∧ okO E b_3 3 ∧ w_X3_begin E b_3 p3 d_1 (fun d_6 => ∃ b_8 : Nat, eR E a0 5 = some b_8 ∧ okO E b_8 3 ∧ w_X3_goTo E b_8 p2 d_6 (fun d_11 => ∃ b_13 : Nat, eR E a0 5 = some b_13 ∧ okO E b_13 3 ∧ w_X3_holderOf E b_13 p1 d_11 (fun r_17 d_16 => ((¬ r_17 = (-1) → ∃ b_19 : Nat, eR E a0 5 = some b_19 ∧ okO E b_19 3 ∧ w_X3_sinceOf E b_19 p1 d_16 (fun r_23 d_22 => K r_23 d_22)) ∧ (r_17 = (-1) → K (-1) d_16)))))) X
abbrev rm_X10_since : Room := { frames := 9, cells := 3, slots := 18, locals := 165 }
set_option maxRecDepth 100000 in
set_option maxHeartbeats 4000000 in
theorem m_X10_since (l : Launch) (hst : l.stackTraces = false) (D : va_G) (cs : Nat → ClassId) (E : En) (d : Dy) (sz : Nat) (a0 : Nat) (p1 : Int32) (p2 : Int32) (p3 : Int32) (K : Int32 → Dy → Prop) (X : String → Dy → Prop) : XI l yX10_since (.code yX10_since cX10_since 4 (some .int) :: wsL_law) rm_X10_since D cs E d sz [.ref a0, .int p1, .int p2, .int p3] (w_X10_since E a0 p1 p2 p3 d K X) K X := by
  refine e_ofX (cc := cX10_since) (maxL := 4) (ret := (some .int)) (own := RX10) (by decide) rfl rfl (Nat.le_of_ble_eq_true rfl) ?_
  intro p e s m below meth c S hr hlocks hsz hT H locs hw h ls hl
  have hl : lv_has ls 4 [(0, .ref a0), (1, .int p1), (2, .int p2), (3, .int p3)] := hl
  unfold w_X10_since at h
  obtain ⟨ha0, h⟩ := h
  refine lv_aload_n S.1 S.2.1 (dd_at ddX10_since 0 rfl) rfl (lv_at hl 0 rfl) ?_
  refine lv_iload_n S.1 S.2.1 (dd_at ddX10_since 1 rfl) rfl (lv_at hl 1 rfl) ?_
  refine lv_iload_n S.1 S.2.1 (dd_at ddX10_since 2 rfl) rfl (lv_at hl 2 rfl) ?_
  refine lv_iload_n S.1 S.2.1 (dd_at ddX10_since 3 rfl) rfl (lv_at hl 3 rfl) ?_
  refine r_xcallV hT hlocks hw (r_xrunV (As := [.int p1, .int p2, .int p3]) (rest := []) S hw (m_X10_needHutInYears l hst D cs E d H.size a0 p1 p2 p3 _ _) (cwV 3 S.2.2.2.2 (gV wg657 wg658 wg659 wg2 wg660) rfl rfl rfl (by decide +kernel) ⟨Nat.le_of_ble_eq_true rfl, Nat.le_of_ble_eq_true rfl⟩) (ci := 10) rfl ha0 h rfl hl.1 rfl (Nat.le_of_ble_eq_true rfl) (dd_at ddX10_since 4 rfl) ⟨Nat.le_of_ble_eq_true rfl, Nat.le_of_ble_eq_true rfl⟩) (Nat.le_of_ble_eq_true rfl) (Nat.le_of_ble_eq_true rfl) (fun d_1 H locs h hw => ?_)
  refine lv_aload_n S.1 S.2.1 (dd_at ddX10_since 5 rfl) rfl (lv_at hl 0 rfl) ?_
  obtain ⟨b_3, hb_4, ho_5, h⟩ := h
  refine r_getR S hw 10 5 rfl inG10 (by decide) (List.mem_cons_of_mem _ wg26) (by decide) ha0 hb_4 (dd_at ddX10_since 6 rfl) ?_
  refine lv_iload_n S.1 S.2.1 (dd_at ddX10_since 7 rfl) rfl (lv_at hl 3 rfl) ?_
  refine r_callV hw (r_runV (As := [.int p3]) (rest := []) S hw (m_X3_begin l D cs E d_1 H.size b_3 p3 _) (cwV 1 S.2.2.2.2 (gV wg661 wg662 wg663 wg25 wg664) rfl rfl rfl (by decide +kernel) ⟨Nat.le_of_ble_eq_true rfl, Nat.le_of_ble_eq_true rfl⟩) (ci := 3) rfl ho_5 h rfl hl.1 rfl (Nat.le_of_ble_eq_true rfl) (dd_at ddX10_since 8 rfl) ⟨Nat.le_of_ble_eq_true rfl, Nat.le_of_ble_eq_true rfl⟩) (fun d_6 H locs h hw => ?_)
  refine lv_aload_n S.1 S.2.1 (dd_at ddX10_since 9 rfl) rfl (lv_at hl 0 rfl) ?_
  obtain ⟨b_8, hb_9, ho_10, h⟩ := h
  refine r_getR S hw 10 5 rfl inG10 (by decide) (List.mem_cons_of_mem _ wg26) (by decide) ha0 hb_9 (dd_at ddX10_since 10 rfl) ?_
  refine lv_iload_n S.1 S.2.1 (dd_at ddX10_since 11 rfl) rfl (lv_at hl 2 rfl) ?_
  refine r_callV hw (r_runV (As := [.int p2]) (rest := []) S hw (m_X3_goTo l D cs E d_6 H.size b_8 p2 _) (cwV 1 S.2.2.2.2 (gV wg678 wg679 wg680 wg25 wg681) rfl rfl rfl (by decide +kernel) ⟨Nat.le_of_ble_eq_true rfl, Nat.le_of_ble_eq_true rfl⟩) (ci := 3) rfl ho_10 h rfl hl.1 rfl (Nat.le_of_ble_eq_true rfl) (dd_at ddX10_since 12 rfl) ⟨Nat.le_of_ble_eq_true rfl, Nat.le_of_ble_eq_true rfl⟩) (fun d_11 H locs h hw => ?_)
  refine lv_aload_n S.1 S.2.1 (dd_at ddX10_since 13 rfl) rfl (lv_at hl 0 rfl) ?_
  obtain ⟨b_13, hb_14, ho_15, h⟩ := h
  refine r_getR S hw 10 5 rfl inG10 (by decide) (List.mem_cons_of_mem _ wg26) (by decide) ha0 hb_14 (dd_at ddX10_since 14 rfl) ?_
  refine lv_iload_n S.1 S.2.1 (dd_at ddX10_since 15 rfl) rfl (lv_at hl 1 rfl) ?_
  refine r_callI hw (r_runV (As := [.int p1]) (rest := []) S hw (m_X3_holderOf l D cs E d_11 H.size b_13 p1 _) (cwV 1 S.2.2.2.2 (gV wg805 wg695 wg696 wg25 wg697) rfl rfl rfl (by decide +kernel) ⟨Nat.le_of_ble_eq_true rfl, Nat.le_of_ble_eq_true rfl⟩) (ci := 3) rfl ho_15 h rfl hl.1 rfl (Nat.le_of_ble_eq_true rfl) (dd_at ddX10_since 16 rfl) ⟨Nat.le_of_ble_eq_true rfl, Nat.le_of_ble_eq_true rfl⟩) (fun r_17 d_16 H locs h hw => ?_)
  refine lv_iconst (v := -1) S.1 S.2.1 (dd_at ddX10_since 17 rfl) (by decide) ?_
  refine lv_icmp_ne (tgt := 39) S.1 S.2.1 (dd_at ddX10_since 18 rfl) (by decide) (fun hc_18 => ?_) (fun hc_18 => ?_)
  · have h := h.1 hc_18
    refine lv_aload_n S.1 S.2.1 (dd_at ddX10_since 21 rfl) rfl (lv_at hl 0 rfl) ?_
    obtain ⟨b_19, hb_20, ho_21, h⟩ := h
    refine r_getR S hw 10 5 rfl inG10 (by decide) (List.mem_cons_of_mem _ wg26) (by decide) ha0 hb_20 (dd_at ddX10_since 22 rfl) ?_
    refine lv_iload_n S.1 S.2.1 (dd_at ddX10_since 23 rfl) rfl (lv_at hl 1 rfl) ?_
    refine r_callI hw (r_runV (As := [.int p1]) (rest := []) S hw (m_X3_sinceOf l D cs E d_16 H.size b_19 p1 _) (cwV 1 S.2.2.2.2 (gV wg911 wg707 wg708 wg25 wg709) rfl rfl rfl (by decide +kernel) ⟨Nat.le_of_ble_eq_true rfl, Nat.le_of_ble_eq_true rfl⟩) (ci := 3) rfl ho_21 h rfl hl.1 rfl (Nat.le_of_ble_eq_true rfl) (dd_at ddX10_since 24 rfl) ⟨Nat.le_of_ble_eq_true rfl, Nat.le_of_ble_eq_true rfl⟩) (fun r_23 d_22 H locs h hw => ?_)
    exact vx_ret (e_I S hr hlocks hw h (dd_at ddX10_since 25 rfl))
  · have h := h.2 hc_18
    refine lv_iconst (v := -1) S.1 S.2.1 (dd_at ddX10_since 19 rfl) (by decide) ?_
    refine lv_goto (tgt := 47) S.1 S.2.1 (dd_at ddX10_since 20 rfl) (by decide) ?_
    exact vx_ret (e_I S hr hlocks hw h (dd_at ddX10_since 25 rfl))

def w_X10_place (E : En) (a0 : Nat) (p1 : Int32) (p2 : Int32) (p3 : Int32) (d : Dy) (K : Int32 → Dy → Prop) (X : String → Dy → Prop) : Prop := okO E a0 10 ∧ w_X10_needHutInYears E a0 p1 p2 p3 d (fun d_1 => ∃ b_3 : Nat, eR E a0 5 = some b_3 ∧ okO E b_3 3 ∧ w_X3_begin E b_3 p3 d_1 (fun d_6 => ∃ b_8 : Nat, eR E a0 5 = some b_8 ∧ okO E b_8 3 ∧ w_X3_goTo E b_8 p2 d_6 (fun d_11 => ∃ b_13 : Nat, eR E a0 5 = some b_13 ∧ okO E b_13 3 ∧ w_X3_placeOf E b_13 p1 d_11 (fun r_17 d_16 => K r_17 d_16)))) X
abbrev rm_X10_place : Room := { frames := 9, cells := 3, slots := 18, locals := 165 }
set_option maxRecDepth 100000 in
set_option maxHeartbeats 4000000 in
theorem m_X10_place (l : Launch) (hst : l.stackTraces = false) (D : va_G) (cs : Nat → ClassId) (E : En) (d : Dy) (sz : Nat) (a0 : Nat) (p1 : Int32) (p2 : Int32) (p3 : Int32) (K : Int32 → Dy → Prop) (X : String → Dy → Prop) : XI l yX10_place (.code yX10_place cX10_place 4 (some .int) :: wsL_law) rm_X10_place D cs E d sz [.ref a0, .int p1, .int p2, .int p3] (w_X10_place E a0 p1 p2 p3 d K X) K X := by
  refine e_ofX (cc := cX10_place) (maxL := 4) (ret := (some .int)) (own := RX10) (by decide) rfl rfl (Nat.le_of_ble_eq_true rfl) ?_
  intro p e s m below meth c S hr hlocks hsz hT H locs hw h ls hl
  have hl : lv_has ls 4 [(0, .ref a0), (1, .int p1), (2, .int p2), (3, .int p3)] := hl
  unfold w_X10_place at h
  obtain ⟨ha0, h⟩ := h
  refine lv_aload_n S.1 S.2.1 (dd_at ddX10_place 0 rfl) rfl (lv_at hl 0 rfl) ?_
  refine lv_iload_n S.1 S.2.1 (dd_at ddX10_place 1 rfl) rfl (lv_at hl 1 rfl) ?_
  refine lv_iload_n S.1 S.2.1 (dd_at ddX10_place 2 rfl) rfl (lv_at hl 2 rfl) ?_
  refine lv_iload_n S.1 S.2.1 (dd_at ddX10_place 3 rfl) rfl (lv_at hl 3 rfl) ?_
  refine r_xcallV hT hlocks hw (r_xrunV (As := [.int p1, .int p2, .int p3]) (rest := []) S hw (m_X10_needHutInYears l hst D cs E d H.size a0 p1 p2 p3 _ _) (cwV 3 S.2.2.2.2 (gV wg657 wg658 wg659 wg2 wg660) rfl rfl rfl (by decide +kernel) ⟨Nat.le_of_ble_eq_true rfl, Nat.le_of_ble_eq_true rfl⟩) (ci := 10) rfl ha0 h rfl hl.1 rfl (Nat.le_of_ble_eq_true rfl) (dd_at ddX10_place 4 rfl) ⟨Nat.le_of_ble_eq_true rfl, Nat.le_of_ble_eq_true rfl⟩) (Nat.le_of_ble_eq_true rfl) (Nat.le_of_ble_eq_true rfl) (fun d_1 H locs h hw => ?_)
  refine lv_aload_n S.1 S.2.1 (dd_at ddX10_place 5 rfl) rfl (lv_at hl 0 rfl) ?_
  obtain ⟨b_3, hb_4, ho_5, h⟩ := h
  refine r_getR S hw 10 5 rfl inG10 (by decide) (List.mem_cons_of_mem _ wg26) (by decide) ha0 hb_4 (dd_at ddX10_place 6 rfl) ?_
  refine lv_iload_n S.1 S.2.1 (dd_at ddX10_place 7 rfl) rfl (lv_at hl 3 rfl) ?_
  refine r_callV hw (r_runV (As := [.int p3]) (rest := []) S hw (m_X3_begin l D cs E d_1 H.size b_3 p3 _) (cwV 1 S.2.2.2.2 (gV wg661 wg662 wg663 wg25 wg664) rfl rfl rfl (by decide +kernel) ⟨Nat.le_of_ble_eq_true rfl, Nat.le_of_ble_eq_true rfl⟩) (ci := 3) rfl ho_5 h rfl hl.1 rfl (Nat.le_of_ble_eq_true rfl) (dd_at ddX10_place 8 rfl) ⟨Nat.le_of_ble_eq_true rfl, Nat.le_of_ble_eq_true rfl⟩) (fun d_6 H locs h hw => ?_)
  refine lv_aload_n S.1 S.2.1 (dd_at ddX10_place 9 rfl) rfl (lv_at hl 0 rfl) ?_
  obtain ⟨b_8, hb_9, ho_10, h⟩ := h
  refine r_getR S hw 10 5 rfl inG10 (by decide) (List.mem_cons_of_mem _ wg26) (by decide) ha0 hb_9 (dd_at ddX10_place 10 rfl) ?_
  refine lv_iload_n S.1 S.2.1 (dd_at ddX10_place 11 rfl) rfl (lv_at hl 2 rfl) ?_
  refine r_callV hw (r_runV (As := [.int p2]) (rest := []) S hw (m_X3_goTo l D cs E d_6 H.size b_8 p2 _) (cwV 1 S.2.2.2.2 (gV wg678 wg679 wg680 wg25 wg681) rfl rfl rfl (by decide +kernel) ⟨Nat.le_of_ble_eq_true rfl, Nat.le_of_ble_eq_true rfl⟩) (ci := 3) rfl ho_10 h rfl hl.1 rfl (Nat.le_of_ble_eq_true rfl) (dd_at ddX10_place 12 rfl) ⟨Nat.le_of_ble_eq_true rfl, Nat.le_of_ble_eq_true rfl⟩) (fun d_11 H locs h hw => ?_)
  refine lv_aload_n S.1 S.2.1 (dd_at ddX10_place 13 rfl) rfl (lv_at hl 0 rfl) ?_
  obtain ⟨b_13, hb_14, ho_15, h⟩ := h
  refine r_getR S hw 10 5 rfl inG10 (by decide) (List.mem_cons_of_mem _ wg26) (by decide) ha0 hb_14 (dd_at ddX10_place 14 rfl) ?_
  refine lv_iload_n S.1 S.2.1 (dd_at ddX10_place 15 rfl) rfl (lv_at hl 1 rfl) ?_
  refine r_callI hw (r_runV (As := [.int p1]) (rest := []) S hw (m_X3_placeOf l D cs E d_11 H.size b_13 p1 _) (cwV 1 S.2.2.2.2 (gV wg923 wg802 wg803 wg25 wg804) rfl rfl rfl (by decide +kernel) ⟨Nat.le_of_ble_eq_true rfl, Nat.le_of_ble_eq_true rfl⟩) (ci := 3) rfl ho_15 h rfl hl.1 rfl (Nat.le_of_ble_eq_true rfl) (dd_at ddX10_place 16 rfl) ⟨Nat.le_of_ble_eq_true rfl, Nat.le_of_ble_eq_true rfl⟩) (fun r_17 d_16 H locs h hw => ?_)
  exact vx_ret (e_I S hr hlocks hw h (dd_at ddX10_place 17 rfl))

def w_X10_about (E : En) (a0 : Nat) (p1 : Int32) (p2 : Int32) (p3 : Int32) (p4 : Int32) (d : Dy) (K : Int32 → Dy → Prop) (X : String → Dy → Prop) : Prop := okO E a0 10 ∧ w_X10_needPerson E a0 p1 d (fun d_1 => w_X10_needYear E p2 d_1 (fun d_3 => w_X10_needYear E p3 d_3 (fun d_5 => ∃ b_7 : Nat, eR E a0 5 = some b_7 ∧ okO E b_7 3 ∧ w_X3_begin E b_7 p3 d_5 (fun d_10 => ∃ b_12 : Nat, eR E a0 5 = some b_12 ∧ okO E b_12 3 ∧ w_X3_goTo E b_12 p2 d_10 (fun d_15 => ((p4 = 0 → ∃ b_18 : Nat, eR E a0 5 = some b_18 ∧ okO E b_18 3 ∧ w_X3_lives E b_18 p1 d_15 (fun r_22 d_21 => ((r_22 = 0 → K 0 d_21) ∧ (¬ r_22 = 0 → K 1 d_21)))) ∧ (p4 = 1 → ∃ b_25 : Nat, eR E a0 5 = some b_25 ∧ okO E b_25 3 ∧ w_X3_spouseOf E b_25 p1 d_15 (fun r_29 d_28 => K r_29 d_28)) ∧ (p4 = 2 → ∃ b_31 : Nat, eR E a0 5 = some b_31 ∧ okO E b_31 3 ∧ w_X3_childrenOf E b_31 p1 d_15 (fun r_35 d_34 => w_J6_bitCount_0f7a4 E r_35 d_34 (fun r_37 d_36 => K r_37 d_36))) ∧ (p4 = 3 → ∃ b_39 : Nat, eR E a0 5 = some b_39 ∧ okO E b_39 3 ∧ ∃ b_42 : Nat, eR E a0 5 = some b_42 ∧ okO E b_42 3 ∧ w_X3_childrenOf E b_42 p1 d_15 (fun r_46 d_45 => w_X3_eldest E b_39 r_46 d_45 (fun r_48 d_47 => K r_48 d_47))) ∧ (p4 = 4 → ∃ b_50 : Nat, eR E a0 5 = some b_50 ∧ okO E b_50 3 ∧ w_X3_parentOf E b_50 p1 d_15 (fun r_54 d_53 => K r_54 d_53)) ∧ (p4 = 5 → ∃ b_56 : Nat, eR E a0 5 = some b_56 ∧ okO E b_56 3 ∧ ∃ b_59 : Nat, eR E a0 5 = some b_59 ∧ okO E b_59 3 ∧ w_X3_siblingsOf E b_59 p1 d_15 (fun r_63 d_62 => w_X3_eldest E b_56 r_63 d_62 (fun r_65 d_64 => K r_65 d_64))) ∧ (p4 = 6 → ∃ b_67 : Nat, eR E a0 5 = some b_67 ∧ okO E b_67 3 ∧ w_X3_hutsOf E b_67 p1 d_15 (fun r_71 d_70 => K r_71 d_70)) ∧ (¬ p4 = 0 → ¬ p4 = 1 → ¬ p4 = 2 → ¬ p4 = 3 → ¬ p4 = 4 → ¬ p4 = 5 → ¬ p4 = 6 → X "java/util/NoSuchElementException" d_15))))) X) X) X
abbrev rm_X10_about : Room := { frames := 8, cells := 4, slots := 24, locals := 165 }
set_option maxRecDepth 100000 in
set_option maxHeartbeats 4000000 in
theorem m_X10_about (l : Launch) (hst : l.stackTraces = false) (D : va_G) (cs : Nat → ClassId) (E : En) (d : Dy) (sz : Nat) (a0 : Nat) (p1 : Int32) (p2 : Int32) (p3 : Int32) (p4 : Int32) (K : Int32 → Dy → Prop) (X : String → Dy → Prop) : XI l yX10_about (.code yX10_about cX10_about 5 (some .int) :: wsL_law) rm_X10_about D cs E d sz [.ref a0, .int p1, .int p2, .int p3, .int p4] (w_X10_about E a0 p1 p2 p3 p4 d K X) K X := by
  refine e_ofX (cc := cX10_about) (maxL := 5) (ret := (some .int)) (own := RX10) (by decide) rfl rfl (Nat.le_of_ble_eq_true rfl) ?_
  intro p e s m below meth c S hr hlocks hsz hT H locs hw h ls hl
  have hl : lv_has ls 5 [(0, .ref a0), (1, .int p1), (2, .int p2), (3, .int p3), (4, .int p4)] := hl
  unfold w_X10_about at h
  obtain ⟨ha0, h⟩ := h
  refine lv_aload_n S.1 S.2.1 (dd_at ddX10_about 0 rfl) rfl (lv_at hl 0 rfl) ?_
  refine lv_iload_n S.1 S.2.1 (dd_at ddX10_about 1 rfl) rfl (lv_at hl 1 rfl) ?_
  refine r_xcallV hT hlocks hw (r_xrunV (As := [.int p1]) (rest := []) S hw (m_X10_needPerson l hst D cs E d H.size a0 p1 _ _) (cwV 1 S.2.2.2.2 (gV wg574 wg575 wg576 wg2 wg577) rfl rfl rfl (by decide +kernel) ⟨Nat.le_of_ble_eq_true rfl, Nat.le_of_ble_eq_true rfl⟩) (ci := 10) rfl ha0 h rfl hl.1 rfl (Nat.le_of_ble_eq_true rfl) (dd_at ddX10_about 2 rfl) ⟨Nat.le_of_ble_eq_true rfl, Nat.le_of_ble_eq_true rfl⟩) (Nat.le_of_ble_eq_true rfl) (Nat.le_of_ble_eq_true rfl) (fun d_1 H locs h hw => ?_)
  refine lv_iload_n S.1 S.2.1 (dd_at ddX10_about 3 rfl) rfl (lv_at hl 2 rfl) ?_
  refine r_xcallV hT hlocks hw (r_xrunS (As := [.int p2]) (rest := []) S hw (m_X10_needYear l hst D cs E d_1 H.size p2 _ _) (va_cwS 1 S.2.2.2.2 (gS wg607 wg608 wg2 wg609) rfl rfl rfl (by decide +kernel) ⟨Nat.le_of_ble_eq_true rfl, Nat.le_of_ble_eq_true rfl⟩) h rfl hl.1 rfl (Nat.le_of_ble_eq_true rfl) (dd_at ddX10_about 4 rfl) ⟨Nat.le_of_ble_eq_true rfl, Nat.le_of_ble_eq_true rfl⟩) (Nat.le_of_ble_eq_true rfl) (Nat.le_of_ble_eq_true rfl) (fun d_3 H locs h hw => ?_)
  refine lv_iload_n S.1 S.2.1 (dd_at ddX10_about 5 rfl) rfl (lv_at hl 3 rfl) ?_
  refine r_xcallV hT hlocks hw (r_xrunS (As := [.int p3]) (rest := []) S hw (m_X10_needYear l hst D cs E d_3 H.size p3 _ _) (va_cwS 1 S.2.2.2.2 (gS wg607 wg608 wg2 wg609) rfl rfl rfl (by decide +kernel) ⟨Nat.le_of_ble_eq_true rfl, Nat.le_of_ble_eq_true rfl⟩) h rfl hl.1 rfl (Nat.le_of_ble_eq_true rfl) (dd_at ddX10_about 6 rfl) ⟨Nat.le_of_ble_eq_true rfl, Nat.le_of_ble_eq_true rfl⟩) (Nat.le_of_ble_eq_true rfl) (Nat.le_of_ble_eq_true rfl) (fun d_5 H locs h hw => ?_)
  refine lv_aload_n S.1 S.2.1 (dd_at ddX10_about 7 rfl) rfl (lv_at hl 0 rfl) ?_
  obtain ⟨b_7, hb_8, ho_9, h⟩ := h
  refine r_getR S hw 10 5 rfl inG10 (by decide) (List.mem_cons_of_mem _ wg26) (by decide) ha0 hb_8 (dd_at ddX10_about 8 rfl) ?_
  refine lv_iload_n S.1 S.2.1 (dd_at ddX10_about 9 rfl) rfl (lv_at hl 3 rfl) ?_
  refine r_callV hw (r_runV (As := [.int p3]) (rest := []) S hw (m_X3_begin l D cs E d_5 H.size b_7 p3 _) (cwV 1 S.2.2.2.2 (gV wg661 wg662 wg663 wg25 wg664) rfl rfl rfl (by decide +kernel) ⟨Nat.le_of_ble_eq_true rfl, Nat.le_of_ble_eq_true rfl⟩) (ci := 3) rfl ho_9 h rfl hl.1 rfl (Nat.le_of_ble_eq_true rfl) (dd_at ddX10_about 10 rfl) ⟨Nat.le_of_ble_eq_true rfl, Nat.le_of_ble_eq_true rfl⟩) (fun d_10 H locs h hw => ?_)
  refine lv_aload_n S.1 S.2.1 (dd_at ddX10_about 11 rfl) rfl (lv_at hl 0 rfl) ?_
  obtain ⟨b_12, hb_13, ho_14, h⟩ := h
  refine r_getR S hw 10 5 rfl inG10 (by decide) (List.mem_cons_of_mem _ wg26) (by decide) ha0 hb_13 (dd_at ddX10_about 12 rfl) ?_
  refine lv_iload_n S.1 S.2.1 (dd_at ddX10_about 13 rfl) rfl (lv_at hl 2 rfl) ?_
  refine r_callV hw (r_runV (As := [.int p2]) (rest := []) S hw (m_X3_goTo l D cs E d_10 H.size b_12 p2 _) (cwV 1 S.2.2.2.2 (gV wg678 wg679 wg680 wg25 wg681) rfl rfl rfl (by decide +kernel) ⟨Nat.le_of_ble_eq_true rfl, Nat.le_of_ble_eq_true rfl⟩) (ci := 3) rfl ho_14 h rfl hl.1 rfl (Nat.le_of_ble_eq_true rfl) (dd_at ddX10_about 14 rfl) ⟨Nat.le_of_ble_eq_true rfl, Nat.le_of_ble_eq_true rfl⟩) (fun d_15 H locs h hw => ?_)
  refine lv_iload S.1 S.2.1 (dd_at ddX10_about 15 rfl) (lv_at hl 4 rfl) ?_
  by_cases hc_24 : p4 = 0
  · have h := h.1 hc_24
    refine lv_tableIn (off := 41) (tgt := 72) S.1 S.2.1 (dd_at ddX10_about 16 rfl) (by rw [hc_24]; decide) (by rw [hc_24]; decide) (by rw [hc_24]; rfl) (by decide) ?_
    refine lv_aload_n S.1 S.2.1 (dd_at ddX10_about 17 rfl) rfl (lv_at hl 0 rfl) ?_
    obtain ⟨b_18, hb_19, ho_20, h⟩ := h
    refine r_getR S hw 10 5 rfl inG10 (by decide) (List.mem_cons_of_mem _ wg26) (by decide) ha0 hb_19 (dd_at ddX10_about 18 rfl) ?_
    refine lv_iload_n S.1 S.2.1 (dd_at ddX10_about 19 rfl) rfl (lv_at hl 1 rfl) ?_
    refine r_callI hw (r_runV (As := [.int p1]) (rest := []) S hw (m_X3_lives l D cs E d_15 H.size b_18 p1 _) (cwV 1 S.2.2.2.2 (gV wg938 wg691 wg692 wg25 wg693) rfl rfl rfl (by decide +kernel) ⟨Nat.le_of_ble_eq_true rfl, Nat.le_of_ble_eq_true rfl⟩) (ci := 3) rfl ho_20 h rfl hl.1 rfl (Nat.le_of_ble_eq_true rfl) (dd_at ddX10_about 20 rfl) ⟨Nat.le_of_ble_eq_true rfl, Nat.le_of_ble_eq_true rfl⟩) (fun r_22 d_21 H locs h hw => ?_)
    refine lv_if_eq (tgt := 87) S.1 S.2.1 (dd_at ddX10_about 21 rfl) (by decide) (fun hc_23 => ?_) (fun hc_23 => ?_)
    · have h := h.1 hc_23
      refine lv_iconst (v := 0) S.1 S.2.1 (dd_at ddX10_about 24 rfl) (by decide) ?_
      refine W.widen (k := 4) (n := 24) (Nat.le_of_ble_eq_true rfl) (Nat.le_of_ble_eq_true rfl) ?_
      exact vx_ret (e_I S hr hlocks hw h (dd_at ddX10_about 25 rfl))
    · have h := h.2 hc_23
      refine lv_iconst (v := 1) S.1 S.2.1 (dd_at ddX10_about 22 rfl) (by decide) ?_
      refine lv_goto (tgt := 88) S.1 S.2.1 (dd_at ddX10_about 23 rfl) (by decide) ?_
      refine W.widen (k := 4) (n := 24) (Nat.le_of_ble_eq_true rfl) (Nat.le_of_ble_eq_true rfl) ?_
      exact vx_ret (e_I S hr hlocks hw h (dd_at ddX10_about 25 rfl))
  · skip
    by_cases hc_30 : p4 = 1
    · have h := h.2.1 hc_30
      refine lv_tableIn (off := 58) (tgt := 89) S.1 S.2.1 (dd_at ddX10_about 16 rfl) (by rw [hc_30]; decide) (by rw [hc_30]; decide) (by rw [hc_30]; rfl) (by decide) ?_
      refine lv_aload_n S.1 S.2.1 (dd_at ddX10_about 26 rfl) rfl (lv_at hl 0 rfl) ?_
      obtain ⟨b_25, hb_26, ho_27, h⟩ := h
      refine r_getR S hw 10 5 rfl inG10 (by decide) (List.mem_cons_of_mem _ wg26) (by decide) ha0 hb_26 (dd_at ddX10_about 27 rfl) ?_
      refine lv_iload_n S.1 S.2.1 (dd_at ddX10_about 28 rfl) rfl (lv_at hl 1 rfl) ?_
      refine r_callI hw (r_runV (As := [.int p1]) (rest := []) S hw (m_X3_spouseOf l D cs E d_15 H.size b_25 p1 _) (cwV 1 S.2.2.2.2 (gV wg939 wg770 wg771 wg25 wg772) rfl rfl rfl (by decide +kernel) ⟨Nat.le_of_ble_eq_true rfl, Nat.le_of_ble_eq_true rfl⟩) (ci := 3) rfl ho_27 h rfl hl.1 rfl (Nat.le_of_ble_eq_true rfl) (dd_at ddX10_about 29 rfl) ⟨Nat.le_of_ble_eq_true rfl, Nat.le_of_ble_eq_true rfl⟩) (fun r_29 d_28 H locs h hw => ?_)
      refine W.widen (k := 4) (n := 24) (Nat.le_of_ble_eq_true rfl) (Nat.le_of_ble_eq_true rfl) ?_
      exact vx_ret (e_I S hr hlocks hw h (dd_at ddX10_about 30 rfl))
    · skip
      by_cases hc_38 : p4 = 2
      · have h := h.2.2.1 hc_38
        refine lv_tableIn (off := 67) (tgt := 98) S.1 S.2.1 (dd_at ddX10_about 16 rfl) (by rw [hc_38]; decide) (by rw [hc_38]; decide) (by rw [hc_38]; rfl) (by decide) ?_
        refine lv_aload_n S.1 S.2.1 (dd_at ddX10_about 31 rfl) rfl (lv_at hl 0 rfl) ?_
        obtain ⟨b_31, hb_32, ho_33, h⟩ := h
        refine r_getR S hw 10 5 rfl inG10 (by decide) (List.mem_cons_of_mem _ wg26) (by decide) ha0 hb_32 (dd_at ddX10_about 32 rfl) ?_
        refine lv_iload_n S.1 S.2.1 (dd_at ddX10_about 33 rfl) rfl (lv_at hl 1 rfl) ?_
        refine r_callI hw (r_runV (As := [.int p1]) (rest := []) S hw (m_X3_childrenOf l D cs E d_15 H.size b_31 p1 _) (cwV 1 S.2.2.2.2 (gV wg940 wg720 wg721 wg25 wg722) rfl rfl rfl (by decide +kernel) ⟨Nat.le_of_ble_eq_true rfl, Nat.le_of_ble_eq_true rfl⟩) (ci := 3) rfl ho_33 h rfl hl.1 rfl (Nat.le_of_ble_eq_true rfl) (dd_at ddX10_about 34 rfl) ⟨Nat.le_of_ble_eq_true rfl, Nat.le_of_ble_eq_true rfl⟩) (fun r_35 d_34 H locs h hw => ?_)
        refine r_callI hw (r_runS (As := [.int r_35]) (rest := []) S hw (m_J6_bitCount_0f7a4 l D cs E d_34 H.size r_35 _) (va_cwS 1 S.2.2.2.2 (gS wg941 wg724 wg725 wg726) rfl rfl rfl (by decide +kernel) ⟨Nat.le_of_ble_eq_true rfl, Nat.le_of_ble_eq_true rfl⟩) h rfl hl.1 rfl (Nat.le_of_ble_eq_true rfl) (dd_at ddX10_about 35 rfl) ⟨Nat.le_of_ble_eq_true rfl, Nat.le_of_ble_eq_true rfl⟩) (fun r_37 d_36 H locs h hw => ?_)
        refine W.widen (k := 4) (n := 24) (Nat.le_of_ble_eq_true rfl) (Nat.le_of_ble_eq_true rfl) ?_
        exact vx_ret (e_I S hr hlocks hw h (dd_at ddX10_about 36 rfl))
      · skip
        by_cases hc_49 : p4 = 3
        · have h := h.2.2.2.1 hc_49
          refine lv_tableIn (off := 79) (tgt := 110) S.1 S.2.1 (dd_at ddX10_about 16 rfl) (by rw [hc_49]; decide) (by rw [hc_49]; decide) (by rw [hc_49]; rfl) (by decide) ?_
          refine lv_aload_n S.1 S.2.1 (dd_at ddX10_about 37 rfl) rfl (lv_at hl 0 rfl) ?_
          obtain ⟨b_39, hb_40, ho_41, h⟩ := h
          refine r_getR S hw 10 5 rfl inG10 (by decide) (List.mem_cons_of_mem _ wg26) (by decide) ha0 hb_40 (dd_at ddX10_about 38 rfl) ?_
          refine lv_aload_n S.1 S.2.1 (dd_at ddX10_about 39 rfl) rfl (lv_at hl 0 rfl) ?_
          obtain ⟨b_42, hb_43, ho_44, h⟩ := h
          refine r_getR S hw 10 5 rfl inG10 (by decide) (List.mem_cons_of_mem _ wg26) (by decide) ha0 hb_43 (dd_at ddX10_about 40 rfl) ?_
          refine lv_iload_n S.1 S.2.1 (dd_at ddX10_about 41 rfl) rfl (lv_at hl 1 rfl) ?_
          refine r_callI hw (r_runV (As := [.int p1]) (rest := [.ref b_39]) S hw (m_X3_childrenOf l D cs E d_15 H.size b_42 p1 _) (cwV 1 S.2.2.2.2 (gV wg940 wg720 wg721 wg25 wg722) rfl rfl rfl (by decide +kernel) ⟨Nat.le_of_ble_eq_true rfl, Nat.le_of_ble_eq_true rfl⟩) (ci := 3) rfl ho_44 h rfl hl.1 rfl (Nat.le_of_ble_eq_true rfl) (dd_at ddX10_about 42 rfl) ⟨Nat.le_of_ble_eq_true rfl, Nat.le_of_ble_eq_true rfl⟩) (fun r_46 d_45 H locs h hw => ?_)
          refine r_callI hw (r_runV (As := [.int r_46]) (rest := []) S hw (m_X3_eldest l D cs E d_45 H.size b_39 r_46 _) (cwV 1 S.2.2.2.2 (gV wg942 wg774 wg775 wg25 wg776) rfl rfl rfl (by decide +kernel) ⟨Nat.le_of_ble_eq_true rfl, Nat.le_of_ble_eq_true rfl⟩) (ci := 3) rfl ho_41 h rfl hl.1 rfl (Nat.le_of_ble_eq_true rfl) (dd_at ddX10_about 43 rfl) ⟨Nat.le_of_ble_eq_true rfl, Nat.le_of_ble_eq_true rfl⟩) (fun r_48 d_47 H locs h hw => ?_)
          refine W.widen (k := 4) (n := 24) (Nat.le_of_ble_eq_true rfl) (Nat.le_of_ble_eq_true rfl) ?_
          exact vx_ret (e_I S hr hlocks hw h (dd_at ddX10_about 44 rfl))
        · skip
          by_cases hc_55 : p4 = 4
          · have h := h.2.2.2.2.1 hc_55
            refine lv_tableIn (off := 95) (tgt := 126) S.1 S.2.1 (dd_at ddX10_about 16 rfl) (by rw [hc_55]; decide) (by rw [hc_55]; decide) (by rw [hc_55]; rfl) (by decide) ?_
            refine lv_aload_n S.1 S.2.1 (dd_at ddX10_about 45 rfl) rfl (lv_at hl 0 rfl) ?_
            obtain ⟨b_50, hb_51, ho_52, h⟩ := h
            refine r_getR S hw 10 5 rfl inG10 (by decide) (List.mem_cons_of_mem _ wg26) (by decide) ha0 hb_51 (dd_at ddX10_about 46 rfl) ?_
            refine lv_iload_n S.1 S.2.1 (dd_at ddX10_about 47 rfl) rfl (lv_at hl 1 rfl) ?_
            refine r_callI hw (r_runV (As := [.int p1]) (rest := []) S hw (m_X3_parentOf l D cs E d_15 H.size b_50 p1 _) (cwV 1 S.2.2.2.2 (gV wg943 wg778 wg779 wg25 wg780) rfl rfl rfl (by decide +kernel) ⟨Nat.le_of_ble_eq_true rfl, Nat.le_of_ble_eq_true rfl⟩) (ci := 3) rfl ho_52 h rfl hl.1 rfl (Nat.le_of_ble_eq_true rfl) (dd_at ddX10_about 48 rfl) ⟨Nat.le_of_ble_eq_true rfl, Nat.le_of_ble_eq_true rfl⟩) (fun r_54 d_53 H locs h hw => ?_)
            refine W.widen (k := 4) (n := 24) (Nat.le_of_ble_eq_true rfl) (Nat.le_of_ble_eq_true rfl) ?_
            exact vx_ret (e_I S hr hlocks hw h (dd_at ddX10_about 49 rfl))
          · skip
            by_cases hc_66 : p4 = 5
            · have h := h.2.2.2.2.2.1 hc_66
              refine lv_tableIn (off := 104) (tgt := 135) S.1 S.2.1 (dd_at ddX10_about 16 rfl) (by rw [hc_66]; decide) (by rw [hc_66]; decide) (by rw [hc_66]; rfl) (by decide) ?_
              refine lv_aload_n S.1 S.2.1 (dd_at ddX10_about 50 rfl) rfl (lv_at hl 0 rfl) ?_
              obtain ⟨b_56, hb_57, ho_58, h⟩ := h
              refine r_getR S hw 10 5 rfl inG10 (by decide) (List.mem_cons_of_mem _ wg26) (by decide) ha0 hb_57 (dd_at ddX10_about 51 rfl) ?_
              refine lv_aload_n S.1 S.2.1 (dd_at ddX10_about 52 rfl) rfl (lv_at hl 0 rfl) ?_
              obtain ⟨b_59, hb_60, ho_61, h⟩ := h
              refine r_getR S hw 10 5 rfl inG10 (by decide) (List.mem_cons_of_mem _ wg26) (by decide) ha0 hb_60 (dd_at ddX10_about 53 rfl) ?_
              refine lv_iload_n S.1 S.2.1 (dd_at ddX10_about 54 rfl) rfl (lv_at hl 1 rfl) ?_
              refine r_callI hw (r_runV (As := [.int p1]) (rest := [.ref b_56]) S hw (m_X3_siblingsOf l D cs E d_15 H.size b_59 p1 _) (cwV 1 S.2.2.2.2 (gV wg944 wg786 wg787 wg25 wg788) rfl rfl rfl (by decide +kernel) ⟨Nat.le_of_ble_eq_true rfl, Nat.le_of_ble_eq_true rfl⟩) (ci := 3) rfl ho_61 h rfl hl.1 rfl (Nat.le_of_ble_eq_true rfl) (dd_at ddX10_about 55 rfl) ⟨Nat.le_of_ble_eq_true rfl, Nat.le_of_ble_eq_true rfl⟩) (fun r_63 d_62 H locs h hw => ?_)
              refine r_callI hw (r_runV (As := [.int r_63]) (rest := []) S hw (m_X3_eldest l D cs E d_62 H.size b_56 r_63 _) (cwV 1 S.2.2.2.2 (gV wg942 wg774 wg775 wg25 wg776) rfl rfl rfl (by decide +kernel) ⟨Nat.le_of_ble_eq_true rfl, Nat.le_of_ble_eq_true rfl⟩) (ci := 3) rfl ho_58 h rfl hl.1 rfl (Nat.le_of_ble_eq_true rfl) (dd_at ddX10_about 56 rfl) ⟨Nat.le_of_ble_eq_true rfl, Nat.le_of_ble_eq_true rfl⟩) (fun r_65 d_64 H locs h hw => ?_)
              refine W.widen (k := 4) (n := 24) (Nat.le_of_ble_eq_true rfl) (Nat.le_of_ble_eq_true rfl) ?_
              exact vx_ret (e_I S hr hlocks hw h (dd_at ddX10_about 57 rfl))
            · skip
              by_cases hc_72 : p4 = 6
              · have h := h.2.2.2.2.2.2.1 hc_72
                refine lv_tableIn (off := 120) (tgt := 151) S.1 S.2.1 (dd_at ddX10_about 16 rfl) (by rw [hc_72]; decide) (by rw [hc_72]; decide) (by rw [hc_72]; rfl) (by decide) ?_
                refine lv_aload_n S.1 S.2.1 (dd_at ddX10_about 58 rfl) rfl (lv_at hl 0 rfl) ?_
                obtain ⟨b_67, hb_68, ho_69, h⟩ := h
                refine r_getR S hw 10 5 rfl inG10 (by decide) (List.mem_cons_of_mem _ wg26) (by decide) ha0 hb_68 (dd_at ddX10_about 59 rfl) ?_
                refine lv_iload_n S.1 S.2.1 (dd_at ddX10_about 60 rfl) rfl (lv_at hl 1 rfl) ?_
                refine r_callI hw (r_runV (As := [.int p1]) (rest := []) S hw (m_X3_hutsOf l D cs E d_15 H.size b_67 p1 _) (cwV 1 S.2.2.2.2 (gV wg945 wg946 wg947 wg25 wg948) rfl rfl rfl (by decide +kernel) ⟨Nat.le_of_ble_eq_true rfl, Nat.le_of_ble_eq_true rfl⟩) (ci := 3) rfl ho_69 h rfl hl.1 rfl (Nat.le_of_ble_eq_true rfl) (dd_at ddX10_about 61 rfl) ⟨Nat.le_of_ble_eq_true rfl, Nat.le_of_ble_eq_true rfl⟩) (fun r_71 d_70 H locs h hw => ?_)
                refine W.widen (k := 4) (n := 24) (Nat.le_of_ble_eq_true rfl) (Nat.le_of_ble_eq_true rfl) ?_
                exact vx_ret (e_I S hr hlocks hw h (dd_at ddX10_about 62 rfl))
              · skip
                have h := h.2.2.2.2.2.2.2 hc_24 hc_30 hc_38 hc_49 hc_55 hc_66 hc_72
                have thc_24 := lv_neT (k := 0) (a := 0) hc_24 (by decide)
                have thc_30 := lv_neT (k := 1) (a := 1) hc_30 (by decide)
                have thc_38 := lv_neT (k := 2) (a := 2) hc_38 (by decide)
                have thc_49 := lv_neT (k := 3) (a := 3) hc_49 (by decide)
                have thc_55 := lv_neT (k := 4) (a := 4) hc_55 (by decide)
                have thc_66 := lv_neT (k := 5) (a := 5) hc_66 (by decide)
                have thc_72 := lv_neT (k := 6) (a := 6) hc_72 (by decide)
                refine lv_tableOut (tgt := 160) S.1 S.2.1 (dd_at ddX10_about 16 rfl) (by omega) (by decide) ?_
                exact r_throw hst S hT hlocks hw wg936 wg937 xa210 xn210 (by decide) xg208_210 hl.1 (dd_at ddX10_about 63 rfl) (dd_at ddX10_about 64 rfl) (dd_at ddX10_about 65 rfl) (dd_at ddX10_about 66 rfl) (Nat.lt_of_lt_of_le (Nat.lt_succ_self 5) (Nat.le_of_ble_eq_true rfl)) (Nat.le_of_ble_eq_true rfl) (Nat.le_of_ble_eq_true rfl) (Nat.le_of_ble_eq_true rfl) h (Nat.le_of_ble_eq_true rfl) (Nat.le_of_ble_eq_true rfl)
