def w_L_text (E : En) (a0 : Nat) (p1 : Int32) (a2 : Nat) (d : Dy) (K : Int32 → En → Dy → Prop) : Prop := okO E a0 10 ∧ okA E a2 14 ∧ w_X10_text E a0 p1 d (fun r_2 E_5 d_1 => vp_in 0 (eN E_5 a2) ∧ K 0 E_5 (pJ d_1 a2 ((0 : Int32)).toNatClampNeg r_2.toInt64)) (fun Ex d_3 => (Ex = "java/lang/IllegalArgumentException" ∧ K 1 E d_3))
abbrev rm_L_text : Room := { frames := 72, cells := 5, slots := 812, locals := 1719 }
set_option maxRecDepth 100000 in
set_option maxHeartbeats 4000000 in
theorem m_L_text (l : Launch) (hst : l.stackTraces = false) (D : va_G) (cs : Nat → ClassId) (E : En) (d : Dy) (sz : Nat) (a0 : Nat) (p1 : Int32) (a2 : Nat) (K : Int32 → En → Dy → Prop) : LI l yL_text (.codeWith yL_text cL_text 4 (some .int) [(0, 9, 12, 13)] :: wsL_law) rm_L_text D cs E d sz [.ref a0, .int p1, .ref a2] (w_L_text E a0 p1 a2 d K) K := by
  refine e_ofW (cc := cL_text) (maxL := 4) (ret := (some .int)) (own := RL) (by decide) rfl rfl (Nat.le_of_ble_eq_true rfl) ?_
  intro p e s m below meth c S hr hlocks hsz hTb H locs hw h ls hl
  have hx : Ext E E := Ext_rf E
  have hl : lv_has ls 4 [(0, .ref a0), (1, .int p1), (2, .ref a2)] := hl
  unfold w_L_text at h
  obtain ⟨ha0, h⟩ := h
  obtain ⟨ha2, h⟩ := h
  refine lv_aload_n S.1 S.2.1 (dd_at ddL_text 0 rfl) rfl (lv_at hl 2 rfl) ?_
  refine lv_iconst (v := 0) S.1 S.2.1 (dd_at ddL_text 1 rfl) (by decide) ?_
  refine lv_aload_n S.1 S.2.1 (dd_at ddL_text 2 rfl) rfl (lv_at hl 0 rfl) ?_
  refine lv_iload_n S.1 S.2.1 (dd_at ddL_text 3 rfl) rfl (lv_at hl 1 rfl) ?_
  refine r_tcallIL hw (r_xrunV (As := [.int p1]) (rest := [.int 0, .ref a2]) S hw (m_X10_text l hst D cs E d H.size a0 p1 _ _) (cwV 1 S.2.2.2.2 (gV wg224 wg225 wg226 wg2 wg227) rfl rfl rfl (by decide +kernel) ⟨Nat.le_of_ble_eq_true rfl, Nat.le_of_ble_eq_true rfl⟩) (ci := 10) rfl ha0 h rfl hl.1 rfl (Nat.le_of_ble_eq_true rfl) (dd_at ddL_text 4 rfl) ⟨Nat.le_of_ble_eq_true rfl, Nat.le_of_ble_eq_true rfl⟩) (fun Ex ce q_4 d_3 H locs h hw hce hcv hcl => ?_) (fun r_2 E_5 d_1 H locs h hx_6 hw => ?_)
  · obtain ⟨rfl, h⟩ := h
    refine vx_catch (name := "java/lang/IllegalArgumentException") S.2.2.2.1 [] (⟨0, 9, 12, 13⟩ : ExceptionTableEntry) [] (by rw [hTb]; rfl) (fun z hz => absurd hz List.not_mem_nil) rfl (by decide) (S.2.2.2.2 _ (List.mem_cons_of_mem _ wg223)) (r_cast hw xc_ia) hce hcv hcl ?_
    refine lv_astore_n (lv' := [(3, .ref q_4), (0, .ref a0), (1, .int p1), (2, .ref a2)]) S.1 S.2.1 (dd_at ddL_text 8 rfl) rfl hl (by decide) rfl (fun ls hl => ?_)
    refine lv_iconst (v := 1) S.1 S.2.1 (dd_at ddL_text 9 rfl) (by decide) ?_
    exact e_IL S hr hlocks hw hx h (dd_at ddL_text 10 rfl)
  · have ha0 := Ext_O hx_6 ha0
    have ha2 := Ext_A hx_6 ha2
    have hx := Ext_tr hx hx_6
    refine lv_i2l S.1 S.2.1 (dd_at ddL_text 5 rfl) rfl ?_
    obtain ⟨hx_7, h⟩ := h
    refine r_last S hw ha2 hx_7 (dd_at ddL_text 6 rfl) (fun H locs hw => ?_)
    refine lv_goto (tgt := 15) S.1 S.2.1 (dd_at ddL_text 7 rfl) (by decide) ?_
    refine lv_iconst (v := 0) S.1 S.2.1 (dd_at ddL_text 11 rfl) (by decide) ?_
    exact e_IL S hr hlocks hw hx h (dd_at ddL_text 12 rfl)

def w_L_years (E : En) (a0 : Nat) (p1 : Int32) (a2 : Nat) (d : Dy) (K : Int32 → Dy → Prop) : Prop := okO E a0 10 ∧ okA E a2 14 ∧ w_X10_years E a0 p1 d (fun r_2 d_1 => vp_in 0 (eN E a2) ∧ K 0 (pJ d_1 a2 ((0 : Int32)).toNatClampNeg r_2.toInt64)) (fun Ex d_3 => (Ex = "java/lang/IllegalArgumentException" ∧ K 1 d_3))
abbrev rm_L_years : Room := { frames := 9, cells := 1, slots := 6, locals := 163 }
set_option maxRecDepth 100000 in
set_option maxHeartbeats 4000000 in
theorem m_L_years (l : Launch) (hst : l.stackTraces = false) (D : va_G) (cs : Nat → ClassId) (E : En) (d : Dy) (sz : Nat) (a0 : Nat) (p1 : Int32) (a2 : Nat) (K : Int32 → Dy → Prop) : CI l yL_years (.codeWith yL_years cL_years 4 (some .int) [(0, 9, 12, 13)] :: wsL_law) rm_L_years D cs E d sz [.ref a0, .int p1, .ref a2] (w_L_years E a0 p1 a2 d K) K := by
  refine e_ofW (cc := cL_years) (maxL := 4) (ret := (some .int)) (own := RL) (by decide) rfl rfl (Nat.le_of_ble_eq_true rfl) ?_
  intro p e s m below meth c S hr hlocks hsz hTb H locs hw h ls hl
  have hl : lv_has ls 4 [(0, .ref a0), (1, .int p1), (2, .ref a2)] := hl
  unfold w_L_years at h
  obtain ⟨ha0, h⟩ := h
  obtain ⟨ha2, h⟩ := h
  refine lv_aload_n S.1 S.2.1 (dd_at ddL_years 0 rfl) rfl (lv_at hl 2 rfl) ?_
  refine lv_iconst (v := 0) S.1 S.2.1 (dd_at ddL_years 1 rfl) (by decide) ?_
  refine lv_aload_n S.1 S.2.1 (dd_at ddL_years 2 rfl) rfl (lv_at hl 0 rfl) ?_
  refine lv_iload_n S.1 S.2.1 (dd_at ddL_years 3 rfl) rfl (lv_at hl 1 rfl) ?_
  refine r_tcallI hw (r_xrunV (As := [.int p1]) (rest := [.int 0, .ref a2]) S hw (m_X10_years l hst D cs E d H.size a0 p1 _ _) (cwV 1 S.2.2.2.2 (gV wg521 wg522 wg523 wg2 wg524) rfl rfl rfl (by decide +kernel) ⟨Nat.le_of_ble_eq_true rfl, Nat.le_of_ble_eq_true rfl⟩) (ci := 10) rfl ha0 h rfl hl.1 rfl (Nat.le_of_ble_eq_true rfl) (dd_at ddL_years 4 rfl) ⟨Nat.le_of_ble_eq_true rfl, Nat.le_of_ble_eq_true rfl⟩) (fun Ex ce q_4 d_3 H locs h hw hce hcv hcl => ?_) (fun r_2 d_1 H locs h hw => ?_)
  · obtain ⟨rfl, h⟩ := h
    refine vx_catch (name := "java/lang/IllegalArgumentException") S.2.2.2.1 [] (⟨0, 9, 12, 13⟩ : ExceptionTableEntry) [] (by rw [hTb]; rfl) (fun z hz => absurd hz List.not_mem_nil) rfl (by decide) (S.2.2.2.2 _ (List.mem_cons_of_mem _ wg223)) (r_cast hw xc_ia) hce hcv hcl ?_
    refine lv_astore_n (lv' := [(3, .ref q_4), (0, .ref a0), (1, .int p1), (2, .ref a2)]) S.1 S.2.1 (dd_at ddL_years 8 rfl) rfl hl (by decide) rfl (fun ls hl => ?_)
    refine lv_iconst (v := 1) S.1 S.2.1 (dd_at ddL_years 9 rfl) (by decide) ?_
    exact e_I S hr hlocks hw h (dd_at ddL_years 10 rfl)
  · refine lv_i2l S.1 S.2.1 (dd_at ddL_years 5 rfl) rfl ?_
    obtain ⟨hx_5, h⟩ := h
    refine r_last S hw ha2 hx_5 (dd_at ddL_years 6 rfl) (fun H locs hw => ?_)
    refine lv_goto (tgt := 15) S.1 S.2.1 (dd_at ddL_years 7 rfl) (by decide) ?_
    refine lv_iconst (v := 0) S.1 S.2.1 (dd_at ddL_years 11 rfl) (by decide) ?_
    exact e_I S hr hlocks hw h (dd_at ddL_years 12 rfl)

def w_L_person (E : En) (a0 : Nat) (p1 : Int32) (p2 : Int32) (p3 : Int32) (a4 : Nat) (d : Dy) (K : Int32 → Dy → Prop) : Prop := okO E a0 10 ∧ okA E a4 14 ∧ w_X10_person E a0 p1 p2 p3 d (fun r_2 d_1 => vp_in 0 (eN E a4) ∧ K 0 (pJ d_1 a4 ((0 : Int32)).toNatClampNeg r_2.toInt64)) (fun Ex d_3 => (Ex = "java/lang/IllegalArgumentException" ∧ K 1 d_3) ∨ (Ex = "java/lang/UnsupportedOperationException" ∧ K 2 d_3))
abbrev rm_L_person : Room := { frames := 9, cells := 3, slots := 18, locals := 166 }
set_option maxRecDepth 100000 in
set_option maxHeartbeats 4000000 in
theorem m_L_person (l : Launch) (hst : l.stackTraces = false) (D : va_G) (cs : Nat → ClassId) (E : En) (d : Dy) (sz : Nat) (a0 : Nat) (p1 : Int32) (p2 : Int32) (p3 : Int32) (a4 : Nat) (K : Int32 → Dy → Prop) : CI l yL_person (.codeWith yL_person cL_person 6 (some .int) [(0, 12, 15, 13), (0, 12, 19, 22)] :: wsL_law) rm_L_person D cs E d sz [.ref a0, .int p1, .int p2, .int p3, .ref a4] (w_L_person E a0 p1 p2 p3 a4 d K) K := by
  refine e_ofW (cc := cL_person) (maxL := 6) (ret := (some .int)) (own := RL) (by decide) rfl rfl (Nat.le_of_ble_eq_true rfl) ?_
  intro p e s m below meth c S hr hlocks hsz hTb H locs hw h ls hl
  have hl : lv_has ls 6 [(0, .ref a0), (1, .int p1), (2, .int p2), (3, .int p3), (4, .ref a4)] := hl
  unfold w_L_person at h
  obtain ⟨ha0, h⟩ := h
  obtain ⟨ha4, h⟩ := h
  refine lv_aload S.1 S.2.1 (dd_at ddL_person 0 rfl) (lv_at hl 4 rfl) ?_
  refine lv_iconst (v := 0) S.1 S.2.1 (dd_at ddL_person 1 rfl) (by decide) ?_
  refine lv_aload_n S.1 S.2.1 (dd_at ddL_person 2 rfl) rfl (lv_at hl 0 rfl) ?_
  refine lv_iload_n S.1 S.2.1 (dd_at ddL_person 3 rfl) rfl (lv_at hl 1 rfl) ?_
  refine lv_iload_n S.1 S.2.1 (dd_at ddL_person 4 rfl) rfl (lv_at hl 2 rfl) ?_
  refine lv_iload_n S.1 S.2.1 (dd_at ddL_person 5 rfl) rfl (lv_at hl 3 rfl) ?_
  refine r_tcallI hw (r_xrunV (As := [.int p1, .int p2, .int p3]) (rest := [.int 0, .ref a4]) S hw (m_X10_person l hst D cs E d H.size a0 p1 p2 p3 _ _) (cwV 3 S.2.2.2.2 (gV wg536 wg537 wg538 wg2 wg539) rfl rfl rfl (by decide +kernel) ⟨Nat.le_of_ble_eq_true rfl, Nat.le_of_ble_eq_true rfl⟩) (ci := 10) rfl ha0 h rfl hl.1 rfl (Nat.le_of_ble_eq_true rfl) (dd_at ddL_person 6 rfl) ⟨Nat.le_of_ble_eq_true rfl, Nat.le_of_ble_eq_true rfl⟩) (fun Ex ce q_4 d_3 H locs h hw hce hcv hcl => ?_) (fun r_2 d_1 H locs h hw => ?_)
  · rcases h with ⟨rfl, h⟩ | ⟨rfl, h⟩
    · refine vx_catch (name := "java/lang/IllegalArgumentException") S.2.2.2.1 [] (⟨0, 12, 15, 13⟩ : ExceptionTableEntry) [(⟨0, 12, 19, 22⟩ : ExceptionTableEntry)] (by rw [hTb]; rfl) (fun z hz => absurd hz List.not_mem_nil) rfl (by decide) (S.2.2.2.2 _ (List.mem_cons_of_mem _ wg223)) (r_cast hw xc_ia) hce hcv hcl ?_
      refine lv_astore (lv' := [(5, .ref q_4), (0, .ref a0), (1, .int p1), (2, .int p2), (3, .int p3), (4, .ref a4)]) S.1 S.2.1 (dd_at ddL_person 10 rfl) hl (by decide) rfl (fun ls hl => ?_)
      refine lv_iconst (v := 1) S.1 S.2.1 (dd_at ddL_person 11 rfl) (by decide) ?_
      exact e_I S hr hlocks hw h (dd_at ddL_person 12 rfl)
    · refine vx_catch (name := "java/lang/UnsupportedOperationException") S.2.2.2.1 [(⟨0, 12, 15, 13⟩ : ExceptionTableEntry)] (⟨0, 12, 19, 22⟩ : ExceptionTableEntry) [] (by rw [hTb]; rfl) (fun z hz => by cases List.mem_singleton.mp hz; exact Or.inr ⟨by decide, "java/lang/IllegalArgumentException", (S.2.2.2.2 _ (List.mem_cons_of_mem _ wg223)), r_nc hw (by decide) (by decide) (by decide)⟩) rfl (by decide) (S.2.2.2.2 _ (List.mem_cons_of_mem _ wg535)) (r_cast hw xc_un) hce hcv hcl ?_
      refine lv_astore (lv' := [(5, .ref q_4), (0, .ref a0), (1, .int p1), (2, .int p2), (3, .int p3), (4, .ref a4)]) S.1 S.2.1 (dd_at ddL_person 13 rfl) hl (by decide) rfl (fun ls hl => ?_)
      refine lv_iconst (v := 2) S.1 S.2.1 (dd_at ddL_person 14 rfl) (by decide) ?_
      exact e_I S hr hlocks hw h (dd_at ddL_person 15 rfl)
  · refine lv_i2l S.1 S.2.1 (dd_at ddL_person 7 rfl) rfl ?_
    obtain ⟨hx_5, h⟩ := h
    refine r_last S hw ha4 hx_5 (dd_at ddL_person 8 rfl) (fun H locs hw => ?_)
    refine lv_goto (tgt := 23) S.1 S.2.1 (dd_at ddL_person 9 rfl) (by decide) ?_
    refine lv_iconst (v := 0) S.1 S.2.1 (dd_at ddL_person 16 rfl) (by decide) ?_
    exact e_I S hr hlocks hw h (dd_at ddL_person 17 rfl)

def w_L_hut (E : En) (a0 : Nat) (p1 : Int32) (p2 : Int32) (p3 : Int32) (a4 : Nat) (d : Dy) (K : Int32 → Dy → Prop) : Prop := okO E a0 10 ∧ okA E a4 14 ∧ w_X10_hut E a0 p1 p2 p3 d (fun r_2 d_1 => vp_in 0 (eN E a4) ∧ K 0 (pJ d_1 a4 ((0 : Int32)).toNatClampNeg r_2.toInt64)) (fun Ex d_3 => (Ex = "java/lang/IndexOutOfBoundsException" ∧ K 1 d_3) ∨ (Ex = "java/lang/IllegalArgumentException" ∧ K 2 d_3) ∨ (Ex = "java/lang/UnsupportedOperationException" ∧ K 3 d_3))
abbrev rm_L_hut : Room := { frames := 9, cells := 4, slots := 24, locals := 166 }
set_option maxRecDepth 100000 in
set_option maxHeartbeats 4000000 in
theorem m_L_hut (l : Launch) (hst : l.stackTraces = false) (D : va_G) (cs : Nat → ClassId) (E : En) (d : Dy) (sz : Nat) (a0 : Nat) (p1 : Int32) (p2 : Int32) (p3 : Int32) (a4 : Nat) (K : Int32 → Dy → Prop) : CI l yL_hut (.codeWith yL_hut cL_hut 6 (some .int) [(0, 12, 15, 28), (0, 12, 19, 13), (0, 12, 23, 22)] :: wsL_law) rm_L_hut D cs E d sz [.ref a0, .int p1, .int p2, .int p3, .ref a4] (w_L_hut E a0 p1 p2 p3 a4 d K) K := by
  refine e_ofW (cc := cL_hut) (maxL := 6) (ret := (some .int)) (own := RL) (by decide) rfl rfl (Nat.le_of_ble_eq_true rfl) ?_
  intro p e s m below meth c S hr hlocks hsz hTb H locs hw h ls hl
  have hl : lv_has ls 6 [(0, .ref a0), (1, .int p1), (2, .int p2), (3, .int p3), (4, .ref a4)] := hl
  unfold w_L_hut at h
  obtain ⟨ha0, h⟩ := h
  obtain ⟨ha4, h⟩ := h
  refine lv_aload S.1 S.2.1 (dd_at ddL_hut 0 rfl) (lv_at hl 4 rfl) ?_
  refine lv_iconst (v := 0) S.1 S.2.1 (dd_at ddL_hut 1 rfl) (by decide) ?_
  refine lv_aload_n S.1 S.2.1 (dd_at ddL_hut 2 rfl) rfl (lv_at hl 0 rfl) ?_
  refine lv_iload_n S.1 S.2.1 (dd_at ddL_hut 3 rfl) rfl (lv_at hl 1 rfl) ?_
  refine lv_iload_n S.1 S.2.1 (dd_at ddL_hut 4 rfl) rfl (lv_at hl 2 rfl) ?_
  refine lv_iload_n S.1 S.2.1 (dd_at ddL_hut 5 rfl) rfl (lv_at hl 3 rfl) ?_
  refine r_tcallI hw (r_xrunV (As := [.int p1, .int p2, .int p3]) (rest := [.int 0, .ref a4]) S hw (m_X10_hut l hst D cs E d H.size a0 p1 p2 p3 _ _) (cwV 3 S.2.2.2.2 (gV wg570 wg571 wg572 wg2 wg573) rfl rfl rfl (by decide +kernel) ⟨Nat.le_of_ble_eq_true rfl, Nat.le_of_ble_eq_true rfl⟩) (ci := 10) rfl ha0 h rfl hl.1 rfl (Nat.le_of_ble_eq_true rfl) (dd_at ddL_hut 6 rfl) ⟨Nat.le_of_ble_eq_true rfl, Nat.le_of_ble_eq_true rfl⟩) (fun Ex ce q_4 d_3 H locs h hw hce hcv hcl => ?_) (fun r_2 d_1 H locs h hw => ?_)
  · rcases h with ⟨rfl, h⟩ | ⟨rfl, h⟩ | ⟨rfl, h⟩
    · refine vx_catch (name := "java/lang/IndexOutOfBoundsException") S.2.2.2.1 [] (⟨0, 12, 15, 28⟩ : ExceptionTableEntry) [(⟨0, 12, 19, 13⟩ : ExceptionTableEntry), (⟨0, 12, 23, 22⟩ : ExceptionTableEntry)] (by rw [hTb]; rfl) (fun z hz => absurd hz List.not_mem_nil) rfl (by decide) (S.2.2.2.2 _ (List.mem_cons_of_mem _ wg569)) (r_cast hw xc_ix) hce hcv hcl ?_
      refine lv_astore (lv' := [(5, .ref q_4), (0, .ref a0), (1, .int p1), (2, .int p2), (3, .int p3), (4, .ref a4)]) S.1 S.2.1 (dd_at ddL_hut 10 rfl) hl (by decide) rfl (fun ls hl => ?_)
      refine lv_iconst (v := 1) S.1 S.2.1 (dd_at ddL_hut 11 rfl) (by decide) ?_
      exact e_I S hr hlocks hw h (dd_at ddL_hut 12 rfl)
    · refine vx_catch (name := "java/lang/IllegalArgumentException") S.2.2.2.1 [(⟨0, 12, 15, 28⟩ : ExceptionTableEntry)] (⟨0, 12, 19, 13⟩ : ExceptionTableEntry) [(⟨0, 12, 23, 22⟩ : ExceptionTableEntry)] (by rw [hTb]; rfl) (fun z hz => by cases List.mem_singleton.mp hz; exact Or.inr ⟨by decide, "java/lang/IndexOutOfBoundsException", (S.2.2.2.2 _ (List.mem_cons_of_mem _ wg569)), r_nc hw (by decide) (by decide) (by decide)⟩) rfl (by decide) (S.2.2.2.2 _ (List.mem_cons_of_mem _ wg223)) (r_cast hw xc_ia) hce hcv hcl ?_
      refine lv_astore (lv' := [(5, .ref q_4), (0, .ref a0), (1, .int p1), (2, .int p2), (3, .int p3), (4, .ref a4)]) S.1 S.2.1 (dd_at ddL_hut 13 rfl) hl (by decide) rfl (fun ls hl => ?_)
      refine lv_iconst (v := 2) S.1 S.2.1 (dd_at ddL_hut 14 rfl) (by decide) ?_
      exact e_I S hr hlocks hw h (dd_at ddL_hut 15 rfl)
    · refine vx_catch (name := "java/lang/UnsupportedOperationException") S.2.2.2.1 [(⟨0, 12, 15, 28⟩ : ExceptionTableEntry), (⟨0, 12, 19, 13⟩ : ExceptionTableEntry)] (⟨0, 12, 23, 22⟩ : ExceptionTableEntry) [] (by rw [hTb]; rfl) (fun z hz => (List.mem_cons.mp hz).elim (fun h1 => by cases h1; exact Or.inr ⟨by decide, "java/lang/IndexOutOfBoundsException", (S.2.2.2.2 _ (List.mem_cons_of_mem _ wg569)), r_nc hw (by decide) (by decide) (by decide)⟩) (fun h1 => by cases List.mem_singleton.mp h1; exact Or.inr ⟨by decide, "java/lang/IllegalArgumentException", (S.2.2.2.2 _ (List.mem_cons_of_mem _ wg223)), r_nc hw (by decide) (by decide) (by decide)⟩)) rfl (by decide) (S.2.2.2.2 _ (List.mem_cons_of_mem _ wg535)) (r_cast hw xc_un) hce hcv hcl ?_
      refine lv_astore (lv' := [(5, .ref q_4), (0, .ref a0), (1, .int p1), (2, .int p2), (3, .int p3), (4, .ref a4)]) S.1 S.2.1 (dd_at ddL_hut 16 rfl) hl (by decide) rfl (fun ls hl => ?_)
      refine lv_iconst (v := 3) S.1 S.2.1 (dd_at ddL_hut 17 rfl) (by decide) ?_
      exact e_I S hr hlocks hw h (dd_at ddL_hut 18 rfl)
  · refine lv_i2l S.1 S.2.1 (dd_at ddL_hut 7 rfl) rfl ?_
    obtain ⟨hx_5, h⟩ := h
    refine r_last S hw ha4 hx_5 (dd_at ddL_hut 8 rfl) (fun H locs hw => ?_)
    refine lv_goto (tgt := 27) S.1 S.2.1 (dd_at ddL_hut 9 rfl) (by decide) ?_
    refine lv_iconst (v := 0) S.1 S.2.1 (dd_at ddL_hut 19 rfl) (by decide) ?_
    exact e_I S hr hlocks hw h (dd_at ddL_hut 20 rfl)

def w_L_event (E : En) (a0 : Nat) (p1 : Int32) (p2 : Int32) (p3 : Int32) (p4 : Int32) (a5 : Nat) (d : Dy) (K : Int32 → Dy → Prop) : Prop := okO E a0 10 ∧ okA E a5 14 ∧ w_X10_event E a0 p1 p2 p3 p4 d (fun r_2 d_1 => vp_in 0 (eN E a5) ∧ K 0 (pJ d_1 a5 ((0 : Int32)).toNatClampNeg r_2.toInt64)) (fun Ex d_3 => (Ex = "java/lang/IndexOutOfBoundsException" ∧ K 1 d_3) ∨ (Ex = "java/lang/IllegalArgumentException" ∧ K 2 d_3) ∨ (Ex = "java/lang/UnsupportedOperationException" ∧ K 3 d_3))
abbrev rm_L_event : Room := { frames := 9, cells := 5, slots := 30, locals := 170 }
set_option maxRecDepth 100000 in
set_option maxHeartbeats 4000000 in
theorem m_L_event (l : Launch) (hst : l.stackTraces = false) (D : va_G) (cs : Nat → ClassId) (E : En) (d : Dy) (sz : Nat) (a0 : Nat) (p1 : Int32) (p2 : Int32) (p3 : Int32) (p4 : Int32) (a5 : Nat) (K : Int32 → Dy → Prop) : CI l yL_event (.codeWith yL_event cL_event 7 (some .int) [(0, 14, 17, 28), (0, 14, 21, 13), (0, 14, 25, 22)] :: wsL_law) rm_L_event D cs E d sz [.ref a0, .int p1, .int p2, .int p3, .int p4, .ref a5] (w_L_event E a0 p1 p2 p3 p4 a5 d K) K := by
  refine e_ofW (cc := cL_event) (maxL := 7) (ret := (some .int)) (own := RL) (by decide) rfl rfl (Nat.le_of_ble_eq_true rfl) ?_
  intro p e s m below meth c S hr hlocks hsz hTb H locs hw h ls hl
  have hl : lv_has ls 7 [(0, .ref a0), (1, .int p1), (2, .int p2), (3, .int p3), (4, .int p4), (5, .ref a5)] := hl
  unfold w_L_event at h
  obtain ⟨ha0, h⟩ := h
  obtain ⟨ha5, h⟩ := h
  refine lv_aload S.1 S.2.1 (dd_at ddL_event 0 rfl) (lv_at hl 5 rfl) ?_
  refine lv_iconst (v := 0) S.1 S.2.1 (dd_at ddL_event 1 rfl) (by decide) ?_
  refine lv_aload_n S.1 S.2.1 (dd_at ddL_event 2 rfl) rfl (lv_at hl 0 rfl) ?_
  refine lv_iload_n S.1 S.2.1 (dd_at ddL_event 3 rfl) rfl (lv_at hl 1 rfl) ?_
  refine lv_iload_n S.1 S.2.1 (dd_at ddL_event 4 rfl) rfl (lv_at hl 2 rfl) ?_
  refine lv_iload_n S.1 S.2.1 (dd_at ddL_event 5 rfl) rfl (lv_at hl 3 rfl) ?_
  refine lv_iload S.1 S.2.1 (dd_at ddL_event 6 rfl) (lv_at hl 4 rfl) ?_
  refine r_tcallI hw (r_xrunV (As := [.int p1, .int p2, .int p3, .int p4]) (rest := [.int 0, .ref a5]) S hw (m_X10_event l hst D cs E d H.size a0 p1 p2 p3 p4 _ _) (cwV 4 S.2.2.2.2 (gV wg603 wg604 wg605 wg2 wg606) rfl rfl rfl (by decide +kernel) ⟨Nat.le_of_ble_eq_true rfl, Nat.le_of_ble_eq_true rfl⟩) (ci := 10) rfl ha0 h rfl hl.1 rfl (Nat.le_of_ble_eq_true rfl) (dd_at ddL_event 7 rfl) ⟨Nat.le_of_ble_eq_true rfl, Nat.le_of_ble_eq_true rfl⟩) (fun Ex ce q_4 d_3 H locs h hw hce hcv hcl => ?_) (fun r_2 d_1 H locs h hw => ?_)
  · rcases h with ⟨rfl, h⟩ | ⟨rfl, h⟩ | ⟨rfl, h⟩
    · refine vx_catch (name := "java/lang/IndexOutOfBoundsException") S.2.2.2.1 [] (⟨0, 14, 17, 28⟩ : ExceptionTableEntry) [(⟨0, 14, 21, 13⟩ : ExceptionTableEntry), (⟨0, 14, 25, 22⟩ : ExceptionTableEntry)] (by rw [hTb]; rfl) (fun z hz => absurd hz List.not_mem_nil) rfl (by decide) (S.2.2.2.2 _ (List.mem_cons_of_mem _ wg569)) (r_cast hw xc_ix) hce hcv hcl ?_
      refine lv_astore (lv' := [(6, .ref q_4), (0, .ref a0), (1, .int p1), (2, .int p2), (3, .int p3), (4, .int p4), (5, .ref a5)]) S.1 S.2.1 (dd_at ddL_event 11 rfl) hl (by decide) rfl (fun ls hl => ?_)
      refine lv_iconst (v := 1) S.1 S.2.1 (dd_at ddL_event 12 rfl) (by decide) ?_
      exact e_I S hr hlocks hw h (dd_at ddL_event 13 rfl)
    · refine vx_catch (name := "java/lang/IllegalArgumentException") S.2.2.2.1 [(⟨0, 14, 17, 28⟩ : ExceptionTableEntry)] (⟨0, 14, 21, 13⟩ : ExceptionTableEntry) [(⟨0, 14, 25, 22⟩ : ExceptionTableEntry)] (by rw [hTb]; rfl) (fun z hz => by cases List.mem_singleton.mp hz; exact Or.inr ⟨by decide, "java/lang/IndexOutOfBoundsException", (S.2.2.2.2 _ (List.mem_cons_of_mem _ wg569)), r_nc hw (by decide) (by decide) (by decide)⟩) rfl (by decide) (S.2.2.2.2 _ (List.mem_cons_of_mem _ wg223)) (r_cast hw xc_ia) hce hcv hcl ?_
      refine lv_astore (lv' := [(6, .ref q_4), (0, .ref a0), (1, .int p1), (2, .int p2), (3, .int p3), (4, .int p4), (5, .ref a5)]) S.1 S.2.1 (dd_at ddL_event 14 rfl) hl (by decide) rfl (fun ls hl => ?_)
      refine lv_iconst (v := 2) S.1 S.2.1 (dd_at ddL_event 15 rfl) (by decide) ?_
      exact e_I S hr hlocks hw h (dd_at ddL_event 16 rfl)
    · refine vx_catch (name := "java/lang/UnsupportedOperationException") S.2.2.2.1 [(⟨0, 14, 17, 28⟩ : ExceptionTableEntry), (⟨0, 14, 21, 13⟩ : ExceptionTableEntry)] (⟨0, 14, 25, 22⟩ : ExceptionTableEntry) [] (by rw [hTb]; rfl) (fun z hz => (List.mem_cons.mp hz).elim (fun h1 => by cases h1; exact Or.inr ⟨by decide, "java/lang/IndexOutOfBoundsException", (S.2.2.2.2 _ (List.mem_cons_of_mem _ wg569)), r_nc hw (by decide) (by decide) (by decide)⟩) (fun h1 => by cases List.mem_singleton.mp h1; exact Or.inr ⟨by decide, "java/lang/IllegalArgumentException", (S.2.2.2.2 _ (List.mem_cons_of_mem _ wg223)), r_nc hw (by decide) (by decide) (by decide)⟩)) rfl (by decide) (S.2.2.2.2 _ (List.mem_cons_of_mem _ wg535)) (r_cast hw xc_un) hce hcv hcl ?_
      refine lv_astore (lv' := [(6, .ref q_4), (0, .ref a0), (1, .int p1), (2, .int p2), (3, .int p3), (4, .int p4), (5, .ref a5)]) S.1 S.2.1 (dd_at ddL_event 17 rfl) hl (by decide) rfl (fun ls hl => ?_)
      refine lv_iconst (v := 3) S.1 S.2.1 (dd_at ddL_event 18 rfl) (by decide) ?_
      exact e_I S hr hlocks hw h (dd_at ddL_event 19 rfl)
  · refine lv_i2l S.1 S.2.1 (dd_at ddL_event 8 rfl) rfl ?_
    obtain ⟨hx_5, h⟩ := h
    refine r_last S hw ha5 hx_5 (dd_at ddL_event 9 rfl) (fun H locs hw => ?_)
    refine lv_goto (tgt := 29) S.1 S.2.1 (dd_at ddL_event 10 rfl) (by decide) ?_
    refine lv_iconst (v := 0) S.1 S.2.1 (dd_at ddL_event 20 rfl) (by decide) ?_
    exact e_I S hr hlocks hw h (dd_at ddL_event 21 rfl)

def w_L_sale (E : En) (a0 : Nat) (p1 : Int32) (p2 : Int32) (p3 : Int32) (p4 : Int32) (a5 : Nat) (d : Dy) (K : Int32 → Dy → Prop) : Prop := okO E a0 10 ∧ okA E a5 14 ∧ w_X10_sale E a0 p1 p2 p3 p4 d (fun r_2 d_1 => vp_in 0 (eN E a5) ∧ K 0 (pJ d_1 a5 ((0 : Int32)).toNatClampNeg r_2.toInt64)) (fun Ex d_3 => (Ex = "java/lang/IndexOutOfBoundsException" ∧ K 1 d_3) ∨ (Ex = "java/lang/IllegalArgumentException" ∧ K 2 d_3) ∨ (Ex = "java/lang/UnsupportedOperationException" ∧ K 3 d_3))
abbrev rm_L_sale : Room := { frames := 9, cells := 5, slots := 30, locals := 170 }
set_option maxRecDepth 100000 in
set_option maxHeartbeats 4000000 in
theorem m_L_sale (l : Launch) (hst : l.stackTraces = false) (D : va_G) (cs : Nat → ClassId) (E : En) (d : Dy) (sz : Nat) (a0 : Nat) (p1 : Int32) (p2 : Int32) (p3 : Int32) (p4 : Int32) (a5 : Nat) (K : Int32 → Dy → Prop) : CI l yL_sale (.codeWith yL_sale cL_sale 7 (some .int) [(0, 14, 17, 28), (0, 14, 21, 13), (0, 14, 25, 22)] :: wsL_law) rm_L_sale D cs E d sz [.ref a0, .int p1, .int p2, .int p3, .int p4, .ref a5] (w_L_sale E a0 p1 p2 p3 p4 a5 d K) K := by
  refine e_ofW (cc := cL_sale) (maxL := 7) (ret := (some .int)) (own := RL) (by decide) rfl rfl (Nat.le_of_ble_eq_true rfl) ?_
  intro p e s m below meth c S hr hlocks hsz hTb H locs hw h ls hl
  have hl : lv_has ls 7 [(0, .ref a0), (1, .int p1), (2, .int p2), (3, .int p3), (4, .int p4), (5, .ref a5)] := hl
  unfold w_L_sale at h
  obtain ⟨ha0, h⟩ := h
  obtain ⟨ha5, h⟩ := h
  refine lv_aload S.1 S.2.1 (dd_at ddL_sale 0 rfl) (lv_at hl 5 rfl) ?_
  refine lv_iconst (v := 0) S.1 S.2.1 (dd_at ddL_sale 1 rfl) (by decide) ?_
  refine lv_aload_n S.1 S.2.1 (dd_at ddL_sale 2 rfl) rfl (lv_at hl 0 rfl) ?_
  refine lv_iload_n S.1 S.2.1 (dd_at ddL_sale 3 rfl) rfl (lv_at hl 1 rfl) ?_
  refine lv_iload_n S.1 S.2.1 (dd_at ddL_sale 4 rfl) rfl (lv_at hl 2 rfl) ?_
  refine lv_iload_n S.1 S.2.1 (dd_at ddL_sale 5 rfl) rfl (lv_at hl 3 rfl) ?_
  refine lv_iload S.1 S.2.1 (dd_at ddL_sale 6 rfl) (lv_at hl 4 rfl) ?_
  refine r_tcallI hw (r_xrunV (As := [.int p1, .int p2, .int p3, .int p4]) (rest := [.int 0, .ref a5]) S hw (m_X10_sale l hst D cs E d H.size a0 p1 p2 p3 p4 _ _) (cwV 4 S.2.2.2.2 (gV wg642 wg643 wg644 wg2 wg645) rfl rfl rfl (by decide +kernel) ⟨Nat.le_of_ble_eq_true rfl, Nat.le_of_ble_eq_true rfl⟩) (ci := 10) rfl ha0 h rfl hl.1 rfl (Nat.le_of_ble_eq_true rfl) (dd_at ddL_sale 7 rfl) ⟨Nat.le_of_ble_eq_true rfl, Nat.le_of_ble_eq_true rfl⟩) (fun Ex ce q_4 d_3 H locs h hw hce hcv hcl => ?_) (fun r_2 d_1 H locs h hw => ?_)
  · rcases h with ⟨rfl, h⟩ | ⟨rfl, h⟩ | ⟨rfl, h⟩
    · refine vx_catch (name := "java/lang/IndexOutOfBoundsException") S.2.2.2.1 [] (⟨0, 14, 17, 28⟩ : ExceptionTableEntry) [(⟨0, 14, 21, 13⟩ : ExceptionTableEntry), (⟨0, 14, 25, 22⟩ : ExceptionTableEntry)] (by rw [hTb]; rfl) (fun z hz => absurd hz List.not_mem_nil) rfl (by decide) (S.2.2.2.2 _ (List.mem_cons_of_mem _ wg569)) (r_cast hw xc_ix) hce hcv hcl ?_
      refine lv_astore (lv' := [(6, .ref q_4), (0, .ref a0), (1, .int p1), (2, .int p2), (3, .int p3), (4, .int p4), (5, .ref a5)]) S.1 S.2.1 (dd_at ddL_sale 11 rfl) hl (by decide) rfl (fun ls hl => ?_)
      refine lv_iconst (v := 1) S.1 S.2.1 (dd_at ddL_sale 12 rfl) (by decide) ?_
      exact e_I S hr hlocks hw h (dd_at ddL_sale 13 rfl)
    · refine vx_catch (name := "java/lang/IllegalArgumentException") S.2.2.2.1 [(⟨0, 14, 17, 28⟩ : ExceptionTableEntry)] (⟨0, 14, 21, 13⟩ : ExceptionTableEntry) [(⟨0, 14, 25, 22⟩ : ExceptionTableEntry)] (by rw [hTb]; rfl) (fun z hz => by cases List.mem_singleton.mp hz; exact Or.inr ⟨by decide, "java/lang/IndexOutOfBoundsException", (S.2.2.2.2 _ (List.mem_cons_of_mem _ wg569)), r_nc hw (by decide) (by decide) (by decide)⟩) rfl (by decide) (S.2.2.2.2 _ (List.mem_cons_of_mem _ wg223)) (r_cast hw xc_ia) hce hcv hcl ?_
      refine lv_astore (lv' := [(6, .ref q_4), (0, .ref a0), (1, .int p1), (2, .int p2), (3, .int p3), (4, .int p4), (5, .ref a5)]) S.1 S.2.1 (dd_at ddL_sale 14 rfl) hl (by decide) rfl (fun ls hl => ?_)
      refine lv_iconst (v := 2) S.1 S.2.1 (dd_at ddL_sale 15 rfl) (by decide) ?_
      exact e_I S hr hlocks hw h (dd_at ddL_sale 16 rfl)
    · refine vx_catch (name := "java/lang/UnsupportedOperationException") S.2.2.2.1 [(⟨0, 14, 17, 28⟩ : ExceptionTableEntry), (⟨0, 14, 21, 13⟩ : ExceptionTableEntry)] (⟨0, 14, 25, 22⟩ : ExceptionTableEntry) [] (by rw [hTb]; rfl) (fun z hz => (List.mem_cons.mp hz).elim (fun h1 => by cases h1; exact Or.inr ⟨by decide, "java/lang/IndexOutOfBoundsException", (S.2.2.2.2 _ (List.mem_cons_of_mem _ wg569)), r_nc hw (by decide) (by decide) (by decide)⟩) (fun h1 => by cases List.mem_singleton.mp h1; exact Or.inr ⟨by decide, "java/lang/IllegalArgumentException", (S.2.2.2.2 _ (List.mem_cons_of_mem _ wg223)), r_nc hw (by decide) (by decide) (by decide)⟩)) rfl (by decide) (S.2.2.2.2 _ (List.mem_cons_of_mem _ wg535)) (r_cast hw xc_un) hce hcv hcl ?_
      refine lv_astore (lv' := [(6, .ref q_4), (0, .ref a0), (1, .int p1), (2, .int p2), (3, .int p3), (4, .int p4), (5, .ref a5)]) S.1 S.2.1 (dd_at ddL_sale 17 rfl) hl (by decide) rfl (fun ls hl => ?_)
      refine lv_iconst (v := 3) S.1 S.2.1 (dd_at ddL_sale 18 rfl) (by decide) ?_
      exact e_I S hr hlocks hw h (dd_at ddL_sale 19 rfl)
  · refine lv_i2l S.1 S.2.1 (dd_at ddL_sale 8 rfl) rfl ?_
    obtain ⟨hx_5, h⟩ := h
    refine r_last S hw ha5 hx_5 (dd_at ddL_sale 9 rfl) (fun H locs hw => ?_)
    refine lv_goto (tgt := 29) S.1 S.2.1 (dd_at ddL_sale 10 rfl) (by decide) ?_
    refine lv_iconst (v := 0) S.1 S.2.1 (dd_at ddL_sale 20 rfl) (by decide) ?_
    exact e_I S hr hlocks hw h (dd_at ddL_sale 21 rfl)

def w_L_holder (E : En) (a0 : Nat) (p1 : Int32) (p2 : Int32) (p3 : Int32) (a4 : Nat) (d : Dy) (K : Int32 → Dy → Prop) : Prop := okO E a0 10 ∧ okA E a4 14 ∧ w_X10_holder E a0 p1 p2 p3 d (fun r_2 d_1 => vp_in 0 (eN E a4) ∧ K 0 (pJ d_1 a4 ((0 : Int32)).toNatClampNeg r_2.toInt64)) (fun Ex d_3 => (Ex = "java/lang/IndexOutOfBoundsException" ∧ K 1 d_3))
abbrev rm_L_holder : Room := { frames := 10, cells := 3, slots := 18, locals := 188 }
set_option maxRecDepth 100000 in
set_option maxHeartbeats 4000000 in
theorem m_L_holder (l : Launch) (hst : l.stackTraces = false) (D : va_G) (cs : Nat → ClassId) (E : En) (d : Dy) (sz : Nat) (a0 : Nat) (p1 : Int32) (p2 : Int32) (p3 : Int32) (a4 : Nat) (K : Int32 → Dy → Prop) : CI l yL_holder (.codeWith yL_holder cL_holder 6 (some .int) [(0, 12, 15, 28)] :: wsL_law) rm_L_holder D cs E d sz [.ref a0, .int p1, .int p2, .int p3, .ref a4] (w_L_holder E a0 p1 p2 p3 a4 d K) K := by
  refine e_ofW (cc := cL_holder) (maxL := 6) (ret := (some .int)) (own := RL) (by decide) rfl rfl (Nat.le_of_ble_eq_true rfl) ?_
  intro p e s m below meth c S hr hlocks hsz hTb H locs hw h ls hl
  have hl : lv_has ls 6 [(0, .ref a0), (1, .int p1), (2, .int p2), (3, .int p3), (4, .ref a4)] := hl
  unfold w_L_holder at h
  obtain ⟨ha0, h⟩ := h
  obtain ⟨ha4, h⟩ := h
  refine lv_aload S.1 S.2.1 (dd_at ddL_holder 0 rfl) (lv_at hl 4 rfl) ?_
  refine lv_iconst (v := 0) S.1 S.2.1 (dd_at ddL_holder 1 rfl) (by decide) ?_
  refine lv_aload_n S.1 S.2.1 (dd_at ddL_holder 2 rfl) rfl (lv_at hl 0 rfl) ?_
  refine lv_iload_n S.1 S.2.1 (dd_at ddL_holder 3 rfl) rfl (lv_at hl 1 rfl) ?_
  refine lv_iload_n S.1 S.2.1 (dd_at ddL_holder 4 rfl) rfl (lv_at hl 2 rfl) ?_
  refine lv_iload_n S.1 S.2.1 (dd_at ddL_holder 5 rfl) rfl (lv_at hl 3 rfl) ?_
  refine r_tcallI hw (r_xrunV (As := [.int p1, .int p2, .int p3]) (rest := [.int 0, .ref a4]) S hw (m_X10_holder l hst D cs E d H.size a0 p1 p2 p3 _ _) (cwV 3 S.2.2.2.2 (gV wg653 wg654 wg655 wg2 wg656) rfl rfl rfl (by decide +kernel) ⟨Nat.le_of_ble_eq_true rfl, Nat.le_of_ble_eq_true rfl⟩) (ci := 10) rfl ha0 h rfl hl.1 rfl (Nat.le_of_ble_eq_true rfl) (dd_at ddL_holder 6 rfl) ⟨Nat.le_of_ble_eq_true rfl, Nat.le_of_ble_eq_true rfl⟩) (fun Ex ce q_4 d_3 H locs h hw hce hcv hcl => ?_) (fun r_2 d_1 H locs h hw => ?_)
  · obtain ⟨rfl, h⟩ := h
    refine vx_catch (name := "java/lang/IndexOutOfBoundsException") S.2.2.2.1 [] (⟨0, 12, 15, 28⟩ : ExceptionTableEntry) [] (by rw [hTb]; rfl) (fun z hz => absurd hz List.not_mem_nil) rfl (by decide) (S.2.2.2.2 _ (List.mem_cons_of_mem _ wg569)) (r_cast hw xc_ix) hce hcv hcl ?_
    refine lv_astore (lv' := [(5, .ref q_4), (0, .ref a0), (1, .int p1), (2, .int p2), (3, .int p3), (4, .ref a4)]) S.1 S.2.1 (dd_at ddL_holder 10 rfl) hl (by decide) rfl (fun ls hl => ?_)
    refine lv_iconst (v := 1) S.1 S.2.1 (dd_at ddL_holder 11 rfl) (by decide) ?_
    exact e_I S hr hlocks hw h (dd_at ddL_holder 12 rfl)
  · refine lv_i2l S.1 S.2.1 (dd_at ddL_holder 7 rfl) rfl ?_
    obtain ⟨hx_5, h⟩ := h
    refine r_last S hw ha4 hx_5 (dd_at ddL_holder 8 rfl) (fun H locs hw => ?_)
    refine lv_goto (tgt := 19) S.1 S.2.1 (dd_at ddL_holder 9 rfl) (by decide) ?_
    refine lv_iconst (v := 0) S.1 S.2.1 (dd_at ddL_holder 13 rfl) (by decide) ?_
    exact e_I S hr hlocks hw h (dd_at ddL_holder 14 rfl)

def w_L_since (E : En) (a0 : Nat) (p1 : Int32) (p2 : Int32) (p3 : Int32) (a4 : Nat) (d : Dy) (K : Int32 → Dy → Prop) : Prop := okO E a0 10 ∧ okA E a4 14 ∧ w_X10_since E a0 p1 p2 p3 d (fun r_2 d_1 => vp_in 0 (eN E a4) ∧ K 0 (pJ d_1 a4 ((0 : Int32)).toNatClampNeg r_2.toInt64)) (fun Ex d_3 => (Ex = "java/lang/IndexOutOfBoundsException" ∧ K 1 d_3))
abbrev rm_L_since : Room := { frames := 10, cells := 3, slots := 18, locals := 188 }
set_option maxRecDepth 100000 in
set_option maxHeartbeats 4000000 in
theorem m_L_since (l : Launch) (hst : l.stackTraces = false) (D : va_G) (cs : Nat → ClassId) (E : En) (d : Dy) (sz : Nat) (a0 : Nat) (p1 : Int32) (p2 : Int32) (p3 : Int32) (a4 : Nat) (K : Int32 → Dy → Prop) : CI l yL_since (.codeWith yL_since cL_since 6 (some .int) [(0, 12, 15, 28)] :: wsL_law) rm_L_since D cs E d sz [.ref a0, .int p1, .int p2, .int p3, .ref a4] (w_L_since E a0 p1 p2 p3 a4 d K) K := by
  refine e_ofW (cc := cL_since) (maxL := 6) (ret := (some .int)) (own := RL) (by decide) rfl rfl (Nat.le_of_ble_eq_true rfl) ?_
  intro p e s m below meth c S hr hlocks hsz hTb H locs hw h ls hl
  have hl : lv_has ls 6 [(0, .ref a0), (1, .int p1), (2, .int p2), (3, .int p3), (4, .ref a4)] := hl
  unfold w_L_since at h
  obtain ⟨ha0, h⟩ := h
  obtain ⟨ha4, h⟩ := h
  refine lv_aload S.1 S.2.1 (dd_at ddL_since 0 rfl) (lv_at hl 4 rfl) ?_
  refine lv_iconst (v := 0) S.1 S.2.1 (dd_at ddL_since 1 rfl) (by decide) ?_
  refine lv_aload_n S.1 S.2.1 (dd_at ddL_since 2 rfl) rfl (lv_at hl 0 rfl) ?_
  refine lv_iload_n S.1 S.2.1 (dd_at ddL_since 3 rfl) rfl (lv_at hl 1 rfl) ?_
  refine lv_iload_n S.1 S.2.1 (dd_at ddL_since 4 rfl) rfl (lv_at hl 2 rfl) ?_
  refine lv_iload_n S.1 S.2.1 (dd_at ddL_since 5 rfl) rfl (lv_at hl 3 rfl) ?_
  refine r_tcallI hw (r_xrunV (As := [.int p1, .int p2, .int p3]) (rest := [.int 0, .ref a4]) S hw (m_X10_since l hst D cs E d H.size a0 p1 p2 p3 _ _) (cwV 3 S.2.2.2.2 (gV wg907 wg908 wg909 wg2 wg910) rfl rfl rfl (by decide +kernel) ⟨Nat.le_of_ble_eq_true rfl, Nat.le_of_ble_eq_true rfl⟩) (ci := 10) rfl ha0 h rfl hl.1 rfl (Nat.le_of_ble_eq_true rfl) (dd_at ddL_since 6 rfl) ⟨Nat.le_of_ble_eq_true rfl, Nat.le_of_ble_eq_true rfl⟩) (fun Ex ce q_4 d_3 H locs h hw hce hcv hcl => ?_) (fun r_2 d_1 H locs h hw => ?_)
  · obtain ⟨rfl, h⟩ := h
    refine vx_catch (name := "java/lang/IndexOutOfBoundsException") S.2.2.2.1 [] (⟨0, 12, 15, 28⟩ : ExceptionTableEntry) [] (by rw [hTb]; rfl) (fun z hz => absurd hz List.not_mem_nil) rfl (by decide) (S.2.2.2.2 _ (List.mem_cons_of_mem _ wg569)) (r_cast hw xc_ix) hce hcv hcl ?_
    refine lv_astore (lv' := [(5, .ref q_4), (0, .ref a0), (1, .int p1), (2, .int p2), (3, .int p3), (4, .ref a4)]) S.1 S.2.1 (dd_at ddL_since 10 rfl) hl (by decide) rfl (fun ls hl => ?_)
    refine lv_iconst (v := 1) S.1 S.2.1 (dd_at ddL_since 11 rfl) (by decide) ?_
    exact e_I S hr hlocks hw h (dd_at ddL_since 12 rfl)
  · refine lv_i2l S.1 S.2.1 (dd_at ddL_since 7 rfl) rfl ?_
    obtain ⟨hx_5, h⟩ := h
    refine r_last S hw ha4 hx_5 (dd_at ddL_since 8 rfl) (fun H locs hw => ?_)
    refine lv_goto (tgt := 19) S.1 S.2.1 (dd_at ddL_since 9 rfl) (by decide) ?_
    refine lv_iconst (v := 0) S.1 S.2.1 (dd_at ddL_since 13 rfl) (by decide) ?_
    exact e_I S hr hlocks hw h (dd_at ddL_since 14 rfl)

def w_L_place (E : En) (a0 : Nat) (p1 : Int32) (p2 : Int32) (p3 : Int32) (a4 : Nat) (d : Dy) (K : Int32 → Dy → Prop) : Prop := okO E a0 10 ∧ okA E a4 14 ∧ w_X10_place E a0 p1 p2 p3 d (fun r_2 d_1 => vp_in 0 (eN E a4) ∧ K 0 (pJ d_1 a4 ((0 : Int32)).toNatClampNeg r_2.toInt64)) (fun Ex d_3 => (Ex = "java/lang/IndexOutOfBoundsException" ∧ K 1 d_3))
abbrev rm_L_place : Room := { frames := 10, cells := 3, slots := 18, locals := 188 }
set_option maxRecDepth 100000 in
set_option maxHeartbeats 4000000 in
theorem m_L_place (l : Launch) (hst : l.stackTraces = false) (D : va_G) (cs : Nat → ClassId) (E : En) (d : Dy) (sz : Nat) (a0 : Nat) (p1 : Int32) (p2 : Int32) (p3 : Int32) (a4 : Nat) (K : Int32 → Dy → Prop) : CI l yL_place (.codeWith yL_place cL_place 6 (some .int) [(0, 12, 15, 28)] :: wsL_law) rm_L_place D cs E d sz [.ref a0, .int p1, .int p2, .int p3, .ref a4] (w_L_place E a0 p1 p2 p3 a4 d K) K := by
  refine e_ofW (cc := cL_place) (maxL := 6) (ret := (some .int)) (own := RL) (by decide) rfl rfl (Nat.le_of_ble_eq_true rfl) ?_
  intro p e s m below meth c S hr hlocks hsz hTb H locs hw h ls hl
  have hl : lv_has ls 6 [(0, .ref a0), (1, .int p1), (2, .int p2), (3, .int p3), (4, .ref a4)] := hl
  unfold w_L_place at h
  obtain ⟨ha0, h⟩ := h
  obtain ⟨ha4, h⟩ := h
  refine lv_aload S.1 S.2.1 (dd_at ddL_place 0 rfl) (lv_at hl 4 rfl) ?_
  refine lv_iconst (v := 0) S.1 S.2.1 (dd_at ddL_place 1 rfl) (by decide) ?_
  refine lv_aload_n S.1 S.2.1 (dd_at ddL_place 2 rfl) rfl (lv_at hl 0 rfl) ?_
  refine lv_iload_n S.1 S.2.1 (dd_at ddL_place 3 rfl) rfl (lv_at hl 1 rfl) ?_
  refine lv_iload_n S.1 S.2.1 (dd_at ddL_place 4 rfl) rfl (lv_at hl 2 rfl) ?_
  refine lv_iload_n S.1 S.2.1 (dd_at ddL_place 5 rfl) rfl (lv_at hl 3 rfl) ?_
  refine r_tcallI hw (r_xrunV (As := [.int p1, .int p2, .int p3]) (rest := [.int 0, .ref a4]) S hw (m_X10_place l hst D cs E d H.size a0 p1 p2 p3 _ _) (cwV 3 S.2.2.2.2 (gV wg919 wg920 wg921 wg2 wg922) rfl rfl rfl (by decide +kernel) ⟨Nat.le_of_ble_eq_true rfl, Nat.le_of_ble_eq_true rfl⟩) (ci := 10) rfl ha0 h rfl hl.1 rfl (Nat.le_of_ble_eq_true rfl) (dd_at ddL_place 6 rfl) ⟨Nat.le_of_ble_eq_true rfl, Nat.le_of_ble_eq_true rfl⟩) (fun Ex ce q_4 d_3 H locs h hw hce hcv hcl => ?_) (fun r_2 d_1 H locs h hw => ?_)
  · obtain ⟨rfl, h⟩ := h
    refine vx_catch (name := "java/lang/IndexOutOfBoundsException") S.2.2.2.1 [] (⟨0, 12, 15, 28⟩ : ExceptionTableEntry) [] (by rw [hTb]; rfl) (fun z hz => absurd hz List.not_mem_nil) rfl (by decide) (S.2.2.2.2 _ (List.mem_cons_of_mem _ wg569)) (r_cast hw xc_ix) hce hcv hcl ?_
    refine lv_astore (lv' := [(5, .ref q_4), (0, .ref a0), (1, .int p1), (2, .int p2), (3, .int p3), (4, .ref a4)]) S.1 S.2.1 (dd_at ddL_place 10 rfl) hl (by decide) rfl (fun ls hl => ?_)
    refine lv_iconst (v := 1) S.1 S.2.1 (dd_at ddL_place 11 rfl) (by decide) ?_
    exact e_I S hr hlocks hw h (dd_at ddL_place 12 rfl)
  · refine lv_i2l S.1 S.2.1 (dd_at ddL_place 7 rfl) rfl ?_
    obtain ⟨hx_5, h⟩ := h
    refine r_last S hw ha4 hx_5 (dd_at ddL_place 8 rfl) (fun H locs hw => ?_)
    refine lv_goto (tgt := 19) S.1 S.2.1 (dd_at ddL_place 9 rfl) (by decide) ?_
    refine lv_iconst (v := 0) S.1 S.2.1 (dd_at ddL_place 13 rfl) (by decide) ?_
    exact e_I S hr hlocks hw h (dd_at ddL_place 14 rfl)

def w_L_about (E : En) (a0 : Nat) (p1 : Int32) (p2 : Int32) (p3 : Int32) (p4 : Int32) (a5 : Nat) (d : Dy) (K : Int32 → Dy → Prop) : Prop := okO E a0 10 ∧ okA E a5 14 ∧ w_X10_about E a0 p1 p2 p3 p4 d (fun r_2 d_1 => vp_in 0 (eN E a5) ∧ K 0 (pJ d_1 a5 ((0 : Int32)).toNatClampNeg r_2.toInt64)) (fun Ex d_3 => (Ex = "java/lang/IndexOutOfBoundsException" ∧ K 1 d_3) ∨ (Ex = "java/util/NoSuchElementException" ∧ K 2 d_3))
abbrev rm_L_about : Room := { frames := 9, cells := 4, slots := 24, locals := 189 }
set_option maxRecDepth 100000 in
set_option maxHeartbeats 4000000 in
theorem m_L_about (l : Launch) (hst : l.stackTraces = false) (D : va_G) (cs : Nat → ClassId) (E : En) (d : Dy) (sz : Nat) (a0 : Nat) (p1 : Int32) (p2 : Int32) (p3 : Int32) (p4 : Int32) (a5 : Nat) (K : Int32 → Dy → Prop) : CI l yL_about (.codeWith yL_about cL_about 7 (some .int) [(0, 14, 17, 28), (0, 14, 21, 49)] :: wsL_law) rm_L_about D cs E d sz [.ref a0, .int p1, .int p2, .int p3, .int p4, .ref a5] (w_L_about E a0 p1 p2 p3 p4 a5 d K) K := by
  refine e_ofW (cc := cL_about) (maxL := 7) (ret := (some .int)) (own := RL) (by decide) rfl rfl (Nat.le_of_ble_eq_true rfl) ?_
  intro p e s m below meth c S hr hlocks hsz hTb H locs hw h ls hl
  have hl : lv_has ls 7 [(0, .ref a0), (1, .int p1), (2, .int p2), (3, .int p3), (4, .int p4), (5, .ref a5)] := hl
  unfold w_L_about at h
  obtain ⟨ha0, h⟩ := h
  obtain ⟨ha5, h⟩ := h
  refine lv_aload S.1 S.2.1 (dd_at ddL_about 0 rfl) (lv_at hl 5 rfl) ?_
  refine lv_iconst (v := 0) S.1 S.2.1 (dd_at ddL_about 1 rfl) (by decide) ?_
  refine lv_aload_n S.1 S.2.1 (dd_at ddL_about 2 rfl) rfl (lv_at hl 0 rfl) ?_
  refine lv_iload_n S.1 S.2.1 (dd_at ddL_about 3 rfl) rfl (lv_at hl 1 rfl) ?_
  refine lv_iload_n S.1 S.2.1 (dd_at ddL_about 4 rfl) rfl (lv_at hl 2 rfl) ?_
  refine lv_iload_n S.1 S.2.1 (dd_at ddL_about 5 rfl) rfl (lv_at hl 3 rfl) ?_
  refine lv_iload S.1 S.2.1 (dd_at ddL_about 6 rfl) (lv_at hl 4 rfl) ?_
  refine r_tcallI hw (r_xrunV (As := [.int p1, .int p2, .int p3, .int p4]) (rest := [.int 0, .ref a5]) S hw (m_X10_about l hst D cs E d H.size a0 p1 p2 p3 p4 _ _) (cwV 4 S.2.2.2.2 (gV wg932 wg933 wg934 wg2 wg935) rfl rfl rfl (by decide +kernel) ⟨Nat.le_of_ble_eq_true rfl, Nat.le_of_ble_eq_true rfl⟩) (ci := 10) rfl ha0 h rfl hl.1 rfl (Nat.le_of_ble_eq_true rfl) (dd_at ddL_about 7 rfl) ⟨Nat.le_of_ble_eq_true rfl, Nat.le_of_ble_eq_true rfl⟩) (fun Ex ce q_4 d_3 H locs h hw hce hcv hcl => ?_) (fun r_2 d_1 H locs h hw => ?_)
  · rcases h with ⟨rfl, h⟩ | ⟨rfl, h⟩
    · refine vx_catch (name := "java/lang/IndexOutOfBoundsException") S.2.2.2.1 [] (⟨0, 14, 17, 28⟩ : ExceptionTableEntry) [(⟨0, 14, 21, 49⟩ : ExceptionTableEntry)] (by rw [hTb]; rfl) (fun z hz => absurd hz List.not_mem_nil) rfl (by decide) (S.2.2.2.2 _ (List.mem_cons_of_mem _ wg569)) (r_cast hw xc_ix) hce hcv hcl ?_
      refine lv_astore (lv' := [(6, .ref q_4), (0, .ref a0), (1, .int p1), (2, .int p2), (3, .int p3), (4, .int p4), (5, .ref a5)]) S.1 S.2.1 (dd_at ddL_about 11 rfl) hl (by decide) rfl (fun ls hl => ?_)
      refine lv_iconst (v := 1) S.1 S.2.1 (dd_at ddL_about 12 rfl) (by decide) ?_
      exact e_I S hr hlocks hw h (dd_at ddL_about 13 rfl)
    · refine vx_catch (name := "java/util/NoSuchElementException") S.2.2.2.1 [(⟨0, 14, 17, 28⟩ : ExceptionTableEntry)] (⟨0, 14, 21, 49⟩ : ExceptionTableEntry) [] (by rw [hTb]; rfl) (fun z hz => by cases List.mem_singleton.mp hz; exact Or.inr ⟨by decide, "java/lang/IndexOutOfBoundsException", (S.2.2.2.2 _ (List.mem_cons_of_mem _ wg569)), r_nc hw (by decide) (by decide) (by decide)⟩) rfl (by decide) (S.2.2.2.2 _ (List.mem_cons_of_mem _ wg931)) (r_cast hw xc_no) hce hcv hcl ?_
      refine lv_astore (lv' := [(6, .ref q_4), (0, .ref a0), (1, .int p1), (2, .int p2), (3, .int p3), (4, .int p4), (5, .ref a5)]) S.1 S.2.1 (dd_at ddL_about 14 rfl) hl (by decide) rfl (fun ls hl => ?_)
      refine lv_iconst (v := 2) S.1 S.2.1 (dd_at ddL_about 15 rfl) (by decide) ?_
      exact e_I S hr hlocks hw h (dd_at ddL_about 16 rfl)
  · refine lv_i2l S.1 S.2.1 (dd_at ddL_about 8 rfl) rfl ?_
    obtain ⟨hx_5, h⟩ := h
    refine r_last S hw ha5 hx_5 (dd_at ddL_about 9 rfl) (fun H locs hw => ?_)
    refine lv_goto (tgt := 25) S.1 S.2.1 (dd_at ddL_about 10 rfl) (by decide) ?_
    refine lv_iconst (v := 0) S.1 S.2.1 (dd_at ddL_about 17 rfl) (by decide) ?_
    exact e_I S hr hlocks hw h (dd_at ddL_about 18 rfl)

def w_L_rent (E : En) (a0 : Nat) (p1 : Int32) (p2 : Int32) (p3 : Int32) (a4 : Nat) (d : Dy) (K : Int32 → Dy → Prop) : Prop := okO E a0 10 ∧ okA E a4 14 ∧ w_X10_rent E a0 p1 p2 p3 d (fun r_2 d_1 => vp_in 0 (eN E a4) ∧ K 0 (pJ d_1 a4 ((0 : Int32)).toNatClampNeg r_2.toInt64)) (fun Ex d_3 => (Ex = "java/lang/IndexOutOfBoundsException" ∧ K 1 d_3))
abbrev rm_L_rent : Room := { frames := 10, cells := 3, slots := 18, locals := 188 }
set_option maxRecDepth 100000 in
set_option maxHeartbeats 4000000 in
theorem m_L_rent (l : Launch) (hst : l.stackTraces = false) (D : va_G) (cs : Nat → ClassId) (E : En) (d : Dy) (sz : Nat) (a0 : Nat) (p1 : Int32) (p2 : Int32) (p3 : Int32) (a4 : Nat) (K : Int32 → Dy → Prop) : CI l yL_rent (.codeWith yL_rent cL_rent 6 (some .int) [(0, 12, 15, 28)] :: wsL_law) rm_L_rent D cs E d sz [.ref a0, .int p1, .int p2, .int p3, .ref a4] (w_L_rent E a0 p1 p2 p3 a4 d K) K := by
  refine e_ofW (cc := cL_rent) (maxL := 6) (ret := (some .int)) (own := RL) (by decide) rfl rfl (Nat.le_of_ble_eq_true rfl) ?_
  intro p e s m below meth c S hr hlocks hsz hTb H locs hw h ls hl
  have hl : lv_has ls 6 [(0, .ref a0), (1, .int p1), (2, .int p2), (3, .int p3), (4, .ref a4)] := hl
  unfold w_L_rent at h
  obtain ⟨ha0, h⟩ := h
  obtain ⟨ha4, h⟩ := h
  refine lv_aload S.1 S.2.1 (dd_at ddL_rent 0 rfl) (lv_at hl 4 rfl) ?_
  refine lv_iconst (v := 0) S.1 S.2.1 (dd_at ddL_rent 1 rfl) (by decide) ?_
  refine lv_aload_n S.1 S.2.1 (dd_at ddL_rent 2 rfl) rfl (lv_at hl 0 rfl) ?_
  refine lv_iload_n S.1 S.2.1 (dd_at ddL_rent 3 rfl) rfl (lv_at hl 1 rfl) ?_
  refine lv_iload_n S.1 S.2.1 (dd_at ddL_rent 4 rfl) rfl (lv_at hl 2 rfl) ?_
  refine lv_iload_n S.1 S.2.1 (dd_at ddL_rent 5 rfl) rfl (lv_at hl 3 rfl) ?_
  refine r_tcallI hw (r_xrunV (As := [.int p1, .int p2, .int p3]) (rest := [.int 0, .ref a4]) S hw (m_X10_rent l hst D cs E d H.size a0 p1 p2 p3 _ _) (cwV 3 S.2.2.2.2 (gV wg956 wg957 wg958 wg2 wg959) rfl rfl rfl (by decide +kernel) ⟨Nat.le_of_ble_eq_true rfl, Nat.le_of_ble_eq_true rfl⟩) (ci := 10) rfl ha0 h rfl hl.1 rfl (Nat.le_of_ble_eq_true rfl) (dd_at ddL_rent 6 rfl) ⟨Nat.le_of_ble_eq_true rfl, Nat.le_of_ble_eq_true rfl⟩) (fun Ex ce q_4 d_3 H locs h hw hce hcv hcl => ?_) (fun r_2 d_1 H locs h hw => ?_)
  · obtain ⟨rfl, h⟩ := h
    refine vx_catch (name := "java/lang/IndexOutOfBoundsException") S.2.2.2.1 [] (⟨0, 12, 15, 28⟩ : ExceptionTableEntry) [] (by rw [hTb]; rfl) (fun z hz => absurd hz List.not_mem_nil) rfl (by decide) (S.2.2.2.2 _ (List.mem_cons_of_mem _ wg569)) (r_cast hw xc_ix) hce hcv hcl ?_
    refine lv_astore (lv' := [(5, .ref q_4), (0, .ref a0), (1, .int p1), (2, .int p2), (3, .int p3), (4, .ref a4)]) S.1 S.2.1 (dd_at ddL_rent 10 rfl) hl (by decide) rfl (fun ls hl => ?_)
    refine lv_iconst (v := 1) S.1 S.2.1 (dd_at ddL_rent 11 rfl) (by decide) ?_
    exact e_I S hr hlocks hw h (dd_at ddL_rent 12 rfl)
  · refine lv_i2l S.1 S.2.1 (dd_at ddL_rent 7 rfl) rfl ?_
    obtain ⟨hx_5, h⟩ := h
    refine r_last S hw ha4 hx_5 (dd_at ddL_rent 8 rfl) (fun H locs hw => ?_)
    refine lv_goto (tgt := 19) S.1 S.2.1 (dd_at ddL_rent 9 rfl) (by decide) ?_
    refine lv_iconst (v := 0) S.1 S.2.1 (dd_at ddL_rent 13 rfl) (by decide) ?_
    exact e_I S hr hlocks hw h (dd_at ddL_rent 14 rfl)

def w_L_leaves (E : En) (a0 : Nat) (p1 : Int32) (p2 : Int32) (a3 : Nat) (d : Dy) (K : Int32 → Dy → Prop) : Prop := okO E a0 10 ∧ okA E a3 14 ∧ w_X10_leaves E a0 p1 p2 d (fun r_2 d_1 => vp_in 0 (eN E a3) ∧ K 0 (pJ d_1 a3 ((0 : Int32)).toNatClampNeg r_2.toInt64)) (fun Ex d_3 => (Ex = "java/lang/IndexOutOfBoundsException" ∧ K 1 d_3) ∨ (Ex = "java/lang/IllegalArgumentException" ∧ K 2 d_3))
abbrev rm_L_leaves : Room := { frames := 9, cells := 2, slots := 12, locals := 189 }
set_option maxRecDepth 100000 in
set_option maxHeartbeats 4000000 in
theorem m_L_leaves (l : Launch) (hst : l.stackTraces = false) (D : va_G) (cs : Nat → ClassId) (E : En) (d : Dy) (sz : Nat) (a0 : Nat) (p1 : Int32) (p2 : Int32) (a3 : Nat) (K : Int32 → Dy → Prop) : CI l yL_leaves (.codeWith yL_leaves cL_leaves 5 (some .int) [(0, 10, 13, 28), (0, 10, 17, 13)] :: wsL_law) rm_L_leaves D cs E d sz [.ref a0, .int p1, .int p2, .ref a3] (w_L_leaves E a0 p1 p2 a3 d K) K := by
  refine e_ofW (cc := cL_leaves) (maxL := 5) (ret := (some .int)) (own := RL) (by decide) rfl rfl (Nat.le_of_ble_eq_true rfl) ?_
  intro p e s m below meth c S hr hlocks hsz hTb H locs hw h ls hl
  have hl : lv_has ls 5 [(0, .ref a0), (1, .int p1), (2, .int p2), (3, .ref a3)] := hl
  unfold w_L_leaves at h
  obtain ⟨ha0, h⟩ := h
  obtain ⟨ha3, h⟩ := h
  refine lv_aload_n S.1 S.2.1 (dd_at ddL_leaves 0 rfl) rfl (lv_at hl 3 rfl) ?_
  refine lv_iconst (v := 0) S.1 S.2.1 (dd_at ddL_leaves 1 rfl) (by decide) ?_
  refine lv_aload_n S.1 S.2.1 (dd_at ddL_leaves 2 rfl) rfl (lv_at hl 0 rfl) ?_
  refine lv_iload_n S.1 S.2.1 (dd_at ddL_leaves 3 rfl) rfl (lv_at hl 1 rfl) ?_
  refine lv_iload_n S.1 S.2.1 (dd_at ddL_leaves 4 rfl) rfl (lv_at hl 2 rfl) ?_
  refine r_tcallI hw (r_xrunV (As := [.int p1, .int p2]) (rest := [.int 0, .ref a3]) S hw (m_X10_leaves l hst D cs E d H.size a0 p1 p2 _ _) (cwV 2 S.2.2.2.2 (gV wg989 wg990 wg991 wg2 wg992) rfl rfl rfl (by decide +kernel) ⟨Nat.le_of_ble_eq_true rfl, Nat.le_of_ble_eq_true rfl⟩) (ci := 10) rfl ha0 h rfl hl.1 rfl (Nat.le_of_ble_eq_true rfl) (dd_at ddL_leaves 5 rfl) ⟨Nat.le_of_ble_eq_true rfl, Nat.le_of_ble_eq_true rfl⟩) (fun Ex ce q_4 d_3 H locs h hw hce hcv hcl => ?_) (fun r_2 d_1 H locs h hw => ?_)
  · rcases h with ⟨rfl, h⟩ | ⟨rfl, h⟩
    · refine vx_catch (name := "java/lang/IndexOutOfBoundsException") S.2.2.2.1 [] (⟨0, 10, 13, 28⟩ : ExceptionTableEntry) [(⟨0, 10, 17, 13⟩ : ExceptionTableEntry)] (by rw [hTb]; rfl) (fun z hz => absurd hz List.not_mem_nil) rfl (by decide) (S.2.2.2.2 _ (List.mem_cons_of_mem _ wg569)) (r_cast hw xc_ix) hce hcv hcl ?_
      refine lv_astore (lv' := [(4, .ref q_4), (0, .ref a0), (1, .int p1), (2, .int p2), (3, .ref a3)]) S.1 S.2.1 (dd_at ddL_leaves 9 rfl) hl (by decide) rfl (fun ls hl => ?_)
      refine lv_iconst (v := 1) S.1 S.2.1 (dd_at ddL_leaves 10 rfl) (by decide) ?_
      exact e_I S hr hlocks hw h (dd_at ddL_leaves 11 rfl)
    · refine vx_catch (name := "java/lang/IllegalArgumentException") S.2.2.2.1 [(⟨0, 10, 13, 28⟩ : ExceptionTableEntry)] (⟨0, 10, 17, 13⟩ : ExceptionTableEntry) [] (by rw [hTb]; rfl) (fun z hz => by cases List.mem_singleton.mp hz; exact Or.inr ⟨by decide, "java/lang/IndexOutOfBoundsException", (S.2.2.2.2 _ (List.mem_cons_of_mem _ wg569)), r_nc hw (by decide) (by decide) (by decide)⟩) rfl (by decide) (S.2.2.2.2 _ (List.mem_cons_of_mem _ wg223)) (r_cast hw xc_ia) hce hcv hcl ?_
      refine lv_astore (lv' := [(4, .ref q_4), (0, .ref a0), (1, .int p1), (2, .int p2), (3, .ref a3)]) S.1 S.2.1 (dd_at ddL_leaves 12 rfl) hl (by decide) rfl (fun ls hl => ?_)
      refine lv_iconst (v := 2) S.1 S.2.1 (dd_at ddL_leaves 13 rfl) (by decide) ?_
      exact e_I S hr hlocks hw h (dd_at ddL_leaves 14 rfl)
  · refine lv_i2l S.1 S.2.1 (dd_at ddL_leaves 6 rfl) rfl ?_
    obtain ⟨hx_5, h⟩ := h
    refine r_last S hw ha3 hx_5 (dd_at ddL_leaves 7 rfl) (fun H locs hw => ?_)
    refine lv_goto (tgt := 21) S.1 S.2.1 (dd_at ddL_leaves 8 rfl) (by decide) ?_
    refine lv_iconst (v := 0) S.1 S.2.1 (dd_at ddL_leaves 15 rfl) (by decide) ?_
    exact e_I S hr hlocks hw h (dd_at ddL_leaves 16 rfl)

def w_L_income (E : En) (a0 : Nat) (p1 : Int32) (p2 : Int32) (a3 : Nat) (d : Dy) (K : Int32 → Dy → Prop) : Prop := okO E a0 10 ∧ okA E a3 14 ∧ w_X10_income E a0 p1 p2 d (fun r_2 d_1 => vp_in 0 (eN E a3) ∧ K 0 (pJ d_1 a3 ((0 : Int32)).toNatClampNeg r_2.toInt64)) (fun Ex d_3 => (Ex = "java/lang/IndexOutOfBoundsException" ∧ K 1 d_3) ∨ (Ex = "java/lang/IllegalArgumentException" ∧ K 2 d_3))
abbrev rm_L_income : Room := { frames := 9, cells := 2, slots := 12, locals := 190 }
set_option maxRecDepth 100000 in
set_option maxHeartbeats 4000000 in
theorem m_L_income (l : Launch) (hst : l.stackTraces = false) (D : va_G) (cs : Nat → ClassId) (E : En) (d : Dy) (sz : Nat) (a0 : Nat) (p1 : Int32) (p2 : Int32) (a3 : Nat) (K : Int32 → Dy → Prop) : CI l yL_income (.codeWith yL_income cL_income 5 (some .int) [(0, 10, 13, 28), (0, 10, 17, 13)] :: wsL_law) rm_L_income D cs E d sz [.ref a0, .int p1, .int p2, .ref a3] (w_L_income E a0 p1 p2 a3 d K) K := by
  refine e_ofW (cc := cL_income) (maxL := 5) (ret := (some .int)) (own := RL) (by decide) rfl rfl (Nat.le_of_ble_eq_true rfl) ?_
  intro p e s m below meth c S hr hlocks hsz hTb H locs hw h ls hl
  have hl : lv_has ls 5 [(0, .ref a0), (1, .int p1), (2, .int p2), (3, .ref a3)] := hl
  unfold w_L_income at h
  obtain ⟨ha0, h⟩ := h
  obtain ⟨ha3, h⟩ := h
  refine lv_aload_n S.1 S.2.1 (dd_at ddL_income 0 rfl) rfl (lv_at hl 3 rfl) ?_
  refine lv_iconst (v := 0) S.1 S.2.1 (dd_at ddL_income 1 rfl) (by decide) ?_
  refine lv_aload_n S.1 S.2.1 (dd_at ddL_income 2 rfl) rfl (lv_at hl 0 rfl) ?_
  refine lv_iload_n S.1 S.2.1 (dd_at ddL_income 3 rfl) rfl (lv_at hl 1 rfl) ?_
  refine lv_iload_n S.1 S.2.1 (dd_at ddL_income 4 rfl) rfl (lv_at hl 2 rfl) ?_
  refine r_tcallI hw (r_xrunV (As := [.int p1, .int p2]) (rest := [.int 0, .ref a3]) S hw (m_X10_income l hst D cs E d H.size a0 p1 p2 _ _) (cwV 2 S.2.2.2.2 (gV wg1009 wg1010 wg1011 wg2 wg1012) rfl rfl rfl (by decide +kernel) ⟨Nat.le_of_ble_eq_true rfl, Nat.le_of_ble_eq_true rfl⟩) (ci := 10) rfl ha0 h rfl hl.1 rfl (Nat.le_of_ble_eq_true rfl) (dd_at ddL_income 5 rfl) ⟨Nat.le_of_ble_eq_true rfl, Nat.le_of_ble_eq_true rfl⟩) (fun Ex ce q_4 d_3 H locs h hw hce hcv hcl => ?_) (fun r_2 d_1 H locs h hw => ?_)
  · rcases h with ⟨rfl, h⟩ | ⟨rfl, h⟩
    · refine vx_catch (name := "java/lang/IndexOutOfBoundsException") S.2.2.2.1 [] (⟨0, 10, 13, 28⟩ : ExceptionTableEntry) [(⟨0, 10, 17, 13⟩ : ExceptionTableEntry)] (by rw [hTb]; rfl) (fun z hz => absurd hz List.not_mem_nil) rfl (by decide) (S.2.2.2.2 _ (List.mem_cons_of_mem _ wg569)) (r_cast hw xc_ix) hce hcv hcl ?_
      refine lv_astore (lv' := [(4, .ref q_4), (0, .ref a0), (1, .int p1), (2, .int p2), (3, .ref a3)]) S.1 S.2.1 (dd_at ddL_income 9 rfl) hl (by decide) rfl (fun ls hl => ?_)
      refine lv_iconst (v := 1) S.1 S.2.1 (dd_at ddL_income 10 rfl) (by decide) ?_
      exact e_I S hr hlocks hw h (dd_at ddL_income 11 rfl)
    · refine vx_catch (name := "java/lang/IllegalArgumentException") S.2.2.2.1 [(⟨0, 10, 13, 28⟩ : ExceptionTableEntry)] (⟨0, 10, 17, 13⟩ : ExceptionTableEntry) [] (by rw [hTb]; rfl) (fun z hz => by cases List.mem_singleton.mp hz; exact Or.inr ⟨by decide, "java/lang/IndexOutOfBoundsException", (S.2.2.2.2 _ (List.mem_cons_of_mem _ wg569)), r_nc hw (by decide) (by decide) (by decide)⟩) rfl (by decide) (S.2.2.2.2 _ (List.mem_cons_of_mem _ wg223)) (r_cast hw xc_ia) hce hcv hcl ?_
      refine lv_astore (lv' := [(4, .ref q_4), (0, .ref a0), (1, .int p1), (2, .int p2), (3, .ref a3)]) S.1 S.2.1 (dd_at ddL_income 12 rfl) hl (by decide) rfl (fun ls hl => ?_)
      refine lv_iconst (v := 2) S.1 S.2.1 (dd_at ddL_income 13 rfl) (by decide) ?_
      exact e_I S hr hlocks hw h (dd_at ddL_income 14 rfl)
  · refine lv_i2l S.1 S.2.1 (dd_at ddL_income 6 rfl) rfl ?_
    obtain ⟨hx_5, h⟩ := h
    refine r_last S hw ha3 hx_5 (dd_at ddL_income 7 rfl) (fun H locs hw => ?_)
    refine lv_goto (tgt := 21) S.1 S.2.1 (dd_at ddL_income 8 rfl) (by decide) ?_
    refine lv_iconst (v := 0) S.1 S.2.1 (dd_at ddL_income 15 rfl) (by decide) ?_
    exact e_I S hr hlocks hw h (dd_at ddL_income 16 rfl)

def w_L_waits (E : En) (a0 : Nat) (p1 : Int32) (p2 : Int32) (a3 : Nat) (d : Dy) (K : Int32 → Dy → Prop) : Prop := okO E a0 10 ∧ okA E a3 14 ∧ w_X10_waits E a0 p1 p2 d (fun r_2 d_1 => vp_in 0 (eN E a3) ∧ K 0 (pJ d_1 a3 ((0 : Int32)).toNatClampNeg r_2.toInt64)) (fun Ex d_3 => (Ex = "java/lang/IndexOutOfBoundsException" ∧ K 1 d_3) ∨ (Ex = "java/lang/IllegalArgumentException" ∧ K 2 d_3) ∨ (Ex = "java/lang/UnsupportedOperationException" ∧ K 3 d_3))
abbrev rm_L_waits : Room := { frames := 9, cells := 4, slots := 24, locals := 165 }
set_option maxRecDepth 100000 in
set_option maxHeartbeats 4000000 in
theorem m_L_waits (l : Launch) (hst : l.stackTraces = false) (D : va_G) (cs : Nat → ClassId) (E : En) (d : Dy) (sz : Nat) (a0 : Nat) (p1 : Int32) (p2 : Int32) (a3 : Nat) (K : Int32 → Dy → Prop) : CI l yL_waits (.codeWith yL_waits cL_waits 5 (some .int) [(0, 10, 13, 28), (0, 10, 17, 13), (0, 10, 21, 22)] :: wsL_law) rm_L_waits D cs E d sz [.ref a0, .int p1, .int p2, .ref a3] (w_L_waits E a0 p1 p2 a3 d K) K := by
  refine e_ofW (cc := cL_waits) (maxL := 5) (ret := (some .int)) (own := RL) (by decide) rfl rfl (Nat.le_of_ble_eq_true rfl) ?_
  intro p e s m below meth c S hr hlocks hsz hTb H locs hw h ls hl
  have hl : lv_has ls 5 [(0, .ref a0), (1, .int p1), (2, .int p2), (3, .ref a3)] := hl
  unfold w_L_waits at h
  obtain ⟨ha0, h⟩ := h
  obtain ⟨ha3, h⟩ := h
  refine lv_aload_n S.1 S.2.1 (dd_at ddL_waits 0 rfl) rfl (lv_at hl 3 rfl) ?_
  refine lv_iconst (v := 0) S.1 S.2.1 (dd_at ddL_waits 1 rfl) (by decide) ?_
  refine lv_aload_n S.1 S.2.1 (dd_at ddL_waits 2 rfl) rfl (lv_at hl 0 rfl) ?_
  refine lv_iload_n S.1 S.2.1 (dd_at ddL_waits 3 rfl) rfl (lv_at hl 1 rfl) ?_
  refine lv_iload_n S.1 S.2.1 (dd_at ddL_waits 4 rfl) rfl (lv_at hl 2 rfl) ?_
  refine r_tcallI hw (r_xrunV (As := [.int p1, .int p2]) (rest := [.int 0, .ref a3]) S hw (m_X10_waits l hst D cs E d H.size a0 p1 p2 _ _) (cwV 2 S.2.2.2.2 (gV wg1058 wg1059 wg1060 wg2 wg1061) rfl rfl rfl (by decide +kernel) ⟨Nat.le_of_ble_eq_true rfl, Nat.le_of_ble_eq_true rfl⟩) (ci := 10) rfl ha0 h rfl hl.1 rfl (Nat.le_of_ble_eq_true rfl) (dd_at ddL_waits 5 rfl) ⟨Nat.le_of_ble_eq_true rfl, Nat.le_of_ble_eq_true rfl⟩) (fun Ex ce q_4 d_3 H locs h hw hce hcv hcl => ?_) (fun r_2 d_1 H locs h hw => ?_)
  · rcases h with ⟨rfl, h⟩ | ⟨rfl, h⟩ | ⟨rfl, h⟩
    · refine vx_catch (name := "java/lang/IndexOutOfBoundsException") S.2.2.2.1 [] (⟨0, 10, 13, 28⟩ : ExceptionTableEntry) [(⟨0, 10, 17, 13⟩ : ExceptionTableEntry), (⟨0, 10, 21, 22⟩ : ExceptionTableEntry)] (by rw [hTb]; rfl) (fun z hz => absurd hz List.not_mem_nil) rfl (by decide) (S.2.2.2.2 _ (List.mem_cons_of_mem _ wg569)) (r_cast hw xc_ix) hce hcv hcl ?_
      refine lv_astore (lv' := [(4, .ref q_4), (0, .ref a0), (1, .int p1), (2, .int p2), (3, .ref a3)]) S.1 S.2.1 (dd_at ddL_waits 9 rfl) hl (by decide) rfl (fun ls hl => ?_)
      refine lv_iconst (v := 1) S.1 S.2.1 (dd_at ddL_waits 10 rfl) (by decide) ?_
      exact e_I S hr hlocks hw h (dd_at ddL_waits 11 rfl)
    · refine vx_catch (name := "java/lang/IllegalArgumentException") S.2.2.2.1 [(⟨0, 10, 13, 28⟩ : ExceptionTableEntry)] (⟨0, 10, 17, 13⟩ : ExceptionTableEntry) [(⟨0, 10, 21, 22⟩ : ExceptionTableEntry)] (by rw [hTb]; rfl) (fun z hz => by cases List.mem_singleton.mp hz; exact Or.inr ⟨by decide, "java/lang/IndexOutOfBoundsException", (S.2.2.2.2 _ (List.mem_cons_of_mem _ wg569)), r_nc hw (by decide) (by decide) (by decide)⟩) rfl (by decide) (S.2.2.2.2 _ (List.mem_cons_of_mem _ wg223)) (r_cast hw xc_ia) hce hcv hcl ?_
      refine lv_astore (lv' := [(4, .ref q_4), (0, .ref a0), (1, .int p1), (2, .int p2), (3, .ref a3)]) S.1 S.2.1 (dd_at ddL_waits 12 rfl) hl (by decide) rfl (fun ls hl => ?_)
      refine lv_iconst (v := 2) S.1 S.2.1 (dd_at ddL_waits 13 rfl) (by decide) ?_
      exact e_I S hr hlocks hw h (dd_at ddL_waits 14 rfl)
    · refine vx_catch (name := "java/lang/UnsupportedOperationException") S.2.2.2.1 [(⟨0, 10, 13, 28⟩ : ExceptionTableEntry), (⟨0, 10, 17, 13⟩ : ExceptionTableEntry)] (⟨0, 10, 21, 22⟩ : ExceptionTableEntry) [] (by rw [hTb]; rfl) (fun z hz => (List.mem_cons.mp hz).elim (fun h1 => by cases h1; exact Or.inr ⟨by decide, "java/lang/IndexOutOfBoundsException", (S.2.2.2.2 _ (List.mem_cons_of_mem _ wg569)), r_nc hw (by decide) (by decide) (by decide)⟩) (fun h1 => by cases List.mem_singleton.mp h1; exact Or.inr ⟨by decide, "java/lang/IllegalArgumentException", (S.2.2.2.2 _ (List.mem_cons_of_mem _ wg223)), r_nc hw (by decide) (by decide) (by decide)⟩)) rfl (by decide) (S.2.2.2.2 _ (List.mem_cons_of_mem _ wg535)) (r_cast hw xc_un) hce hcv hcl ?_
      refine lv_astore (lv' := [(4, .ref q_4), (0, .ref a0), (1, .int p1), (2, .int p2), (3, .ref a3)]) S.1 S.2.1 (dd_at ddL_waits 15 rfl) hl (by decide) rfl (fun ls hl => ?_)
      refine lv_iconst (v := 3) S.1 S.2.1 (dd_at ddL_waits 16 rfl) (by decide) ?_
      exact e_I S hr hlocks hw h (dd_at ddL_waits 17 rfl)
  · refine lv_i2l S.1 S.2.1 (dd_at ddL_waits 6 rfl) rfl ?_
    obtain ⟨hx_5, h⟩ := h
    refine r_last S hw ha3 hx_5 (dd_at ddL_waits 7 rfl) (fun H locs hw => ?_)
    refine lv_goto (tgt := 25) S.1 S.2.1 (dd_at ddL_waits 8 rfl) (by decide) ?_
    refine lv_iconst (v := 0) S.1 S.2.1 (dd_at ddL_waits 18 rfl) (by decide) ?_
    exact e_I S hr hlocks hw h (dd_at ddL_waits 19 rfl)

def w_L_order (E : En) (a0 : Nat) (p1 : Int32) (p2 : Int32) (p3 : Int32) (a4 : Nat) (d : Dy) (K : Int32 → Dy → Prop) : Prop := okO E a0 10 ∧ okA E a4 14 ∧ w_X10_order E a0 p1 p2 p3 d (fun r_2 d_1 => vp_in 0 (eN E a4) ∧ K 0 (pJ d_1 a4 ((0 : Int32)).toNatClampNeg r_2.toInt64)) (fun Ex d_3 => (Ex = "java/lang/IndexOutOfBoundsException" ∧ K 1 d_3))
abbrev rm_L_order : Room := { frames := 8, cells := 2, slots := 12, locals := 188 }
set_option maxRecDepth 100000 in
set_option maxHeartbeats 4000000 in
theorem m_L_order (l : Launch) (hst : l.stackTraces = false) (D : va_G) (cs : Nat → ClassId) (E : En) (d : Dy) (sz : Nat) (a0 : Nat) (p1 : Int32) (p2 : Int32) (p3 : Int32) (a4 : Nat) (K : Int32 → Dy → Prop) : CI l yL_order (.codeWith yL_order cL_order 6 (some .int) [(0, 12, 15, 28)] :: wsL_law) rm_L_order D cs E d sz [.ref a0, .int p1, .int p2, .int p3, .ref a4] (w_L_order E a0 p1 p2 p3 a4 d K) K := by
  refine e_ofW (cc := cL_order) (maxL := 6) (ret := (some .int)) (own := RL) (by decide) rfl rfl (Nat.le_of_ble_eq_true rfl) ?_
  intro p e s m below meth c S hr hlocks hsz hTb H locs hw h ls hl
  have hl : lv_has ls 6 [(0, .ref a0), (1, .int p1), (2, .int p2), (3, .int p3), (4, .ref a4)] := hl
  unfold w_L_order at h
  obtain ⟨ha0, h⟩ := h
  obtain ⟨ha4, h⟩ := h
  refine lv_aload S.1 S.2.1 (dd_at ddL_order 0 rfl) (lv_at hl 4 rfl) ?_
  refine lv_iconst (v := 0) S.1 S.2.1 (dd_at ddL_order 1 rfl) (by decide) ?_
  refine lv_aload_n S.1 S.2.1 (dd_at ddL_order 2 rfl) rfl (lv_at hl 0 rfl) ?_
  refine lv_iload_n S.1 S.2.1 (dd_at ddL_order 3 rfl) rfl (lv_at hl 1 rfl) ?_
  refine lv_iload_n S.1 S.2.1 (dd_at ddL_order 4 rfl) rfl (lv_at hl 2 rfl) ?_
  refine lv_iload_n S.1 S.2.1 (dd_at ddL_order 5 rfl) rfl (lv_at hl 3 rfl) ?_
  refine r_tcallI hw (r_xrunV (As := [.int p1, .int p2, .int p3]) (rest := [.int 0, .ref a4]) S hw (m_X10_order l hst D cs E d H.size a0 p1 p2 p3 _ _) (cwV 3 S.2.2.2.2 (gV wg1069 wg1070 wg1071 wg2 wg1072) rfl rfl rfl (by decide +kernel) ⟨Nat.le_of_ble_eq_true rfl, Nat.le_of_ble_eq_true rfl⟩) (ci := 10) rfl ha0 h rfl hl.1 rfl (Nat.le_of_ble_eq_true rfl) (dd_at ddL_order 6 rfl) ⟨Nat.le_of_ble_eq_true rfl, Nat.le_of_ble_eq_true rfl⟩) (fun Ex ce q_4 d_3 H locs h hw hce hcv hcl => ?_) (fun r_2 d_1 H locs h hw => ?_)
  · obtain ⟨rfl, h⟩ := h
    refine vx_catch (name := "java/lang/IndexOutOfBoundsException") S.2.2.2.1 [] (⟨0, 12, 15, 28⟩ : ExceptionTableEntry) [] (by rw [hTb]; rfl) (fun z hz => absurd hz List.not_mem_nil) rfl (by decide) (S.2.2.2.2 _ (List.mem_cons_of_mem _ wg569)) (r_cast hw xc_ix) hce hcv hcl ?_
    refine lv_astore (lv' := [(5, .ref q_4), (0, .ref a0), (1, .int p1), (2, .int p2), (3, .int p3), (4, .ref a4)]) S.1 S.2.1 (dd_at ddL_order 10 rfl) hl (by decide) rfl (fun ls hl => ?_)
    refine lv_iconst (v := 1) S.1 S.2.1 (dd_at ddL_order 11 rfl) (by decide) ?_
    exact e_I S hr hlocks hw h (dd_at ddL_order 12 rfl)
  · refine lv_i2l S.1 S.2.1 (dd_at ddL_order 7 rfl) rfl ?_
    obtain ⟨hx_5, h⟩ := h
    refine r_last S hw ha4 hx_5 (dd_at ddL_order 8 rfl) (fun H locs hw => ?_)
    refine lv_goto (tgt := 19) S.1 S.2.1 (dd_at ddL_order 9 rfl) (by decide) ?_
    refine lv_iconst (v := 0) S.1 S.2.1 (dd_at ddL_order 13 rfl) (by decide) ?_
    exact e_I S hr hlocks hw h (dd_at ddL_order 14 rfl)

def w_L_freed (E : En) (a0 : Nat) (p1 : Int32) (a2 : Nat) (d : Dy) (K : Int32 → Dy → Prop) : Prop := okO E a0 10 ∧ okA E a2 14 ∧ w_X10_freed E a0 p1 d (fun r_2 d_1 => vp_in 0 (eN E a2) ∧ K 0 (pJ d_1 a2 ((0 : Int32)).toNatClampNeg r_2.toInt64)) (fun Ex d_3 => (Ex = "java/lang/IllegalArgumentException" ∧ K 1 d_3) ∨ (Ex = "java/lang/UnsupportedOperationException" ∧ K 2 d_3))
abbrev rm_L_freed : Room := { frames := 9, cells := 2, slots := 12, locals := 163 }
set_option maxRecDepth 100000 in
set_option maxHeartbeats 4000000 in
theorem m_L_freed (l : Launch) (hst : l.stackTraces = false) (D : va_G) (cs : Nat → ClassId) (E : En) (d : Dy) (sz : Nat) (a0 : Nat) (p1 : Int32) (a2 : Nat) (K : Int32 → Dy → Prop) : CI l yL_freed (.codeWith yL_freed cL_freed 4 (some .int) [(0, 9, 12, 13), (0, 9, 15, 22)] :: wsL_law) rm_L_freed D cs E d sz [.ref a0, .int p1, .ref a2] (w_L_freed E a0 p1 a2 d K) K := by
  refine e_ofW (cc := cL_freed) (maxL := 4) (ret := (some .int)) (own := RL) (by decide) rfl rfl (Nat.le_of_ble_eq_true rfl) ?_
  intro p e s m below meth c S hr hlocks hsz hTb H locs hw h ls hl
  have hl : lv_has ls 4 [(0, .ref a0), (1, .int p1), (2, .ref a2)] := hl
  unfold w_L_freed at h
  obtain ⟨ha0, h⟩ := h
  obtain ⟨ha2, h⟩ := h
  refine lv_aload_n S.1 S.2.1 (dd_at ddL_freed 0 rfl) rfl (lv_at hl 2 rfl) ?_
  refine lv_iconst (v := 0) S.1 S.2.1 (dd_at ddL_freed 1 rfl) (by decide) ?_
  refine lv_aload_n S.1 S.2.1 (dd_at ddL_freed 2 rfl) rfl (lv_at hl 0 rfl) ?_
  refine lv_iload_n S.1 S.2.1 (dd_at ddL_freed 3 rfl) rfl (lv_at hl 1 rfl) ?_
  refine r_tcallI hw (r_xrunV (As := [.int p1]) (rest := [.int 0, .ref a2]) S hw (m_X10_freed l hst D cs E d H.size a0 p1 _ _) (cwV 1 S.2.2.2.2 (gV wg1084 wg1085 wg1086 wg2 wg1087) rfl rfl rfl (by decide +kernel) ⟨Nat.le_of_ble_eq_true rfl, Nat.le_of_ble_eq_true rfl⟩) (ci := 10) rfl ha0 h rfl hl.1 rfl (Nat.le_of_ble_eq_true rfl) (dd_at ddL_freed 4 rfl) ⟨Nat.le_of_ble_eq_true rfl, Nat.le_of_ble_eq_true rfl⟩) (fun Ex ce q_4 d_3 H locs h hw hce hcv hcl => ?_) (fun r_2 d_1 H locs h hw => ?_)
  · rcases h with ⟨rfl, h⟩ | ⟨rfl, h⟩
    · refine vx_catch (name := "java/lang/IllegalArgumentException") S.2.2.2.1 [] (⟨0, 9, 12, 13⟩ : ExceptionTableEntry) [(⟨0, 9, 15, 22⟩ : ExceptionTableEntry)] (by rw [hTb]; rfl) (fun z hz => absurd hz List.not_mem_nil) rfl (by decide) (S.2.2.2.2 _ (List.mem_cons_of_mem _ wg223)) (r_cast hw xc_ia) hce hcv hcl ?_
      refine lv_astore_n (lv' := [(3, .ref q_4), (0, .ref a0), (1, .int p1), (2, .ref a2)]) S.1 S.2.1 (dd_at ddL_freed 8 rfl) rfl hl (by decide) rfl (fun ls hl => ?_)
      refine lv_iconst (v := 1) S.1 S.2.1 (dd_at ddL_freed 9 rfl) (by decide) ?_
      exact e_I S hr hlocks hw h (dd_at ddL_freed 10 rfl)
    · refine vx_catch (name := "java/lang/UnsupportedOperationException") S.2.2.2.1 [(⟨0, 9, 12, 13⟩ : ExceptionTableEntry)] (⟨0, 9, 15, 22⟩ : ExceptionTableEntry) [] (by rw [hTb]; rfl) (fun z hz => by cases List.mem_singleton.mp hz; exact Or.inr ⟨by decide, "java/lang/IllegalArgumentException", (S.2.2.2.2 _ (List.mem_cons_of_mem _ wg223)), r_nc hw (by decide) (by decide) (by decide)⟩) rfl (by decide) (S.2.2.2.2 _ (List.mem_cons_of_mem _ wg535)) (r_cast hw xc_un) hce hcv hcl ?_
      refine lv_astore_n (lv' := [(3, .ref q_4), (0, .ref a0), (1, .int p1), (2, .ref a2)]) S.1 S.2.1 (dd_at ddL_freed 11 rfl) rfl hl (by decide) rfl (fun ls hl => ?_)
      refine lv_iconst (v := 2) S.1 S.2.1 (dd_at ddL_freed 12 rfl) (by decide) ?_
      exact e_I S hr hlocks hw h (dd_at ddL_freed 13 rfl)
  · refine lv_i2l S.1 S.2.1 (dd_at ddL_freed 5 rfl) rfl ?_
    obtain ⟨hx_5, h⟩ := h
    refine r_last S hw ha2 hx_5 (dd_at ddL_freed 6 rfl) (fun H locs hw => ?_)
    refine lv_goto (tgt := 18) S.1 S.2.1 (dd_at ddL_freed 7 rfl) (by decide) ?_
    refine lv_iconst (v := 0) S.1 S.2.1 (dd_at ddL_freed 14 rfl) (by decide) ?_
    exact e_I S hr hlocks hw h (dd_at ddL_freed 15 rfl)

def w_L_howLong (E : En) (a0 : Nat) (p1 : Int32) (p2 : Int32) (a3 : Nat) (d : Dy) (K : Int32 → Dy → Prop) : Prop := okO E a0 10 ∧ okA E a3 14 ∧ w_X10_howLong E a0 p1 p2 d (fun r_2 d_1 => vp_in 0 (eN E a3) ∧ K 0 (pJ d_1 a3 ((0 : Int32)).toNatClampNeg r_2.toInt64)) (fun Ex d_3 => (Ex = "java/lang/IllegalArgumentException" ∧ K 1 d_3))
abbrev rm_L_howLong : Room := { frames := 9, cells := 1, slots := 6, locals := 167 }
set_option maxRecDepth 100000 in
set_option maxHeartbeats 4000000 in
theorem m_L_howLong (l : Launch) (hst : l.stackTraces = false) (D : va_G) (cs : Nat → ClassId) (E : En) (d : Dy) (sz : Nat) (a0 : Nat) (p1 : Int32) (p2 : Int32) (a3 : Nat) (K : Int32 → Dy → Prop) : CI l yL_howLong (.codeWith yL_howLong cL_howLong 5 (some .int) [(0, 10, 13, 13)] :: wsL_law) rm_L_howLong D cs E d sz [.ref a0, .int p1, .int p2, .ref a3] (w_L_howLong E a0 p1 p2 a3 d K) K := by
  refine e_ofW (cc := cL_howLong) (maxL := 5) (ret := (some .int)) (own := RL) (by decide) rfl rfl (Nat.le_of_ble_eq_true rfl) ?_
  intro p e s m below meth c S hr hlocks hsz hTb H locs hw h ls hl
  have hl : lv_has ls 5 [(0, .ref a0), (1, .int p1), (2, .int p2), (3, .ref a3)] := hl
  unfold w_L_howLong at h
  obtain ⟨ha0, h⟩ := h
  obtain ⟨ha3, h⟩ := h
  refine lv_aload_n S.1 S.2.1 (dd_at ddL_howLong 0 rfl) rfl (lv_at hl 3 rfl) ?_
  refine lv_iconst (v := 0) S.1 S.2.1 (dd_at ddL_howLong 1 rfl) (by decide) ?_
  refine lv_aload_n S.1 S.2.1 (dd_at ddL_howLong 2 rfl) rfl (lv_at hl 0 rfl) ?_
  refine lv_iload_n S.1 S.2.1 (dd_at ddL_howLong 3 rfl) rfl (lv_at hl 1 rfl) ?_
  refine lv_iload_n S.1 S.2.1 (dd_at ddL_howLong 4 rfl) rfl (lv_at hl 2 rfl) ?_
  refine r_tcallI hw (r_xrunV (As := [.int p1, .int p2]) (rest := [.int 0, .ref a3]) S hw (m_X10_howLong l hst D cs E d H.size a0 p1 p2 _ _) (cwV 2 S.2.2.2.2 (gV wg1095 wg1096 wg1097 wg2 wg1098) rfl rfl rfl (by decide +kernel) ⟨Nat.le_of_ble_eq_true rfl, Nat.le_of_ble_eq_true rfl⟩) (ci := 10) rfl ha0 h rfl hl.1 rfl (Nat.le_of_ble_eq_true rfl) (dd_at ddL_howLong 5 rfl) ⟨Nat.le_of_ble_eq_true rfl, Nat.le_of_ble_eq_true rfl⟩) (fun Ex ce q_4 d_3 H locs h hw hce hcv hcl => ?_) (fun r_2 d_1 H locs h hw => ?_)
  · obtain ⟨rfl, h⟩ := h
    refine vx_catch (name := "java/lang/IllegalArgumentException") S.2.2.2.1 [] (⟨0, 10, 13, 13⟩ : ExceptionTableEntry) [] (by rw [hTb]; rfl) (fun z hz => absurd hz List.not_mem_nil) rfl (by decide) (S.2.2.2.2 _ (List.mem_cons_of_mem _ wg223)) (r_cast hw xc_ia) hce hcv hcl ?_
    refine lv_astore (lv' := [(4, .ref q_4), (0, .ref a0), (1, .int p1), (2, .int p2), (3, .ref a3)]) S.1 S.2.1 (dd_at ddL_howLong 9 rfl) hl (by decide) rfl (fun ls hl => ?_)
    refine lv_iconst (v := 1) S.1 S.2.1 (dd_at ddL_howLong 10 rfl) (by decide) ?_
    exact e_I S hr hlocks hw h (dd_at ddL_howLong 11 rfl)
  · refine lv_i2l S.1 S.2.1 (dd_at ddL_howLong 6 rfl) rfl ?_
    obtain ⟨hx_5, h⟩ := h
    refine r_last S hw ha3 hx_5 (dd_at ddL_howLong 7 rfl) (fun H locs hw => ?_)
    refine lv_goto (tgt := 17) S.1 S.2.1 (dd_at ddL_howLong 8 rfl) (by decide) ?_
    refine lv_iconst (v := 0) S.1 S.2.1 (dd_at ddL_howLong 12 rfl) (by decide) ?_
    exact e_I S hr hlocks hw h (dd_at ddL_howLong 13 rfl)

def w_L_toll (E : En) (a0 : Nat) (p1 : Int32) (p2 : Int32) (a3 : Nat) (d : Dy) (K : Int32 → Dy → Prop) : Prop := okO E a0 10 ∧ okA E a3 14 ∧ w_X10_toll E a0 p1 p2 d (fun r_2 d_1 => vp_in 0 (eN E a3) ∧ K 0 (pJ d_1 a3 ((0 : Int32)).toNatClampNeg r_2.toInt64)) (fun Ex d_3 => (Ex = "java/lang/IndexOutOfBoundsException" ∧ K 1 d_3) ∨ (Ex = "java/lang/IllegalArgumentException" ∧ K 2 d_3))
abbrev rm_L_toll : Room := { frames := 9, cells := 2, slots := 12, locals := 167 }
set_option maxRecDepth 100000 in
set_option maxHeartbeats 4000000 in
theorem m_L_toll (l : Launch) (hst : l.stackTraces = false) (D : va_G) (cs : Nat → ClassId) (E : En) (d : Dy) (sz : Nat) (a0 : Nat) (p1 : Int32) (p2 : Int32) (a3 : Nat) (K : Int32 → Dy → Prop) : CI l yL_toll (.codeWith yL_toll cL_toll 5 (some .int) [(0, 10, 13, 28), (0, 10, 17, 13)] :: wsL_law) rm_L_toll D cs E d sz [.ref a0, .int p1, .int p2, .ref a3] (w_L_toll E a0 p1 p2 a3 d K) K := by
  refine e_ofW (cc := cL_toll) (maxL := 5) (ret := (some .int)) (own := RL) (by decide) rfl rfl (Nat.le_of_ble_eq_true rfl) ?_
  intro p e s m below meth c S hr hlocks hsz hTb H locs hw h ls hl
  have hl : lv_has ls 5 [(0, .ref a0), (1, .int p1), (2, .int p2), (3, .ref a3)] := hl
  unfold w_L_toll at h
  obtain ⟨ha0, h⟩ := h
  obtain ⟨ha3, h⟩ := h
  refine lv_aload_n S.1 S.2.1 (dd_at ddL_toll 0 rfl) rfl (lv_at hl 3 rfl) ?_
  refine lv_iconst (v := 0) S.1 S.2.1 (dd_at ddL_toll 1 rfl) (by decide) ?_
  refine lv_aload_n S.1 S.2.1 (dd_at ddL_toll 2 rfl) rfl (lv_at hl 0 rfl) ?_
  refine lv_iload_n S.1 S.2.1 (dd_at ddL_toll 3 rfl) rfl (lv_at hl 1 rfl) ?_
  refine lv_iload_n S.1 S.2.1 (dd_at ddL_toll 4 rfl) rfl (lv_at hl 2 rfl) ?_
  refine r_tcallI hw (r_xrunV (As := [.int p1, .int p2]) (rest := [.int 0, .ref a3]) S hw (m_X10_toll l hst D cs E d H.size a0 p1 p2 _ _) (cwV 2 S.2.2.2.2 (gV wg1109 wg1110 wg1111 wg2 wg1112) rfl rfl rfl (by decide +kernel) ⟨Nat.le_of_ble_eq_true rfl, Nat.le_of_ble_eq_true rfl⟩) (ci := 10) rfl ha0 h rfl hl.1 rfl (Nat.le_of_ble_eq_true rfl) (dd_at ddL_toll 5 rfl) ⟨Nat.le_of_ble_eq_true rfl, Nat.le_of_ble_eq_true rfl⟩) (fun Ex ce q_4 d_3 H locs h hw hce hcv hcl => ?_) (fun r_2 d_1 H locs h hw => ?_)
  · rcases h with ⟨rfl, h⟩ | ⟨rfl, h⟩
    · refine vx_catch (name := "java/lang/IndexOutOfBoundsException") S.2.2.2.1 [] (⟨0, 10, 13, 28⟩ : ExceptionTableEntry) [(⟨0, 10, 17, 13⟩ : ExceptionTableEntry)] (by rw [hTb]; rfl) (fun z hz => absurd hz List.not_mem_nil) rfl (by decide) (S.2.2.2.2 _ (List.mem_cons_of_mem _ wg569)) (r_cast hw xc_ix) hce hcv hcl ?_
      refine lv_astore (lv' := [(4, .ref q_4), (0, .ref a0), (1, .int p1), (2, .int p2), (3, .ref a3)]) S.1 S.2.1 (dd_at ddL_toll 9 rfl) hl (by decide) rfl (fun ls hl => ?_)
      refine lv_iconst (v := 1) S.1 S.2.1 (dd_at ddL_toll 10 rfl) (by decide) ?_
      exact e_I S hr hlocks hw h (dd_at ddL_toll 11 rfl)
    · refine vx_catch (name := "java/lang/IllegalArgumentException") S.2.2.2.1 [(⟨0, 10, 13, 28⟩ : ExceptionTableEntry)] (⟨0, 10, 17, 13⟩ : ExceptionTableEntry) [] (by rw [hTb]; rfl) (fun z hz => by cases List.mem_singleton.mp hz; exact Or.inr ⟨by decide, "java/lang/IndexOutOfBoundsException", (S.2.2.2.2 _ (List.mem_cons_of_mem _ wg569)), r_nc hw (by decide) (by decide) (by decide)⟩) rfl (by decide) (S.2.2.2.2 _ (List.mem_cons_of_mem _ wg223)) (r_cast hw xc_ia) hce hcv hcl ?_
      refine lv_astore (lv' := [(4, .ref q_4), (0, .ref a0), (1, .int p1), (2, .int p2), (3, .ref a3)]) S.1 S.2.1 (dd_at ddL_toll 12 rfl) hl (by decide) rfl (fun ls hl => ?_)
      refine lv_iconst (v := 2) S.1 S.2.1 (dd_at ddL_toll 13 rfl) (by decide) ?_
      exact e_I S hr hlocks hw h (dd_at ddL_toll 14 rfl)
  · refine lv_i2l S.1 S.2.1 (dd_at ddL_toll 6 rfl) rfl ?_
    obtain ⟨hx_5, h⟩ := h
    refine r_last S hw ha3 hx_5 (dd_at ddL_toll 7 rfl) (fun H locs hw => ?_)
    refine lv_goto (tgt := 21) S.1 S.2.1 (dd_at ddL_toll 8 rfl) (by decide) ?_
    refine lv_iconst (v := 0) S.1 S.2.1 (dd_at ddL_toll 15 rfl) (by decide) ?_
    exact e_I S hr hlocks hw h (dd_at ddL_toll 16 rfl)

def w_L_dodged (E : En) (a0 : Nat) (p1 : Int32) (a2 : Nat) (d : Dy) (K : Int32 → Dy → Prop) : Prop := okO E a0 10 ∧ okA E a2 14 ∧ w_X10_dodged E a0 p1 d (fun r_2 d_1 => vp_in 0 (eN E a2) ∧ K 0 (pJ d_1 a2 ((0 : Int32)).toNatClampNeg r_2.toInt64)) (fun Ex d_3 => (Ex = "java/lang/IllegalArgumentException" ∧ K 1 d_3))
abbrev rm_L_dodged : Room := { frames := 9, cells := 1, slots := 6, locals := 188 }
set_option maxRecDepth 100000 in
set_option maxHeartbeats 4000000 in
theorem m_L_dodged (l : Launch) (hst : l.stackTraces = false) (D : va_G) (cs : Nat → ClassId) (E : En) (d : Dy) (sz : Nat) (a0 : Nat) (p1 : Int32) (a2 : Nat) (K : Int32 → Dy → Prop) : CI l yL_dodged (.codeWith yL_dodged cL_dodged 4 (some .int) [(0, 9, 12, 13)] :: wsL_law) rm_L_dodged D cs E d sz [.ref a0, .int p1, .ref a2] (w_L_dodged E a0 p1 a2 d K) K := by
  refine e_ofW (cc := cL_dodged) (maxL := 4) (ret := (some .int)) (own := RL) (by decide) rfl rfl (Nat.le_of_ble_eq_true rfl) ?_
  intro p e s m below meth c S hr hlocks hsz hTb H locs hw h ls hl
  have hl : lv_has ls 4 [(0, .ref a0), (1, .int p1), (2, .ref a2)] := hl
  unfold w_L_dodged at h
  obtain ⟨ha0, h⟩ := h
  obtain ⟨ha2, h⟩ := h
  refine lv_aload_n S.1 S.2.1 (dd_at ddL_dodged 0 rfl) rfl (lv_at hl 2 rfl) ?_
  refine lv_iconst (v := 0) S.1 S.2.1 (dd_at ddL_dodged 1 rfl) (by decide) ?_
  refine lv_aload_n S.1 S.2.1 (dd_at ddL_dodged 2 rfl) rfl (lv_at hl 0 rfl) ?_
  refine lv_iload_n S.1 S.2.1 (dd_at ddL_dodged 3 rfl) rfl (lv_at hl 1 rfl) ?_
  refine r_tcallI hw (r_xrunV (As := [.int p1]) (rest := [.int 0, .ref a2]) S hw (m_X10_dodged l hst D cs E d H.size a0 p1 _ _) (cwV 1 S.2.2.2.2 (gV wg1122 wg1123 wg1124 wg2 wg1125) rfl rfl rfl (by decide +kernel) ⟨Nat.le_of_ble_eq_true rfl, Nat.le_of_ble_eq_true rfl⟩) (ci := 10) rfl ha0 h rfl hl.1 rfl (Nat.le_of_ble_eq_true rfl) (dd_at ddL_dodged 4 rfl) ⟨Nat.le_of_ble_eq_true rfl, Nat.le_of_ble_eq_true rfl⟩) (fun Ex ce q_4 d_3 H locs h hw hce hcv hcl => ?_) (fun r_2 d_1 H locs h hw => ?_)
  · obtain ⟨rfl, h⟩ := h
    refine vx_catch (name := "java/lang/IllegalArgumentException") S.2.2.2.1 [] (⟨0, 9, 12, 13⟩ : ExceptionTableEntry) [] (by rw [hTb]; rfl) (fun z hz => absurd hz List.not_mem_nil) rfl (by decide) (S.2.2.2.2 _ (List.mem_cons_of_mem _ wg223)) (r_cast hw xc_ia) hce hcv hcl ?_
    refine lv_astore_n (lv' := [(3, .ref q_4), (0, .ref a0), (1, .int p1), (2, .ref a2)]) S.1 S.2.1 (dd_at ddL_dodged 8 rfl) rfl hl (by decide) rfl (fun ls hl => ?_)
    refine lv_iconst (v := 1) S.1 S.2.1 (dd_at ddL_dodged 9 rfl) (by decide) ?_
    exact e_I S hr hlocks hw h (dd_at ddL_dodged 10 rfl)
  · refine lv_i2l S.1 S.2.1 (dd_at ddL_dodged 5 rfl) rfl ?_
    obtain ⟨hx_5, h⟩ := h
    refine r_last S hw ha2 hx_5 (dd_at ddL_dodged 6 rfl) (fun H locs hw => ?_)
    refine lv_goto (tgt := 15) S.1 S.2.1 (dd_at ddL_dodged 7 rfl) (by decide) ?_
    refine lv_iconst (v := 0) S.1 S.2.1 (dd_at ddL_dodged 11 rfl) (by decide) ?_
    exact e_I S hr hlocks hw h (dd_at ddL_dodged 12 rfl)

def w_L_lift (E : En) (a0 : Nat) (p1 : Int32) (p2 : Int32) (p3 : Int32) (p4 : Int32) (a5 : Nat) (d : Dy) (K : Int32 → Dy → Prop) : Prop := okO E a0 10 ∧ okA E a5 14 ∧ w_X10_lift E a0 p1 p2 p3 p4 d (fun r_2 d_1 => vp_in 0 (eN E a5) ∧ K 0 (pJ d_1 a5 ((0 : Int32)).toNatClampNeg r_2.toInt64)) (fun Ex d_3 => (Ex = "java/lang/IndexOutOfBoundsException" ∧ K 1 d_3) ∨ (Ex = "java/lang/IllegalArgumentException" ∧ K 2 d_3))
abbrev rm_L_lift : Room := { frames := 65, cells := 4, slots := 24, locals := 1825 }
set_option maxRecDepth 100000 in
set_option maxHeartbeats 4000000 in
theorem m_L_lift (l : Launch) (hst : l.stackTraces = false) (D : va_G) (cs : Nat → ClassId) (E : En) (d : Dy) (sz : Nat) (a0 : Nat) (p1 : Int32) (p2 : Int32) (p3 : Int32) (p4 : Int32) (a5 : Nat) (K : Int32 → Dy → Prop) : CI l yL_lift (.codeWith yL_lift cL_lift 7 (some .int) [(0, 14, 17, 28), (0, 14, 21, 13)] :: wsL_law) rm_L_lift D cs E d sz [.ref a0, .int p1, .int p2, .int p3, .int p4, .ref a5] (w_L_lift E a0 p1 p2 p3 p4 a5 d K) K := by
  refine e_ofW (cc := cL_lift) (maxL := 7) (ret := (some .int)) (own := RL) (by decide) rfl rfl (Nat.le_of_ble_eq_true rfl) ?_
  intro p e s m below meth c S hr hlocks hsz hTb H locs hw h ls hl
  have hl : lv_has ls 7 [(0, .ref a0), (1, .int p1), (2, .int p2), (3, .int p3), (4, .int p4), (5, .ref a5)] := hl
  unfold w_L_lift at h
  obtain ⟨ha0, h⟩ := h
  obtain ⟨ha5, h⟩ := h
  refine lv_aload S.1 S.2.1 (dd_at ddL_lift 0 rfl) (lv_at hl 5 rfl) ?_
  refine lv_iconst (v := 0) S.1 S.2.1 (dd_at ddL_lift 1 rfl) (by decide) ?_
  refine lv_aload_n S.1 S.2.1 (dd_at ddL_lift 2 rfl) rfl (lv_at hl 0 rfl) ?_
  refine lv_iload_n S.1 S.2.1 (dd_at ddL_lift 3 rfl) rfl (lv_at hl 1 rfl) ?_
  refine lv_iload_n S.1 S.2.1 (dd_at ddL_lift 4 rfl) rfl (lv_at hl 2 rfl) ?_
  refine lv_iload_n S.1 S.2.1 (dd_at ddL_lift 5 rfl) rfl (lv_at hl 3 rfl) ?_
  refine lv_iload S.1 S.2.1 (dd_at ddL_lift 6 rfl) (lv_at hl 4 rfl) ?_
  refine r_tcallI hw (r_xrunV (As := [.int p1, .int p2, .int p3, .int p4]) (rest := [.int 0, .ref a5]) S hw (m_X10_lift l hst D cs E d H.size a0 p1 p2 p3 p4 _ _) (cwV 4 S.2.2.2.2 (gV wg1141 wg1142 wg1143 wg2 wg1144) rfl rfl rfl (by decide +kernel) ⟨Nat.le_of_ble_eq_true rfl, Nat.le_of_ble_eq_true rfl⟩) (ci := 10) rfl ha0 h rfl hl.1 rfl (Nat.le_of_ble_eq_true rfl) (dd_at ddL_lift 7 rfl) ⟨Nat.le_of_ble_eq_true rfl, Nat.le_of_ble_eq_true rfl⟩) (fun Ex ce q_4 d_3 H locs h hw hce hcv hcl => ?_) (fun r_2 d_1 H locs h hw => ?_)
  · rcases h with ⟨rfl, h⟩ | ⟨rfl, h⟩
    · refine vx_catch (name := "java/lang/IndexOutOfBoundsException") S.2.2.2.1 [] (⟨0, 14, 17, 28⟩ : ExceptionTableEntry) [(⟨0, 14, 21, 13⟩ : ExceptionTableEntry)] (by rw [hTb]; rfl) (fun z hz => absurd hz List.not_mem_nil) rfl (by decide) (S.2.2.2.2 _ (List.mem_cons_of_mem _ wg569)) (r_cast hw xc_ix) hce hcv hcl ?_
      refine lv_astore (lv' := [(6, .ref q_4), (0, .ref a0), (1, .int p1), (2, .int p2), (3, .int p3), (4, .int p4), (5, .ref a5)]) S.1 S.2.1 (dd_at ddL_lift 11 rfl) hl (by decide) rfl (fun ls hl => ?_)
      refine lv_iconst (v := 1) S.1 S.2.1 (dd_at ddL_lift 12 rfl) (by decide) ?_
      exact e_I S hr hlocks hw h (dd_at ddL_lift 13 rfl)
    · refine vx_catch (name := "java/lang/IllegalArgumentException") S.2.2.2.1 [(⟨0, 14, 17, 28⟩ : ExceptionTableEntry)] (⟨0, 14, 21, 13⟩ : ExceptionTableEntry) [] (by rw [hTb]; rfl) (fun z hz => by cases List.mem_singleton.mp hz; exact Or.inr ⟨by decide, "java/lang/IndexOutOfBoundsException", (S.2.2.2.2 _ (List.mem_cons_of_mem _ wg569)), r_nc hw (by decide) (by decide) (by decide)⟩) rfl (by decide) (S.2.2.2.2 _ (List.mem_cons_of_mem _ wg223)) (r_cast hw xc_ia) hce hcv hcl ?_
      refine lv_astore (lv' := [(6, .ref q_4), (0, .ref a0), (1, .int p1), (2, .int p2), (3, .int p3), (4, .int p4), (5, .ref a5)]) S.1 S.2.1 (dd_at ddL_lift 14 rfl) hl (by decide) rfl (fun ls hl => ?_)
      refine lv_iconst (v := 2) S.1 S.2.1 (dd_at ddL_lift 15 rfl) (by decide) ?_
      exact e_I S hr hlocks hw h (dd_at ddL_lift 16 rfl)
  · refine lv_i2l S.1 S.2.1 (dd_at ddL_lift 8 rfl) rfl ?_
    obtain ⟨hx_5, h⟩ := h
    refine r_last S hw ha5 hx_5 (dd_at ddL_lift 9 rfl) (fun H locs hw => ?_)
    refine lv_goto (tgt := 25) S.1 S.2.1 (dd_at ddL_lift 10 rfl) (by decide) ?_
    refine lv_iconst (v := 0) S.1 S.2.1 (dd_at ddL_lift 17 rfl) (by decide) ?_
    exact e_I S hr hlocks hw h (dd_at ddL_lift 18 rfl)

def w_L_wind (E : En) (a0 : Nat) (p1 : Int32) (p2 : Int32) (d : Dy) (K : Int32 → Dy → Prop) : Prop := okO E a0 10 ∧ w_X10_wind E a0 p1 p2 d (fun d_1 => K 0 d_1) (fun Ex d_3 => (Ex = "java/lang/IndexOutOfBoundsException" ∧ K 1 d_3) ∨ (Ex = "java/lang/IllegalArgumentException" ∧ K 2 d_3))
abbrev rm_L_wind : Room := { frames := 9, cells := 2, slots := 12, locals := 164 }
set_option maxRecDepth 100000 in
set_option maxHeartbeats 4000000 in
theorem m_L_wind (l : Launch) (hst : l.stackTraces = false) (D : va_G) (cs : Nat → ClassId) (E : En) (d : Dy) (sz : Nat) (a0 : Nat) (p1 : Int32) (p2 : Int32) (K : Int32 → Dy → Prop) : CI l yL_wind (.codeWith yL_wind cL_wind 4 (some .int) [(0, 6, 9, 28), (0, 6, 12, 13)] :: wsL_law) rm_L_wind D cs E d sz [.ref a0, .int p1, .int p2] (w_L_wind E a0 p1 p2 d K) K := by
  refine e_ofW (cc := cL_wind) (maxL := 4) (ret := (some .int)) (own := RL) (by decide) rfl rfl (Nat.le_of_ble_eq_true rfl) ?_
  intro p e s m below meth c S hr hlocks hsz hTb H locs hw h ls hl
  have hl : lv_has ls 4 [(0, .ref a0), (1, .int p1), (2, .int p2)] := hl
  unfold w_L_wind at h
  obtain ⟨ha0, h⟩ := h
  refine lv_aload_n S.1 S.2.1 (dd_at ddL_wind 0 rfl) rfl (lv_at hl 0 rfl) ?_
  refine lv_iload_n S.1 S.2.1 (dd_at ddL_wind 1 rfl) rfl (lv_at hl 1 rfl) ?_
  refine lv_iload_n S.1 S.2.1 (dd_at ddL_wind 2 rfl) rfl (lv_at hl 2 rfl) ?_
  refine r_tcallV hw (r_xrunV (As := [.int p1, .int p2]) (rest := []) S hw (m_X10_wind l hst D cs E d H.size a0 p1 p2 _ _) (cwV 2 S.2.2.2.2 (gV wg1207 wg1208 wg1209 wg2 wg1210) rfl rfl rfl (by decide +kernel) ⟨Nat.le_of_ble_eq_true rfl, Nat.le_of_ble_eq_true rfl⟩) (ci := 10) rfl ha0 h rfl hl.1 rfl (Nat.le_of_ble_eq_true rfl) (dd_at ddL_wind 3 rfl) ⟨Nat.le_of_ble_eq_true rfl, Nat.le_of_ble_eq_true rfl⟩) (fun Ex ce q_4 d_3 H locs h hw hce hcv hcl => ?_) (fun d_1 H locs h hw => ?_)
  · rcases h with ⟨rfl, h⟩ | ⟨rfl, h⟩
    · refine vx_catch (name := "java/lang/IndexOutOfBoundsException") S.2.2.2.1 [] (⟨0, 6, 9, 28⟩ : ExceptionTableEntry) [(⟨0, 6, 12, 13⟩ : ExceptionTableEntry)] (by rw [hTb]; rfl) (fun z hz => absurd hz List.not_mem_nil) rfl (by decide) (S.2.2.2.2 _ (List.mem_cons_of_mem _ wg569)) (r_cast hw xc_ix) hce hcv hcl ?_
      refine lv_astore_n (lv' := [(3, .ref q_4), (0, .ref a0), (1, .int p1), (2, .int p2)]) S.1 S.2.1 (dd_at ddL_wind 5 rfl) rfl hl (by decide) rfl (fun ls hl => ?_)
      refine lv_iconst (v := 1) S.1 S.2.1 (dd_at ddL_wind 6 rfl) (by decide) ?_
      exact e_I S hr hlocks hw h (dd_at ddL_wind 7 rfl)
    · refine vx_catch (name := "java/lang/IllegalArgumentException") S.2.2.2.1 [(⟨0, 6, 9, 28⟩ : ExceptionTableEntry)] (⟨0, 6, 12, 13⟩ : ExceptionTableEntry) [] (by rw [hTb]; rfl) (fun z hz => by cases List.mem_singleton.mp hz; exact Or.inr ⟨by decide, "java/lang/IndexOutOfBoundsException", (S.2.2.2.2 _ (List.mem_cons_of_mem _ wg569)), r_nc hw (by decide) (by decide) (by decide)⟩) rfl (by decide) (S.2.2.2.2 _ (List.mem_cons_of_mem _ wg223)) (r_cast hw xc_ia) hce hcv hcl ?_
      refine lv_astore_n (lv' := [(3, .ref q_4), (0, .ref a0), (1, .int p1), (2, .int p2)]) S.1 S.2.1 (dd_at ddL_wind 8 rfl) rfl hl (by decide) rfl (fun ls hl => ?_)
      refine lv_iconst (v := 2) S.1 S.2.1 (dd_at ddL_wind 9 rfl) (by decide) ?_
      exact e_I S hr hlocks hw h (dd_at ddL_wind 10 rfl)
  · refine lv_goto (tgt := 15) S.1 S.2.1 (dd_at ddL_wind 4 rfl) (by decide) ?_
    refine lv_iconst (v := 0) S.1 S.2.1 (dd_at ddL_wind 11 rfl) (by decide) ?_
    exact e_I S hr hlocks hw h (dd_at ddL_wind 12 rfl)

def w_L_crane (E : En) (a0 : Nat) (p1 : Int32) (p2 : Int32) (p3 : Int32) (p4 : Int32) (a5 : Nat) (d : Dy) (K : Int32 → Dy → Prop) : Prop := okO E a0 10 ∧ okA E a5 14 ∧ w_X10_crane E a0 p1 p2 p3 p4 d (fun r_2 d_1 => vp_in 0 (eN E a5) ∧ K 0 (pJ d_1 a5 ((0 : Int32)).toNatClampNeg r_2.toInt64)) (fun Ex d_3 => (Ex = "java/lang/IndexOutOfBoundsException" ∧ K 1 d_3) ∨ (Ex = "java/lang/IllegalArgumentException" ∧ K 2 d_3))
abbrev rm_L_crane : Room := { frames := 9, cells := 2, slots := 12, locals := 171 }
set_option maxRecDepth 100000 in
set_option maxHeartbeats 4000000 in
theorem m_L_crane (l : Launch) (hst : l.stackTraces = false) (D : va_G) (cs : Nat → ClassId) (E : En) (d : Dy) (sz : Nat) (a0 : Nat) (p1 : Int32) (p2 : Int32) (p3 : Int32) (p4 : Int32) (a5 : Nat) (K : Int32 → Dy → Prop) : CI l yL_crane (.codeWith yL_crane cL_crane 7 (some .int) [(0, 14, 17, 28), (0, 14, 21, 13)] :: wsL_law) rm_L_crane D cs E d sz [.ref a0, .int p1, .int p2, .int p3, .int p4, .ref a5] (w_L_crane E a0 p1 p2 p3 p4 a5 d K) K := by
  refine e_ofW (cc := cL_crane) (maxL := 7) (ret := (some .int)) (own := RL) (by decide) rfl rfl (Nat.le_of_ble_eq_true rfl) ?_
  intro p e s m below meth c S hr hlocks hsz hTb H locs hw h ls hl
  have hl : lv_has ls 7 [(0, .ref a0), (1, .int p1), (2, .int p2), (3, .int p3), (4, .int p4), (5, .ref a5)] := hl
  unfold w_L_crane at h
  obtain ⟨ha0, h⟩ := h
  obtain ⟨ha5, h⟩ := h
  refine lv_aload S.1 S.2.1 (dd_at ddL_crane 0 rfl) (lv_at hl 5 rfl) ?_
  refine lv_iconst (v := 0) S.1 S.2.1 (dd_at ddL_crane 1 rfl) (by decide) ?_
  refine lv_aload_n S.1 S.2.1 (dd_at ddL_crane 2 rfl) rfl (lv_at hl 0 rfl) ?_
  refine lv_iload_n S.1 S.2.1 (dd_at ddL_crane 3 rfl) rfl (lv_at hl 1 rfl) ?_
  refine lv_iload_n S.1 S.2.1 (dd_at ddL_crane 4 rfl) rfl (lv_at hl 2 rfl) ?_
  refine lv_iload_n S.1 S.2.1 (dd_at ddL_crane 5 rfl) rfl (lv_at hl 3 rfl) ?_
  refine lv_iload S.1 S.2.1 (dd_at ddL_crane 6 rfl) (lv_at hl 4 rfl) ?_
  refine r_tcallI hw (r_xrunV (As := [.int p1, .int p2, .int p3, .int p4]) (rest := [.int 0, .ref a5]) S hw (m_X10_crane l hst D cs E d H.size a0 p1 p2 p3 p4 _ _) (cwV 4 S.2.2.2.2 (gV wg1221 wg1222 wg1223 wg2 wg1224) rfl rfl rfl (by decide +kernel) ⟨Nat.le_of_ble_eq_true rfl, Nat.le_of_ble_eq_true rfl⟩) (ci := 10) rfl ha0 h rfl hl.1 rfl (Nat.le_of_ble_eq_true rfl) (dd_at ddL_crane 7 rfl) ⟨Nat.le_of_ble_eq_true rfl, Nat.le_of_ble_eq_true rfl⟩) (fun Ex ce q_4 d_3 H locs h hw hce hcv hcl => ?_) (fun r_2 d_1 H locs h hw => ?_)
  · rcases h with ⟨rfl, h⟩ | ⟨rfl, h⟩
    · refine vx_catch (name := "java/lang/IndexOutOfBoundsException") S.2.2.2.1 [] (⟨0, 14, 17, 28⟩ : ExceptionTableEntry) [(⟨0, 14, 21, 13⟩ : ExceptionTableEntry)] (by rw [hTb]; rfl) (fun z hz => absurd hz List.not_mem_nil) rfl (by decide) (S.2.2.2.2 _ (List.mem_cons_of_mem _ wg569)) (r_cast hw xc_ix) hce hcv hcl ?_
      refine lv_astore (lv' := [(6, .ref q_4), (0, .ref a0), (1, .int p1), (2, .int p2), (3, .int p3), (4, .int p4), (5, .ref a5)]) S.1 S.2.1 (dd_at ddL_crane 11 rfl) hl (by decide) rfl (fun ls hl => ?_)
      refine lv_iconst (v := 1) S.1 S.2.1 (dd_at ddL_crane 12 rfl) (by decide) ?_
      exact e_I S hr hlocks hw h (dd_at ddL_crane 13 rfl)
    · refine vx_catch (name := "java/lang/IllegalArgumentException") S.2.2.2.1 [(⟨0, 14, 17, 28⟩ : ExceptionTableEntry)] (⟨0, 14, 21, 13⟩ : ExceptionTableEntry) [] (by rw [hTb]; rfl) (fun z hz => by cases List.mem_singleton.mp hz; exact Or.inr ⟨by decide, "java/lang/IndexOutOfBoundsException", (S.2.2.2.2 _ (List.mem_cons_of_mem _ wg569)), r_nc hw (by decide) (by decide) (by decide)⟩) rfl (by decide) (S.2.2.2.2 _ (List.mem_cons_of_mem _ wg223)) (r_cast hw xc_ia) hce hcv hcl ?_
      refine lv_astore (lv' := [(6, .ref q_4), (0, .ref a0), (1, .int p1), (2, .int p2), (3, .int p3), (4, .int p4), (5, .ref a5)]) S.1 S.2.1 (dd_at ddL_crane 14 rfl) hl (by decide) rfl (fun ls hl => ?_)
      refine lv_iconst (v := 2) S.1 S.2.1 (dd_at ddL_crane 15 rfl) (by decide) ?_
      exact e_I S hr hlocks hw h (dd_at ddL_crane 16 rfl)
  · refine lv_i2l S.1 S.2.1 (dd_at ddL_crane 8 rfl) rfl ?_
    obtain ⟨hx_5, h⟩ := h
    refine r_last S hw ha5 hx_5 (dd_at ddL_crane 9 rfl) (fun H locs hw => ?_)
    refine lv_goto (tgt := 25) S.1 S.2.1 (dd_at ddL_crane 10 rfl) (by decide) ?_
    refine lv_iconst (v := 0) S.1 S.2.1 (dd_at ddL_crane 17 rfl) (by decide) ?_
    exact e_I S hr hlocks hw h (dd_at ddL_crane 18 rfl)

def w_L_line (E : En) (a0 : Nat) (p1 : Int32) (p2 : Int32) (p3 : Int32) (d : Dy) (K : Int32 → Dy → Prop) : Prop := okO E a0 10 ∧ w_X10_line E a0 p1 p2 p3 d (fun d_1 => K 0 d_1) (fun Ex d_3 => (Ex = "java/lang/IndexOutOfBoundsException" ∧ K 1 d_3) ∨ (Ex = "java/lang/IllegalArgumentException" ∧ K 2 d_3))
abbrev rm_L_line : Room := { frames := 9, cells := 3, slots := 18, locals := 165 }
set_option maxRecDepth 100000 in
set_option maxHeartbeats 4000000 in
theorem m_L_line (l : Launch) (hst : l.stackTraces = false) (D : va_G) (cs : Nat → ClassId) (E : En) (d : Dy) (sz : Nat) (a0 : Nat) (p1 : Int32) (p2 : Int32) (p3 : Int32) (K : Int32 → Dy → Prop) : CI l yL_line (.codeWith yL_line cL_line 5 (some .int) [(0, 7, 10, 28), (0, 7, 14, 13)] :: wsL_law) rm_L_line D cs E d sz [.ref a0, .int p1, .int p2, .int p3] (w_L_line E a0 p1 p2 p3 d K) K := by
  refine e_ofW (cc := cL_line) (maxL := 5) (ret := (some .int)) (own := RL) (by decide) rfl rfl (Nat.le_of_ble_eq_true rfl) ?_
  intro p e s m below meth c S hr hlocks hsz hTb H locs hw h ls hl
  have hl : lv_has ls 5 [(0, .ref a0), (1, .int p1), (2, .int p2), (3, .int p3)] := hl
  unfold w_L_line at h
  obtain ⟨ha0, h⟩ := h
  refine lv_aload_n S.1 S.2.1 (dd_at ddL_line 0 rfl) rfl (lv_at hl 0 rfl) ?_
  refine lv_iload_n S.1 S.2.1 (dd_at ddL_line 1 rfl) rfl (lv_at hl 1 rfl) ?_
  refine lv_iload_n S.1 S.2.1 (dd_at ddL_line 2 rfl) rfl (lv_at hl 2 rfl) ?_
  refine lv_iload_n S.1 S.2.1 (dd_at ddL_line 3 rfl) rfl (lv_at hl 3 rfl) ?_
  refine r_tcallV hw (r_xrunV (As := [.int p1, .int p2, .int p3]) (rest := []) S hw (m_X10_line l hst D cs E d H.size a0 p1 p2 p3 _ _) (cwV 3 S.2.2.2.2 (gV wg1245 wg1246 wg1247 wg2 wg1248) rfl rfl rfl (by decide +kernel) ⟨Nat.le_of_ble_eq_true rfl, Nat.le_of_ble_eq_true rfl⟩) (ci := 10) rfl ha0 h rfl hl.1 rfl (Nat.le_of_ble_eq_true rfl) (dd_at ddL_line 4 rfl) ⟨Nat.le_of_ble_eq_true rfl, Nat.le_of_ble_eq_true rfl⟩) (fun Ex ce q_4 d_3 H locs h hw hce hcv hcl => ?_) (fun d_1 H locs h hw => ?_)
  · rcases h with ⟨rfl, h⟩ | ⟨rfl, h⟩
    · refine vx_catch (name := "java/lang/IndexOutOfBoundsException") S.2.2.2.1 [] (⟨0, 7, 10, 28⟩ : ExceptionTableEntry) [(⟨0, 7, 14, 13⟩ : ExceptionTableEntry)] (by rw [hTb]; rfl) (fun z hz => absurd hz List.not_mem_nil) rfl (by decide) (S.2.2.2.2 _ (List.mem_cons_of_mem _ wg569)) (r_cast hw xc_ix) hce hcv hcl ?_
      refine lv_astore (lv' := [(4, .ref q_4), (0, .ref a0), (1, .int p1), (2, .int p2), (3, .int p3)]) S.1 S.2.1 (dd_at ddL_line 6 rfl) hl (by decide) rfl (fun ls hl => ?_)
      refine lv_iconst (v := 1) S.1 S.2.1 (dd_at ddL_line 7 rfl) (by decide) ?_
      exact e_I S hr hlocks hw h (dd_at ddL_line 8 rfl)
    · refine vx_catch (name := "java/lang/IllegalArgumentException") S.2.2.2.1 [(⟨0, 7, 10, 28⟩ : ExceptionTableEntry)] (⟨0, 7, 14, 13⟩ : ExceptionTableEntry) [] (by rw [hTb]; rfl) (fun z hz => by cases List.mem_singleton.mp hz; exact Or.inr ⟨by decide, "java/lang/IndexOutOfBoundsException", (S.2.2.2.2 _ (List.mem_cons_of_mem _ wg569)), r_nc hw (by decide) (by decide) (by decide)⟩) rfl (by decide) (S.2.2.2.2 _ (List.mem_cons_of_mem _ wg223)) (r_cast hw xc_ia) hce hcv hcl ?_
      refine lv_astore (lv' := [(4, .ref q_4), (0, .ref a0), (1, .int p1), (2, .int p2), (3, .int p3)]) S.1 S.2.1 (dd_at ddL_line 9 rfl) hl (by decide) rfl (fun ls hl => ?_)
      refine lv_iconst (v := 2) S.1 S.2.1 (dd_at ddL_line 10 rfl) (by decide) ?_
      exact e_I S hr hlocks hw h (dd_at ddL_line 11 rfl)
  · refine lv_goto (tgt := 18) S.1 S.2.1 (dd_at ddL_line 5 rfl) (by decide) ?_
    refine lv_iconst (v := 0) S.1 S.2.1 (dd_at ddL_line 12 rfl) (by decide) ?_
    exact e_I S hr hlocks hw h (dd_at ddL_line 13 rfl)

def w_L_storm (E : En) (a0 : Nat) (p1 : Int32) (p2 : Int32) (a3 : Nat) (d : Dy) (K : Int32 → Dy → Prop) : Prop := okO E a0 10 ∧ okA E a3 14 ∧ w_X10_storm E a0 p1 p2 d (fun r_2 d_1 => vp_in 0 (eN E a3) ∧ K 0 (pJ d_1 a3 ((0 : Int32)).toNatClampNeg r_2.toInt64)) (fun Ex d_3 => (Ex = "java/lang/IndexOutOfBoundsException" ∧ K 1 d_3) ∨ (Ex = "java/lang/IllegalArgumentException" ∧ K 2 d_3) ∨ (Ex = "java/lang/UnsupportedOperationException" ∧ K 3 d_3))
abbrev rm_L_storm : Room := { frames := 8, cells := 3, slots := 18, locals := 143 }
set_option maxRecDepth 100000 in
set_option maxHeartbeats 4000000 in
theorem m_L_storm (l : Launch) (hst : l.stackTraces = false) (D : va_G) (cs : Nat → ClassId) (E : En) (d : Dy) (sz : Nat) (a0 : Nat) (p1 : Int32) (p2 : Int32) (a3 : Nat) (K : Int32 → Dy → Prop) : CI l yL_storm (.codeWith yL_storm cL_storm 5 (some .int) [(0, 10, 13, 28), (0, 10, 17, 13), (0, 10, 21, 22)] :: wsL_law) rm_L_storm D cs E d sz [.ref a0, .int p1, .int p2, .ref a3] (w_L_storm E a0 p1 p2 a3 d K) K := by
  refine e_ofW (cc := cL_storm) (maxL := 5) (ret := (some .int)) (own := RL) (by decide) rfl rfl (Nat.le_of_ble_eq_true rfl) ?_
  intro p e s m below meth c S hr hlocks hsz hTb H locs hw h ls hl
  have hl : lv_has ls 5 [(0, .ref a0), (1, .int p1), (2, .int p2), (3, .ref a3)] := hl
  unfold w_L_storm at h
  obtain ⟨ha0, h⟩ := h
  obtain ⟨ha3, h⟩ := h
  refine lv_aload_n S.1 S.2.1 (dd_at ddL_storm 0 rfl) rfl (lv_at hl 3 rfl) ?_
  refine lv_iconst (v := 0) S.1 S.2.1 (dd_at ddL_storm 1 rfl) (by decide) ?_
  refine lv_aload_n S.1 S.2.1 (dd_at ddL_storm 2 rfl) rfl (lv_at hl 0 rfl) ?_
  refine lv_iload_n S.1 S.2.1 (dd_at ddL_storm 3 rfl) rfl (lv_at hl 1 rfl) ?_
  refine lv_iload_n S.1 S.2.1 (dd_at ddL_storm 4 rfl) rfl (lv_at hl 2 rfl) ?_
  refine r_tcallI hw (r_xrunV (As := [.int p1, .int p2]) (rest := [.int 0, .ref a3]) S hw (m_X10_storm l hst D cs E d H.size a0 p1 p2 _ _) (cwV 2 S.2.2.2.2 (gV wg1256 wg1257 wg1258 wg2 wg1259) rfl rfl rfl (by decide +kernel) ⟨Nat.le_of_ble_eq_true rfl, Nat.le_of_ble_eq_true rfl⟩) (ci := 10) rfl ha0 h rfl hl.1 rfl (Nat.le_of_ble_eq_true rfl) (dd_at ddL_storm 5 rfl) ⟨Nat.le_of_ble_eq_true rfl, Nat.le_of_ble_eq_true rfl⟩) (fun Ex ce q_4 d_3 H locs h hw hce hcv hcl => ?_) (fun r_2 d_1 H locs h hw => ?_)
  · rcases h with ⟨rfl, h⟩ | ⟨rfl, h⟩ | ⟨rfl, h⟩
    · refine vx_catch (name := "java/lang/IndexOutOfBoundsException") S.2.2.2.1 [] (⟨0, 10, 13, 28⟩ : ExceptionTableEntry) [(⟨0, 10, 17, 13⟩ : ExceptionTableEntry), (⟨0, 10, 21, 22⟩ : ExceptionTableEntry)] (by rw [hTb]; rfl) (fun z hz => absurd hz List.not_mem_nil) rfl (by decide) (S.2.2.2.2 _ (List.mem_cons_of_mem _ wg569)) (r_cast hw xc_ix) hce hcv hcl ?_
      refine lv_astore (lv' := [(4, .ref q_4), (0, .ref a0), (1, .int p1), (2, .int p2), (3, .ref a3)]) S.1 S.2.1 (dd_at ddL_storm 9 rfl) hl (by decide) rfl (fun ls hl => ?_)
      refine lv_iconst (v := 1) S.1 S.2.1 (dd_at ddL_storm 10 rfl) (by decide) ?_
      exact e_I S hr hlocks hw h (dd_at ddL_storm 11 rfl)
    · refine vx_catch (name := "java/lang/IllegalArgumentException") S.2.2.2.1 [(⟨0, 10, 13, 28⟩ : ExceptionTableEntry)] (⟨0, 10, 17, 13⟩ : ExceptionTableEntry) [(⟨0, 10, 21, 22⟩ : ExceptionTableEntry)] (by rw [hTb]; rfl) (fun z hz => by cases List.mem_singleton.mp hz; exact Or.inr ⟨by decide, "java/lang/IndexOutOfBoundsException", (S.2.2.2.2 _ (List.mem_cons_of_mem _ wg569)), r_nc hw (by decide) (by decide) (by decide)⟩) rfl (by decide) (S.2.2.2.2 _ (List.mem_cons_of_mem _ wg223)) (r_cast hw xc_ia) hce hcv hcl ?_
      refine lv_astore (lv' := [(4, .ref q_4), (0, .ref a0), (1, .int p1), (2, .int p2), (3, .ref a3)]) S.1 S.2.1 (dd_at ddL_storm 12 rfl) hl (by decide) rfl (fun ls hl => ?_)
      refine lv_iconst (v := 2) S.1 S.2.1 (dd_at ddL_storm 13 rfl) (by decide) ?_
      exact e_I S hr hlocks hw h (dd_at ddL_storm 14 rfl)
    · refine vx_catch (name := "java/lang/UnsupportedOperationException") S.2.2.2.1 [(⟨0, 10, 13, 28⟩ : ExceptionTableEntry), (⟨0, 10, 17, 13⟩ : ExceptionTableEntry)] (⟨0, 10, 21, 22⟩ : ExceptionTableEntry) [] (by rw [hTb]; rfl) (fun z hz => (List.mem_cons.mp hz).elim (fun h1 => by cases h1; exact Or.inr ⟨by decide, "java/lang/IndexOutOfBoundsException", (S.2.2.2.2 _ (List.mem_cons_of_mem _ wg569)), r_nc hw (by decide) (by decide) (by decide)⟩) (fun h1 => by cases List.mem_singleton.mp h1; exact Or.inr ⟨by decide, "java/lang/IllegalArgumentException", (S.2.2.2.2 _ (List.mem_cons_of_mem _ wg223)), r_nc hw (by decide) (by decide) (by decide)⟩)) rfl (by decide) (S.2.2.2.2 _ (List.mem_cons_of_mem _ wg535)) (r_cast hw xc_un) hce hcv hcl ?_
      refine lv_astore (lv' := [(4, .ref q_4), (0, .ref a0), (1, .int p1), (2, .int p2), (3, .ref a3)]) S.1 S.2.1 (dd_at ddL_storm 15 rfl) hl (by decide) rfl (fun ls hl => ?_)
      refine lv_iconst (v := 3) S.1 S.2.1 (dd_at ddL_storm 16 rfl) (by decide) ?_
      exact e_I S hr hlocks hw h (dd_at ddL_storm 17 rfl)
  · refine lv_i2l S.1 S.2.1 (dd_at ddL_storm 6 rfl) rfl ?_
    obtain ⟨hx_5, h⟩ := h
    refine r_last S hw ha3 hx_5 (dd_at ddL_storm 7 rfl) (fun H locs hw => ?_)
    refine lv_goto (tgt := 25) S.1 S.2.1 (dd_at ddL_storm 8 rfl) (by decide) ?_
    refine lv_iconst (v := 0) S.1 S.2.1 (dd_at ddL_storm 18 rfl) (by decide) ?_
    exact e_I S hr hlocks hw h (dd_at ddL_storm 19 rfl)

def w_L_sea (E : En) (a0 : Nat) (p1 : Int32) (p2 : Int32) (p3 : Int32) (a4 : Nat) (d : Dy) (K : Int32 → Dy → Prop) : Prop := okO E a0 10 ∧ okA E a4 14 ∧ w_X10_sea E a0 p1 p2 p3 d (fun r_2 d_1 => vp_in 0 (eN E a4) ∧ K 0 (pJ d_1 a4 ((0 : Int32)).toNatClampNeg r_2.toInt64)) (fun Ex d_3 => (Ex = "java/lang/IndexOutOfBoundsException" ∧ K 1 d_3))
abbrev rm_L_sea : Room := { frames := 8, cells := 2, slots := 12, locals := 144 }
set_option maxRecDepth 100000 in
set_option maxHeartbeats 4000000 in
theorem m_L_sea (l : Launch) (hst : l.stackTraces = false) (D : va_G) (cs : Nat → ClassId) (E : En) (d : Dy) (sz : Nat) (a0 : Nat) (p1 : Int32) (p2 : Int32) (p3 : Int32) (a4 : Nat) (K : Int32 → Dy → Prop) : CI l yL_sea (.codeWith yL_sea cL_sea 6 (some .int) [(0, 12, 15, 28)] :: wsL_law) rm_L_sea D cs E d sz [.ref a0, .int p1, .int p2, .int p3, .ref a4] (w_L_sea E a0 p1 p2 p3 a4 d K) K := by
  refine e_ofW (cc := cL_sea) (maxL := 6) (ret := (some .int)) (own := RL) (by decide) rfl rfl (Nat.le_of_ble_eq_true rfl) ?_
  intro p e s m below meth c S hr hlocks hsz hTb H locs hw h ls hl
  have hl : lv_has ls 6 [(0, .ref a0), (1, .int p1), (2, .int p2), (3, .int p3), (4, .ref a4)] := hl
  unfold w_L_sea at h
  obtain ⟨ha0, h⟩ := h
  obtain ⟨ha4, h⟩ := h
  refine lv_aload S.1 S.2.1 (dd_at ddL_sea 0 rfl) (lv_at hl 4 rfl) ?_
  refine lv_iconst (v := 0) S.1 S.2.1 (dd_at ddL_sea 1 rfl) (by decide) ?_
  refine lv_aload_n S.1 S.2.1 (dd_at ddL_sea 2 rfl) rfl (lv_at hl 0 rfl) ?_
  refine lv_iload_n S.1 S.2.1 (dd_at ddL_sea 3 rfl) rfl (lv_at hl 1 rfl) ?_
  refine lv_iload_n S.1 S.2.1 (dd_at ddL_sea 4 rfl) rfl (lv_at hl 2 rfl) ?_
  refine lv_iload_n S.1 S.2.1 (dd_at ddL_sea 5 rfl) rfl (lv_at hl 3 rfl) ?_
  refine r_tcallI hw (r_xrunV (As := [.int p1, .int p2, .int p3]) (rest := [.int 0, .ref a4]) S hw (m_X10_sea l hst D cs E d H.size a0 p1 p2 p3 _ _) (cwV 3 S.2.2.2.2 (gV wg1267 wg1268 wg1269 wg2 wg1270) rfl rfl rfl (by decide +kernel) ⟨Nat.le_of_ble_eq_true rfl, Nat.le_of_ble_eq_true rfl⟩) (ci := 10) rfl ha0 h rfl hl.1 rfl (Nat.le_of_ble_eq_true rfl) (dd_at ddL_sea 6 rfl) ⟨Nat.le_of_ble_eq_true rfl, Nat.le_of_ble_eq_true rfl⟩) (fun Ex ce q_4 d_3 H locs h hw hce hcv hcl => ?_) (fun r_2 d_1 H locs h hw => ?_)
  · obtain ⟨rfl, h⟩ := h
    refine vx_catch (name := "java/lang/IndexOutOfBoundsException") S.2.2.2.1 [] (⟨0, 12, 15, 28⟩ : ExceptionTableEntry) [] (by rw [hTb]; rfl) (fun z hz => absurd hz List.not_mem_nil) rfl (by decide) (S.2.2.2.2 _ (List.mem_cons_of_mem _ wg569)) (r_cast hw xc_ix) hce hcv hcl ?_
    refine lv_astore (lv' := [(5, .ref q_4), (0, .ref a0), (1, .int p1), (2, .int p2), (3, .int p3), (4, .ref a4)]) S.1 S.2.1 (dd_at ddL_sea 10 rfl) hl (by decide) rfl (fun ls hl => ?_)
    refine lv_iconst (v := 1) S.1 S.2.1 (dd_at ddL_sea 11 rfl) (by decide) ?_
    exact e_I S hr hlocks hw h (dd_at ddL_sea 12 rfl)
  · refine lv_i2l S.1 S.2.1 (dd_at ddL_sea 7 rfl) rfl ?_
    obtain ⟨hx_5, h⟩ := h
    refine r_last S hw ha4 hx_5 (dd_at ddL_sea 8 rfl) (fun H locs hw => ?_)
    refine lv_goto (tgt := 19) S.1 S.2.1 (dd_at ddL_sea 9 rfl) (by decide) ?_
    refine lv_iconst (v := 0) S.1 S.2.1 (dd_at ddL_sea 13 rfl) (by decide) ?_
    exact e_I S hr hlocks hw h (dd_at ddL_sea 14 rfl)

def w_L_level (E : En) (a0 : Nat) (p1 : Int32) (p2 : Int32) (p3 : Int32) (a4 : Nat) (d : Dy) (K : Int32 → Dy → Prop) : Prop := okO E a0 10 ∧ okA E a4 14 ∧ w_X10_level E a0 p1 p2 p3 d (fun r_2 d_1 => vp_in 0 (eN E a4) ∧ K 0 (pJ d_1 a4 ((0 : Int32)).toNatClampNeg r_2.toInt64)) (fun Ex d_3 => (Ex = "java/lang/IndexOutOfBoundsException" ∧ K 1 d_3))
abbrev rm_L_level : Room := { frames := 9, cells := 2, slots := 12, locals := 165 }
set_option maxRecDepth 100000 in
set_option maxHeartbeats 4000000 in
theorem m_L_level (l : Launch) (hst : l.stackTraces = false) (D : va_G) (cs : Nat → ClassId) (E : En) (d : Dy) (sz : Nat) (a0 : Nat) (p1 : Int32) (p2 : Int32) (p3 : Int32) (a4 : Nat) (K : Int32 → Dy → Prop) : CI l yL_level (.codeWith yL_level cL_level 6 (some .int) [(0, 12, 15, 28)] :: wsL_law) rm_L_level D cs E d sz [.ref a0, .int p1, .int p2, .int p3, .ref a4] (w_L_level E a0 p1 p2 p3 a4 d K) K := by
  refine e_ofW (cc := cL_level) (maxL := 6) (ret := (some .int)) (own := RL) (by decide) rfl rfl (Nat.le_of_ble_eq_true rfl) ?_
  intro p e s m below meth c S hr hlocks hsz hTb H locs hw h ls hl
  have hl : lv_has ls 6 [(0, .ref a0), (1, .int p1), (2, .int p2), (3, .int p3), (4, .ref a4)] := hl
  unfold w_L_level at h
  obtain ⟨ha0, h⟩ := h
  obtain ⟨ha4, h⟩ := h
  refine lv_aload S.1 S.2.1 (dd_at ddL_level 0 rfl) (lv_at hl 4 rfl) ?_
  refine lv_iconst (v := 0) S.1 S.2.1 (dd_at ddL_level 1 rfl) (by decide) ?_
  refine lv_aload_n S.1 S.2.1 (dd_at ddL_level 2 rfl) rfl (lv_at hl 0 rfl) ?_
  refine lv_iload_n S.1 S.2.1 (dd_at ddL_level 3 rfl) rfl (lv_at hl 1 rfl) ?_
  refine lv_iload_n S.1 S.2.1 (dd_at ddL_level 4 rfl) rfl (lv_at hl 2 rfl) ?_
  refine lv_iload_n S.1 S.2.1 (dd_at ddL_level 5 rfl) rfl (lv_at hl 3 rfl) ?_
  refine r_tcallI hw (r_xrunV (As := [.int p1, .int p2, .int p3]) (rest := [.int 0, .ref a4]) S hw (m_X10_level l hst D cs E d H.size a0 p1 p2 p3 _ _) (cwV 3 S.2.2.2.2 (gV wg1306 wg1307 wg1308 wg2 wg1309) rfl rfl rfl (by decide +kernel) ⟨Nat.le_of_ble_eq_true rfl, Nat.le_of_ble_eq_true rfl⟩) (ci := 10) rfl ha0 h rfl hl.1 rfl (Nat.le_of_ble_eq_true rfl) (dd_at ddL_level 6 rfl) ⟨Nat.le_of_ble_eq_true rfl, Nat.le_of_ble_eq_true rfl⟩) (fun Ex ce q_4 d_3 H locs h hw hce hcv hcl => ?_) (fun r_2 d_1 H locs h hw => ?_)
  · obtain ⟨rfl, h⟩ := h
    refine vx_catch (name := "java/lang/IndexOutOfBoundsException") S.2.2.2.1 [] (⟨0, 12, 15, 28⟩ : ExceptionTableEntry) [] (by rw [hTb]; rfl) (fun z hz => absurd hz List.not_mem_nil) rfl (by decide) (S.2.2.2.2 _ (List.mem_cons_of_mem _ wg569)) (r_cast hw xc_ix) hce hcv hcl ?_
    refine lv_astore (lv' := [(5, .ref q_4), (0, .ref a0), (1, .int p1), (2, .int p2), (3, .int p3), (4, .ref a4)]) S.1 S.2.1 (dd_at ddL_level 10 rfl) hl (by decide) rfl (fun ls hl => ?_)
    refine lv_iconst (v := 1) S.1 S.2.1 (dd_at ddL_level 11 rfl) (by decide) ?_
    exact e_I S hr hlocks hw h (dd_at ddL_level 12 rfl)
  · refine lv_i2l S.1 S.2.1 (dd_at ddL_level 7 rfl) rfl ?_
    obtain ⟨hx_5, h⟩ := h
    refine r_last S hw ha4 hx_5 (dd_at ddL_level 8 rfl) (fun H locs hw => ?_)
    refine lv_goto (tgt := 19) S.1 S.2.1 (dd_at ddL_level 9 rfl) (by decide) ?_
    refine lv_iconst (v := 0) S.1 S.2.1 (dd_at ddL_level 13 rfl) (by decide) ?_
    exact e_I S hr hlocks hw h (dd_at ddL_level 14 rfl)

def w_L_flood (E : En) (a0 : Nat) (p1 : Int32) (p2 : Int32) (p3 : Int32) (a4 : Nat) (d : Dy) (K : Int32 → Dy → Prop) : Prop := okO E a0 10 ∧ okA E a4 14 ∧ w_X10_flood E a0 p1 p2 p3 d (fun r_2 d_1 => vp_in 0 (eN E a4) ∧ K 0 (pJ d_1 a4 ((0 : Int32)).toNatClampNeg r_2.toInt64)) (fun Ex d_3 => (Ex = "java/lang/IndexOutOfBoundsException" ∧ K 1 d_3) ∨ (Ex = "java/lang/IllegalArgumentException" ∧ K 2 d_3))
abbrev rm_L_flood : Room := { frames := 9, cells := 2, slots := 12, locals := 167 }
set_option maxRecDepth 100000 in
set_option maxHeartbeats 4000000 in
theorem m_L_flood (l : Launch) (hst : l.stackTraces = false) (D : va_G) (cs : Nat → ClassId) (E : En) (d : Dy) (sz : Nat) (a0 : Nat) (p1 : Int32) (p2 : Int32) (p3 : Int32) (a4 : Nat) (K : Int32 → Dy → Prop) : CI l yL_flood (.codeWith yL_flood cL_flood 6 (some .int) [(0, 12, 15, 28), (0, 12, 19, 13)] :: wsL_law) rm_L_flood D cs E d sz [.ref a0, .int p1, .int p2, .int p3, .ref a4] (w_L_flood E a0 p1 p2 p3 a4 d K) K := by
  refine e_ofW (cc := cL_flood) (maxL := 6) (ret := (some .int)) (own := RL) (by decide) rfl rfl (Nat.le_of_ble_eq_true rfl) ?_
  intro p e s m below meth c S hr hlocks hsz hTb H locs hw h ls hl
  have hl : lv_has ls 6 [(0, .ref a0), (1, .int p1), (2, .int p2), (3, .int p3), (4, .ref a4)] := hl
  unfold w_L_flood at h
  obtain ⟨ha0, h⟩ := h
  obtain ⟨ha4, h⟩ := h
  refine lv_aload S.1 S.2.1 (dd_at ddL_flood 0 rfl) (lv_at hl 4 rfl) ?_
  refine lv_iconst (v := 0) S.1 S.2.1 (dd_at ddL_flood 1 rfl) (by decide) ?_
  refine lv_aload_n S.1 S.2.1 (dd_at ddL_flood 2 rfl) rfl (lv_at hl 0 rfl) ?_
  refine lv_iload_n S.1 S.2.1 (dd_at ddL_flood 3 rfl) rfl (lv_at hl 1 rfl) ?_
  refine lv_iload_n S.1 S.2.1 (dd_at ddL_flood 4 rfl) rfl (lv_at hl 2 rfl) ?_
  refine lv_iload_n S.1 S.2.1 (dd_at ddL_flood 5 rfl) rfl (lv_at hl 3 rfl) ?_
  refine r_tcallI hw (r_xrunV (As := [.int p1, .int p2, .int p3]) (rest := [.int 0, .ref a4]) S hw (m_X10_flood l hst D cs E d H.size a0 p1 p2 p3 _ _) (cwV 3 S.2.2.2.2 (gV wg1321 wg1322 wg1323 wg2 wg1324) rfl rfl rfl (by decide +kernel) ⟨Nat.le_of_ble_eq_true rfl, Nat.le_of_ble_eq_true rfl⟩) (ci := 10) rfl ha0 h rfl hl.1 rfl (Nat.le_of_ble_eq_true rfl) (dd_at ddL_flood 6 rfl) ⟨Nat.le_of_ble_eq_true rfl, Nat.le_of_ble_eq_true rfl⟩) (fun Ex ce q_4 d_3 H locs h hw hce hcv hcl => ?_) (fun r_2 d_1 H locs h hw => ?_)
  · rcases h with ⟨rfl, h⟩ | ⟨rfl, h⟩
    · refine vx_catch (name := "java/lang/IndexOutOfBoundsException") S.2.2.2.1 [] (⟨0, 12, 15, 28⟩ : ExceptionTableEntry) [(⟨0, 12, 19, 13⟩ : ExceptionTableEntry)] (by rw [hTb]; rfl) (fun z hz => absurd hz List.not_mem_nil) rfl (by decide) (S.2.2.2.2 _ (List.mem_cons_of_mem _ wg569)) (r_cast hw xc_ix) hce hcv hcl ?_
      refine lv_astore (lv' := [(5, .ref q_4), (0, .ref a0), (1, .int p1), (2, .int p2), (3, .int p3), (4, .ref a4)]) S.1 S.2.1 (dd_at ddL_flood 10 rfl) hl (by decide) rfl (fun ls hl => ?_)
      refine lv_iconst (v := 1) S.1 S.2.1 (dd_at ddL_flood 11 rfl) (by decide) ?_
      exact e_I S hr hlocks hw h (dd_at ddL_flood 12 rfl)
    · refine vx_catch (name := "java/lang/IllegalArgumentException") S.2.2.2.1 [(⟨0, 12, 15, 28⟩ : ExceptionTableEntry)] (⟨0, 12, 19, 13⟩ : ExceptionTableEntry) [] (by rw [hTb]; rfl) (fun z hz => by cases List.mem_singleton.mp hz; exact Or.inr ⟨by decide, "java/lang/IndexOutOfBoundsException", (S.2.2.2.2 _ (List.mem_cons_of_mem _ wg569)), r_nc hw (by decide) (by decide) (by decide)⟩) rfl (by decide) (S.2.2.2.2 _ (List.mem_cons_of_mem _ wg223)) (r_cast hw xc_ia) hce hcv hcl ?_
      refine lv_astore (lv' := [(5, .ref q_4), (0, .ref a0), (1, .int p1), (2, .int p2), (3, .int p3), (4, .ref a4)]) S.1 S.2.1 (dd_at ddL_flood 13 rfl) hl (by decide) rfl (fun ls hl => ?_)
      refine lv_iconst (v := 2) S.1 S.2.1 (dd_at ddL_flood 14 rfl) (by decide) ?_
      exact e_I S hr hlocks hw h (dd_at ddL_flood 15 rfl)
  · refine lv_i2l S.1 S.2.1 (dd_at ddL_flood 7 rfl) rfl ?_
    obtain ⟨hx_5, h⟩ := h
    refine r_last S hw ha4 hx_5 (dd_at ddL_flood 8 rfl) (fun H locs hw => ?_)
    refine lv_goto (tgt := 23) S.1 S.2.1 (dd_at ddL_flood 9 rfl) (by decide) ?_
    refine lv_iconst (v := 0) S.1 S.2.1 (dd_at ddL_flood 16 rfl) (by decide) ?_
    exact e_I S hr hlocks hw h (dd_at ddL_flood 17 rfl)

def w_L_lost (E : En) (a0 : Nat) (p1 : Int32) (p2 : Int32) (p3 : Int32) (d : Dy) (K : Int32 → Dy → Prop) : Prop := okO E a0 10 ∧ w_X10_lost E a0 p1 p2 p3 d (fun d_1 => K 0 d_1) (fun Ex d_3 => (Ex = "java/lang/IndexOutOfBoundsException" ∧ K 1 d_3) ∨ (Ex = "java/lang/IllegalArgumentException" ∧ K 2 d_3))
abbrev rm_L_lost : Room := { frames := 9, cells := 3, slots := 18, locals := 165 }
set_option maxRecDepth 100000 in
set_option maxHeartbeats 4000000 in
theorem m_L_lost (l : Launch) (hst : l.stackTraces = false) (D : va_G) (cs : Nat → ClassId) (E : En) (d : Dy) (sz : Nat) (a0 : Nat) (p1 : Int32) (p2 : Int32) (p3 : Int32) (K : Int32 → Dy → Prop) : CI l yL_lost (.codeWith yL_lost cL_lost 5 (some .int) [(0, 7, 10, 28), (0, 7, 14, 13)] :: wsL_law) rm_L_lost D cs E d sz [.ref a0, .int p1, .int p2, .int p3] (w_L_lost E a0 p1 p2 p3 d K) K := by
  refine e_ofW (cc := cL_lost) (maxL := 5) (ret := (some .int)) (own := RL) (by decide) rfl rfl (Nat.le_of_ble_eq_true rfl) ?_
  intro p e s m below meth c S hr hlocks hsz hTb H locs hw h ls hl
  have hl : lv_has ls 5 [(0, .ref a0), (1, .int p1), (2, .int p2), (3, .int p3)] := hl
  unfold w_L_lost at h
  obtain ⟨ha0, h⟩ := h
  refine lv_aload_n S.1 S.2.1 (dd_at ddL_lost 0 rfl) rfl (lv_at hl 0 rfl) ?_
  refine lv_iload_n S.1 S.2.1 (dd_at ddL_lost 1 rfl) rfl (lv_at hl 1 rfl) ?_
  refine lv_iload_n S.1 S.2.1 (dd_at ddL_lost 2 rfl) rfl (lv_at hl 2 rfl) ?_
  refine lv_iload_n S.1 S.2.1 (dd_at ddL_lost 3 rfl) rfl (lv_at hl 3 rfl) ?_
  refine r_tcallV hw (r_xrunV (As := [.int p1, .int p2, .int p3]) (rest := []) S hw (m_X10_lost l hst D cs E d H.size a0 p1 p2 p3 _ _) (cwV 3 S.2.2.2.2 (gV wg1332 wg1333 wg1334 wg2 wg1335) rfl rfl rfl (by decide +kernel) ⟨Nat.le_of_ble_eq_true rfl, Nat.le_of_ble_eq_true rfl⟩) (ci := 10) rfl ha0 h rfl hl.1 rfl (Nat.le_of_ble_eq_true rfl) (dd_at ddL_lost 4 rfl) ⟨Nat.le_of_ble_eq_true rfl, Nat.le_of_ble_eq_true rfl⟩) (fun Ex ce q_4 d_3 H locs h hw hce hcv hcl => ?_) (fun d_1 H locs h hw => ?_)
  · rcases h with ⟨rfl, h⟩ | ⟨rfl, h⟩
    · refine vx_catch (name := "java/lang/IndexOutOfBoundsException") S.2.2.2.1 [] (⟨0, 7, 10, 28⟩ : ExceptionTableEntry) [(⟨0, 7, 14, 13⟩ : ExceptionTableEntry)] (by rw [hTb]; rfl) (fun z hz => absurd hz List.not_mem_nil) rfl (by decide) (S.2.2.2.2 _ (List.mem_cons_of_mem _ wg569)) (r_cast hw xc_ix) hce hcv hcl ?_
      refine lv_astore (lv' := [(4, .ref q_4), (0, .ref a0), (1, .int p1), (2, .int p2), (3, .int p3)]) S.1 S.2.1 (dd_at ddL_lost 6 rfl) hl (by decide) rfl (fun ls hl => ?_)
      refine lv_iconst (v := 1) S.1 S.2.1 (dd_at ddL_lost 7 rfl) (by decide) ?_
      exact e_I S hr hlocks hw h (dd_at ddL_lost 8 rfl)
    · refine vx_catch (name := "java/lang/IllegalArgumentException") S.2.2.2.1 [(⟨0, 7, 10, 28⟩ : ExceptionTableEntry)] (⟨0, 7, 14, 13⟩ : ExceptionTableEntry) [] (by rw [hTb]; rfl) (fun z hz => by cases List.mem_singleton.mp hz; exact Or.inr ⟨by decide, "java/lang/IndexOutOfBoundsException", (S.2.2.2.2 _ (List.mem_cons_of_mem _ wg569)), r_nc hw (by decide) (by decide) (by decide)⟩) rfl (by decide) (S.2.2.2.2 _ (List.mem_cons_of_mem _ wg223)) (r_cast hw xc_ia) hce hcv hcl ?_
      refine lv_astore (lv' := [(4, .ref q_4), (0, .ref a0), (1, .int p1), (2, .int p2), (3, .int p3)]) S.1 S.2.1 (dd_at ddL_lost 9 rfl) hl (by decide) rfl (fun ls hl => ?_)
      refine lv_iconst (v := 2) S.1 S.2.1 (dd_at ddL_lost 10 rfl) (by decide) ?_
      exact e_I S hr hlocks hw h (dd_at ddL_lost 11 rfl)
  · refine lv_goto (tgt := 18) S.1 S.2.1 (dd_at ddL_lost 5 rfl) (by decide) ?_
    refine lv_iconst (v := 0) S.1 S.2.1 (dd_at ddL_lost 12 rfl) (by decide) ?_
    exact e_I S hr hlocks hw h (dd_at ddL_lost 13 rfl)

def w_L_plank (E : En) (a0 : Nat) (p1 : Int32) (p2 : Int32) (p3 : Int32) (a4 : Nat) (d : Dy) (K : Int32 → Dy → Prop) : Prop := okO E a0 10 ∧ okA E a4 14 ∧ w_X10_plank E a0 p1 p2 p3 d (fun r_2 d_1 => vp_in 0 (eN E a4) ∧ K 0 (pJ d_1 a4 ((0 : Int32)).toNatClampNeg r_2.toInt64)) (fun Ex d_3 => (Ex = "java/lang/IndexOutOfBoundsException" ∧ K 1 d_3) ∨ (Ex = "java/lang/IllegalArgumentException" ∧ K 2 d_3) ∨ (Ex = "java/lang/UnsupportedOperationException" ∧ K 3 d_3))
abbrev rm_L_plank : Room := { frames := 9, cells := 4, slots := 24, locals := 166 }
set_option maxRecDepth 100000 in
set_option maxHeartbeats 4000000 in
theorem m_L_plank (l : Launch) (hst : l.stackTraces = false) (D : va_G) (cs : Nat → ClassId) (E : En) (d : Dy) (sz : Nat) (a0 : Nat) (p1 : Int32) (p2 : Int32) (p3 : Int32) (a4 : Nat) (K : Int32 → Dy → Prop) : CI l yL_plank (.codeWith yL_plank cL_plank 6 (some .int) [(0, 12, 15, 28), (0, 12, 19, 13), (0, 12, 23, 22)] :: wsL_law) rm_L_plank D cs E d sz [.ref a0, .int p1, .int p2, .int p3, .ref a4] (w_L_plank E a0 p1 p2 p3 a4 d K) K := by
  refine e_ofW (cc := cL_plank) (maxL := 6) (ret := (some .int)) (own := RL) (by decide) rfl rfl (Nat.le_of_ble_eq_true rfl) ?_
  intro p e s m below meth c S hr hlocks hsz hTb H locs hw h ls hl
  have hl : lv_has ls 6 [(0, .ref a0), (1, .int p1), (2, .int p2), (3, .int p3), (4, .ref a4)] := hl
  unfold w_L_plank at h
  obtain ⟨ha0, h⟩ := h
  obtain ⟨ha4, h⟩ := h
  refine lv_aload S.1 S.2.1 (dd_at ddL_plank 0 rfl) (lv_at hl 4 rfl) ?_
  refine lv_iconst (v := 0) S.1 S.2.1 (dd_at ddL_plank 1 rfl) (by decide) ?_
  refine lv_aload_n S.1 S.2.1 (dd_at ddL_plank 2 rfl) rfl (lv_at hl 0 rfl) ?_
  refine lv_iload_n S.1 S.2.1 (dd_at ddL_plank 3 rfl) rfl (lv_at hl 1 rfl) ?_
  refine lv_iload_n S.1 S.2.1 (dd_at ddL_plank 4 rfl) rfl (lv_at hl 2 rfl) ?_
  refine lv_iload_n S.1 S.2.1 (dd_at ddL_plank 5 rfl) rfl (lv_at hl 3 rfl) ?_
  refine r_tcallI hw (r_xrunV (As := [.int p1, .int p2, .int p3]) (rest := [.int 0, .ref a4]) S hw (m_X10_plank l hst D cs E d H.size a0 p1 p2 p3 _ _) (cwV 3 S.2.2.2.2 (gV wg1343 wg1344 wg1345 wg2 wg1346) rfl rfl rfl (by decide +kernel) ⟨Nat.le_of_ble_eq_true rfl, Nat.le_of_ble_eq_true rfl⟩) (ci := 10) rfl ha0 h rfl hl.1 rfl (Nat.le_of_ble_eq_true rfl) (dd_at ddL_plank 6 rfl) ⟨Nat.le_of_ble_eq_true rfl, Nat.le_of_ble_eq_true rfl⟩) (fun Ex ce q_4 d_3 H locs h hw hce hcv hcl => ?_) (fun r_2 d_1 H locs h hw => ?_)
  · rcases h with ⟨rfl, h⟩ | ⟨rfl, h⟩ | ⟨rfl, h⟩
    · refine vx_catch (name := "java/lang/IndexOutOfBoundsException") S.2.2.2.1 [] (⟨0, 12, 15, 28⟩ : ExceptionTableEntry) [(⟨0, 12, 19, 13⟩ : ExceptionTableEntry), (⟨0, 12, 23, 22⟩ : ExceptionTableEntry)] (by rw [hTb]; rfl) (fun z hz => absurd hz List.not_mem_nil) rfl (by decide) (S.2.2.2.2 _ (List.mem_cons_of_mem _ wg569)) (r_cast hw xc_ix) hce hcv hcl ?_
      refine lv_astore (lv' := [(5, .ref q_4), (0, .ref a0), (1, .int p1), (2, .int p2), (3, .int p3), (4, .ref a4)]) S.1 S.2.1 (dd_at ddL_plank 10 rfl) hl (by decide) rfl (fun ls hl => ?_)
      refine lv_iconst (v := 1) S.1 S.2.1 (dd_at ddL_plank 11 rfl) (by decide) ?_
      exact e_I S hr hlocks hw h (dd_at ddL_plank 12 rfl)
    · refine vx_catch (name := "java/lang/IllegalArgumentException") S.2.2.2.1 [(⟨0, 12, 15, 28⟩ : ExceptionTableEntry)] (⟨0, 12, 19, 13⟩ : ExceptionTableEntry) [(⟨0, 12, 23, 22⟩ : ExceptionTableEntry)] (by rw [hTb]; rfl) (fun z hz => by cases List.mem_singleton.mp hz; exact Or.inr ⟨by decide, "java/lang/IndexOutOfBoundsException", (S.2.2.2.2 _ (List.mem_cons_of_mem _ wg569)), r_nc hw (by decide) (by decide) (by decide)⟩) rfl (by decide) (S.2.2.2.2 _ (List.mem_cons_of_mem _ wg223)) (r_cast hw xc_ia) hce hcv hcl ?_
      refine lv_astore (lv' := [(5, .ref q_4), (0, .ref a0), (1, .int p1), (2, .int p2), (3, .int p3), (4, .ref a4)]) S.1 S.2.1 (dd_at ddL_plank 13 rfl) hl (by decide) rfl (fun ls hl => ?_)
      refine lv_iconst (v := 2) S.1 S.2.1 (dd_at ddL_plank 14 rfl) (by decide) ?_
      exact e_I S hr hlocks hw h (dd_at ddL_plank 15 rfl)
    · refine vx_catch (name := "java/lang/UnsupportedOperationException") S.2.2.2.1 [(⟨0, 12, 15, 28⟩ : ExceptionTableEntry), (⟨0, 12, 19, 13⟩ : ExceptionTableEntry)] (⟨0, 12, 23, 22⟩ : ExceptionTableEntry) [] (by rw [hTb]; rfl) (fun z hz => (List.mem_cons.mp hz).elim (fun h1 => by cases h1; exact Or.inr ⟨by decide, "java/lang/IndexOutOfBoundsException", (S.2.2.2.2 _ (List.mem_cons_of_mem _ wg569)), r_nc hw (by decide) (by decide) (by decide)⟩) (fun h1 => by cases List.mem_singleton.mp h1; exact Or.inr ⟨by decide, "java/lang/IllegalArgumentException", (S.2.2.2.2 _ (List.mem_cons_of_mem _ wg223)), r_nc hw (by decide) (by decide) (by decide)⟩)) rfl (by decide) (S.2.2.2.2 _ (List.mem_cons_of_mem _ wg535)) (r_cast hw xc_un) hce hcv hcl ?_
      refine lv_astore (lv' := [(5, .ref q_4), (0, .ref a0), (1, .int p1), (2, .int p2), (3, .int p3), (4, .ref a4)]) S.1 S.2.1 (dd_at ddL_plank 16 rfl) hl (by decide) rfl (fun ls hl => ?_)
      refine lv_iconst (v := 3) S.1 S.2.1 (dd_at ddL_plank 17 rfl) (by decide) ?_
      exact e_I S hr hlocks hw h (dd_at ddL_plank 18 rfl)
  · refine lv_i2l S.1 S.2.1 (dd_at ddL_plank 7 rfl) rfl ?_
    obtain ⟨hx_5, h⟩ := h
    refine r_last S hw ha4 hx_5 (dd_at ddL_plank 8 rfl) (fun H locs hw => ?_)
    refine lv_goto (tgt := 27) S.1 S.2.1 (dd_at ddL_plank 9 rfl) (by decide) ?_
    refine lv_iconst (v := 0) S.1 S.2.1 (dd_at ddL_plank 19 rfl) (by decide) ?_
    exact e_I S hr hlocks hw h (dd_at ddL_plank 20 rfl)

def w_L_whose (E : En) (a0 : Nat) (p1 : Int32) (a2 : Nat) (d : Dy) (K : Int32 → Dy → Prop) : Prop := okO E a0 10 ∧ okA E a2 14 ∧ w_X10_whose E a0 p1 d (fun r_2 d_1 => vp_in 0 (eN E a2) ∧ K 0 (pJ d_1 a2 ((0 : Int32)).toNatClampNeg r_2.toInt64)) (fun Ex d_3 => (Ex = "java/lang/IndexOutOfBoundsException" ∧ K 1 d_3))
abbrev rm_L_whose : Room := { frames := 8, cells := 1, slots := 6, locals := 186 }
set_option maxRecDepth 100000 in
set_option maxHeartbeats 4000000 in
theorem m_L_whose (l : Launch) (hst : l.stackTraces = false) (D : va_G) (cs : Nat → ClassId) (E : En) (d : Dy) (sz : Nat) (a0 : Nat) (p1 : Int32) (a2 : Nat) (K : Int32 → Dy → Prop) : CI l yL_whose (.codeWith yL_whose cL_whose 4 (some .int) [(0, 9, 12, 28)] :: wsL_law) rm_L_whose D cs E d sz [.ref a0, .int p1, .ref a2] (w_L_whose E a0 p1 a2 d K) K := by
  refine e_ofW (cc := cL_whose) (maxL := 4) (ret := (some .int)) (own := RL) (by decide) rfl rfl (Nat.le_of_ble_eq_true rfl) ?_
  intro p e s m below meth c S hr hlocks hsz hTb H locs hw h ls hl
  have hl : lv_has ls 4 [(0, .ref a0), (1, .int p1), (2, .ref a2)] := hl
  unfold w_L_whose at h
  obtain ⟨ha0, h⟩ := h
  obtain ⟨ha2, h⟩ := h
  refine lv_aload_n S.1 S.2.1 (dd_at ddL_whose 0 rfl) rfl (lv_at hl 2 rfl) ?_
  refine lv_iconst (v := 0) S.1 S.2.1 (dd_at ddL_whose 1 rfl) (by decide) ?_
  refine lv_aload_n S.1 S.2.1 (dd_at ddL_whose 2 rfl) rfl (lv_at hl 0 rfl) ?_
  refine lv_iload_n S.1 S.2.1 (dd_at ddL_whose 3 rfl) rfl (lv_at hl 1 rfl) ?_
  refine r_tcallI hw (r_xrunV (As := [.int p1]) (rest := [.int 0, .ref a2]) S hw (m_X10_whose l hst D cs E d H.size a0 p1 _ _) (cwV 1 S.2.2.2.2 (gV wg1399 wg1400 wg1401 wg2 wg1402) rfl rfl rfl (by decide +kernel) ⟨Nat.le_of_ble_eq_true rfl, Nat.le_of_ble_eq_true rfl⟩) (ci := 10) rfl ha0 h rfl hl.1 rfl (Nat.le_of_ble_eq_true rfl) (dd_at ddL_whose 4 rfl) ⟨Nat.le_of_ble_eq_true rfl, Nat.le_of_ble_eq_true rfl⟩) (fun Ex ce q_4 d_3 H locs h hw hce hcv hcl => ?_) (fun r_2 d_1 H locs h hw => ?_)
  · obtain ⟨rfl, h⟩ := h
    refine vx_catch (name := "java/lang/IndexOutOfBoundsException") S.2.2.2.1 [] (⟨0, 9, 12, 28⟩ : ExceptionTableEntry) [] (by rw [hTb]; rfl) (fun z hz => absurd hz List.not_mem_nil) rfl (by decide) (S.2.2.2.2 _ (List.mem_cons_of_mem _ wg569)) (r_cast hw xc_ix) hce hcv hcl ?_
    refine lv_astore_n (lv' := [(3, .ref q_4), (0, .ref a0), (1, .int p1), (2, .ref a2)]) S.1 S.2.1 (dd_at ddL_whose 8 rfl) rfl hl (by decide) rfl (fun ls hl => ?_)
    refine lv_iconst (v := 1) S.1 S.2.1 (dd_at ddL_whose 9 rfl) (by decide) ?_
    exact e_I S hr hlocks hw h (dd_at ddL_whose 10 rfl)
  · refine lv_i2l S.1 S.2.1 (dd_at ddL_whose 5 rfl) rfl ?_
    obtain ⟨hx_5, h⟩ := h
    refine r_last S hw ha2 hx_5 (dd_at ddL_whose 6 rfl) (fun H locs hw => ?_)
    refine lv_goto (tgt := 15) S.1 S.2.1 (dd_at ddL_whose 7 rfl) (by decide) ?_
    refine lv_iconst (v := 0) S.1 S.2.1 (dd_at ddL_whose 11 rfl) (by decide) ?_
    exact e_I S hr hlocks hw h (dd_at ddL_whose 12 rfl)

def w_L_photo (E : En) (a0 : Nat) (p1 : Int32) (p2 : Int32) (p3 : Int32) (a4 : Nat) (d : Dy) (K : Int32 → Dy → Prop) : Prop := okO E a0 10 ∧ okA E a4 14 ∧ w_X10_photo E a0 p1 p2 p3 d (fun r_2 d_1 => vp_in 0 (eN E a4) ∧ K 0 (pJ d_1 a4 ((0 : Int32)).toNatClampNeg r_2.toInt64)) (fun Ex d_3 => (Ex = "java/lang/IndexOutOfBoundsException" ∧ K 1 d_3) ∨ (Ex = "java/lang/IllegalArgumentException" ∧ K 2 d_3) ∨ (Ex = "java/lang/UnsupportedOperationException" ∧ K 3 d_3))
abbrev rm_L_photo : Room := { frames := 9, cells := 4, slots := 24, locals := 166 }
set_option maxRecDepth 100000 in
set_option maxHeartbeats 4000000 in
theorem m_L_photo (l : Launch) (hst : l.stackTraces = false) (D : va_G) (cs : Nat → ClassId) (E : En) (d : Dy) (sz : Nat) (a0 : Nat) (p1 : Int32) (p2 : Int32) (p3 : Int32) (a4 : Nat) (K : Int32 → Dy → Prop) : CI l yL_photo (.codeWith yL_photo cL_photo 6 (some .int) [(0, 12, 15, 28), (0, 12, 19, 13), (0, 12, 23, 22)] :: wsL_law) rm_L_photo D cs E d sz [.ref a0, .int p1, .int p2, .int p3, .ref a4] (w_L_photo E a0 p1 p2 p3 a4 d K) K := by
  refine e_ofW (cc := cL_photo) (maxL := 6) (ret := (some .int)) (own := RL) (by decide) rfl rfl (Nat.le_of_ble_eq_true rfl) ?_
  intro p e s m below meth c S hr hlocks hsz hTb H locs hw h ls hl
  have hl : lv_has ls 6 [(0, .ref a0), (1, .int p1), (2, .int p2), (3, .int p3), (4, .ref a4)] := hl
  unfold w_L_photo at h
  obtain ⟨ha0, h⟩ := h
  obtain ⟨ha4, h⟩ := h
  refine lv_aload S.1 S.2.1 (dd_at ddL_photo 0 rfl) (lv_at hl 4 rfl) ?_
  refine lv_iconst (v := 0) S.1 S.2.1 (dd_at ddL_photo 1 rfl) (by decide) ?_
  refine lv_aload_n S.1 S.2.1 (dd_at ddL_photo 2 rfl) rfl (lv_at hl 0 rfl) ?_
  refine lv_iload_n S.1 S.2.1 (dd_at ddL_photo 3 rfl) rfl (lv_at hl 1 rfl) ?_
  refine lv_iload_n S.1 S.2.1 (dd_at ddL_photo 4 rfl) rfl (lv_at hl 2 rfl) ?_
  refine lv_iload_n S.1 S.2.1 (dd_at ddL_photo 5 rfl) rfl (lv_at hl 3 rfl) ?_
  refine r_tcallI hw (r_xrunV (As := [.int p1, .int p2, .int p3]) (rest := [.int 0, .ref a4]) S hw (m_X10_photo l hst D cs E d H.size a0 p1 p2 p3 _ _) (cwV 3 S.2.2.2.2 (gV wg1418 wg1419 wg1420 wg2 wg1421) rfl rfl rfl (by decide +kernel) ⟨Nat.le_of_ble_eq_true rfl, Nat.le_of_ble_eq_true rfl⟩) (ci := 10) rfl ha0 h rfl hl.1 rfl (Nat.le_of_ble_eq_true rfl) (dd_at ddL_photo 6 rfl) ⟨Nat.le_of_ble_eq_true rfl, Nat.le_of_ble_eq_true rfl⟩) (fun Ex ce q_4 d_3 H locs h hw hce hcv hcl => ?_) (fun r_2 d_1 H locs h hw => ?_)
  · rcases h with ⟨rfl, h⟩ | ⟨rfl, h⟩ | ⟨rfl, h⟩
    · refine vx_catch (name := "java/lang/IndexOutOfBoundsException") S.2.2.2.1 [] (⟨0, 12, 15, 28⟩ : ExceptionTableEntry) [(⟨0, 12, 19, 13⟩ : ExceptionTableEntry), (⟨0, 12, 23, 22⟩ : ExceptionTableEntry)] (by rw [hTb]; rfl) (fun z hz => absurd hz List.not_mem_nil) rfl (by decide) (S.2.2.2.2 _ (List.mem_cons_of_mem _ wg569)) (r_cast hw xc_ix) hce hcv hcl ?_
      refine lv_astore (lv' := [(5, .ref q_4), (0, .ref a0), (1, .int p1), (2, .int p2), (3, .int p3), (4, .ref a4)]) S.1 S.2.1 (dd_at ddL_photo 10 rfl) hl (by decide) rfl (fun ls hl => ?_)
      refine lv_iconst (v := 1) S.1 S.2.1 (dd_at ddL_photo 11 rfl) (by decide) ?_
      exact e_I S hr hlocks hw h (dd_at ddL_photo 12 rfl)
    · refine vx_catch (name := "java/lang/IllegalArgumentException") S.2.2.2.1 [(⟨0, 12, 15, 28⟩ : ExceptionTableEntry)] (⟨0, 12, 19, 13⟩ : ExceptionTableEntry) [(⟨0, 12, 23, 22⟩ : ExceptionTableEntry)] (by rw [hTb]; rfl) (fun z hz => by cases List.mem_singleton.mp hz; exact Or.inr ⟨by decide, "java/lang/IndexOutOfBoundsException", (S.2.2.2.2 _ (List.mem_cons_of_mem _ wg569)), r_nc hw (by decide) (by decide) (by decide)⟩) rfl (by decide) (S.2.2.2.2 _ (List.mem_cons_of_mem _ wg223)) (r_cast hw xc_ia) hce hcv hcl ?_
      refine lv_astore (lv' := [(5, .ref q_4), (0, .ref a0), (1, .int p1), (2, .int p2), (3, .int p3), (4, .ref a4)]) S.1 S.2.1 (dd_at ddL_photo 13 rfl) hl (by decide) rfl (fun ls hl => ?_)
      refine lv_iconst (v := 2) S.1 S.2.1 (dd_at ddL_photo 14 rfl) (by decide) ?_
      exact e_I S hr hlocks hw h (dd_at ddL_photo 15 rfl)
    · refine vx_catch (name := "java/lang/UnsupportedOperationException") S.2.2.2.1 [(⟨0, 12, 15, 28⟩ : ExceptionTableEntry), (⟨0, 12, 19, 13⟩ : ExceptionTableEntry)] (⟨0, 12, 23, 22⟩ : ExceptionTableEntry) [] (by rw [hTb]; rfl) (fun z hz => (List.mem_cons.mp hz).elim (fun h1 => by cases h1; exact Or.inr ⟨by decide, "java/lang/IndexOutOfBoundsException", (S.2.2.2.2 _ (List.mem_cons_of_mem _ wg569)), r_nc hw (by decide) (by decide) (by decide)⟩) (fun h1 => by cases List.mem_singleton.mp h1; exact Or.inr ⟨by decide, "java/lang/IllegalArgumentException", (S.2.2.2.2 _ (List.mem_cons_of_mem _ wg223)), r_nc hw (by decide) (by decide) (by decide)⟩)) rfl (by decide) (S.2.2.2.2 _ (List.mem_cons_of_mem _ wg535)) (r_cast hw xc_un) hce hcv hcl ?_
      refine lv_astore (lv' := [(5, .ref q_4), (0, .ref a0), (1, .int p1), (2, .int p2), (3, .int p3), (4, .ref a4)]) S.1 S.2.1 (dd_at ddL_photo 16 rfl) hl (by decide) rfl (fun ls hl => ?_)
      refine lv_iconst (v := 3) S.1 S.2.1 (dd_at ddL_photo 17 rfl) (by decide) ?_
      exact e_I S hr hlocks hw h (dd_at ddL_photo 18 rfl)
  · refine lv_i2l S.1 S.2.1 (dd_at ddL_photo 7 rfl) rfl ?_
    obtain ⟨hx_5, h⟩ := h
    refine r_last S hw ha4 hx_5 (dd_at ddL_photo 8 rfl) (fun H locs hw => ?_)
    refine lv_goto (tgt := 27) S.1 S.2.1 (dd_at ddL_photo 9 rfl) (by decide) ?_
    refine lv_iconst (v := 0) S.1 S.2.1 (dd_at ddL_photo 19 rfl) (by decide) ?_
    exact e_I S hr hlocks hw h (dd_at ddL_photo 20 rfl)

def w_L_allowed (E : En) (a0 : Nat) (p1 : Int32) (p2 : Int32) (a3 : Nat) (d : Dy) (K : Int32 → Dy → Prop) : Prop := okO E a0 10 ∧ okA E a3 14 ∧ w_X10_allowed E a0 p1 p2 d (fun r_2 d_1 => vp_in 0 (eN E a3) ∧ K 0 (pJ d_1 a3 ((0 : Int32)).toNatClampNeg r_2.toInt64)) (fun Ex d_3 => (Ex = "java/lang/IndexOutOfBoundsException" ∧ K 1 d_3))
abbrev rm_L_allowed : Room := { frames := 9, cells := 2, slots := 12, locals := 187 }
set_option maxRecDepth 100000 in
set_option maxHeartbeats 4000000 in
theorem m_L_allowed (l : Launch) (hst : l.stackTraces = false) (D : va_G) (cs : Nat → ClassId) (E : En) (d : Dy) (sz : Nat) (a0 : Nat) (p1 : Int32) (p2 : Int32) (a3 : Nat) (K : Int32 → Dy → Prop) : CI l yL_allowed (.codeWith yL_allowed cL_allowed 5 (some .int) [(0, 10, 13, 28)] :: wsL_law) rm_L_allowed D cs E d sz [.ref a0, .int p1, .int p2, .ref a3] (w_L_allowed E a0 p1 p2 a3 d K) K := by
  refine e_ofW (cc := cL_allowed) (maxL := 5) (ret := (some .int)) (own := RL) (by decide) rfl rfl (Nat.le_of_ble_eq_true rfl) ?_
  intro p e s m below meth c S hr hlocks hsz hTb H locs hw h ls hl
  have hl : lv_has ls 5 [(0, .ref a0), (1, .int p1), (2, .int p2), (3, .ref a3)] := hl
  unfold w_L_allowed at h
  obtain ⟨ha0, h⟩ := h
  obtain ⟨ha3, h⟩ := h
  refine lv_aload_n S.1 S.2.1 (dd_at ddL_allowed 0 rfl) rfl (lv_at hl 3 rfl) ?_
  refine lv_iconst (v := 0) S.1 S.2.1 (dd_at ddL_allowed 1 rfl) (by decide) ?_
  refine lv_aload_n S.1 S.2.1 (dd_at ddL_allowed 2 rfl) rfl (lv_at hl 0 rfl) ?_
  refine lv_iload_n S.1 S.2.1 (dd_at ddL_allowed 3 rfl) rfl (lv_at hl 1 rfl) ?_
  refine lv_iload_n S.1 S.2.1 (dd_at ddL_allowed 4 rfl) rfl (lv_at hl 2 rfl) ?_
  refine r_tcallI hw (r_xrunV (As := [.int p1, .int p2]) (rest := [.int 0, .ref a3]) S hw (m_X10_allowed l hst D cs E d H.size a0 p1 p2 _ _) (cwV 2 S.2.2.2.2 (gV wg1429 wg1430 wg1431 wg2 wg1432) rfl rfl rfl (by decide +kernel) ⟨Nat.le_of_ble_eq_true rfl, Nat.le_of_ble_eq_true rfl⟩) (ci := 10) rfl ha0 h rfl hl.1 rfl (Nat.le_of_ble_eq_true rfl) (dd_at ddL_allowed 5 rfl) ⟨Nat.le_of_ble_eq_true rfl, Nat.le_of_ble_eq_true rfl⟩) (fun Ex ce q_4 d_3 H locs h hw hce hcv hcl => ?_) (fun r_2 d_1 H locs h hw => ?_)
  · obtain ⟨rfl, h⟩ := h
    refine vx_catch (name := "java/lang/IndexOutOfBoundsException") S.2.2.2.1 [] (⟨0, 10, 13, 28⟩ : ExceptionTableEntry) [] (by rw [hTb]; rfl) (fun z hz => absurd hz List.not_mem_nil) rfl (by decide) (S.2.2.2.2 _ (List.mem_cons_of_mem _ wg569)) (r_cast hw xc_ix) hce hcv hcl ?_
    refine lv_astore (lv' := [(4, .ref q_4), (0, .ref a0), (1, .int p1), (2, .int p2), (3, .ref a3)]) S.1 S.2.1 (dd_at ddL_allowed 9 rfl) hl (by decide) rfl (fun ls hl => ?_)
    refine lv_iconst (v := 1) S.1 S.2.1 (dd_at ddL_allowed 10 rfl) (by decide) ?_
    exact e_I S hr hlocks hw h (dd_at ddL_allowed 11 rfl)
  · refine lv_i2l S.1 S.2.1 (dd_at ddL_allowed 6 rfl) rfl ?_
    obtain ⟨hx_5, h⟩ := h
    refine r_last S hw ha3 hx_5 (dd_at ddL_allowed 7 rfl) (fun H locs hw => ?_)
    refine lv_goto (tgt := 17) S.1 S.2.1 (dd_at ddL_allowed 8 rfl) (by decide) ?_
    refine lv_iconst (v := 0) S.1 S.2.1 (dd_at ddL_allowed 12 rfl) (by decide) ?_
    exact e_I S hr hlocks hw h (dd_at ddL_allowed 13 rfl)

def w_L_breaches (E : En) (a0 : Nat) (p1 : Int32) (a2 : Nat) (d : Dy) (K : Int32 → Dy → Prop) : Prop := okO E a0 10 ∧ okA E a2 14 ∧ w_X10_breaches E a0 p1 d (fun r_2 d_1 => vp_in 0 (eN E a2) ∧ K 0 (pJ d_1 a2 ((0 : Int32)).toNatClampNeg r_2.toInt64)) (fun Ex d_3 => (Ex = "java/lang/IndexOutOfBoundsException" ∧ K 1 d_3))
abbrev rm_L_breaches : Room := { frames := 9, cells := 1, slots := 6, locals := 189 }
set_option maxRecDepth 100000 in
set_option maxHeartbeats 4000000 in
theorem m_L_breaches (l : Launch) (hst : l.stackTraces = false) (D : va_G) (cs : Nat → ClassId) (E : En) (d : Dy) (sz : Nat) (a0 : Nat) (p1 : Int32) (a2 : Nat) (K : Int32 → Dy → Prop) : CI l yL_breaches (.codeWith yL_breaches cL_breaches 4 (some .int) [(0, 9, 12, 28)] :: wsL_law) rm_L_breaches D cs E d sz [.ref a0, .int p1, .ref a2] (w_L_breaches E a0 p1 a2 d K) K := by
  refine e_ofW (cc := cL_breaches) (maxL := 4) (ret := (some .int)) (own := RL) (by decide) rfl rfl (Nat.le_of_ble_eq_true rfl) ?_
  intro p e s m below meth c S hr hlocks hsz hTb H locs hw h ls hl
  have hl : lv_has ls 4 [(0, .ref a0), (1, .int p1), (2, .ref a2)] := hl
  unfold w_L_breaches at h
  obtain ⟨ha0, h⟩ := h
  obtain ⟨ha2, h⟩ := h
  refine lv_aload_n S.1 S.2.1 (dd_at ddL_breaches 0 rfl) rfl (lv_at hl 2 rfl) ?_
  refine lv_iconst (v := 0) S.1 S.2.1 (dd_at ddL_breaches 1 rfl) (by decide) ?_
  refine lv_aload_n S.1 S.2.1 (dd_at ddL_breaches 2 rfl) rfl (lv_at hl 0 rfl) ?_
  refine lv_iload_n S.1 S.2.1 (dd_at ddL_breaches 3 rfl) rfl (lv_at hl 1 rfl) ?_
  refine r_tcallI hw (r_xrunV (As := [.int p1]) (rest := [.int 0, .ref a2]) S hw (m_X10_breaches l hst D cs E d H.size a0 p1 _ _) (cwV 1 S.2.2.2.2 (gV wg1452 wg1453 wg1454 wg2 wg1455) rfl rfl rfl (by decide +kernel) ⟨Nat.le_of_ble_eq_true rfl, Nat.le_of_ble_eq_true rfl⟩) (ci := 10) rfl ha0 h rfl hl.1 rfl (Nat.le_of_ble_eq_true rfl) (dd_at ddL_breaches 4 rfl) ⟨Nat.le_of_ble_eq_true rfl, Nat.le_of_ble_eq_true rfl⟩) (fun Ex ce q_4 d_3 H locs h hw hce hcv hcl => ?_) (fun r_2 d_1 H locs h hw => ?_)
  · obtain ⟨rfl, h⟩ := h
    refine vx_catch (name := "java/lang/IndexOutOfBoundsException") S.2.2.2.1 [] (⟨0, 9, 12, 28⟩ : ExceptionTableEntry) [] (by rw [hTb]; rfl) (fun z hz => absurd hz List.not_mem_nil) rfl (by decide) (S.2.2.2.2 _ (List.mem_cons_of_mem _ wg569)) (r_cast hw xc_ix) hce hcv hcl ?_
    refine lv_astore_n (lv' := [(3, .ref q_4), (0, .ref a0), (1, .int p1), (2, .ref a2)]) S.1 S.2.1 (dd_at ddL_breaches 8 rfl) rfl hl (by decide) rfl (fun ls hl => ?_)
    refine lv_iconst (v := 1) S.1 S.2.1 (dd_at ddL_breaches 9 rfl) (by decide) ?_
    exact e_I S hr hlocks hw h (dd_at ddL_breaches 10 rfl)
  · refine lv_i2l S.1 S.2.1 (dd_at ddL_breaches 5 rfl) rfl ?_
    obtain ⟨hx_5, h⟩ := h
    refine r_last S hw ha2 hx_5 (dd_at ddL_breaches 6 rfl) (fun H locs hw => ?_)
    refine lv_goto (tgt := 15) S.1 S.2.1 (dd_at ddL_breaches 7 rfl) (by decide) ?_
    refine lv_iconst (v := 0) S.1 S.2.1 (dd_at ddL_breaches 11 rfl) (by decide) ?_
    exact e_I S hr hlocks hw h (dd_at ddL_breaches 12 rfl)

def w_L_painted (E : En) (a0 : Nat) (p1 : Int32) (a2 : Nat) (d : Dy) (K : Int32 → Dy → Prop) : Prop := okO E a0 10 ∧ okA E a2 14 ∧ w_X10_painted E a0 p1 d (fun r_2 d_1 => vp_in 0 (eN E a2) ∧ K 0 (pJ d_1 a2 ((0 : Int32)).toNatClampNeg r_2.toInt64)) (fun Ex d_3 => (Ex = "java/lang/IndexOutOfBoundsException" ∧ K 1 d_3))
abbrev rm_L_painted : Room := { frames := 9, cells := 1, slots := 6, locals := 167 }
set_option maxRecDepth 100000 in
set_option maxHeartbeats 4000000 in
theorem m_L_painted (l : Launch) (hst : l.stackTraces = false) (D : va_G) (cs : Nat → ClassId) (E : En) (d : Dy) (sz : Nat) (a0 : Nat) (p1 : Int32) (a2 : Nat) (K : Int32 → Dy → Prop) : CI l yL_painted (.codeWith yL_painted cL_painted 4 (some .int) [(0, 9, 12, 28)] :: wsL_law) rm_L_painted D cs E d sz [.ref a0, .int p1, .ref a2] (w_L_painted E a0 p1 a2 d K) K := by
  refine e_ofW (cc := cL_painted) (maxL := 4) (ret := (some .int)) (own := RL) (by decide) rfl rfl (Nat.le_of_ble_eq_true rfl) ?_
  intro p e s m below meth c S hr hlocks hsz hTb H locs hw h ls hl
  have hl : lv_has ls 4 [(0, .ref a0), (1, .int p1), (2, .ref a2)] := hl
  unfold w_L_painted at h
  obtain ⟨ha0, h⟩ := h
  obtain ⟨ha2, h⟩ := h
  refine lv_aload_n S.1 S.2.1 (dd_at ddL_painted 0 rfl) rfl (lv_at hl 2 rfl) ?_
  refine lv_iconst (v := 0) S.1 S.2.1 (dd_at ddL_painted 1 rfl) (by decide) ?_
  refine lv_aload_n S.1 S.2.1 (dd_at ddL_painted 2 rfl) rfl (lv_at hl 0 rfl) ?_
  refine lv_iload_n S.1 S.2.1 (dd_at ddL_painted 3 rfl) rfl (lv_at hl 1 rfl) ?_
  refine r_tcallI hw (r_xrunV (As := [.int p1]) (rest := [.int 0, .ref a2]) S hw (m_X10_painted l hst D cs E d H.size a0 p1 _ _) (cwV 1 S.2.2.2.2 (gV wg1463 wg1464 wg1465 wg2 wg1466) rfl rfl rfl (by decide +kernel) ⟨Nat.le_of_ble_eq_true rfl, Nat.le_of_ble_eq_true rfl⟩) (ci := 10) rfl ha0 h rfl hl.1 rfl (Nat.le_of_ble_eq_true rfl) (dd_at ddL_painted 4 rfl) ⟨Nat.le_of_ble_eq_true rfl, Nat.le_of_ble_eq_true rfl⟩) (fun Ex ce q_4 d_3 H locs h hw hce hcv hcl => ?_) (fun r_2 d_1 H locs h hw => ?_)
  · obtain ⟨rfl, h⟩ := h
    refine vx_catch (name := "java/lang/IndexOutOfBoundsException") S.2.2.2.1 [] (⟨0, 9, 12, 28⟩ : ExceptionTableEntry) [] (by rw [hTb]; rfl) (fun z hz => absurd hz List.not_mem_nil) rfl (by decide) (S.2.2.2.2 _ (List.mem_cons_of_mem _ wg569)) (r_cast hw xc_ix) hce hcv hcl ?_
    refine lv_astore_n (lv' := [(3, .ref q_4), (0, .ref a0), (1, .int p1), (2, .ref a2)]) S.1 S.2.1 (dd_at ddL_painted 8 rfl) rfl hl (by decide) rfl (fun ls hl => ?_)
    refine lv_iconst (v := 1) S.1 S.2.1 (dd_at ddL_painted 9 rfl) (by decide) ?_
    exact e_I S hr hlocks hw h (dd_at ddL_painted 10 rfl)
  · refine lv_i2l S.1 S.2.1 (dd_at ddL_painted 5 rfl) rfl ?_
    obtain ⟨hx_5, h⟩ := h
    refine r_last S hw ha2 hx_5 (dd_at ddL_painted 6 rfl) (fun H locs hw => ?_)
    refine lv_goto (tgt := 15) S.1 S.2.1 (dd_at ddL_painted 7 rfl) (by decide) ?_
    refine lv_iconst (v := 0) S.1 S.2.1 (dd_at ddL_painted 11 rfl) (by decide) ?_
    exact e_I S hr hlocks hw h (dd_at ddL_painted 12 rfl)

def w_L_thief (E : En) (a0 : Nat) (p1 : Int32) (a2 : Nat) (d : Dy) (K : Int32 → Dy → Prop) : Prop := okO E a0 10 ∧ okA E a2 14 ∧ w_X10_thief E a0 p1 d (fun r_2 d_1 => vp_in 0 (eN E a2) ∧ K 0 (pJ d_1 a2 ((0 : Int32)).toNatClampNeg r_2.toInt64)) (fun Ex d_3 => (Ex = "java/lang/IllegalArgumentException" ∧ K 1 d_3) ∨ (Ex = "java/lang/UnsupportedOperationException" ∧ K 2 d_3))
abbrev rm_L_thief : Room := { frames := 9, cells := 2, slots := 12, locals := 163 }
set_option maxRecDepth 100000 in
set_option maxHeartbeats 4000000 in
theorem m_L_thief (l : Launch) (hst : l.stackTraces = false) (D : va_G) (cs : Nat → ClassId) (E : En) (d : Dy) (sz : Nat) (a0 : Nat) (p1 : Int32) (a2 : Nat) (K : Int32 → Dy → Prop) : CI l yL_thief (.codeWith yL_thief cL_thief 4 (some .int) [(0, 9, 12, 13), (0, 9, 15, 22)] :: wsL_law) rm_L_thief D cs E d sz [.ref a0, .int p1, .ref a2] (w_L_thief E a0 p1 a2 d K) K := by
  refine e_ofW (cc := cL_thief) (maxL := 4) (ret := (some .int)) (own := RL) (by decide) rfl rfl (Nat.le_of_ble_eq_true rfl) ?_
  intro p e s m below meth c S hr hlocks hsz hTb H locs hw h ls hl
  have hl : lv_has ls 4 [(0, .ref a0), (1, .int p1), (2, .ref a2)] := hl
  unfold w_L_thief at h
  obtain ⟨ha0, h⟩ := h
  obtain ⟨ha2, h⟩ := h
  refine lv_aload_n S.1 S.2.1 (dd_at ddL_thief 0 rfl) rfl (lv_at hl 2 rfl) ?_
  refine lv_iconst (v := 0) S.1 S.2.1 (dd_at ddL_thief 1 rfl) (by decide) ?_
  refine lv_aload_n S.1 S.2.1 (dd_at ddL_thief 2 rfl) rfl (lv_at hl 0 rfl) ?_
  refine lv_iload_n S.1 S.2.1 (dd_at ddL_thief 3 rfl) rfl (lv_at hl 1 rfl) ?_
  refine r_tcallI hw (r_xrunV (As := [.int p1]) (rest := [.int 0, .ref a2]) S hw (m_X10_thief l hst D cs E d H.size a0 p1 _ _) (cwV 1 S.2.2.2.2 (gV wg1474 wg1475 wg1476 wg2 wg1477) rfl rfl rfl (by decide +kernel) ⟨Nat.le_of_ble_eq_true rfl, Nat.le_of_ble_eq_true rfl⟩) (ci := 10) rfl ha0 h rfl hl.1 rfl (Nat.le_of_ble_eq_true rfl) (dd_at ddL_thief 4 rfl) ⟨Nat.le_of_ble_eq_true rfl, Nat.le_of_ble_eq_true rfl⟩) (fun Ex ce q_4 d_3 H locs h hw hce hcv hcl => ?_) (fun r_2 d_1 H locs h hw => ?_)
  · rcases h with ⟨rfl, h⟩ | ⟨rfl, h⟩
    · refine vx_catch (name := "java/lang/IllegalArgumentException") S.2.2.2.1 [] (⟨0, 9, 12, 13⟩ : ExceptionTableEntry) [(⟨0, 9, 15, 22⟩ : ExceptionTableEntry)] (by rw [hTb]; rfl) (fun z hz => absurd hz List.not_mem_nil) rfl (by decide) (S.2.2.2.2 _ (List.mem_cons_of_mem _ wg223)) (r_cast hw xc_ia) hce hcv hcl ?_
      refine lv_astore_n (lv' := [(3, .ref q_4), (0, .ref a0), (1, .int p1), (2, .ref a2)]) S.1 S.2.1 (dd_at ddL_thief 8 rfl) rfl hl (by decide) rfl (fun ls hl => ?_)
      refine lv_iconst (v := 1) S.1 S.2.1 (dd_at ddL_thief 9 rfl) (by decide) ?_
      exact e_I S hr hlocks hw h (dd_at ddL_thief 10 rfl)
    · refine vx_catch (name := "java/lang/UnsupportedOperationException") S.2.2.2.1 [(⟨0, 9, 12, 13⟩ : ExceptionTableEntry)] (⟨0, 9, 15, 22⟩ : ExceptionTableEntry) [] (by rw [hTb]; rfl) (fun z hz => by cases List.mem_singleton.mp hz; exact Or.inr ⟨by decide, "java/lang/IllegalArgumentException", (S.2.2.2.2 _ (List.mem_cons_of_mem _ wg223)), r_nc hw (by decide) (by decide) (by decide)⟩) rfl (by decide) (S.2.2.2.2 _ (List.mem_cons_of_mem _ wg535)) (r_cast hw xc_un) hce hcv hcl ?_
      refine lv_astore_n (lv' := [(3, .ref q_4), (0, .ref a0), (1, .int p1), (2, .ref a2)]) S.1 S.2.1 (dd_at ddL_thief 11 rfl) rfl hl (by decide) rfl (fun ls hl => ?_)
      refine lv_iconst (v := 2) S.1 S.2.1 (dd_at ddL_thief 12 rfl) (by decide) ?_
      exact e_I S hr hlocks hw h (dd_at ddL_thief 13 rfl)
  · refine lv_i2l S.1 S.2.1 (dd_at ddL_thief 5 rfl) rfl ?_
    obtain ⟨hx_5, h⟩ := h
    refine r_last S hw ha2 hx_5 (dd_at ddL_thief 6 rfl) (fun H locs hw => ?_)
    refine lv_goto (tgt := 18) S.1 S.2.1 (dd_at ddL_thief 7 rfl) (by decide) ?_
    refine lv_iconst (v := 0) S.1 S.2.1 (dd_at ddL_thief 14 rfl) (by decide) ?_
    exact e_I S hr hlocks hw h (dd_at ddL_thief 15 rfl)
