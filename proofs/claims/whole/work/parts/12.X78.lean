def w_X8_inForce (E : En) (a0 : Nat) (p1 : Int32) (d : Dy) (K : Option Nat → Dy → Prop) : Prop := okO E a0 8 ∧ ((p1 < 0 → K none d) ∧ (¬ p1 < 0 → ((4 ≤ p1 → K none d) ∧ (¬ 4 ≤ p1 → ∃ b_3 : Nat, eR E a0 11 = some b_3 ∧ okA E b_3 16 ∧ vp_in p1 (eN E b_3) ∧ K (gQ d b_3 (p1).toNatClampNeg) d))))
abbrev rm_X8_inForce : Room := { frames := 0, cells := 0, slots := 0, locals := 0 }
set_option maxRecDepth 100000 in
set_option maxHeartbeats 4000000 in
theorem m_X8_inForce (l : Launch) (D : va_G) (cs : Nat → ClassId) (E : En) (d : Dy) (sz : Nat) (a0 : Nat) (p1 : Int32) (K : Option Nat → Dy → Prop) : CQ l yX8_inForce (.code yX8_inForce cX8_inForce 2 (some (.object "HutRow$Text")) :: wsL_law) rm_X8_inForce D cs E d sz [.ref a0, .int p1] (w_X8_inForce E a0 p1 d K) K := by
  refine e_of (cc := cX8_inForce) (maxL := 2) (ret := (some (.object "HutRow$Text"))) (own := RX8) (by decide) rfl rfl (Nat.le_of_ble_eq_true rfl) ?_
  intro p e s m below meth c S hr hlocks hsz H locs hw h ls hl
  have hl : lv_has ls 2 [(0, .ref a0), (1, .int p1)] := hl
  unfold w_X8_inForce at h
  obtain ⟨ha0, h⟩ := h
  refine lv_iload_n S.1 S.2.1 (dd_at ddX8_inForce 0 rfl) rfl (lv_at hl 1 rfl) ?_
  refine lv_if_lt (tgt := 18) S.1 S.2.1 (dd_at ddX8_inForce 1 rfl) (by decide) (fun hc_1 => ?_) (fun hc_1 => ?_)
  · have h := h.1 hc_1
    refine lv_null S.1 S.2.1 (dd_at ddX8_inForce 10 rfl) ?_
    exact e_Q S hr hlocks hw h (dd_at ddX8_inForce 11 rfl)
  · have h := h.2 hc_1
    refine lv_iload_n S.1 S.2.1 (dd_at ddX8_inForce 2 rfl) rfl (lv_at hl 1 rfl) ?_
    refine lv_iconst (v := 4) S.1 S.2.1 (dd_at ddX8_inForce 3 rfl) (by decide) ?_
    refine lv_icmp_ge (tgt := 18) S.1 S.2.1 (dd_at ddX8_inForce 4 rfl) (by decide) (fun hc_2 => ?_) (fun hc_2 => ?_)
    · have h := h.1 hc_2
      refine lv_null S.1 S.2.1 (dd_at ddX8_inForce 10 rfl) ?_
      exact e_Q S hr hlocks hw h (dd_at ddX8_inForce 11 rfl)
    · have h := h.2 hc_2
      refine lv_aload_n S.1 S.2.1 (dd_at ddX8_inForce 5 rfl) rfl (lv_at hl 0 rfl) ?_
      obtain ⟨b_3, hb_4, ho_5, h⟩ := h
      refine r_getR S hw 8 11 rfl inG8 (by decide) (List.mem_cons_of_mem _ wg63) (by decide) ha0 hb_4 (dd_at ddX8_inForce 6 rfl) ?_
      refine lv_iload_n S.1 S.2.1 (dd_at ddX8_inForce 7 rfl) rfl (lv_at hl 1 rfl) ?_
      obtain ⟨hx_6, h⟩ := h
      refine r_aald S hw ho_5 hx_6 (dd_at ddX8_inForce 8 rfl) ?_
      refine lv_goto (tgt := 19) S.1 S.2.1 (dd_at ddX8_inForce 9 rfl) (by decide) ?_
      exact e_Q S hr hlocks hw h (dd_at ddX8_inForce 11 rfl)

def b_X7_holds_36 (E : En) (a0 : Nat) (p1 : Int32) (a2 : Nat) (K : Int32 → Dy → Prop) (k36 : Int32 → Int32 → Int32 → Dy → Prop) (v3 : Int32) (v4 : Int32) (v5 : Int32) (d : Dy) : Prop := ((v4 ≤ v5 → ((v4 ≤ v3 → K 1 d) ∧ (¬ v4 ≤ v3 → w_X0_isTrue E a2 d (fun r_4 d_3 => ((r_4 = 0 → K 0 d_3) ∧ (¬ r_4 = 0 → K 1 d_3)))))) ∧ (¬ v4 ≤ v5 → ∃ b_6 : Nat, eR E a0 1 = some b_6 ∧ okA E b_6 13 ∧ vp_in v5 (eN E b_6) ∧ w_X0_use E a2 (gA d b_6 (v5).toNatClampNeg) d (fun d_10 => k36 v3 v4 (v5 + 1) d_10)))
def l_X7_holds_36 (E : En) (a0 : Nat) (p1 : Int32) (a2 : Nat) (K : Int32 → Dy → Prop) : Nat → Int32 → Int32 → Int32 → Dy → Prop
  | 0 => fun _ _ _ _ => False
  | n + 1 => b_X7_holds_36 E a0 p1 a2 K (l_X7_holds_36 E a0 p1 a2 K n)
def w_X7_holds (E : En) (a0 : Nat) (p1 : Int32) (a2 : Nat) (d : Dy) (K : Int32 → Dy → Prop) : Prop := okO E a0 7 ∧ okO E a2 0 ∧ ∃ b_12 : Nat, eR E a0 0 = some b_12 ∧ okO E b_12 6 ∧ w_X6_get E b_12 p1 3 d (fun r_16 d_15 => ∃ b_17 : Nat, eR E a0 0 = some b_17 ∧ okO E b_17 6 ∧ w_X6_get E b_17 p1 4 d_15 (fun r_21 d_20 => ∃ b_22 : Nat, eR E a0 1 = some b_22 ∧ okA E b_22 13 ∧ w_X0_clear E a2 d_20 (fun d_25 => (∃ n_27 : Nat, l_X7_holds_36 E a0 p1 a2 K n_27 r_16 (if (nI (eN E b_22)) < r_21 then (nI (eN E b_22)) else r_21) r_16 d_25))))
abbrev rm_X7_holds : Room := { frames := 2, cells := 0, slots := 0, locals := 43 }
set_option maxRecDepth 100000 in
set_option maxHeartbeats 4000000 in
theorem m_X7_holds (l : Launch) (D : va_G) (cs : Nat → ClassId) (E : En) (d : Dy) (sz : Nat) (a0 : Nat) (p1 : Int32) (a2 : Nat) (K : Int32 → Dy → Prop) : CI l yX7_holds (.code yX7_holds cX7_holds 6 (some .boolean) :: wsL_law) rm_X7_holds D cs E d sz [.ref a0, .int p1, .ref a2] (w_X7_holds E a0 p1 a2 d K) K := by
  refine e_of (cc := cX7_holds) (maxL := 6) (ret := (some .boolean)) (own := RX7) (by decide) rfl rfl (Nat.le_of_ble_eq_true rfl) ?_
  intro p e s m below meth c S hr hlocks hsz H locs hw h ls hl
  have hl : lv_has ls 6 [(0, .ref a0), (1, .int p1), (2, .ref a2)] := hl
  unfold w_X7_holds at h
  obtain ⟨ha0, h⟩ := h
  obtain ⟨ha2, h⟩ := h
  have tl36 : ∀ (n : Nat) (v3 : Int32) (v4 : Int32) (v5 : Int32) (d : Dy) (H : Heap) (locs : List Loc) (ls : Array Slot), l_X7_holds_36 E a0 p1 a2 K n v3 v4 v5 d → Wd D cs (AW E sz) s.heap s E d H locs → lv_has ls 6 [(0, .ref a0), (2, .ref a2), (3, .int v3), (4, .int v4), (5, .int v5)] → W p l e rm_X7_holds s m ([.ref a0, .int p1, .ref a2] : List Value).toArray below meth c H locs 0 0 (MQ below (va_Qi K (OutW D cs E (AW E sz)) (AW E sz)) ([.ref a0, .int p1, .ref a2] : List Value).toArray s rm_X7_holds.cells rm_X7_holds.slots (AW E sz)) (F0 m 36 ls []) := by
    intro n36
    induction n36 with
    | zero => intro v3 v4 v5 d H locs ls h; exact absurd h id
    | succ n36 ih36 =>
      intro v3 v4 v5 d H locs ls h hw hl
      have h : b_X7_holds_36 E a0 p1 a2 K (l_X7_holds_36 E a0 p1 a2 K n36) v3 v4 v5 d := h
      unfold b_X7_holds_36 at h
      refine lv_iload S.1 S.2.1 (dd_at ddX7_holds 20 rfl) (lv_at hl 4 rfl) ?_
      refine lv_iload S.1 S.2.1 (dd_at ddX7_holds 21 rfl) (lv_at hl 3 rfl) ?_
      refine lv_icmp_ge (tgt := 60) S.1 S.2.1 (dd_at ddX7_holds 22 rfl) (by decide) (fun hc_1 => ?_) (fun hc_1 => ?_)
      · have h := h.1 hc_1
        refine lv_iload_n S.1 S.2.1 (dd_at ddX7_holds 31 rfl) rfl (lv_at hl 2 rfl) ?_
        refine lv_iload S.1 S.2.1 (dd_at ddX7_holds 32 rfl) (lv_at hl 3 rfl) ?_
        refine lv_icmp_ge (tgt := 73) S.1 S.2.1 (dd_at ddX7_holds 33 rfl) (by decide) (fun hc_2 => ?_) (fun hc_2 => ?_)
        · have h := h.1 hc_2
          refine lv_iconst (v := 1) S.1 S.2.1 (dd_at ddX7_holds 37 rfl) (by decide) ?_
          refine lv_goto (tgt := 78) S.1 S.2.1 (dd_at ddX7_holds 38 rfl) (by decide) ?_
          exact e_Z S hr hlocks hw (Or.inr rfl) h (dd_at ddX7_holds 40 rfl)
        · have h := h.2 hc_2
          refine lv_aload_n S.1 S.2.1 (dd_at ddX7_holds 34 rfl) rfl (lv_at hl 1 rfl) ?_
          refine r_callI hw (r_runV (As := []) (rest := []) S hw (m_X0_isTrue l D cs E d H.size a2 _) (cwV 0 S.2.2.2.2 (gV wg757 wg758 wg759 wg103 wg760) rfl rfl rfl (by decide +kernel) ⟨Nat.le_of_ble_eq_true rfl, Nat.le_of_ble_eq_true rfl⟩) (ci := 0) rfl ha2 h rfl hl.1 rfl (Nat.le_of_ble_eq_true rfl) (dd_at ddX7_holds 35 rfl) ⟨Nat.le_of_ble_eq_true rfl, Nat.le_of_ble_eq_true rfl⟩) (fun r_4 d_3 H locs h hw => ?_)
          refine lv_if_eq (tgt := 77) S.1 S.2.1 (dd_at ddX7_holds 36 rfl) (by decide) (fun hc_5 => ?_) (fun hc_5 => ?_)
          · have h := h.1 hc_5
            refine lv_iconst (v := 0) S.1 S.2.1 (dd_at ddX7_holds 39 rfl) (by decide) ?_
            exact e_Z S hr hlocks hw (Or.inl rfl) h (dd_at ddX7_holds 40 rfl)
          · have h := h.2 hc_5
            refine lv_iconst (v := 1) S.1 S.2.1 (dd_at ddX7_holds 37 rfl) (by decide) ?_
            refine lv_goto (tgt := 78) S.1 S.2.1 (dd_at ddX7_holds 38 rfl) (by decide) ?_
            exact e_Z S hr hlocks hw (Or.inr rfl) h (dd_at ddX7_holds 40 rfl)
      · have h := h.2 hc_1
        refine lv_aload_n S.1 S.2.1 (dd_at ddX7_holds 23 rfl) rfl (lv_at hl 1 rfl) ?_
        refine lv_aload_n S.1 S.2.1 (dd_at ddX7_holds 24 rfl) rfl (lv_at hl 0 rfl) ?_
        obtain ⟨b_6, hb_7, ho_8, h⟩ := h
        refine r_getR S hw 7 1 rfl inG7 (by decide) (List.mem_cons_of_mem _ wg399) (by decide) ha0 hb_7 (dd_at ddX7_holds 25 rfl) ?_
        refine lv_iload S.1 S.2.1 (dd_at ddX7_holds 26 rfl) (lv_at hl 4 rfl) ?_
        obtain ⟨hx_9, h⟩ := h
        refine r_iald S hw ho_8 hx_9 (dd_at ddX7_holds 27 rfl) ?_
        refine r_callV hw (r_runV (As := [.int (gA d b_6 (v5).toNatClampNeg)]) (rest := []) S hw (m_X0_use l D cs E d H.size a2 (gA d b_6 (v5).toNatClampNeg) _) (cwV 1 S.2.2.2.2 (gV wg742 wg743 wg744 wg103 wg745) rfl rfl rfl (by decide +kernel) ⟨Nat.le_of_ble_eq_true rfl, Nat.le_of_ble_eq_true rfl⟩) (ci := 0) rfl ha2 h rfl hl.1 rfl (Nat.le_of_ble_eq_true rfl) (dd_at ddX7_holds 28 rfl) ⟨Nat.le_of_ble_eq_true rfl, Nat.le_of_ble_eq_true rfl⟩) (fun d_10 H locs h hw => ?_)
        refine lv_iinc (v := v5 + 1) (lv' := [(5, .int (v5 + 1)), (0, .ref a0), (2, .ref a2), (3, .int v3), (4, .int v4)]) S.1 S.2.1 (dd_at ddX7_holds 29 rfl) hl (k := 4) rfl rfl (by decide) rfl (fun ls hl => ?_)
        refine lv_goto (tgt := 36) S.1 S.2.1 (dd_at ddX7_holds 30 rfl) (by decide) ?_
        exact ih36 v3 v4 (v5 + 1) d_10 H locs ls h hw (lv_sub hl [1, 2, 3, 4, 0] rfl)
  refine lv_aload_n S.1 S.2.1 (dd_at ddX7_holds 0 rfl) rfl (lv_at hl 0 rfl) ?_
  obtain ⟨b_12, hb_13, ho_14, h⟩ := h
  refine r_getR S hw 7 0 rfl inG7 (by decide) (List.mem_cons_of_mem _ wg398) (by decide) ha0 hb_13 (dd_at ddX7_holds 1 rfl) ?_
  refine lv_iload_n S.1 S.2.1 (dd_at ddX7_holds 2 rfl) rfl (lv_at hl 1 rfl) ?_
  refine lv_iconst (v := 3) S.1 S.2.1 (dd_at ddX7_holds 3 rfl) (by decide) ?_
  refine r_callI hw (r_runV (As := [.int p1, .int 3]) (rest := []) S hw (m_X6_get l D cs E d H.size b_12 p1 3 _) (cwV 2 S.2.2.2.2 (gV wg736 wg623 wg624 wg51 wg625) rfl rfl rfl (by decide +kernel) ⟨Nat.le_of_ble_eq_true rfl, Nat.le_of_ble_eq_true rfl⟩) (ci := 6) rfl ho_14 h rfl hl.1 rfl (Nat.le_of_ble_eq_true rfl) (dd_at ddX7_holds 4 rfl) ⟨Nat.le_of_ble_eq_true rfl, Nat.le_of_ble_eq_true rfl⟩) (fun r_16 d_15 H locs h hw => ?_)
  refine lv_istore_n (lv' := [(3, .int r_16), (0, .ref a0), (1, .int p1), (2, .ref a2)]) S.1 S.2.1 (dd_at ddX7_holds 5 rfl) rfl hl (by decide) rfl (fun ls hl => ?_)
  refine lv_aload_n S.1 S.2.1 (dd_at ddX7_holds 6 rfl) rfl (lv_at hl 1 rfl) ?_
  obtain ⟨b_17, hb_18, ho_19, h⟩ := h
  refine r_getR S hw 7 0 rfl inG7 (by decide) (List.mem_cons_of_mem _ wg398) (by decide) ha0 hb_18 (dd_at ddX7_holds 7 rfl) ?_
  refine lv_iload_n S.1 S.2.1 (dd_at ddX7_holds 8 rfl) rfl (lv_at hl 2 rfl) ?_
  refine lv_iconst (v := 4) S.1 S.2.1 (dd_at ddX7_holds 9 rfl) (by decide) ?_
  refine r_callI hw (r_runV (As := [.int p1, .int 4]) (rest := []) S hw (m_X6_get l D cs E d_15 H.size b_17 p1 4 _) (cwV 2 S.2.2.2.2 (gV wg736 wg623 wg624 wg51 wg625) rfl rfl rfl (by decide +kernel) ⟨Nat.le_of_ble_eq_true rfl, Nat.le_of_ble_eq_true rfl⟩) (ci := 6) rfl ho_19 h rfl hl.1 rfl (Nat.le_of_ble_eq_true rfl) (dd_at ddX7_holds 10 rfl) ⟨Nat.le_of_ble_eq_true rfl, Nat.le_of_ble_eq_true rfl⟩) (fun r_21 d_20 H locs h hw => ?_)
  refine lv_aload_n S.1 S.2.1 (dd_at ddX7_holds 11 rfl) rfl (lv_at hl 1 rfl) ?_
  obtain ⟨b_22, hb_23, ho_24, h⟩ := h
  refine r_getR S hw 7 1 rfl inG7 (by decide) (List.mem_cons_of_mem _ wg399) (by decide) ha0 hb_23 (dd_at ddX7_holds 12 rfl) ?_
  refine r_alenI S hw ho_24 (dd_at ddX7_holds 13 rfl) ?_
  refine va_mmin S.1 S.2.1 (by rw [hl.1]; exact S.2.2.1) S.2.2.2.1 (S.2.2.2.2 _ (List.mem_cons_of_mem _ wg735)) (S.2.2.2.2 _ (List.mem_cons_of_mem _ wg212)) (S.2.2.2.2 _ (List.mem_cons_of_mem _ wg70)) (S.2.2.2.2 _ (List.mem_cons_of_mem _ wg213)) (Nat.le_of_ble_eq_true rfl) (Nat.le_of_ble_eq_true rfl) (Nat.le_of_ble_eq_true rfl) (Nat.le_of_ble_eq_true rfl) (dd_at ddX7_holds 14 rfl) ?_
  refine lv_istore (lv' := [(4, .int (if (nI (eN E b_22)) < r_21 then (nI (eN E b_22)) else r_21)), (3, .int r_16), (0, .ref a0), (1, .int p1), (2, .ref a2)]) S.1 S.2.1 (dd_at ddX7_holds 15 rfl) hl (by decide) rfl (fun ls hl => ?_)
  refine lv_aload_n S.1 S.2.1 (dd_at ddX7_holds 16 rfl) rfl (lv_at hl 4 rfl) ?_
  refine r_callV hw (r_runV (As := []) (rest := []) S hw (m_X0_clear l D cs E d_20 H.size a2 _) (cwV 0 S.2.2.2.2 (gV wg737 wg738 wg739 wg103 wg740) rfl rfl rfl (by decide +kernel) ⟨Nat.le_of_ble_eq_true rfl, Nat.le_of_ble_eq_true rfl⟩) (ci := 0) rfl ha2 h rfl hl.1 rfl (Nat.le_of_ble_eq_true rfl) (dd_at ddX7_holds 17 rfl) ⟨Nat.le_of_ble_eq_true rfl, Nat.le_of_ble_eq_true rfl⟩) (fun d_25 H locs h hw => ?_)
  refine lv_iload_n S.1 S.2.1 (dd_at ddX7_holds 18 rfl) rfl (lv_at hl 1 rfl) ?_
  refine lv_istore (lv' := [(5, .int r_16), (4, .int (if (nI (eN E b_22)) < r_21 then (nI (eN E b_22)) else r_21)), (3, .int r_16), (0, .ref a0), (1, .int p1), (2, .ref a2)]) S.1 S.2.1 (dd_at ddX7_holds 19 rfl) hl (by decide) rfl (fun ls hl => ?_)
  obtain ⟨n_27, h⟩ := h
  exact tl36 n_27 r_16 (if (nI (eN E b_22)) < r_21 then (nI (eN E b_22)) else r_21) r_16 d_25 H locs ls h hw (lv_sub hl [3, 5, 2, 1, 0] rfl)

def b_X7_total_51 (E : En) (a0 : Nat) (a1 : Nat) (K : Int32 → Dy → Prop) (k4 : Int32 → Int32 → Dy → Prop) (v2 : Int32) (v3 : Int32) (s0 : Int32) (d : Dy) : Prop := ∃ b_1 : Nat, eR E a0 0 = some b_1 ∧ okO E b_1 6 ∧ w_X6_get E b_1 v3 0 d (fun r_5 d_4 => ∃ b_6 : Nat, eR E a0 0 = some b_6 ∧ okO E b_6 6 ∧ w_X6_get E b_6 v3 1 d_4 (fun r_10 d_9 => k4 (v2 + ((r_5 * r_10) * s0)) (v3 + 1) d_9))
def b_X7_total_4 (E : En) (a0 : Nat) (a1 : Nat) (K : Int32 → Dy → Prop) (k4 : Int32 → Int32 → Dy → Prop) (v2 : Int32) (v3 : Int32) (d : Dy) : Prop := ∃ b_11 : Nat, eR E a0 0 = some b_11 ∧ okO E b_11 6 ∧ w_X6_size E b_11 d (fun r_15 d_14 => ((r_15 ≤ v3 → K v2 d_14) ∧ (¬ r_15 ≤ v3 → w_X7_holds E a0 v3 a1 d_14 (fun r_18 d_17 => ((r_18 = 0 → k4 v2 (v3 + 1) d_17) ∧ (¬ r_18 = 0 → ∃ b_20 : Nat, eR E a0 0 = some b_20 ∧ okO E b_20 6 ∧ w_X6_get E b_20 v3 2 d_17 (fun r_24 d_23 => ((¬ r_24 = (-1) → w_X0_of E a1 r_24 d_23 (fun r_27 d_26 => b_X7_total_51 E a0 a1 K k4 v2 v3 r_27 d_26)) ∧ (r_24 = (-1) → b_X7_total_51 E a0 a1 K k4 v2 v3 1 d_23)))))))))
def l_X7_total_4 (E : En) (a0 : Nat) (a1 : Nat) (K : Int32 → Dy → Prop) : Nat → Int32 → Int32 → Dy → Prop
  | 0 => fun _ _ _ => False
  | n + 1 => b_X7_total_4 E a0 a1 K (l_X7_total_4 E a0 a1 K n)
def w_X7_total (E : En) (a0 : Nat) (a1 : Nat) (d : Dy) (K : Int32 → Dy → Prop) : Prop := okO E a0 7 ∧ okO E a1 0 ∧ (∃ n_28 : Nat, l_X7_total_4 E a0 a1 K n_28 0 0 d)
abbrev rm_X7_total : Room := { frames := 3, cells := 0, slots := 0, locals := 68 }
set_option maxRecDepth 100000 in
set_option maxHeartbeats 4000000 in
theorem m_X7_total (l : Launch) (D : va_G) (cs : Nat → ClassId) (E : En) (d : Dy) (sz : Nat) (a0 : Nat) (a1 : Nat) (K : Int32 → Dy → Prop) : CI l yX7_total (.code yX7_total cX7_total 6 (some .int) :: wsL_law) rm_X7_total D cs E d sz [.ref a0, .ref a1] (w_X7_total E a0 a1 d K) K := by
  refine e_of (cc := cX7_total) (maxL := 6) (ret := (some .int)) (own := RX7) (by decide) rfl rfl (Nat.le_of_ble_eq_true rfl) ?_
  intro p e s m below meth c S hr hlocks hsz H locs hw h ls hl
  have hl : lv_has ls 6 [(0, .ref a0), (1, .ref a1)] := hl
  unfold w_X7_total at h
  obtain ⟨ha0, h⟩ := h
  obtain ⟨ha1, h⟩ := h
  have tl4 : ∀ (n : Nat) (v2 : Int32) (v3 : Int32) (d : Dy) (H : Heap) (locs : List Loc) (ls : Array Slot), l_X7_total_4 E a0 a1 K n v2 v3 d → Wd D cs (AW E sz) s.heap s E d H locs → lv_has ls 6 [(0, .ref a0), (1, .ref a1), (2, .int v2), (3, .int v3)] → W p l e rm_X7_total s m ([.ref a0, .ref a1] : List Value).toArray below meth c H locs 0 0 (MQ below (va_Qi K (OutW D cs E (AW E sz)) (AW E sz)) ([.ref a0, .ref a1] : List Value).toArray s rm_X7_total.cells rm_X7_total.slots (AW E sz)) (F0 m 4 ls []) := by
    intro n4
    induction n4 with
    | zero => intro v2 v3 d H locs ls h; exact absurd h id
    | succ n4 ih4 =>
      have tb51 : ∀ (v2 : Int32) (v3 : Int32) (s0 : Int32) (d : Dy) (H : Heap) (locs : List Loc) (ls : Array Slot), b_X7_total_51 E a0 a1 K (l_X7_total_4 E a0 a1 K n4) v2 v3 s0 d → Wd D cs (AW E sz) s.heap s E d H locs → lv_has ls 6 [(0, .ref a0), (1, .ref a1), (2, .int v2), (3, .int v3)] → W p l e rm_X7_total s m ([.ref a0, .ref a1] : List Value).toArray below meth c H locs 0 0 (MQ below (va_Qi K (OutW D cs E (AW E sz)) (AW E sz)) ([.ref a0, .ref a1] : List Value).toArray s rm_X7_total.cells rm_X7_total.slots (AW E sz)) (F0 m 51 ls [.int s0]) := by
        intro v2 v3 s0 d H locs ls h hw hl
        unfold b_X7_total_51 at h
        refine lv_istore (lv' := [(5, .int s0), (0, .ref a0), (1, .ref a1), (2, .int v2), (3, .int v3)]) S.1 S.2.1 (dd_at ddX7_total 28 rfl) hl (by decide) rfl (fun ls hl => ?_)
        refine lv_iload_n S.1 S.2.1 (dd_at ddX7_total 29 rfl) rfl (lv_at hl 3 rfl) ?_
        refine lv_aload_n S.1 S.2.1 (dd_at ddX7_total 30 rfl) rfl (lv_at hl 1 rfl) ?_
        obtain ⟨b_1, hb_2, ho_3, h⟩ := h
        refine r_getR S hw 7 0 rfl inG7 (by decide) (List.mem_cons_of_mem _ wg398) (by decide) ha0 hb_2 (dd_at ddX7_total 31 rfl) ?_
        refine lv_iload_n S.1 S.2.1 (dd_at ddX7_total 32 rfl) rfl (lv_at hl 4 rfl) ?_
        refine lv_iconst (v := 0) S.1 S.2.1 (dd_at ddX7_total 33 rfl) (by decide) ?_
        refine r_callI hw (r_runV (As := [.int v3, .int 0]) (rest := [.int v2]) S hw (m_X6_get l D cs E d H.size b_1 v3 0 _) (cwV 2 S.2.2.2.2 (gV wg736 wg623 wg624 wg51 wg625) rfl rfl rfl (by decide +kernel) ⟨Nat.le_of_ble_eq_true rfl, Nat.le_of_ble_eq_true rfl⟩) (ci := 6) rfl ho_3 h rfl hl.1 rfl (Nat.le_of_ble_eq_true rfl) (dd_at ddX7_total 34 rfl) ⟨Nat.le_of_ble_eq_true rfl, Nat.le_of_ble_eq_true rfl⟩) (fun r_5 d_4 H locs h hw => ?_)
        refine lv_aload_n S.1 S.2.1 (dd_at ddX7_total 35 rfl) rfl (lv_at hl 1 rfl) ?_
        obtain ⟨b_6, hb_7, ho_8, h⟩ := h
        refine r_getR S hw 7 0 rfl inG7 (by decide) (List.mem_cons_of_mem _ wg398) (by decide) ha0 hb_7 (dd_at ddX7_total 36 rfl) ?_
        refine lv_iload_n S.1 S.2.1 (dd_at ddX7_total 37 rfl) rfl (lv_at hl 4 rfl) ?_
        refine lv_iconst (v := 1) S.1 S.2.1 (dd_at ddX7_total 38 rfl) (by decide) ?_
        refine r_callI hw (r_runV (As := [.int v3, .int 1]) (rest := [.int r_5, .int v2]) S hw (m_X6_get l D cs E d_4 H.size b_6 v3 1 _) (cwV 2 S.2.2.2.2 (gV wg736 wg623 wg624 wg51 wg625) rfl rfl rfl (by decide +kernel) ⟨Nat.le_of_ble_eq_true rfl, Nat.le_of_ble_eq_true rfl⟩) (ci := 6) rfl ho_8 h rfl hl.1 rfl (Nat.le_of_ble_eq_true rfl) (dd_at ddX7_total 39 rfl) ⟨Nat.le_of_ble_eq_true rfl, Nat.le_of_ble_eq_true rfl⟩) (fun r_10 d_9 H locs h hw => ?_)
        refine lv_imul S.1 S.2.1 (dd_at ddX7_total 40 rfl) ?_
        refine lv_iload S.1 S.2.1 (dd_at ddX7_total 41 rfl) (lv_at hl 0 rfl) ?_
        refine lv_imul S.1 S.2.1 (dd_at ddX7_total 42 rfl) ?_
        refine lv_iadd S.1 S.2.1 (dd_at ddX7_total 43 rfl) ?_
        refine lv_istore_n (lv' := [(2, .int (v2 + ((r_5 * r_10) * s0))), (5, .int s0), (0, .ref a0), (1, .ref a1), (3, .int v3)]) S.1 S.2.1 (dd_at ddX7_total 44 rfl) rfl hl (by decide) rfl (fun ls hl => ?_)
        refine lv_iinc (v := v3 + 1) (lv' := [(3, .int (v3 + 1)), (2, .int (v2 + ((r_5 * r_10) * s0))), (5, .int s0), (0, .ref a0), (1, .ref a1)]) S.1 S.2.1 (dd_at ddX7_total 45 rfl) hl (k := 4) rfl rfl (by decide) rfl (fun ls hl => ?_)
        refine lv_goto (tgt := 4) S.1 S.2.1 (dd_at ddX7_total 46 rfl) (by decide) ?_
        exact ih4 (v2 + ((r_5 * r_10) * s0)) (v3 + 1) d_9 H locs ls h hw (lv_sub hl [3, 4, 1, 0] rfl)
      intro v2 v3 d H locs ls h hw hl
      have h : b_X7_total_4 E a0 a1 K (l_X7_total_4 E a0 a1 K n4) v2 v3 d := h
      unfold b_X7_total_4 at h
      refine lv_iload_n S.1 S.2.1 (dd_at ddX7_total 4 rfl) rfl (lv_at hl 3 rfl) ?_
      refine lv_aload_n S.1 S.2.1 (dd_at ddX7_total 5 rfl) rfl (lv_at hl 0 rfl) ?_
      obtain ⟨b_11, hb_12, ho_13, h⟩ := h
      refine r_getR S hw 7 0 rfl inG7 (by decide) (List.mem_cons_of_mem _ wg398) (by decide) ha0 hb_12 (dd_at ddX7_total 6 rfl) ?_
      refine r_callI hw (r_runV (As := []) (rest := [.int v3]) S hw (m_X6_size l D cs E d H.size b_11 _) (cwV 0 S.2.2.2.2 (gV wg408 wg372 wg373 wg51 wg374) rfl rfl rfl (by decide +kernel) ⟨Nat.le_of_ble_eq_true rfl, Nat.le_of_ble_eq_true rfl⟩) (ci := 6) rfl ho_13 h rfl hl.1 rfl (Nat.le_of_ble_eq_true rfl) (dd_at ddX7_total 7 rfl) ⟨Nat.le_of_ble_eq_true rfl, Nat.le_of_ble_eq_true rfl⟩) (fun r_15 d_14 H locs h hw => ?_)
      refine lv_icmp_ge (tgt := 84) S.1 S.2.1 (dd_at ddX7_total 8 rfl) (by decide) (fun hc_16 => ?_) (fun hc_16 => ?_)
      · have h := h.1 hc_16
        refine lv_iload_n S.1 S.2.1 (dd_at ddX7_total 47 rfl) rfl (lv_at hl 2 rfl) ?_
        exact e_I S hr hlocks hw h (dd_at ddX7_total 48 rfl)
      · have h := h.2 hc_16
        refine lv_aload_n S.1 S.2.1 (dd_at ddX7_total 9 rfl) rfl (lv_at hl 0 rfl) ?_
        refine lv_iload_n S.1 S.2.1 (dd_at ddX7_total 10 rfl) rfl (lv_at hl 3 rfl) ?_
        refine lv_aload_n S.1 S.2.1 (dd_at ddX7_total 11 rfl) rfl (lv_at hl 1 rfl) ?_
        refine r_callI hw (r_runV (As := [.int v3, .ref a1]) (rest := []) S hw (m_X7_holds l D cs E d_14 H.size a0 v3 a1 _) (cwV 2 S.2.2.2.2 (gV wg972 wg732 wg733 wg370 wg734) rfl rfl rfl (by decide +kernel) ⟨Nat.le_of_ble_eq_true rfl, Nat.le_of_ble_eq_true rfl⟩) (ci := 7) rfl ha0 h rfl hl.1 rfl (Nat.le_of_ble_eq_true rfl) (dd_at ddX7_total 12 rfl) ⟨Nat.le_of_ble_eq_true rfl, Nat.le_of_ble_eq_true rfl⟩) (fun r_18 d_17 H locs h hw => ?_)
        refine lv_if_eq (tgt := 78) S.1 S.2.1 (dd_at ddX7_total 13 rfl) (by decide) (fun hc_19 => ?_) (fun hc_19 => ?_)
        · have h := h.1 hc_19
          refine lv_iinc (v := v3 + 1) (lv' := [(3, .int (v3 + 1)), (0, .ref a0), (1, .ref a1), (2, .int v2)]) S.1 S.2.1 (dd_at ddX7_total 45 rfl) hl (k := 3) rfl rfl (by decide) rfl (fun ls hl => ?_)
          refine lv_goto (tgt := 4) S.1 S.2.1 (dd_at ddX7_total 46 rfl) (by decide) ?_
          exact ih4 v2 (v3 + 1) d_17 H locs ls h hw (lv_sub hl [1, 2, 3, 0] rfl)
        · have h := h.2 hc_19
          refine lv_aload_n S.1 S.2.1 (dd_at ddX7_total 14 rfl) rfl (lv_at hl 0 rfl) ?_
          obtain ⟨b_20, hb_21, ho_22, h⟩ := h
          refine r_getR S hw 7 0 rfl inG7 (by decide) (List.mem_cons_of_mem _ wg398) (by decide) ha0 hb_21 (dd_at ddX7_total 15 rfl) ?_
          refine lv_iload_n S.1 S.2.1 (dd_at ddX7_total 16 rfl) rfl (lv_at hl 3 rfl) ?_
          refine lv_iconst (v := 2) S.1 S.2.1 (dd_at ddX7_total 17 rfl) (by decide) ?_
          refine r_callI hw (r_runV (As := [.int v3, .int 2]) (rest := []) S hw (m_X6_get l D cs E d_17 H.size b_20 v3 2 _) (cwV 2 S.2.2.2.2 (gV wg736 wg623 wg624 wg51 wg625) rfl rfl rfl (by decide +kernel) ⟨Nat.le_of_ble_eq_true rfl, Nat.le_of_ble_eq_true rfl⟩) (ci := 6) rfl ho_22 h rfl hl.1 rfl (Nat.le_of_ble_eq_true rfl) (dd_at ddX7_total 18 rfl) ⟨Nat.le_of_ble_eq_true rfl, Nat.le_of_ble_eq_true rfl⟩) (fun r_24 d_23 H locs h hw => ?_)
          refine lv_istore (lv' := [(4, .int r_24), (0, .ref a0), (1, .ref a1), (2, .int v2), (3, .int v3)]) S.1 S.2.1 (dd_at ddX7_total 19 rfl) hl (by decide) rfl (fun ls hl => ?_)
          refine lv_iload S.1 S.2.1 (dd_at ddX7_total 20 rfl) (lv_at hl 0 rfl) ?_
          refine lv_iconst (v := -1) S.1 S.2.1 (dd_at ddX7_total 21 rfl) (by decide) ?_
          refine lv_icmp_ne (tgt := 45) S.1 S.2.1 (dd_at ddX7_total 22 rfl) (by decide) (fun hc_25 => ?_) (fun hc_25 => ?_)
          · have h := h.1 hc_25
            refine lv_aload_n S.1 S.2.1 (dd_at ddX7_total 25 rfl) rfl (lv_at hl 2 rfl) ?_
            refine lv_iload S.1 S.2.1 (dd_at ddX7_total 26 rfl) (lv_at hl 0 rfl) ?_
            refine r_callI hw (r_runV (As := [.int r_24]) (rest := []) S hw (m_X0_of l D cs E d_23 H.size a1 r_24 _) (cwV 1 S.2.2.2.2 (gV wg973 wg751 wg752 wg103 wg753) rfl rfl rfl (by decide +kernel) ⟨Nat.le_of_ble_eq_true rfl, Nat.le_of_ble_eq_true rfl⟩) (ci := 0) rfl ha1 h rfl hl.1 rfl (Nat.le_of_ble_eq_true rfl) (dd_at ddX7_total 27 rfl) ⟨Nat.le_of_ble_eq_true rfl, Nat.le_of_ble_eq_true rfl⟩) (fun r_27 d_26 H locs h hw => ?_)
            exact tb51 v2 v3 r_27 d_26 H locs ls h hw (lv_sub hl [1, 2, 3, 4] rfl)
          · have h := h.2 hc_25
            refine lv_iconst (v := 1) S.1 S.2.1 (dd_at ddX7_total 23 rfl) (by decide) ?_
            refine lv_goto (tgt := 51) S.1 S.2.1 (dd_at ddX7_total 24 rfl) (by decide) ?_
            exact tb51 v2 v3 1 d_23 H locs ls h hw (lv_sub hl [1, 2, 3, 4] rfl)
  refine lv_iconst (v := 0) S.1 S.2.1 (dd_at ddX7_total 0 rfl) (by decide) ?_
  refine lv_istore_n (lv' := [(2, .int 0), (0, .ref a0), (1, .ref a1)]) S.1 S.2.1 (dd_at ddX7_total 1 rfl) rfl hl (by decide) rfl (fun ls hl => ?_)
  refine lv_iconst (v := 0) S.1 S.2.1 (dd_at ddX7_total 2 rfl) (by decide) ?_
  refine lv_istore_n (lv' := [(3, .int 0), (2, .int 0), (0, .ref a0), (1, .ref a1)]) S.1 S.2.1 (dd_at ddX7_total 3 rfl) rfl hl (by decide) rfl (fun ls hl => ?_)
  obtain ⟨n_28, h⟩ := h
  exact tl4 n_28 0 0 d H locs ls h hw (lv_sub hl [2, 3, 1, 0] rfl)

def w_X7_init (E : En) (a0 : Nat) (a1 : Nat) (a2 : Nat) (d : Dy) (K : En → Dy → Prop) : Prop := okO E a0 7 ∧ okO E a1 6 ∧ okA E a2 13 ∧ K (sR (sR E a0 0 (some a1)) a0 1 (some a2)) d
abbrev rm_X7_init : Room := { frames := 1, cells := 0, slots := 0, locals := 24 }
set_option maxRecDepth 100000 in
set_option maxHeartbeats 4000000 in
theorem m_X7_init (l : Launch) (D : va_G) (cs : Nat → ClassId) (E : En) (d : Dy) (sz : Nat) (a0 : Nat) (a1 : Nat) (a2 : Nat) (K : En → Dy → Prop) : LV l yX7_init (.code yX7_init cX7_init 3 none :: wsL_law) rm_X7_init D cs E d sz [.ref a0, .ref a1, .ref a2] (w_X7_init E a0 a1 a2 d K) K := by
  refine e_ofN (cc := cX7_init) (maxL := 3) (ret := none) (own := RX7) (by decide) rfl rfl (Nat.le_of_ble_eq_true rfl) ?_
  intro p e s m below meth c S hr hlocks hinit hsz H locs hw h ls hl
  have hx : Ext E E := Ext_rf E
  have hinit : meth.name = "<init>" := hinit
  have hl : lv_has ls 3 [(0, .ref a0), (1, .ref a1), (2, .ref a2)] := hl
  unfold w_X7_init at h
  obtain ⟨ha0, h⟩ := h
  obtain ⟨ha1, h⟩ := h
  obtain ⟨ha2, h⟩ := h
  refine lv_aload_n S.1 S.2.1 (dd_at ddX7_init 0 rfl) rfl (lv_at hl 0 rfl) ?_
  refine W.objInit S.1 S.2.1 S.2.2.2.1 (S.2.2.2.2 _ (List.mem_cons_of_mem _ wg397)) (S.2.2.2.2 _ (List.mem_cons_of_mem _ wg11)) (S.2.2.2.2 _ (List.mem_cons_of_mem _ wg12)) rfl (by rw [S.2.2.1]; exact hl.1) rfl (dd_at ddX7_init 1 rfl) (Nat.le_of_ble_eq_true rfl) (Nat.le_of_ble_eq_true rfl) ?_
  refine W.eq (g2 := F0 m 4 ls []) rfl ?_
  refine lv_aload_n S.1 S.2.1 (dd_at ddX7_init 2 rfl) rfl (lv_at hl 0 rfl) ?_
  refine lv_aload_n S.1 S.2.1 (dd_at ddX7_init 3 rfl) rfl (lv_at hl 1 rfl) ?_
  refine r_putRF S hw hinit 7 0 (ty := (.object "HutRow$Table")) rfl inG7 tyX7 tyX7_ok nmX7 (by decide) (List.mem_cons_of_mem _ wg398) (by decide) rfl rfl (by decide +kernel) rfl rfl ha0 (dd_at ddX7_init 4 rfl) (fun H locs hw => ?_)
  have ha0 := Ext_O (Ext_sR _ a0 0 (some a1)) ha0
  have ha1 := Ext_O (Ext_sR _ a0 0 (some a1)) ha1
  have ha2 := Ext_A (Ext_sR _ a0 0 (some a1)) ha2
  have hx := Ext_tr hx (Ext_sR _ a0 0 (some a1))
  refine lv_aload_n S.1 S.2.1 (dd_at ddX7_init 5 rfl) rfl (lv_at hl 0 rfl) ?_
  refine lv_aload_n S.1 S.2.1 (dd_at ddX7_init 6 rfl) rfl (lv_at hl 2 rfl) ?_
  refine r_putRF S hw hinit 7 1 (ty := (.array .int)) rfl inG7 tyX7 tyX7_ok nmX7 (by decide) (List.mem_cons_of_mem _ wg399) (by decide) rfl rfl (by decide +kernel) rfl rfl ha0 (dd_at ddX7_init 7 rfl) (fun H locs hw => ?_)
  have ha0 := Ext_O (Ext_sR _ a0 1 (some a2)) ha0
  have ha1 := Ext_O (Ext_sR _ a0 1 (some a2)) ha1
  have ha2 := Ext_A (Ext_sR _ a0 1 (some a2)) ha2
  have hx := Ext_tr hx (Ext_sR _ a0 1 (some a2))
  exact e_VL S hr hlocks hw hx h (dd_at ddX7_init 8 rfl)

def w_X7_size (E : En) (a0 : Nat) (d : Dy) (K : Int32 → Dy → Prop) : Prop := okO E a0 7 ∧ ∃ b_1 : Nat, eR E a0 0 = some b_1 ∧ okO E b_1 6 ∧ w_X6_size E b_1 d (fun r_5 d_4 => K r_5 d_4)
abbrev rm_X7_size : Room := { frames := 1, cells := 0, slots := 0, locals := 20 }
set_option maxRecDepth 100000 in
set_option maxHeartbeats 4000000 in
theorem m_X7_size (l : Launch) (D : va_G) (cs : Nat → ClassId) (E : En) (d : Dy) (sz : Nat) (a0 : Nat) (K : Int32 → Dy → Prop) : CI l yX7_size (.code yX7_size cX7_size 1 (some .int) :: wsL_law) rm_X7_size D cs E d sz [.ref a0] (w_X7_size E a0 d K) K := by
  refine e_of (cc := cX7_size) (maxL := 1) (ret := (some .int)) (own := RX7) (by decide) rfl rfl (Nat.le_of_ble_eq_true rfl) ?_
  intro p e s m below meth c S hr hlocks hsz H locs hw h ls hl
  have hl : lv_has ls 1 [(0, .ref a0)] := hl
  unfold w_X7_size at h
  obtain ⟨ha0, h⟩ := h
  refine lv_aload_n S.1 S.2.1 (dd_at ddX7_size 0 rfl) rfl (lv_at hl 0 rfl) ?_
  obtain ⟨b_1, hb_2, ho_3, h⟩ := h
  refine r_getR S hw 7 0 rfl inG7 (by decide) (List.mem_cons_of_mem _ wg398) (by decide) ha0 hb_2 (dd_at ddX7_size 1 rfl) ?_
  refine r_callI hw (r_runV (As := []) (rest := []) S hw (m_X6_size l D cs E d H.size b_1 _) (cwV 0 S.2.2.2.2 (gV wg408 wg372 wg373 wg51 wg374) rfl rfl rfl (by decide +kernel) ⟨Nat.le_of_ble_eq_true rfl, Nat.le_of_ble_eq_true rfl⟩) (ci := 6) rfl ho_3 h rfl hl.1 rfl (Nat.le_of_ble_eq_true rfl) (dd_at ddX7_size 2 rfl) ⟨Nat.le_of_ble_eq_true rfl, Nat.le_of_ble_eq_true rfl⟩) (fun r_5 d_4 H locs h hw => ?_)
  exact e_I S hr hlocks hw h (dd_at ddX7_size 3 rfl)

def w_X7_what (E : En) (a0 : Nat) (p1 : Int32) (d : Dy) (K : Int32 → Dy → Prop) : Prop := okO E a0 7 ∧ ∃ b_1 : Nat, eR E a0 0 = some b_1 ∧ okO E b_1 6 ∧ w_X6_get E b_1 p1 0 d (fun r_5 d_4 => K r_5 d_4)
abbrev rm_X7_what : Room := { frames := 1, cells := 0, slots := 0, locals := 23 }
set_option maxRecDepth 100000 in
set_option maxHeartbeats 4000000 in
theorem m_X7_what (l : Launch) (D : va_G) (cs : Nat → ClassId) (E : En) (d : Dy) (sz : Nat) (a0 : Nat) (p1 : Int32) (K : Int32 → Dy → Prop) : CI l yX7_what (.code yX7_what cX7_what 2 (some .int) :: wsL_law) rm_X7_what D cs E d sz [.ref a0, .int p1] (w_X7_what E a0 p1 d K) K := by
  refine e_of (cc := cX7_what) (maxL := 2) (ret := (some .int)) (own := RX7) (by decide) rfl rfl (Nat.le_of_ble_eq_true rfl) ?_
  intro p e s m below meth c S hr hlocks hsz H locs hw h ls hl
  have hl : lv_has ls 2 [(0, .ref a0), (1, .int p1)] := hl
  unfold w_X7_what at h
  obtain ⟨ha0, h⟩ := h
  refine lv_aload_n S.1 S.2.1 (dd_at ddX7_what 0 rfl) rfl (lv_at hl 0 rfl) ?_
  obtain ⟨b_1, hb_2, ho_3, h⟩ := h
  refine r_getR S hw 7 0 rfl inG7 (by decide) (List.mem_cons_of_mem _ wg398) (by decide) ha0 hb_2 (dd_at ddX7_what 1 rfl) ?_
  refine lv_iload_n S.1 S.2.1 (dd_at ddX7_what 2 rfl) rfl (lv_at hl 1 rfl) ?_
  refine lv_iconst (v := 0) S.1 S.2.1 (dd_at ddX7_what 3 rfl) (by decide) ?_
  refine r_callI hw (r_runV (As := [.int p1, .int 0]) (rest := []) S hw (m_X6_get l D cs E d H.size b_1 p1 0 _) (cwV 2 S.2.2.2.2 (gV wg736 wg623 wg624 wg51 wg625) rfl rfl rfl (by decide +kernel) ⟨Nat.le_of_ble_eq_true rfl, Nat.le_of_ble_eq_true rfl⟩) (ci := 6) rfl ho_3 h rfl hl.1 rfl (Nat.le_of_ble_eq_true rfl) (dd_at ddX7_what 4 rfl) ⟨Nat.le_of_ble_eq_true rfl, Nat.le_of_ble_eq_true rfl⟩) (fun r_5 d_4 H locs h hw => ?_)
  exact e_I S hr hlocks hw h (dd_at ddX7_what 5 rfl)

def b_X7_colours_4 (E : En) (a0 : Nat) (a1 : Nat) (K : Int32 → Dy → Prop) (k4 : Int32 → Int32 → Dy → Prop) (v2 : Int32) (v3 : Int32) (d : Dy) : Prop := ∃ b_1 : Nat, eR E a0 0 = some b_1 ∧ okO E b_1 6 ∧ w_X6_size E b_1 d (fun r_5 d_4 => ((r_5 ≤ v3 → K v2 d_4) ∧ (¬ r_5 ≤ v3 → w_X7_holds E a0 v3 a1 d_4 (fun r_8 d_7 => ((r_8 = 0 → k4 v2 (v3 + 1) d_7) ∧ (¬ r_8 = 0 → ∃ b_10 : Nat, eR E a0 0 = some b_10 ∧ okO E b_10 6 ∧ w_X6_get E b_10 v3 0 d_7 (fun r_14 d_13 => k4 (v2 ||| ((1 : Int32) <<< (r_14 &&& 31))) (v3 + 1) d_13)))))))
def l_X7_colours_4 (E : En) (a0 : Nat) (a1 : Nat) (K : Int32 → Dy → Prop) : Nat → Int32 → Int32 → Dy → Prop
  | 0 => fun _ _ _ => False
  | n + 1 => b_X7_colours_4 E a0 a1 K (l_X7_colours_4 E a0 a1 K n)
def w_X7_colours (E : En) (a0 : Nat) (a1 : Nat) (d : Dy) (K : Int32 → Dy → Prop) : Prop := okO E a0 7 ∧ okO E a1 0 ∧ (∃ n_15 : Nat, l_X7_colours_4 E a0 a1 K n_15 0 0 d)
abbrev rm_X7_colours : Room := { frames := 3, cells := 0, slots := 0, locals := 68 }
set_option maxRecDepth 100000 in
set_option maxHeartbeats 4000000 in
theorem m_X7_colours (l : Launch) (D : va_G) (cs : Nat → ClassId) (E : En) (d : Dy) (sz : Nat) (a0 : Nat) (a1 : Nat) (K : Int32 → Dy → Prop) : CI l yX7_colours (.code yX7_colours cX7_colours 4 (some .int) :: wsL_law) rm_X7_colours D cs E d sz [.ref a0, .ref a1] (w_X7_colours E a0 a1 d K) K := by
  refine e_of (cc := cX7_colours) (maxL := 4) (ret := (some .int)) (own := RX7) (by decide) rfl rfl (Nat.le_of_ble_eq_true rfl) ?_
  intro p e s m below meth c S hr hlocks hsz H locs hw h ls hl
  have hl : lv_has ls 4 [(0, .ref a0), (1, .ref a1)] := hl
  unfold w_X7_colours at h
  obtain ⟨ha0, h⟩ := h
  obtain ⟨ha1, h⟩ := h
  have tl4 : ∀ (n : Nat) (v2 : Int32) (v3 : Int32) (d : Dy) (H : Heap) (locs : List Loc) (ls : Array Slot), l_X7_colours_4 E a0 a1 K n v2 v3 d → Wd D cs (AW E sz) s.heap s E d H locs → lv_has ls 4 [(0, .ref a0), (1, .ref a1), (2, .int v2), (3, .int v3)] → W p l e rm_X7_colours s m ([.ref a0, .ref a1] : List Value).toArray below meth c H locs 0 0 (MQ below (va_Qi K (OutW D cs E (AW E sz)) (AW E sz)) ([.ref a0, .ref a1] : List Value).toArray s rm_X7_colours.cells rm_X7_colours.slots (AW E sz)) (F0 m 4 ls []) := by
    intro n4
    induction n4 with
    | zero => intro v2 v3 d H locs ls h; exact absurd h id
    | succ n4 ih4 =>
      intro v2 v3 d H locs ls h hw hl
      have h : b_X7_colours_4 E a0 a1 K (l_X7_colours_4 E a0 a1 K n4) v2 v3 d := h
      unfold b_X7_colours_4 at h
      refine lv_iload_n S.1 S.2.1 (dd_at ddX7_colours 4 rfl) rfl (lv_at hl 3 rfl) ?_
      refine lv_aload_n S.1 S.2.1 (dd_at ddX7_colours 5 rfl) rfl (lv_at hl 0 rfl) ?_
      obtain ⟨b_1, hb_2, ho_3, h⟩ := h
      refine r_getR S hw 7 0 rfl inG7 (by decide) (List.mem_cons_of_mem _ wg398) (by decide) ha0 hb_2 (dd_at ddX7_colours 6 rfl) ?_
      refine r_callI hw (r_runV (As := []) (rest := [.int v3]) S hw (m_X6_size l D cs E d H.size b_1 _) (cwV 0 S.2.2.2.2 (gV wg408 wg372 wg373 wg51 wg374) rfl rfl rfl (by decide +kernel) ⟨Nat.le_of_ble_eq_true rfl, Nat.le_of_ble_eq_true rfl⟩) (ci := 6) rfl ho_3 h rfl hl.1 rfl (Nat.le_of_ble_eq_true rfl) (dd_at ddX7_colours 7 rfl) ⟨Nat.le_of_ble_eq_true rfl, Nat.le_of_ble_eq_true rfl⟩) (fun r_5 d_4 H locs h hw => ?_)
      refine lv_icmp_ge (tgt := 44) S.1 S.2.1 (dd_at ddX7_colours 8 rfl) (by decide) (fun hc_6 => ?_) (fun hc_6 => ?_)
      · have h := h.1 hc_6
        refine lv_iload_n S.1 S.2.1 (dd_at ddX7_colours 26 rfl) rfl (lv_at hl 2 rfl) ?_
        exact e_I S hr hlocks hw h (dd_at ddX7_colours 27 rfl)
      · have h := h.2 hc_6
        refine lv_aload_n S.1 S.2.1 (dd_at ddX7_colours 9 rfl) rfl (lv_at hl 0 rfl) ?_
        refine lv_iload_n S.1 S.2.1 (dd_at ddX7_colours 10 rfl) rfl (lv_at hl 3 rfl) ?_
        refine lv_aload_n S.1 S.2.1 (dd_at ddX7_colours 11 rfl) rfl (lv_at hl 1 rfl) ?_
        refine r_callI hw (r_runV (As := [.int v3, .ref a1]) (rest := []) S hw (m_X7_holds l D cs E d_4 H.size a0 v3 a1 _) (cwV 2 S.2.2.2.2 (gV wg972 wg732 wg733 wg370 wg734) rfl rfl rfl (by decide +kernel) ⟨Nat.le_of_ble_eq_true rfl, Nat.le_of_ble_eq_true rfl⟩) (ci := 7) rfl ha0 h rfl hl.1 rfl (Nat.le_of_ble_eq_true rfl) (dd_at ddX7_colours 12 rfl) ⟨Nat.le_of_ble_eq_true rfl, Nat.le_of_ble_eq_true rfl⟩) (fun r_8 d_7 H locs h hw => ?_)
        refine lv_if_eq (tgt := 38) S.1 S.2.1 (dd_at ddX7_colours 13 rfl) (by decide) (fun hc_9 => ?_) (fun hc_9 => ?_)
        · have h := h.1 hc_9
          refine lv_iinc (v := v3 + 1) (lv' := [(3, .int (v3 + 1)), (0, .ref a0), (1, .ref a1), (2, .int v2)]) S.1 S.2.1 (dd_at ddX7_colours 24 rfl) hl (k := 3) rfl rfl (by decide) rfl (fun ls hl => ?_)
          refine lv_goto (tgt := 4) S.1 S.2.1 (dd_at ddX7_colours 25 rfl) (by decide) ?_
          exact ih4 v2 (v3 + 1) d_7 H locs ls h hw (lv_sub hl [1, 2, 3, 0] rfl)
        · have h := h.2 hc_9
          refine lv_iload_n S.1 S.2.1 (dd_at ddX7_colours 14 rfl) rfl (lv_at hl 2 rfl) ?_
          refine lv_iconst (v := 1) S.1 S.2.1 (dd_at ddX7_colours 15 rfl) (by decide) ?_
          refine lv_aload_n S.1 S.2.1 (dd_at ddX7_colours 16 rfl) rfl (lv_at hl 0 rfl) ?_
          obtain ⟨b_10, hb_11, ho_12, h⟩ := h
          refine r_getR S hw 7 0 rfl inG7 (by decide) (List.mem_cons_of_mem _ wg398) (by decide) ha0 hb_11 (dd_at ddX7_colours 17 rfl) ?_
          refine lv_iload_n S.1 S.2.1 (dd_at ddX7_colours 18 rfl) rfl (lv_at hl 3 rfl) ?_
          refine lv_iconst (v := 0) S.1 S.2.1 (dd_at ddX7_colours 19 rfl) (by decide) ?_
          refine r_callI hw (r_runV (As := [.int v3, .int 0]) (rest := [.int 1, .int v2]) S hw (m_X6_get l D cs E d_7 H.size b_10 v3 0 _) (cwV 2 S.2.2.2.2 (gV wg736 wg623 wg624 wg51 wg625) rfl rfl rfl (by decide +kernel) ⟨Nat.le_of_ble_eq_true rfl, Nat.le_of_ble_eq_true rfl⟩) (ci := 6) rfl ho_12 h rfl hl.1 rfl (Nat.le_of_ble_eq_true rfl) (dd_at ddX7_colours 20 rfl) ⟨Nat.le_of_ble_eq_true rfl, Nat.le_of_ble_eq_true rfl⟩) (fun r_14 d_13 H locs h hw => ?_)
          refine lv_ishl S.1 S.2.1 (dd_at ddX7_colours 21 rfl) ?_
          refine lv_ior S.1 S.2.1 (dd_at ddX7_colours 22 rfl) ?_
          refine lv_istore_n (lv' := [(2, .int (v2 ||| ((1 : Int32) <<< (r_14 &&& 31)))), (0, .ref a0), (1, .ref a1), (3, .int v3)]) S.1 S.2.1 (dd_at ddX7_colours 23 rfl) rfl hl (by decide) rfl (fun ls hl => ?_)
          refine lv_iinc (v := v3 + 1) (lv' := [(3, .int (v3 + 1)), (2, .int (v2 ||| ((1 : Int32) <<< (r_14 &&& 31)))), (0, .ref a0), (1, .ref a1)]) S.1 S.2.1 (dd_at ddX7_colours 24 rfl) hl (k := 3) rfl rfl (by decide) rfl (fun ls hl => ?_)
          refine lv_goto (tgt := 4) S.1 S.2.1 (dd_at ddX7_colours 25 rfl) (by decide) ?_
          exact ih4 (v2 ||| ((1 : Int32) <<< (r_14 &&& 31))) (v3 + 1) d_13 H locs ls h hw (lv_sub hl [2, 3, 1, 0] rfl)
  refine lv_iconst (v := 0) S.1 S.2.1 (dd_at ddX7_colours 0 rfl) (by decide) ?_
  refine lv_istore_n (lv' := [(2, .int 0), (0, .ref a0), (1, .ref a1)]) S.1 S.2.1 (dd_at ddX7_colours 1 rfl) rfl hl (by decide) rfl (fun ls hl => ?_)
  refine lv_iconst (v := 0) S.1 S.2.1 (dd_at ddX7_colours 2 rfl) (by decide) ?_
  refine lv_istore_n (lv' := [(3, .int 0), (2, .int 0), (0, .ref a0), (1, .ref a1)]) S.1 S.2.1 (dd_at ddX7_colours 3 rfl) rfl hl (by decide) rfl (fun ls hl => ?_)
  obtain ⟨n_15, h⟩ := h
  exact tl4 n_15 0 0 d H locs ls h hw (lv_sub hl [2, 3, 1, 0] rfl)

def w_X8_init (E : En) (a0 : Nat) (d : Dy) (K : En → Dy → Prop) : Prop := okO E a0 8 ∧ ∀ q_1 : Nat, q_1 ∉ eL E → w_X6_init (nE E q_1 6 0) q_1 12 3 (nD (pI d a0 0 1980) q_1) (fun E_4 d_5 => ∀ q_7 : Nat, q_7 ∉ eL (sR E_4 a0 1 (some q_1)) → w_X6_init (nE (sR E_4 a0 1 (some q_1)) q_7 6 0) q_7 10 7 (nD d_5 q_7) (fun E_10 d_11 => ∀ q_13 : Nat, q_13 ∉ eL (sR E_10 a0 2 (some q_7)) → w_X6_init (nE (sR E_10 a0 2 (some q_7)) q_13 6 0) q_13 40 6 (nD d_11 q_13) (fun E_16 d_17 => ∀ q_19 : Nat, q_19 ∉ eL (sR E_16 a0 3 (some q_13)) → w_X6_init (nE (sR E_16 a0 3 (some q_13)) q_19 6 0) q_19 10 3 (nD d_17 q_19) (fun E_22 d_23 => ∀ q_25 : Nat, q_25 ∉ eL (sR E_22 a0 4 (some q_19)) → w_X6_init (nE (sR E_22 a0 4 (some q_19)) q_25 6 0) q_25 20 1 (nD d_23 q_25) (fun E_28 d_29 => ∀ q_31 : Nat, q_31 ∉ eL (sR E_28 a0 5 (some q_25)) → w_X6_init (nE (sR E_28 a0 5 (some q_25)) q_31 6 0) q_31 60 1 (nD d_29 q_31) (fun E_34 d_35 => ∀ q_37 : Nat, q_37 ∉ eL (sR E_34 a0 6 (some q_31)) → w_X6_init (nE (sR E_34 a0 6 (some q_31)) q_37 6 0) q_37 10 3 (nD d_35 q_37) (fun E_40 d_41 => ∀ q_43 : Nat, q_43 ∉ eL (sR E_40 a0 7 (some q_37)) → w_X6_init (nE (sR E_40 a0 7 (some q_37)) q_43 6 0) q_43 8 3 (nD d_41 q_43) (fun E_46 d_47 => ∀ q_49 : Nat, q_49 ∉ eL (sR E_46 a0 8 (some q_43)) → w_X6_init (nE (sR E_46 a0 8 (some q_43)) q_49 6 0) q_49 20 3 (nD d_47 q_49) (fun E_52 d_53 => ∀ q_55 : Nat, q_55 ∉ eL (sR E_52 a0 9 (some q_49)) → w_X6_init (nE (sR E_52 a0 9 (some q_49)) q_55 6 0) q_55 12 1 (nD d_53 q_55) (fun E_58 d_59 => ∀ q_61 : Nat, q_61 ∉ eL (sR E_58 a0 10 (some q_55)) → ∃ b_64 : Nat, eR (sR (nE (sR E_58 a0 10 (some q_55)) q_61 16 ((4 : Int32)).toNatClampNeg) a0 11 (some q_61)) a0 6 = some b_64 ∧ okO (sR (nE (sR E_58 a0 10 (some q_55)) q_61 16 ((4 : Int32)).toNatClampNeg) a0 11 (some q_61)) b_64 6 ∧ w_X6_openAll (sR (nE (sR E_58 a0 10 (some q_55)) q_61 16 ((4 : Int32)).toNatClampNeg) a0 11 (some q_61)) b_64 (nD d_59 q_61) (fun d_67 => K (sR (nE (sR E_58 a0 10 (some q_55)) q_61 16 ((4 : Int32)).toNatClampNeg) a0 11 (some q_61)) d_67)))))))))))
abbrev rm_X8_init : Room := { frames := 2, cells := 21, slots := 4044, locals := 62 }
set_option maxRecDepth 100000 in
set_option maxHeartbeats 4000000 in
theorem m_X8_init (l : Launch) (D : va_G) (cs : Nat → ClassId) (E : En) (d : Dy) (sz : Nat) (a0 : Nat) (K : En → Dy → Prop) : LV l yX8_init (.code yX8_init cX8_init 1 none :: wsL_law) rm_X8_init D cs E d sz [.ref a0] (w_X8_init E a0 d K) K := by
  refine e_ofN (cc := cX8_init) (maxL := 1) (ret := none) (own := RX8) (by decide) rfl rfl (Nat.le_of_ble_eq_true rfl) ?_
  intro p e s m below meth c S hr hlocks hinit hsz H locs hw h ls hl
  have hx : Ext E E := Ext_rf E
  have hinit : meth.name = "<init>" := hinit
  have hl : lv_has ls 1 [(0, .ref a0)] := hl
  unfold w_X8_init at h
  obtain ⟨ha0, h⟩ := h
  refine lv_aload_n S.1 S.2.1 (dd_at ddX8_init 0 rfl) rfl (lv_at hl 0 rfl) ?_
  refine W.objInit S.1 S.2.1 S.2.2.2.1 (S.2.2.2.2 _ (List.mem_cons_of_mem _ wg47)) (S.2.2.2.2 _ (List.mem_cons_of_mem _ wg11)) (S.2.2.2.2 _ (List.mem_cons_of_mem _ wg12)) rfl (by rw [S.2.2.1]; exact hl.1) rfl (dd_at ddX8_init 1 rfl) (Nat.le_of_ble_eq_true rfl) (Nat.le_of_ble_eq_true rfl) ?_
  refine W.eq (g2 := F0 m 4 ls []) rfl ?_
  refine lv_aload_n S.1 S.2.1 (dd_at ddX8_init 2 rfl) rfl (lv_at hl 0 rfl) ?_
  refine lv_sipush (v := 1980) S.1 S.2.1 (dd_at ddX8_init 3 rfl) (by decide) ?_
  refine r_putI S hw 8 0 (ty := .int) (v := 1980) rfl inG8 tyX8 tyX8_ok nmX8 (by decide) (List.mem_cons_of_mem _ wg48) (by decide) rfl (by decide +kernel) rfl rfl ha0 (dd_at ddX8_init 4 rfl) (fun H locs hw => ?_)
  refine lv_aload_n S.1 S.2.1 (dd_at ddX8_init 5 rfl) rfl (lv_at hl 0 rfl) ?_
  refine r_new S hw 6 rfl (by decide) inG6 tyX6 tyX6_ok (List.mem_cons_of_mem _ wg49) (List.mem_cons_of_mem _ wg50) (List.mem_cons_of_mem _ wg51) dF6 (Nat.le_of_ble_eq_true rfl) (Nat.le_of_ble_eq_true rfl) (dd_at ddX8_init 6 rfl) (fun q_1 H hq_2 hw => ?_)
  refine W.widen (k := 1) (n := 4) (Nat.le_of_ble_eq_true rfl) (Nat.le_of_ble_eq_true rfl) ?_
  have h := h q_1 hq_2
  have ha0 := Ext_O (Ext_nE 6 0 hq_2) ha0
  have hx := Ext_tr hx (Ext_nE 6 0 hq_2)
  have ho_3 := okO_new E q_1 0 (ci := 6) (by decide)
  refine lv_dup S.1 S.2.1 (dd_at ddX8_init 7 rfl) rfl ?_
  refine lv_bipush (v := 12) S.1 S.2.1 (dd_at ddX8_init 8 rfl) (by decide) ?_
  refine lv_iconst (v := 3) S.1 S.2.1 (dd_at ddX8_init 9 rfl) (by decide) ?_
  refine r_callVL hw (r_runI (As := [.int 12, .int 3]) (rest := [.ref q_1, .ref a0]) S hw (m_X6_init l D cs (nE E q_1 6 0) (nD (pI d a0 0 1980) q_1) H.size q_1 12 3 _) (cwI 2 S.2.2.2.2 (gC wg66) rfl rfl rfl (S.2.2.2.2 _ (List.mem_cons_of_mem _ wg51)) (S.2.2.2.2 _ (List.mem_cons_of_mem _ wg64)) (S.2.2.2.2 _ (List.mem_cons_of_mem _ wg65)) rfl (by decide +kernel) ⟨Nat.le_of_ble_eq_true rfl, Nat.le_of_ble_eq_true rfl⟩) h rfl hl.1 rfl (Nat.le_of_ble_eq_true rfl) (dd_at ddX8_init 10 rfl) ⟨Nat.le_of_ble_eq_true rfl, Nat.le_of_ble_eq_true rfl⟩) (fun E_4 d_5 H locs h hx_6 hw => ?_)
  have ha0 := Ext_O hx_6 ha0
  have ho_3 := Ext_O hx_6 ho_3
  have hx := Ext_tr hx hx_6
  refine r_putRF S hw hinit 8 1 (ty := (.object "HutRow$Table")) rfl inG8 tyX8 tyX8_ok nmX8 (by decide) (List.mem_cons_of_mem _ wg52) (by decide) rfl rfl (by decide +kernel) rfl rfl ha0 (dd_at ddX8_init 11 rfl) (fun H locs hw => ?_)
  have ha0 := Ext_O (Ext_sR _ a0 1 (some q_1)) ha0
  have ho_3 := Ext_O (Ext_sR _ a0 1 (some q_1)) ho_3
  have hx := Ext_tr hx (Ext_sR _ a0 1 (some q_1))
  refine lv_aload_n S.1 S.2.1 (dd_at ddX8_init 12 rfl) rfl (lv_at hl 0 rfl) ?_
  refine r_new S hw 6 rfl (by decide) inG6 tyX6 tyX6_ok (List.mem_cons_of_mem _ wg49) (List.mem_cons_of_mem _ wg50) (List.mem_cons_of_mem _ wg51) dF6 (Nat.le_of_ble_eq_true rfl) (Nat.le_of_ble_eq_true rfl) (dd_at ddX8_init 13 rfl) (fun q_7 H hq_8 hw => ?_)
  refine W.widen (k := 3) (n := 408) (Nat.le_of_ble_eq_true rfl) (Nat.le_of_ble_eq_true rfl) ?_
  have h := h q_7 hq_8
  have ha0 := Ext_O (Ext_nE 6 0 hq_8) ha0
  have ho_3 := Ext_O (Ext_nE 6 0 hq_8) ho_3
  have hx := Ext_tr hx (Ext_nE 6 0 hq_8)
  have ho_9 := okO_new (sR E_4 a0 1 (some q_1)) q_7 0 (ci := 6) (by decide)
  refine lv_dup S.1 S.2.1 (dd_at ddX8_init 14 rfl) rfl ?_
  refine lv_bipush (v := 10) S.1 S.2.1 (dd_at ddX8_init 15 rfl) (by decide) ?_
  refine lv_bipush (v := 7) S.1 S.2.1 (dd_at ddX8_init 16 rfl) (by decide) ?_
  refine r_callVL hw (r_runI (As := [.int 10, .int 7]) (rest := [.ref q_7, .ref a0]) S hw (m_X6_init l D cs (nE (sR E_4 a0 1 (some q_1)) q_7 6 0) (nD d_5 q_7) H.size q_7 10 7 _) (cwI 2 S.2.2.2.2 (gC wg66) rfl rfl rfl (S.2.2.2.2 _ (List.mem_cons_of_mem _ wg51)) (S.2.2.2.2 _ (List.mem_cons_of_mem _ wg64)) (S.2.2.2.2 _ (List.mem_cons_of_mem _ wg65)) rfl (by decide +kernel) ⟨Nat.le_of_ble_eq_true rfl, Nat.le_of_ble_eq_true rfl⟩) h rfl hl.1 rfl (Nat.le_of_ble_eq_true rfl) (dd_at ddX8_init 17 rfl) ⟨Nat.le_of_ble_eq_true rfl, Nat.le_of_ble_eq_true rfl⟩) (fun E_10 d_11 H locs h hx_12 hw => ?_)
  have ha0 := Ext_O hx_12 ha0
  have ho_3 := Ext_O hx_12 ho_3
  have ho_9 := Ext_O hx_12 ho_9
  have hx := Ext_tr hx hx_12
  refine r_putRF S hw hinit 8 2 (ty := (.object "HutRow$Table")) rfl inG8 tyX8 tyX8_ok nmX8 (by decide) (List.mem_cons_of_mem _ wg53) (by decide) rfl rfl (by decide +kernel) rfl rfl ha0 (dd_at ddX8_init 18 rfl) (fun H locs hw => ?_)
  have ha0 := Ext_O (Ext_sR _ a0 2 (some q_7)) ha0
  have ho_3 := Ext_O (Ext_sR _ a0 2 (some q_7)) ho_3
  have ho_9 := Ext_O (Ext_sR _ a0 2 (some q_7)) ho_9
  have hx := Ext_tr hx (Ext_sR _ a0 2 (some q_7))
  refine lv_aload_n S.1 S.2.1 (dd_at ddX8_init 19 rfl) rfl (lv_at hl 0 rfl) ?_
  refine r_new S hw 6 rfl (by decide) inG6 tyX6 tyX6_ok (List.mem_cons_of_mem _ wg49) (List.mem_cons_of_mem _ wg50) (List.mem_cons_of_mem _ wg51) dF6 (Nat.le_of_ble_eq_true rfl) (Nat.le_of_ble_eq_true rfl) (dd_at ddX8_init 20 rfl) (fun q_13 H hq_14 hw => ?_)
  refine W.widen (k := 5) (n := 812) (Nat.le_of_ble_eq_true rfl) (Nat.le_of_ble_eq_true rfl) ?_
  have h := h q_13 hq_14
  have ha0 := Ext_O (Ext_nE 6 0 hq_14) ha0
  have ho_3 := Ext_O (Ext_nE 6 0 hq_14) ho_3
  have ho_9 := Ext_O (Ext_nE 6 0 hq_14) ho_9
  have hx := Ext_tr hx (Ext_nE 6 0 hq_14)
  have ho_15 := okO_new (sR E_10 a0 2 (some q_7)) q_13 0 (ci := 6) (by decide)
  refine lv_dup S.1 S.2.1 (dd_at ddX8_init 21 rfl) rfl ?_
  refine lv_bipush (v := 40) S.1 S.2.1 (dd_at ddX8_init 22 rfl) (by decide) ?_
  refine lv_bipush (v := 6) S.1 S.2.1 (dd_at ddX8_init 23 rfl) (by decide) ?_
  refine r_callVL hw (r_runI (As := [.int 40, .int 6]) (rest := [.ref q_13, .ref a0]) S hw (m_X6_init l D cs (nE (sR E_10 a0 2 (some q_7)) q_13 6 0) (nD d_11 q_13) H.size q_13 40 6 _) (cwI 2 S.2.2.2.2 (gC wg66) rfl rfl rfl (S.2.2.2.2 _ (List.mem_cons_of_mem _ wg51)) (S.2.2.2.2 _ (List.mem_cons_of_mem _ wg64)) (S.2.2.2.2 _ (List.mem_cons_of_mem _ wg65)) rfl (by decide +kernel) ⟨Nat.le_of_ble_eq_true rfl, Nat.le_of_ble_eq_true rfl⟩) h rfl hl.1 rfl (Nat.le_of_ble_eq_true rfl) (dd_at ddX8_init 24 rfl) ⟨Nat.le_of_ble_eq_true rfl, Nat.le_of_ble_eq_true rfl⟩) (fun E_16 d_17 H locs h hx_18 hw => ?_)
  have ha0 := Ext_O hx_18 ha0
  have ho_3 := Ext_O hx_18 ho_3
  have ho_9 := Ext_O hx_18 ho_9
  have ho_15 := Ext_O hx_18 ho_15
  have hx := Ext_tr hx hx_18
  refine r_putRF S hw hinit 8 3 (ty := (.object "HutRow$Table")) rfl inG8 tyX8 tyX8_ok nmX8 (by decide) (List.mem_cons_of_mem _ wg54) (by decide) rfl rfl (by decide +kernel) rfl rfl ha0 (dd_at ddX8_init 25 rfl) (fun H locs hw => ?_)
  have ha0 := Ext_O (Ext_sR _ a0 3 (some q_13)) ha0
  have ho_3 := Ext_O (Ext_sR _ a0 3 (some q_13)) ho_3
  have ho_9 := Ext_O (Ext_sR _ a0 3 (some q_13)) ho_9
  have ho_15 := Ext_O (Ext_sR _ a0 3 (some q_13)) ho_15
  have hx := Ext_tr hx (Ext_sR _ a0 3 (some q_13))
  refine lv_aload_n S.1 S.2.1 (dd_at ddX8_init 26 rfl) rfl (lv_at hl 0 rfl) ?_
  refine r_new S hw 6 rfl (by decide) inG6 tyX6 tyX6_ok (List.mem_cons_of_mem _ wg49) (List.mem_cons_of_mem _ wg50) (List.mem_cons_of_mem _ wg51) dF6 (Nat.le_of_ble_eq_true rfl) (Nat.le_of_ble_eq_true rfl) (dd_at ddX8_init 27 rfl) (fun q_19 H hq_20 hw => ?_)
  refine W.widen (k := 7) (n := 1216) (Nat.le_of_ble_eq_true rfl) (Nat.le_of_ble_eq_true rfl) ?_
  have h := h q_19 hq_20
  have ha0 := Ext_O (Ext_nE 6 0 hq_20) ha0
  have ho_3 := Ext_O (Ext_nE 6 0 hq_20) ho_3
  have ho_9 := Ext_O (Ext_nE 6 0 hq_20) ho_9
  have ho_15 := Ext_O (Ext_nE 6 0 hq_20) ho_15
  have hx := Ext_tr hx (Ext_nE 6 0 hq_20)
  have ho_21 := okO_new (sR E_16 a0 3 (some q_13)) q_19 0 (ci := 6) (by decide)
  refine lv_dup S.1 S.2.1 (dd_at ddX8_init 28 rfl) rfl ?_
  refine lv_bipush (v := 10) S.1 S.2.1 (dd_at ddX8_init 29 rfl) (by decide) ?_
  refine lv_iconst (v := 3) S.1 S.2.1 (dd_at ddX8_init 30 rfl) (by decide) ?_
  refine r_callVL hw (r_runI (As := [.int 10, .int 3]) (rest := [.ref q_19, .ref a0]) S hw (m_X6_init l D cs (nE (sR E_16 a0 3 (some q_13)) q_19 6 0) (nD d_17 q_19) H.size q_19 10 3 _) (cwI 2 S.2.2.2.2 (gC wg66) rfl rfl rfl (S.2.2.2.2 _ (List.mem_cons_of_mem _ wg51)) (S.2.2.2.2 _ (List.mem_cons_of_mem _ wg64)) (S.2.2.2.2 _ (List.mem_cons_of_mem _ wg65)) rfl (by decide +kernel) ⟨Nat.le_of_ble_eq_true rfl, Nat.le_of_ble_eq_true rfl⟩) h rfl hl.1 rfl (Nat.le_of_ble_eq_true rfl) (dd_at ddX8_init 31 rfl) ⟨Nat.le_of_ble_eq_true rfl, Nat.le_of_ble_eq_true rfl⟩) (fun E_22 d_23 H locs h hx_24 hw => ?_)
  have ha0 := Ext_O hx_24 ha0
  have ho_3 := Ext_O hx_24 ho_3
  have ho_9 := Ext_O hx_24 ho_9
  have ho_15 := Ext_O hx_24 ho_15
  have ho_21 := Ext_O hx_24 ho_21
  have hx := Ext_tr hx hx_24
  refine r_putRF S hw hinit 8 4 (ty := (.object "HutRow$Table")) rfl inG8 tyX8 tyX8_ok nmX8 (by decide) (List.mem_cons_of_mem _ wg55) (by decide) rfl rfl (by decide +kernel) rfl rfl ha0 (dd_at ddX8_init 32 rfl) (fun H locs hw => ?_)
  have ha0 := Ext_O (Ext_sR _ a0 4 (some q_19)) ha0
  have ho_3 := Ext_O (Ext_sR _ a0 4 (some q_19)) ho_3
  have ho_9 := Ext_O (Ext_sR _ a0 4 (some q_19)) ho_9
  have ho_15 := Ext_O (Ext_sR _ a0 4 (some q_19)) ho_15
  have ho_21 := Ext_O (Ext_sR _ a0 4 (some q_19)) ho_21
  have hx := Ext_tr hx (Ext_sR _ a0 4 (some q_19))
  refine lv_aload_n S.1 S.2.1 (dd_at ddX8_init 33 rfl) rfl (lv_at hl 0 rfl) ?_
  refine r_new S hw 6 rfl (by decide) inG6 tyX6 tyX6_ok (List.mem_cons_of_mem _ wg49) (List.mem_cons_of_mem _ wg50) (List.mem_cons_of_mem _ wg51) dF6 (Nat.le_of_ble_eq_true rfl) (Nat.le_of_ble_eq_true rfl) (dd_at ddX8_init 34 rfl) (fun q_25 H hq_26 hw => ?_)
  refine W.widen (k := 9) (n := 1620) (Nat.le_of_ble_eq_true rfl) (Nat.le_of_ble_eq_true rfl) ?_
  have h := h q_25 hq_26
  have ha0 := Ext_O (Ext_nE 6 0 hq_26) ha0
  have ho_3 := Ext_O (Ext_nE 6 0 hq_26) ho_3
  have ho_9 := Ext_O (Ext_nE 6 0 hq_26) ho_9
  have ho_15 := Ext_O (Ext_nE 6 0 hq_26) ho_15
  have ho_21 := Ext_O (Ext_nE 6 0 hq_26) ho_21
  have hx := Ext_tr hx (Ext_nE 6 0 hq_26)
  have ho_27 := okO_new (sR E_22 a0 4 (some q_19)) q_25 0 (ci := 6) (by decide)
  refine lv_dup S.1 S.2.1 (dd_at ddX8_init 35 rfl) rfl ?_
  refine lv_bipush (v := 20) S.1 S.2.1 (dd_at ddX8_init 36 rfl) (by decide) ?_
  refine lv_iconst (v := 1) S.1 S.2.1 (dd_at ddX8_init 37 rfl) (by decide) ?_
  refine r_callVL hw (r_runI (As := [.int 20, .int 1]) (rest := [.ref q_25, .ref a0]) S hw (m_X6_init l D cs (nE (sR E_22 a0 4 (some q_19)) q_25 6 0) (nD d_23 q_25) H.size q_25 20 1 _) (cwI 2 S.2.2.2.2 (gC wg66) rfl rfl rfl (S.2.2.2.2 _ (List.mem_cons_of_mem _ wg51)) (S.2.2.2.2 _ (List.mem_cons_of_mem _ wg64)) (S.2.2.2.2 _ (List.mem_cons_of_mem _ wg65)) rfl (by decide +kernel) ⟨Nat.le_of_ble_eq_true rfl, Nat.le_of_ble_eq_true rfl⟩) h rfl hl.1 rfl (Nat.le_of_ble_eq_true rfl) (dd_at ddX8_init 38 rfl) ⟨Nat.le_of_ble_eq_true rfl, Nat.le_of_ble_eq_true rfl⟩) (fun E_28 d_29 H locs h hx_30 hw => ?_)
  have ha0 := Ext_O hx_30 ha0
  have ho_3 := Ext_O hx_30 ho_3
  have ho_9 := Ext_O hx_30 ho_9
  have ho_15 := Ext_O hx_30 ho_15
  have ho_21 := Ext_O hx_30 ho_21
  have ho_27 := Ext_O hx_30 ho_27
  have hx := Ext_tr hx hx_30
  refine r_putRF S hw hinit 8 5 (ty := (.object "HutRow$Table")) rfl inG8 tyX8 tyX8_ok nmX8 (by decide) (List.mem_cons_of_mem _ wg56) (by decide) rfl rfl (by decide +kernel) rfl rfl ha0 (dd_at ddX8_init 39 rfl) (fun H locs hw => ?_)
  have ha0 := Ext_O (Ext_sR _ a0 5 (some q_25)) ha0
  have ho_3 := Ext_O (Ext_sR _ a0 5 (some q_25)) ho_3
  have ho_9 := Ext_O (Ext_sR _ a0 5 (some q_25)) ho_9
  have ho_15 := Ext_O (Ext_sR _ a0 5 (some q_25)) ho_15
  have ho_21 := Ext_O (Ext_sR _ a0 5 (some q_25)) ho_21
  have ho_27 := Ext_O (Ext_sR _ a0 5 (some q_25)) ho_27
  have hx := Ext_tr hx (Ext_sR _ a0 5 (some q_25))
  refine lv_aload_n S.1 S.2.1 (dd_at ddX8_init 40 rfl) rfl (lv_at hl 0 rfl) ?_
  refine r_new S hw 6 rfl (by decide) inG6 tyX6 tyX6_ok (List.mem_cons_of_mem _ wg49) (List.mem_cons_of_mem _ wg50) (List.mem_cons_of_mem _ wg51) dF6 (Nat.le_of_ble_eq_true rfl) (Nat.le_of_ble_eq_true rfl) (dd_at ddX8_init 41 rfl) (fun q_31 H hq_32 hw => ?_)
  refine W.widen (k := 11) (n := 2024) (Nat.le_of_ble_eq_true rfl) (Nat.le_of_ble_eq_true rfl) ?_
  have h := h q_31 hq_32
  have ha0 := Ext_O (Ext_nE 6 0 hq_32) ha0
  have ho_3 := Ext_O (Ext_nE 6 0 hq_32) ho_3
  have ho_9 := Ext_O (Ext_nE 6 0 hq_32) ho_9
  have ho_15 := Ext_O (Ext_nE 6 0 hq_32) ho_15
  have ho_21 := Ext_O (Ext_nE 6 0 hq_32) ho_21
  have ho_27 := Ext_O (Ext_nE 6 0 hq_32) ho_27
  have hx := Ext_tr hx (Ext_nE 6 0 hq_32)
  have ho_33 := okO_new (sR E_28 a0 5 (some q_25)) q_31 0 (ci := 6) (by decide)
  refine lv_dup S.1 S.2.1 (dd_at ddX8_init 42 rfl) rfl ?_
  refine lv_bipush (v := 60) S.1 S.2.1 (dd_at ddX8_init 43 rfl) (by decide) ?_
  refine lv_iconst (v := 1) S.1 S.2.1 (dd_at ddX8_init 44 rfl) (by decide) ?_
  refine r_callVL hw (r_runI (As := [.int 60, .int 1]) (rest := [.ref q_31, .ref a0]) S hw (m_X6_init l D cs (nE (sR E_28 a0 5 (some q_25)) q_31 6 0) (nD d_29 q_31) H.size q_31 60 1 _) (cwI 2 S.2.2.2.2 (gC wg66) rfl rfl rfl (S.2.2.2.2 _ (List.mem_cons_of_mem _ wg51)) (S.2.2.2.2 _ (List.mem_cons_of_mem _ wg64)) (S.2.2.2.2 _ (List.mem_cons_of_mem _ wg65)) rfl (by decide +kernel) ⟨Nat.le_of_ble_eq_true rfl, Nat.le_of_ble_eq_true rfl⟩) h rfl hl.1 rfl (Nat.le_of_ble_eq_true rfl) (dd_at ddX8_init 45 rfl) ⟨Nat.le_of_ble_eq_true rfl, Nat.le_of_ble_eq_true rfl⟩) (fun E_34 d_35 H locs h hx_36 hw => ?_)
  have ha0 := Ext_O hx_36 ha0
  have ho_3 := Ext_O hx_36 ho_3
  have ho_9 := Ext_O hx_36 ho_9
  have ho_15 := Ext_O hx_36 ho_15
  have ho_21 := Ext_O hx_36 ho_21
  have ho_27 := Ext_O hx_36 ho_27
  have ho_33 := Ext_O hx_36 ho_33
  have hx := Ext_tr hx hx_36
  refine r_putRF S hw hinit 8 6 (ty := (.object "HutRow$Table")) rfl inG8 tyX8 tyX8_ok nmX8 (by decide) (List.mem_cons_of_mem _ wg57) (by decide) rfl rfl (by decide +kernel) rfl rfl ha0 (dd_at ddX8_init 46 rfl) (fun H locs hw => ?_)
  have ha0 := Ext_O (Ext_sR _ a0 6 (some q_31)) ha0
  have ho_3 := Ext_O (Ext_sR _ a0 6 (some q_31)) ho_3
  have ho_9 := Ext_O (Ext_sR _ a0 6 (some q_31)) ho_9
  have ho_15 := Ext_O (Ext_sR _ a0 6 (some q_31)) ho_15
  have ho_21 := Ext_O (Ext_sR _ a0 6 (some q_31)) ho_21
  have ho_27 := Ext_O (Ext_sR _ a0 6 (some q_31)) ho_27
  have ho_33 := Ext_O (Ext_sR _ a0 6 (some q_31)) ho_33
  have hx := Ext_tr hx (Ext_sR _ a0 6 (some q_31))
  refine lv_aload_n S.1 S.2.1 (dd_at ddX8_init 47 rfl) rfl (lv_at hl 0 rfl) ?_
  refine r_new S hw 6 rfl (by decide) inG6 tyX6 tyX6_ok (List.mem_cons_of_mem _ wg49) (List.mem_cons_of_mem _ wg50) (List.mem_cons_of_mem _ wg51) dF6 (Nat.le_of_ble_eq_true rfl) (Nat.le_of_ble_eq_true rfl) (dd_at ddX8_init 48 rfl) (fun q_37 H hq_38 hw => ?_)
  refine W.widen (k := 13) (n := 2428) (Nat.le_of_ble_eq_true rfl) (Nat.le_of_ble_eq_true rfl) ?_
  have h := h q_37 hq_38
  have ha0 := Ext_O (Ext_nE 6 0 hq_38) ha0
  have ho_3 := Ext_O (Ext_nE 6 0 hq_38) ho_3
  have ho_9 := Ext_O (Ext_nE 6 0 hq_38) ho_9
  have ho_15 := Ext_O (Ext_nE 6 0 hq_38) ho_15
  have ho_21 := Ext_O (Ext_nE 6 0 hq_38) ho_21
  have ho_27 := Ext_O (Ext_nE 6 0 hq_38) ho_27
  have ho_33 := Ext_O (Ext_nE 6 0 hq_38) ho_33
  have hx := Ext_tr hx (Ext_nE 6 0 hq_38)
  have ho_39 := okO_new (sR E_34 a0 6 (some q_31)) q_37 0 (ci := 6) (by decide)
  refine lv_dup S.1 S.2.1 (dd_at ddX8_init 49 rfl) rfl ?_
  refine lv_bipush (v := 10) S.1 S.2.1 (dd_at ddX8_init 50 rfl) (by decide) ?_
  refine lv_iconst (v := 3) S.1 S.2.1 (dd_at ddX8_init 51 rfl) (by decide) ?_
  refine r_callVL hw (r_runI (As := [.int 10, .int 3]) (rest := [.ref q_37, .ref a0]) S hw (m_X6_init l D cs (nE (sR E_34 a0 6 (some q_31)) q_37 6 0) (nD d_35 q_37) H.size q_37 10 3 _) (cwI 2 S.2.2.2.2 (gC wg66) rfl rfl rfl (S.2.2.2.2 _ (List.mem_cons_of_mem _ wg51)) (S.2.2.2.2 _ (List.mem_cons_of_mem _ wg64)) (S.2.2.2.2 _ (List.mem_cons_of_mem _ wg65)) rfl (by decide +kernel) ⟨Nat.le_of_ble_eq_true rfl, Nat.le_of_ble_eq_true rfl⟩) h rfl hl.1 rfl (Nat.le_of_ble_eq_true rfl) (dd_at ddX8_init 52 rfl) ⟨Nat.le_of_ble_eq_true rfl, Nat.le_of_ble_eq_true rfl⟩) (fun E_40 d_41 H locs h hx_42 hw => ?_)
  have ha0 := Ext_O hx_42 ha0
  have ho_3 := Ext_O hx_42 ho_3
  have ho_9 := Ext_O hx_42 ho_9
  have ho_15 := Ext_O hx_42 ho_15
  have ho_21 := Ext_O hx_42 ho_21
  have ho_27 := Ext_O hx_42 ho_27
  have ho_33 := Ext_O hx_42 ho_33
  have ho_39 := Ext_O hx_42 ho_39
  have hx := Ext_tr hx hx_42
  refine r_putRF S hw hinit 8 7 (ty := (.object "HutRow$Table")) rfl inG8 tyX8 tyX8_ok nmX8 (by decide) (List.mem_cons_of_mem _ wg58) (by decide) rfl rfl (by decide +kernel) rfl rfl ha0 (dd_at ddX8_init 53 rfl) (fun H locs hw => ?_)
  have ha0 := Ext_O (Ext_sR _ a0 7 (some q_37)) ha0
  have ho_3 := Ext_O (Ext_sR _ a0 7 (some q_37)) ho_3
  have ho_9 := Ext_O (Ext_sR _ a0 7 (some q_37)) ho_9
  have ho_15 := Ext_O (Ext_sR _ a0 7 (some q_37)) ho_15
  have ho_21 := Ext_O (Ext_sR _ a0 7 (some q_37)) ho_21
  have ho_27 := Ext_O (Ext_sR _ a0 7 (some q_37)) ho_27
  have ho_33 := Ext_O (Ext_sR _ a0 7 (some q_37)) ho_33
  have ho_39 := Ext_O (Ext_sR _ a0 7 (some q_37)) ho_39
  have hx := Ext_tr hx (Ext_sR _ a0 7 (some q_37))
  refine lv_aload_n S.1 S.2.1 (dd_at ddX8_init 54 rfl) rfl (lv_at hl 0 rfl) ?_
  refine r_new S hw 6 rfl (by decide) inG6 tyX6 tyX6_ok (List.mem_cons_of_mem _ wg49) (List.mem_cons_of_mem _ wg50) (List.mem_cons_of_mem _ wg51) dF6 (Nat.le_of_ble_eq_true rfl) (Nat.le_of_ble_eq_true rfl) (dd_at ddX8_init 55 rfl) (fun q_43 H hq_44 hw => ?_)
  refine W.widen (k := 15) (n := 2832) (Nat.le_of_ble_eq_true rfl) (Nat.le_of_ble_eq_true rfl) ?_
  have h := h q_43 hq_44
  have ha0 := Ext_O (Ext_nE 6 0 hq_44) ha0
  have ho_3 := Ext_O (Ext_nE 6 0 hq_44) ho_3
  have ho_9 := Ext_O (Ext_nE 6 0 hq_44) ho_9
  have ho_15 := Ext_O (Ext_nE 6 0 hq_44) ho_15
  have ho_21 := Ext_O (Ext_nE 6 0 hq_44) ho_21
  have ho_27 := Ext_O (Ext_nE 6 0 hq_44) ho_27
  have ho_33 := Ext_O (Ext_nE 6 0 hq_44) ho_33
  have ho_39 := Ext_O (Ext_nE 6 0 hq_44) ho_39
  have hx := Ext_tr hx (Ext_nE 6 0 hq_44)
  have ho_45 := okO_new (sR E_40 a0 7 (some q_37)) q_43 0 (ci := 6) (by decide)
  refine lv_dup S.1 S.2.1 (dd_at ddX8_init 56 rfl) rfl ?_
  refine lv_bipush (v := 8) S.1 S.2.1 (dd_at ddX8_init 57 rfl) (by decide) ?_
  refine lv_iconst (v := 3) S.1 S.2.1 (dd_at ddX8_init 58 rfl) (by decide) ?_
  refine r_callVL hw (r_runI (As := [.int 8, .int 3]) (rest := [.ref q_43, .ref a0]) S hw (m_X6_init l D cs (nE (sR E_40 a0 7 (some q_37)) q_43 6 0) (nD d_41 q_43) H.size q_43 8 3 _) (cwI 2 S.2.2.2.2 (gC wg66) rfl rfl rfl (S.2.2.2.2 _ (List.mem_cons_of_mem _ wg51)) (S.2.2.2.2 _ (List.mem_cons_of_mem _ wg64)) (S.2.2.2.2 _ (List.mem_cons_of_mem _ wg65)) rfl (by decide +kernel) ⟨Nat.le_of_ble_eq_true rfl, Nat.le_of_ble_eq_true rfl⟩) h rfl hl.1 rfl (Nat.le_of_ble_eq_true rfl) (dd_at ddX8_init 59 rfl) ⟨Nat.le_of_ble_eq_true rfl, Nat.le_of_ble_eq_true rfl⟩) (fun E_46 d_47 H locs h hx_48 hw => ?_)
  have ha0 := Ext_O hx_48 ha0
  have ho_3 := Ext_O hx_48 ho_3
  have ho_9 := Ext_O hx_48 ho_9
  have ho_15 := Ext_O hx_48 ho_15
  have ho_21 := Ext_O hx_48 ho_21
  have ho_27 := Ext_O hx_48 ho_27
  have ho_33 := Ext_O hx_48 ho_33
  have ho_39 := Ext_O hx_48 ho_39
  have ho_45 := Ext_O hx_48 ho_45
  have hx := Ext_tr hx hx_48
  refine r_putRF S hw hinit 8 8 (ty := (.object "HutRow$Table")) rfl inG8 tyX8 tyX8_ok nmX8 (by decide) (List.mem_cons_of_mem _ wg59) (by decide) rfl rfl (by decide +kernel) rfl rfl ha0 (dd_at ddX8_init 60 rfl) (fun H locs hw => ?_)
  have ha0 := Ext_O (Ext_sR _ a0 8 (some q_43)) ha0
  have ho_3 := Ext_O (Ext_sR _ a0 8 (some q_43)) ho_3
  have ho_9 := Ext_O (Ext_sR _ a0 8 (some q_43)) ho_9
  have ho_15 := Ext_O (Ext_sR _ a0 8 (some q_43)) ho_15
  have ho_21 := Ext_O (Ext_sR _ a0 8 (some q_43)) ho_21
  have ho_27 := Ext_O (Ext_sR _ a0 8 (some q_43)) ho_27
  have ho_33 := Ext_O (Ext_sR _ a0 8 (some q_43)) ho_33
  have ho_39 := Ext_O (Ext_sR _ a0 8 (some q_43)) ho_39
  have ho_45 := Ext_O (Ext_sR _ a0 8 (some q_43)) ho_45
  have hx := Ext_tr hx (Ext_sR _ a0 8 (some q_43))
  refine lv_aload_n S.1 S.2.1 (dd_at ddX8_init 61 rfl) rfl (lv_at hl 0 rfl) ?_
  refine r_new S hw 6 rfl (by decide) inG6 tyX6 tyX6_ok (List.mem_cons_of_mem _ wg49) (List.mem_cons_of_mem _ wg50) (List.mem_cons_of_mem _ wg51) dF6 (Nat.le_of_ble_eq_true rfl) (Nat.le_of_ble_eq_true rfl) (dd_at ddX8_init 62 rfl) (fun q_49 H hq_50 hw => ?_)
  refine W.widen (k := 17) (n := 3236) (Nat.le_of_ble_eq_true rfl) (Nat.le_of_ble_eq_true rfl) ?_
  have h := h q_49 hq_50
  have ha0 := Ext_O (Ext_nE 6 0 hq_50) ha0
  have ho_3 := Ext_O (Ext_nE 6 0 hq_50) ho_3
  have ho_9 := Ext_O (Ext_nE 6 0 hq_50) ho_9
  have ho_15 := Ext_O (Ext_nE 6 0 hq_50) ho_15
  have ho_21 := Ext_O (Ext_nE 6 0 hq_50) ho_21
  have ho_27 := Ext_O (Ext_nE 6 0 hq_50) ho_27
  have ho_33 := Ext_O (Ext_nE 6 0 hq_50) ho_33
  have ho_39 := Ext_O (Ext_nE 6 0 hq_50) ho_39
  have ho_45 := Ext_O (Ext_nE 6 0 hq_50) ho_45
  have hx := Ext_tr hx (Ext_nE 6 0 hq_50)
  have ho_51 := okO_new (sR E_46 a0 8 (some q_43)) q_49 0 (ci := 6) (by decide)
  refine lv_dup S.1 S.2.1 (dd_at ddX8_init 63 rfl) rfl ?_
  refine lv_bipush (v := 20) S.1 S.2.1 (dd_at ddX8_init 64 rfl) (by decide) ?_
  refine lv_iconst (v := 3) S.1 S.2.1 (dd_at ddX8_init 65 rfl) (by decide) ?_
  refine r_callVL hw (r_runI (As := [.int 20, .int 3]) (rest := [.ref q_49, .ref a0]) S hw (m_X6_init l D cs (nE (sR E_46 a0 8 (some q_43)) q_49 6 0) (nD d_47 q_49) H.size q_49 20 3 _) (cwI 2 S.2.2.2.2 (gC wg66) rfl rfl rfl (S.2.2.2.2 _ (List.mem_cons_of_mem _ wg51)) (S.2.2.2.2 _ (List.mem_cons_of_mem _ wg64)) (S.2.2.2.2 _ (List.mem_cons_of_mem _ wg65)) rfl (by decide +kernel) ⟨Nat.le_of_ble_eq_true rfl, Nat.le_of_ble_eq_true rfl⟩) h rfl hl.1 rfl (Nat.le_of_ble_eq_true rfl) (dd_at ddX8_init 66 rfl) ⟨Nat.le_of_ble_eq_true rfl, Nat.le_of_ble_eq_true rfl⟩) (fun E_52 d_53 H locs h hx_54 hw => ?_)
  have ha0 := Ext_O hx_54 ha0
  have ho_3 := Ext_O hx_54 ho_3
  have ho_9 := Ext_O hx_54 ho_9
  have ho_15 := Ext_O hx_54 ho_15
  have ho_21 := Ext_O hx_54 ho_21
  have ho_27 := Ext_O hx_54 ho_27
  have ho_33 := Ext_O hx_54 ho_33
  have ho_39 := Ext_O hx_54 ho_39
  have ho_45 := Ext_O hx_54 ho_45
  have ho_51 := Ext_O hx_54 ho_51
  have hx := Ext_tr hx hx_54
  refine r_putRF S hw hinit 8 9 (ty := (.object "HutRow$Table")) rfl inG8 tyX8 tyX8_ok nmX8 (by decide) (List.mem_cons_of_mem _ wg60) (by decide) rfl rfl (by decide +kernel) rfl rfl ha0 (dd_at ddX8_init 67 rfl) (fun H locs hw => ?_)
  have ha0 := Ext_O (Ext_sR _ a0 9 (some q_49)) ha0
  have ho_3 := Ext_O (Ext_sR _ a0 9 (some q_49)) ho_3
  have ho_9 := Ext_O (Ext_sR _ a0 9 (some q_49)) ho_9
  have ho_15 := Ext_O (Ext_sR _ a0 9 (some q_49)) ho_15
  have ho_21 := Ext_O (Ext_sR _ a0 9 (some q_49)) ho_21
  have ho_27 := Ext_O (Ext_sR _ a0 9 (some q_49)) ho_27
  have ho_33 := Ext_O (Ext_sR _ a0 9 (some q_49)) ho_33
  have ho_39 := Ext_O (Ext_sR _ a0 9 (some q_49)) ho_39
  have ho_45 := Ext_O (Ext_sR _ a0 9 (some q_49)) ho_45
  have ho_51 := Ext_O (Ext_sR _ a0 9 (some q_49)) ho_51
  have hx := Ext_tr hx (Ext_sR _ a0 9 (some q_49))
  refine lv_aload_n S.1 S.2.1 (dd_at ddX8_init 68 rfl) rfl (lv_at hl 0 rfl) ?_
  refine r_new S hw 6 rfl (by decide) inG6 tyX6 tyX6_ok (List.mem_cons_of_mem _ wg49) (List.mem_cons_of_mem _ wg50) (List.mem_cons_of_mem _ wg51) dF6 (Nat.le_of_ble_eq_true rfl) (Nat.le_of_ble_eq_true rfl) (dd_at ddX8_init 69 rfl) (fun q_55 H hq_56 hw => ?_)
  refine W.widen (k := 19) (n := 3640) (Nat.le_of_ble_eq_true rfl) (Nat.le_of_ble_eq_true rfl) ?_
  have h := h q_55 hq_56
  have ha0 := Ext_O (Ext_nE 6 0 hq_56) ha0
  have ho_3 := Ext_O (Ext_nE 6 0 hq_56) ho_3
  have ho_9 := Ext_O (Ext_nE 6 0 hq_56) ho_9
  have ho_15 := Ext_O (Ext_nE 6 0 hq_56) ho_15
  have ho_21 := Ext_O (Ext_nE 6 0 hq_56) ho_21
  have ho_27 := Ext_O (Ext_nE 6 0 hq_56) ho_27
  have ho_33 := Ext_O (Ext_nE 6 0 hq_56) ho_33
  have ho_39 := Ext_O (Ext_nE 6 0 hq_56) ho_39
  have ho_45 := Ext_O (Ext_nE 6 0 hq_56) ho_45
  have ho_51 := Ext_O (Ext_nE 6 0 hq_56) ho_51
  have hx := Ext_tr hx (Ext_nE 6 0 hq_56)
  have ho_57 := okO_new (sR E_52 a0 9 (some q_49)) q_55 0 (ci := 6) (by decide)
  refine lv_dup S.1 S.2.1 (dd_at ddX8_init 70 rfl) rfl ?_
  refine lv_bipush (v := 12) S.1 S.2.1 (dd_at ddX8_init 71 rfl) (by decide) ?_
  refine lv_iconst (v := 1) S.1 S.2.1 (dd_at ddX8_init 72 rfl) (by decide) ?_
  refine r_callVL hw (r_runI (As := [.int 12, .int 1]) (rest := [.ref q_55, .ref a0]) S hw (m_X6_init l D cs (nE (sR E_52 a0 9 (some q_49)) q_55 6 0) (nD d_53 q_55) H.size q_55 12 1 _) (cwI 2 S.2.2.2.2 (gC wg66) rfl rfl rfl (S.2.2.2.2 _ (List.mem_cons_of_mem _ wg51)) (S.2.2.2.2 _ (List.mem_cons_of_mem _ wg64)) (S.2.2.2.2 _ (List.mem_cons_of_mem _ wg65)) rfl (by decide +kernel) ⟨Nat.le_of_ble_eq_true rfl, Nat.le_of_ble_eq_true rfl⟩) h rfl hl.1 rfl (Nat.le_of_ble_eq_true rfl) (dd_at ddX8_init 73 rfl) ⟨Nat.le_of_ble_eq_true rfl, Nat.le_of_ble_eq_true rfl⟩) (fun E_58 d_59 H locs h hx_60 hw => ?_)
  have ha0 := Ext_O hx_60 ha0
  have ho_3 := Ext_O hx_60 ho_3
  have ho_9 := Ext_O hx_60 ho_9
  have ho_15 := Ext_O hx_60 ho_15
  have ho_21 := Ext_O hx_60 ho_21
  have ho_27 := Ext_O hx_60 ho_27
  have ho_33 := Ext_O hx_60 ho_33
  have ho_39 := Ext_O hx_60 ho_39
  have ho_45 := Ext_O hx_60 ho_45
  have ho_51 := Ext_O hx_60 ho_51
  have ho_57 := Ext_O hx_60 ho_57
  have hx := Ext_tr hx hx_60
  refine r_putRF S hw hinit 8 10 (ty := (.object "HutRow$Table")) rfl inG8 tyX8 tyX8_ok nmX8 (by decide) (List.mem_cons_of_mem _ wg61) (by decide) rfl rfl (by decide +kernel) rfl rfl ha0 (dd_at ddX8_init 74 rfl) (fun H locs hw => ?_)
  have ha0 := Ext_O (Ext_sR _ a0 10 (some q_55)) ha0
  have ho_3 := Ext_O (Ext_sR _ a0 10 (some q_55)) ho_3
  have ho_9 := Ext_O (Ext_sR _ a0 10 (some q_55)) ho_9
  have ho_15 := Ext_O (Ext_sR _ a0 10 (some q_55)) ho_15
  have ho_21 := Ext_O (Ext_sR _ a0 10 (some q_55)) ho_21
  have ho_27 := Ext_O (Ext_sR _ a0 10 (some q_55)) ho_27
  have ho_33 := Ext_O (Ext_sR _ a0 10 (some q_55)) ho_33
  have ho_39 := Ext_O (Ext_sR _ a0 10 (some q_55)) ho_39
  have ho_45 := Ext_O (Ext_sR _ a0 10 (some q_55)) ho_45
  have ho_51 := Ext_O (Ext_sR _ a0 10 (some q_55)) ho_51
  have ho_57 := Ext_O (Ext_sR _ a0 10 (some q_55)) ho_57
  have hx := Ext_tr hx (Ext_sR _ a0 10 (some q_55))
  refine lv_aload_n S.1 S.2.1 (dd_at ddX8_init 75 rfl) rfl (lv_at hl 0 rfl) ?_
  refine lv_iconst (v := 4) S.1 S.2.1 (dd_at ddX8_init 76 rfl) (by decide) ?_
  refine r_newT S hw (List.mem_cons_of_mem _ wg62) (n := 4) (by decide) (by decide) (Nat.le_of_ble_eq_true rfl) (by show _ ≤ _; exact Nat.le_of_ble_eq_true rfl) (dd_at ddX8_init 77 rfl) (fun q_61 H hq_62 hw => ?_)
  refine W.widen (k := 21) (n := 4044) (Nat.le_of_ble_eq_true rfl) (Nat.le_of_ble_eq_true rfl) ?_
  have h := h q_61 hq_62
  have ha0 := Ext_O (Ext_nE 16 ((4 : Int32)).toNatClampNeg hq_62) ha0
  have ho_3 := Ext_O (Ext_nE 16 ((4 : Int32)).toNatClampNeg hq_62) ho_3
  have ho_9 := Ext_O (Ext_nE 16 ((4 : Int32)).toNatClampNeg hq_62) ho_9
  have ho_15 := Ext_O (Ext_nE 16 ((4 : Int32)).toNatClampNeg hq_62) ho_15
  have ho_21 := Ext_O (Ext_nE 16 ((4 : Int32)).toNatClampNeg hq_62) ho_21
  have ho_27 := Ext_O (Ext_nE 16 ((4 : Int32)).toNatClampNeg hq_62) ho_27
  have ho_33 := Ext_O (Ext_nE 16 ((4 : Int32)).toNatClampNeg hq_62) ho_33
  have ho_39 := Ext_O (Ext_nE 16 ((4 : Int32)).toNatClampNeg hq_62) ho_39
  have ho_45 := Ext_O (Ext_nE 16 ((4 : Int32)).toNatClampNeg hq_62) ho_45
  have ho_51 := Ext_O (Ext_nE 16 ((4 : Int32)).toNatClampNeg hq_62) ho_51
  have ho_57 := Ext_O (Ext_nE 16 ((4 : Int32)).toNatClampNeg hq_62) ho_57
  have hx := Ext_tr hx (Ext_nE 16 ((4 : Int32)).toNatClampNeg hq_62)
  have ho_63 := okA_new (sR E_58 a0 10 (some q_55)) q_61 ((4 : Int32)).toNatClampNeg (t := 16) (by decide)
  refine r_putRF S hw hinit 8 11 (ty := (.array (.object "HutRow$Text"))) rfl inG8 tyX8 tyX8_ok nmX8 (by decide) (List.mem_cons_of_mem _ wg63) (by decide) rfl rfl (by decide +kernel) rfl rfl ha0 (dd_at ddX8_init 78 rfl) (fun H locs hw => ?_)
  have ha0 := Ext_O (Ext_sR _ a0 11 (some q_61)) ha0
  have ho_3 := Ext_O (Ext_sR _ a0 11 (some q_61)) ho_3
  have ho_9 := Ext_O (Ext_sR _ a0 11 (some q_61)) ho_9
  have ho_15 := Ext_O (Ext_sR _ a0 11 (some q_61)) ho_15
  have ho_21 := Ext_O (Ext_sR _ a0 11 (some q_61)) ho_21
  have ho_27 := Ext_O (Ext_sR _ a0 11 (some q_61)) ho_27
  have ho_33 := Ext_O (Ext_sR _ a0 11 (some q_61)) ho_33
  have ho_39 := Ext_O (Ext_sR _ a0 11 (some q_61)) ho_39
  have ho_45 := Ext_O (Ext_sR _ a0 11 (some q_61)) ho_45
  have ho_51 := Ext_O (Ext_sR _ a0 11 (some q_61)) ho_51
  have ho_57 := Ext_O (Ext_sR _ a0 11 (some q_61)) ho_57
  have ho_63 := Ext_A (Ext_sR _ a0 11 (some q_61)) ho_63
  have hx := Ext_tr hx (Ext_sR _ a0 11 (some q_61))
  refine lv_aload_n S.1 S.2.1 (dd_at ddX8_init 79 rfl) rfl (lv_at hl 0 rfl) ?_
  obtain ⟨b_64, hb_65, ho_66, h⟩ := h
  refine r_getR S hw 8 6 rfl inG8 (by decide) (List.mem_cons_of_mem _ wg57) (by decide) ha0 hb_65 (dd_at ddX8_init 80 rfl) ?_
  refine r_callV hw (r_runV (As := []) (rest := []) S hw (m_X6_openAll l D cs (sR (nE (sR E_58 a0 10 (some q_55)) q_61 16 ((4 : Int32)).toNatClampNeg) a0 11 (some q_61)) (nD d_59 q_61) H.size b_64 _) (cwV 0 S.2.2.2.2 (gV wg76 wg77 wg78 wg51 wg79) rfl rfl rfl (by decide +kernel) ⟨Nat.le_of_ble_eq_true rfl, Nat.le_of_ble_eq_true rfl⟩) (ci := 6) rfl ho_66 h rfl hl.1 rfl (Nat.le_of_ble_eq_true rfl) (dd_at ddX8_init 81 rfl) ⟨Nat.le_of_ble_eq_true rfl, Nat.le_of_ble_eq_true rfl⟩) (fun d_67 H locs h hw => ?_)
  exact e_VL S hr hlocks hw hx h (dd_at ddX8_init 82 rfl)

def w_X8_hutBits (E : En) (a0 : Nat) (d : Dy) (K : Int32 → Dy → Prop) : Prop := okO E a0 8 ∧ ∃ b_1 : Nat, eR E a0 2 = some b_1 ∧ okO E b_1 6 ∧ w_X6_size E b_1 d (fun r_5 d_4 => K (((1 : Int32) <<< (r_5 &&& 31)) - 1) d_4)
abbrev rm_X8_hutBits : Room := { frames := 1, cells := 0, slots := 0, locals := 20 }
set_option maxRecDepth 100000 in
set_option maxHeartbeats 4000000 in
theorem m_X8_hutBits (l : Launch) (D : va_G) (cs : Nat → ClassId) (E : En) (d : Dy) (sz : Nat) (a0 : Nat) (K : Int32 → Dy → Prop) : CI l yX8_hutBits (.code yX8_hutBits cX8_hutBits 1 (some .int) :: wsL_law) rm_X8_hutBits D cs E d sz [.ref a0] (w_X8_hutBits E a0 d K) K := by
  refine e_of (cc := cX8_hutBits) (maxL := 1) (ret := (some .int)) (own := RX8) (by decide) rfl rfl (Nat.le_of_ble_eq_true rfl) ?_
  intro p e s m below meth c S hr hlocks hsz H locs hw h ls hl
  have hl : lv_has ls 1 [(0, .ref a0)] := hl
  unfold w_X8_hutBits at h
  obtain ⟨ha0, h⟩ := h
  refine lv_iconst (v := 1) S.1 S.2.1 (dd_at ddX8_hutBits 0 rfl) (by decide) ?_
  refine lv_aload_n S.1 S.2.1 (dd_at ddX8_hutBits 1 rfl) rfl (lv_at hl 0 rfl) ?_
  obtain ⟨b_1, hb_2, ho_3, h⟩ := h
  refine r_getR S hw 8 2 rfl inG8 (by decide) (List.mem_cons_of_mem _ wg53) (by decide) ha0 hb_2 (dd_at ddX8_hutBits 2 rfl) ?_
  refine r_callI hw (r_runV (As := []) (rest := [.int 1]) S hw (m_X6_size l D cs E d H.size b_1 _) (cwV 0 S.2.2.2.2 (gV wg1149 wg372 wg373 wg51 wg374) rfl rfl rfl (by decide +kernel) ⟨Nat.le_of_ble_eq_true rfl, Nat.le_of_ble_eq_true rfl⟩) (ci := 6) rfl ho_3 h rfl hl.1 rfl (Nat.le_of_ble_eq_true rfl) (dd_at ddX8_hutBits 3 rfl) ⟨Nat.le_of_ble_eq_true rfl, Nat.le_of_ble_eq_true rfl⟩) (fun r_5 d_4 H locs h hw => ?_)
  refine lv_ishl S.1 S.2.1 (dd_at ddX8_hutBits 4 rfl) ?_
  refine lv_iconst (v := 1) S.1 S.2.1 (dd_at ddX8_hutBits 5 rfl) (by decide) ?_
  refine lv_isub S.1 S.2.1 (dd_at ddX8_hutBits 6 rfl) ?_
  exact e_I S hr hlocks hw h (dd_at ddX8_hutBits 7 rfl)

def w_X8_enforce (E : En) (a0 : Nat) (p1 : Int32) (a2 : Nat) (d : Dy) (K : Dy → Prop) : Prop := okO E a0 8 ∧ okO E a2 7 ∧ ((p1 < 0 → K d) ∧ (¬ p1 < 0 → ((4 ≤ p1 → K d) ∧ (¬ 4 ≤ p1 → ∃ b_3 : Nat, eR E a0 11 = some b_3 ∧ okA E b_3 16 ∧ vp_in p1 (eN E b_3) ∧ K (pQ d b_3 (p1).toNatClampNeg (some a2))))))
abbrev rm_X8_enforce : Room := { frames := 0, cells := 0, slots := 0, locals := 0 }
set_option maxRecDepth 100000 in
set_option maxHeartbeats 4000000 in
theorem m_X8_enforce (l : Launch) (D : va_G) (cs : Nat → ClassId) (E : En) (d : Dy) (sz : Nat) (a0 : Nat) (p1 : Int32) (a2 : Nat) (K : Dy → Prop) : CV l yX8_enforce (.code yX8_enforce cX8_enforce 3 none :: wsL_law) rm_X8_enforce D cs E d sz [.ref a0, .int p1, .ref a2] (w_X8_enforce E a0 p1 a2 d K) K := by
  refine e_of (cc := cX8_enforce) (maxL := 3) (ret := none) (own := RX8) (by decide) rfl rfl (Nat.le_of_ble_eq_true rfl) ?_
  intro p e s m below meth c S hr hlocks hsz H locs hw h ls hl
  have hl : lv_has ls 3 [(0, .ref a0), (1, .int p1), (2, .ref a2)] := hl
  unfold w_X8_enforce at h
  obtain ⟨ha0, h⟩ := h
  obtain ⟨ha2, h⟩ := h
  refine lv_iload_n S.1 S.2.1 (dd_at ddX8_enforce 0 rfl) rfl (lv_at hl 1 rfl) ?_
  refine lv_if_lt (tgt := 16) S.1 S.2.1 (dd_at ddX8_enforce 1 rfl) (by decide) (fun hc_1 => ?_) (fun hc_1 => ?_)
  · have h := h.1 hc_1
    exact e_V S hr hlocks hw h (dd_at ddX8_enforce 10 rfl)
  · have h := h.2 hc_1
    refine lv_iload_n S.1 S.2.1 (dd_at ddX8_enforce 2 rfl) rfl (lv_at hl 1 rfl) ?_
    refine lv_iconst (v := 4) S.1 S.2.1 (dd_at ddX8_enforce 3 rfl) (by decide) ?_
    refine lv_icmp_ge (tgt := 16) S.1 S.2.1 (dd_at ddX8_enforce 4 rfl) (by decide) (fun hc_2 => ?_) (fun hc_2 => ?_)
    · have h := h.1 hc_2
      exact e_V S hr hlocks hw h (dd_at ddX8_enforce 10 rfl)
    · have h := h.2 hc_2
      refine lv_aload_n S.1 S.2.1 (dd_at ddX8_enforce 5 rfl) rfl (lv_at hl 0 rfl) ?_
      obtain ⟨b_3, hb_4, ho_5, h⟩ := h
      refine r_getR S hw 8 11 rfl inG8 (by decide) (List.mem_cons_of_mem _ wg63) (by decide) ha0 hb_4 (dd_at ddX8_enforce 6 rfl) ?_
      refine lv_iload_n S.1 S.2.1 (dd_at ddX8_enforce 7 rfl) rfl (lv_at hl 1 rfl) ?_
      refine lv_aload_n S.1 S.2.1 (dd_at ddX8_enforce 8 rfl) rfl (lv_at hl 2 rfl) ?_
      obtain ⟨hx_6, h⟩ := h
      refine r_aast (x := (some a2)) S hw ho_5 (fun _ q => by cases q; exact ha2) hx_6 (dd_at ddX8_enforce 9 rfl) (fun H locs hw => ?_)
      exact e_V S hr hlocks hw h (dd_at ddX8_enforce 10 rfl)

def b_X8_copy_125 (E : En) (a0 : Nat) (a1 : Nat) (K : Dy → Prop) (k125 : Int32 → Dy → Prop) (v2 : Int32) (d : Dy) : Prop := ((4 ≤ v2 → K d) ∧ (¬ 4 ≤ v2 → ∃ b_2 : Nat, eR E a0 11 = some b_2 ∧ okA E b_2 16 ∧ ∃ b_5 : Nat, eR E a1 11 = some b_5 ∧ okA E b_5 16 ∧ vp_in v2 (eN E b_5) ∧ (∀ b : Nat, gQ d b_5 (v2).toNatClampNeg = some b → okO E b 7) ∧ vp_in v2 (eN E b_2) ∧ k125 (v2 + 1) (pQ d b_2 (v2).toNatClampNeg (gQ d b_5 (v2).toNatClampNeg))))
def l_X8_copy_125 (E : En) (a0 : Nat) (a1 : Nat) (K : Dy → Prop) : Nat → Int32 → Dy → Prop
  | 0 => fun _ _ => False
  | n + 1 => b_X8_copy_125 E a0 a1 K (l_X8_copy_125 E a0 a1 K n)
def w_X8_copy (E : En) (a0 : Nat) (a1 : Nat) (d : Dy) (K : Dy → Prop) : Prop := okO E a0 8 ∧ okO E a1 8 ∧ ∃ b_11 : Nat, eR E a0 1 = some b_11 ∧ okO E b_11 6 ∧ ∃ b_14 : Nat, eR E a1 1 = some b_14 ∧ okO E b_14 6 ∧ w_X6_copy E b_11 b_14 (pI d a0 0 (gI d a1 0)) (fun d_17 => ∃ b_19 : Nat, eR E a0 2 = some b_19 ∧ okO E b_19 6 ∧ ∃ b_22 : Nat, eR E a1 2 = some b_22 ∧ okO E b_22 6 ∧ w_X6_copy E b_19 b_22 d_17 (fun d_25 => ∃ b_27 : Nat, eR E a0 3 = some b_27 ∧ okO E b_27 6 ∧ ∃ b_30 : Nat, eR E a1 3 = some b_30 ∧ okO E b_30 6 ∧ w_X6_copy E b_27 b_30 d_25 (fun d_33 => ∃ b_35 : Nat, eR E a0 4 = some b_35 ∧ okO E b_35 6 ∧ ∃ b_38 : Nat, eR E a1 4 = some b_38 ∧ okO E b_38 6 ∧ w_X6_copy E b_35 b_38 d_33 (fun d_41 => ∃ b_43 : Nat, eR E a0 5 = some b_43 ∧ okO E b_43 6 ∧ ∃ b_46 : Nat, eR E a1 5 = some b_46 ∧ okO E b_46 6 ∧ w_X6_copy E b_43 b_46 d_41 (fun d_49 => ∃ b_51 : Nat, eR E a0 6 = some b_51 ∧ okO E b_51 6 ∧ ∃ b_54 : Nat, eR E a1 6 = some b_54 ∧ okO E b_54 6 ∧ w_X6_copy E b_51 b_54 d_49 (fun d_57 => ∃ b_59 : Nat, eR E a0 7 = some b_59 ∧ okO E b_59 6 ∧ ∃ b_62 : Nat, eR E a1 7 = some b_62 ∧ okO E b_62 6 ∧ w_X6_copy E b_59 b_62 d_57 (fun d_65 => ∃ b_67 : Nat, eR E a0 8 = some b_67 ∧ okO E b_67 6 ∧ ∃ b_70 : Nat, eR E a1 8 = some b_70 ∧ okO E b_70 6 ∧ w_X6_copy E b_67 b_70 d_65 (fun d_73 => ∃ b_75 : Nat, eR E a0 9 = some b_75 ∧ okO E b_75 6 ∧ ∃ b_78 : Nat, eR E a1 9 = some b_78 ∧ okO E b_78 6 ∧ w_X6_copy E b_75 b_78 d_73 (fun d_81 => ∃ b_83 : Nat, eR E a0 10 = some b_83 ∧ okO E b_83 6 ∧ ∃ b_86 : Nat, eR E a1 10 = some b_86 ∧ okO E b_86 6 ∧ w_X6_copy E b_83 b_86 d_81 (fun d_89 => (∃ n_91 : Nat, l_X8_copy_125 E a0 a1 K n_91 0 d_89)))))))))))
abbrev rm_X8_copy : Room := { frames := 2, cells := 0, slots := 0, locals := 121 }
set_option maxRecDepth 100000 in
set_option maxHeartbeats 4000000 in
theorem m_X8_copy (l : Launch) (D : va_G) (cs : Nat → ClassId) (E : En) (d : Dy) (sz : Nat) (a0 : Nat) (a1 : Nat) (K : Dy → Prop) : CV l yX8_copy (.code yX8_copy cX8_copy 3 none :: wsL_law) rm_X8_copy D cs E d sz [.ref a0, .ref a1] (w_X8_copy E a0 a1 d K) K := by
  refine e_of (cc := cX8_copy) (maxL := 3) (ret := none) (own := RX8) (by decide) rfl rfl (Nat.le_of_ble_eq_true rfl) ?_
  intro p e s m below meth c S hr hlocks hsz H locs hw h ls hl
  have hl : lv_has ls 3 [(0, .ref a0), (1, .ref a1)] := hl
  unfold w_X8_copy at h
  obtain ⟨ha0, h⟩ := h
  obtain ⟨ha1, h⟩ := h
  have tl125 : ∀ (n : Nat) (v2 : Int32) (d : Dy) (H : Heap) (locs : List Loc) (ls : Array Slot), l_X8_copy_125 E a0 a1 K n v2 d → Wd D cs (AW E sz) s.heap s E d H locs → lv_has ls 3 [(0, .ref a0), (1, .ref a1), (2, .int v2)] → W p l e rm_X8_copy s m ([.ref a0, .ref a1] : List Value).toArray below meth c H locs 0 0 (MQ below (va_Qv K (OutW D cs E (AW E sz)) (AW E sz)) ([.ref a0, .ref a1] : List Value).toArray s rm_X8_copy.cells rm_X8_copy.slots (AW E sz)) (F0 m 125 ls []) := by
    intro n125
    induction n125 with
    | zero => intro v2 d H locs ls h; exact absurd h id
    | succ n125 ih125 =>
      intro v2 d H locs ls h hw hl
      have h : b_X8_copy_125 E a0 a1 K (l_X8_copy_125 E a0 a1 K n125) v2 d := h
      unfold b_X8_copy_125 at h
      refine lv_iload_n S.1 S.2.1 (dd_at ddX8_copy 59 rfl) rfl (lv_at hl 2 rfl) ?_
      refine lv_iconst (v := 4) S.1 S.2.1 (dd_at ddX8_copy 60 rfl) (by decide) ?_
      refine lv_icmp_ge (tgt := 148) S.1 S.2.1 (dd_at ddX8_copy 61 rfl) (by decide) (fun hc_1 => ?_) (fun hc_1 => ?_)
      · have h := h.1 hc_1
        exact e_V S hr hlocks hw h (dd_at ddX8_copy 72 rfl)
      · have h := h.2 hc_1
        refine lv_aload_n S.1 S.2.1 (dd_at ddX8_copy 62 rfl) rfl (lv_at hl 0 rfl) ?_
        obtain ⟨b_2, hb_3, ho_4, h⟩ := h
        refine r_getR S hw 8 11 rfl inG8 (by decide) (List.mem_cons_of_mem _ wg63) (by decide) ha0 hb_3 (dd_at ddX8_copy 63 rfl) ?_
        refine lv_iload_n S.1 S.2.1 (dd_at ddX8_copy 64 rfl) rfl (lv_at hl 2 rfl) ?_
        refine lv_aload_n S.1 S.2.1 (dd_at ddX8_copy 65 rfl) rfl (lv_at hl 1 rfl) ?_
        obtain ⟨b_5, hb_6, ho_7, h⟩ := h
        refine r_getR S hw 8 11 rfl inG8 (by decide) (List.mem_cons_of_mem _ wg63) (by decide) ha1 hb_6 (dd_at ddX8_copy 66 rfl) ?_
        refine lv_iload_n S.1 S.2.1 (dd_at ddX8_copy 67 rfl) rfl (lv_at hl 2 rfl) ?_
        obtain ⟨hx_8, h⟩ := h
        refine r_aald S hw ho_7 hx_8 (dd_at ddX8_copy 68 rfl) ?_
        obtain ⟨hq_10, h⟩ := h
        obtain ⟨hx_9, h⟩ := h
        refine r_aast (x := (gQ d b_5 (v2).toNatClampNeg)) S hw ho_4 hq_10 hx_9 (dd_at ddX8_copy 69 rfl) (fun H locs hw => ?_)
        refine lv_iinc (v := v2 + 1) (lv' := [(2, .int (v2 + 1)), (0, .ref a0), (1, .ref a1)]) S.1 S.2.1 (dd_at ddX8_copy 70 rfl) hl (k := 2) rfl rfl (by decide) rfl (fun ls hl => ?_)
        refine lv_goto (tgt := 125) S.1 S.2.1 (dd_at ddX8_copy 71 rfl) (by decide) ?_
        exact ih125 (v2 + 1) (pQ d b_2 (v2).toNatClampNeg (gQ d b_5 (v2).toNatClampNeg)) H locs ls h hw (lv_sub hl [1, 2, 0] rfl)
  refine lv_aload_n S.1 S.2.1 (dd_at ddX8_copy 0 rfl) rfl (lv_at hl 1 rfl) ?_
  refine lv_ifnonnull (tgt := 5) S.1 S.2.1 (dd_at ddX8_copy 1 rfl) (by decide) ?_
  refine lv_aload_n S.1 S.2.1 (dd_at ddX8_copy 3 rfl) rfl (lv_at hl 0 rfl) ?_
  refine lv_aload_n S.1 S.2.1 (dd_at ddX8_copy 4 rfl) rfl (lv_at hl 1 rfl) ?_
  refine r_getI S hw 8 0 rfl inG8 (by decide) (List.mem_cons_of_mem _ wg48) (by decide) ha1 (dd_at ddX8_copy 5 rfl) ?_
  refine r_putI S hw 8 0 (ty := .int) (v := gI d a1 0) rfl inG8 tyX8 tyX8_ok nmX8 (by decide) (List.mem_cons_of_mem _ wg48) (by decide) rfl (by decide +kernel) rfl rfl ha0 (dd_at ddX8_copy 6 rfl) (fun H locs hw => ?_)
  refine lv_aload_n S.1 S.2.1 (dd_at ddX8_copy 7 rfl) rfl (lv_at hl 0 rfl) ?_
  obtain ⟨b_11, hb_12, ho_13, h⟩ := h
  refine r_getR S hw 8 1 rfl inG8 (by decide) (List.mem_cons_of_mem _ wg52) (by decide) ha0 hb_12 (dd_at ddX8_copy 8 rfl) ?_
  refine lv_aload_n S.1 S.2.1 (dd_at ddX8_copy 9 rfl) rfl (lv_at hl 1 rfl) ?_
  obtain ⟨b_14, hb_15, ho_16, h⟩ := h
  refine r_getR S hw 8 1 rfl inG8 (by decide) (List.mem_cons_of_mem _ wg52) (by decide) ha1 hb_15 (dd_at ddX8_copy 10 rfl) ?_
  refine r_callV hw (r_runV (As := [.ref b_14]) (rest := []) S hw (m_X6_copy l D cs E (pI d a0 0 (gI d a1 0)) H.size b_11 b_14 _) (cwV 1 S.2.2.2.2 (gV wg1503 wg376 wg377 wg51 wg378) rfl rfl rfl (by decide +kernel) ⟨Nat.le_of_ble_eq_true rfl, Nat.le_of_ble_eq_true rfl⟩) (ci := 6) rfl ho_13 h rfl hl.1 rfl (Nat.le_of_ble_eq_true rfl) (dd_at ddX8_copy 11 rfl) ⟨Nat.le_of_ble_eq_true rfl, Nat.le_of_ble_eq_true rfl⟩) (fun d_17 H locs h hw => ?_)
  refine lv_aload_n S.1 S.2.1 (dd_at ddX8_copy 12 rfl) rfl (lv_at hl 0 rfl) ?_
  obtain ⟨b_19, hb_20, ho_21, h⟩ := h
  refine r_getR S hw 8 2 rfl inG8 (by decide) (List.mem_cons_of_mem _ wg53) (by decide) ha0 hb_20 (dd_at ddX8_copy 13 rfl) ?_
  refine lv_aload_n S.1 S.2.1 (dd_at ddX8_copy 14 rfl) rfl (lv_at hl 1 rfl) ?_
  obtain ⟨b_22, hb_23, ho_24, h⟩ := h
  refine r_getR S hw 8 2 rfl inG8 (by decide) (List.mem_cons_of_mem _ wg53) (by decide) ha1 hb_23 (dd_at ddX8_copy 15 rfl) ?_
  refine r_callV hw (r_runV (As := [.ref b_22]) (rest := []) S hw (m_X6_copy l D cs E d_17 H.size b_19 b_22 _) (cwV 1 S.2.2.2.2 (gV wg1503 wg376 wg377 wg51 wg378) rfl rfl rfl (by decide +kernel) ⟨Nat.le_of_ble_eq_true rfl, Nat.le_of_ble_eq_true rfl⟩) (ci := 6) rfl ho_21 h rfl hl.1 rfl (Nat.le_of_ble_eq_true rfl) (dd_at ddX8_copy 16 rfl) ⟨Nat.le_of_ble_eq_true rfl, Nat.le_of_ble_eq_true rfl⟩) (fun d_25 H locs h hw => ?_)
  refine lv_aload_n S.1 S.2.1 (dd_at ddX8_copy 17 rfl) rfl (lv_at hl 0 rfl) ?_
  obtain ⟨b_27, hb_28, ho_29, h⟩ := h
  refine r_getR S hw 8 3 rfl inG8 (by decide) (List.mem_cons_of_mem _ wg54) (by decide) ha0 hb_28 (dd_at ddX8_copy 18 rfl) ?_
  refine lv_aload_n S.1 S.2.1 (dd_at ddX8_copy 19 rfl) rfl (lv_at hl 1 rfl) ?_
  obtain ⟨b_30, hb_31, ho_32, h⟩ := h
  refine r_getR S hw 8 3 rfl inG8 (by decide) (List.mem_cons_of_mem _ wg54) (by decide) ha1 hb_31 (dd_at ddX8_copy 20 rfl) ?_
  refine r_callV hw (r_runV (As := [.ref b_30]) (rest := []) S hw (m_X6_copy l D cs E d_25 H.size b_27 b_30 _) (cwV 1 S.2.2.2.2 (gV wg1503 wg376 wg377 wg51 wg378) rfl rfl rfl (by decide +kernel) ⟨Nat.le_of_ble_eq_true rfl, Nat.le_of_ble_eq_true rfl⟩) (ci := 6) rfl ho_29 h rfl hl.1 rfl (Nat.le_of_ble_eq_true rfl) (dd_at ddX8_copy 21 rfl) ⟨Nat.le_of_ble_eq_true rfl, Nat.le_of_ble_eq_true rfl⟩) (fun d_33 H locs h hw => ?_)
  refine lv_aload_n S.1 S.2.1 (dd_at ddX8_copy 22 rfl) rfl (lv_at hl 0 rfl) ?_
  obtain ⟨b_35, hb_36, ho_37, h⟩ := h
  refine r_getR S hw 8 4 rfl inG8 (by decide) (List.mem_cons_of_mem _ wg55) (by decide) ha0 hb_36 (dd_at ddX8_copy 23 rfl) ?_
  refine lv_aload_n S.1 S.2.1 (dd_at ddX8_copy 24 rfl) rfl (lv_at hl 1 rfl) ?_
  obtain ⟨b_38, hb_39, ho_40, h⟩ := h
  refine r_getR S hw 8 4 rfl inG8 (by decide) (List.mem_cons_of_mem _ wg55) (by decide) ha1 hb_39 (dd_at ddX8_copy 25 rfl) ?_
  refine r_callV hw (r_runV (As := [.ref b_38]) (rest := []) S hw (m_X6_copy l D cs E d_33 H.size b_35 b_38 _) (cwV 1 S.2.2.2.2 (gV wg1503 wg376 wg377 wg51 wg378) rfl rfl rfl (by decide +kernel) ⟨Nat.le_of_ble_eq_true rfl, Nat.le_of_ble_eq_true rfl⟩) (ci := 6) rfl ho_37 h rfl hl.1 rfl (Nat.le_of_ble_eq_true rfl) (dd_at ddX8_copy 26 rfl) ⟨Nat.le_of_ble_eq_true rfl, Nat.le_of_ble_eq_true rfl⟩) (fun d_41 H locs h hw => ?_)
  refine lv_aload_n S.1 S.2.1 (dd_at ddX8_copy 27 rfl) rfl (lv_at hl 0 rfl) ?_
  obtain ⟨b_43, hb_44, ho_45, h⟩ := h
  refine r_getR S hw 8 5 rfl inG8 (by decide) (List.mem_cons_of_mem _ wg56) (by decide) ha0 hb_44 (dd_at ddX8_copy 28 rfl) ?_
  refine lv_aload_n S.1 S.2.1 (dd_at ddX8_copy 29 rfl) rfl (lv_at hl 1 rfl) ?_
  obtain ⟨b_46, hb_47, ho_48, h⟩ := h
  refine r_getR S hw 8 5 rfl inG8 (by decide) (List.mem_cons_of_mem _ wg56) (by decide) ha1 hb_47 (dd_at ddX8_copy 30 rfl) ?_
  refine r_callV hw (r_runV (As := [.ref b_46]) (rest := []) S hw (m_X6_copy l D cs E d_41 H.size b_43 b_46 _) (cwV 1 S.2.2.2.2 (gV wg1503 wg376 wg377 wg51 wg378) rfl rfl rfl (by decide +kernel) ⟨Nat.le_of_ble_eq_true rfl, Nat.le_of_ble_eq_true rfl⟩) (ci := 6) rfl ho_45 h rfl hl.1 rfl (Nat.le_of_ble_eq_true rfl) (dd_at ddX8_copy 31 rfl) ⟨Nat.le_of_ble_eq_true rfl, Nat.le_of_ble_eq_true rfl⟩) (fun d_49 H locs h hw => ?_)
  refine lv_aload_n S.1 S.2.1 (dd_at ddX8_copy 32 rfl) rfl (lv_at hl 0 rfl) ?_
  obtain ⟨b_51, hb_52, ho_53, h⟩ := h
  refine r_getR S hw 8 6 rfl inG8 (by decide) (List.mem_cons_of_mem _ wg57) (by decide) ha0 hb_52 (dd_at ddX8_copy 33 rfl) ?_
  refine lv_aload_n S.1 S.2.1 (dd_at ddX8_copy 34 rfl) rfl (lv_at hl 1 rfl) ?_
  obtain ⟨b_54, hb_55, ho_56, h⟩ := h
  refine r_getR S hw 8 6 rfl inG8 (by decide) (List.mem_cons_of_mem _ wg57) (by decide) ha1 hb_55 (dd_at ddX8_copy 35 rfl) ?_
  refine r_callV hw (r_runV (As := [.ref b_54]) (rest := []) S hw (m_X6_copy l D cs E d_49 H.size b_51 b_54 _) (cwV 1 S.2.2.2.2 (gV wg1503 wg376 wg377 wg51 wg378) rfl rfl rfl (by decide +kernel) ⟨Nat.le_of_ble_eq_true rfl, Nat.le_of_ble_eq_true rfl⟩) (ci := 6) rfl ho_53 h rfl hl.1 rfl (Nat.le_of_ble_eq_true rfl) (dd_at ddX8_copy 36 rfl) ⟨Nat.le_of_ble_eq_true rfl, Nat.le_of_ble_eq_true rfl⟩) (fun d_57 H locs h hw => ?_)
  refine lv_aload_n S.1 S.2.1 (dd_at ddX8_copy 37 rfl) rfl (lv_at hl 0 rfl) ?_
  obtain ⟨b_59, hb_60, ho_61, h⟩ := h
  refine r_getR S hw 8 7 rfl inG8 (by decide) (List.mem_cons_of_mem _ wg58) (by decide) ha0 hb_60 (dd_at ddX8_copy 38 rfl) ?_
  refine lv_aload_n S.1 S.2.1 (dd_at ddX8_copy 39 rfl) rfl (lv_at hl 1 rfl) ?_
  obtain ⟨b_62, hb_63, ho_64, h⟩ := h
  refine r_getR S hw 8 7 rfl inG8 (by decide) (List.mem_cons_of_mem _ wg58) (by decide) ha1 hb_63 (dd_at ddX8_copy 40 rfl) ?_
  refine r_callV hw (r_runV (As := [.ref b_62]) (rest := []) S hw (m_X6_copy l D cs E d_57 H.size b_59 b_62 _) (cwV 1 S.2.2.2.2 (gV wg1503 wg376 wg377 wg51 wg378) rfl rfl rfl (by decide +kernel) ⟨Nat.le_of_ble_eq_true rfl, Nat.le_of_ble_eq_true rfl⟩) (ci := 6) rfl ho_61 h rfl hl.1 rfl (Nat.le_of_ble_eq_true rfl) (dd_at ddX8_copy 41 rfl) ⟨Nat.le_of_ble_eq_true rfl, Nat.le_of_ble_eq_true rfl⟩) (fun d_65 H locs h hw => ?_)
  refine lv_aload_n S.1 S.2.1 (dd_at ddX8_copy 42 rfl) rfl (lv_at hl 0 rfl) ?_
  obtain ⟨b_67, hb_68, ho_69, h⟩ := h
  refine r_getR S hw 8 8 rfl inG8 (by decide) (List.mem_cons_of_mem _ wg59) (by decide) ha0 hb_68 (dd_at ddX8_copy 43 rfl) ?_
  refine lv_aload_n S.1 S.2.1 (dd_at ddX8_copy 44 rfl) rfl (lv_at hl 1 rfl) ?_
  obtain ⟨b_70, hb_71, ho_72, h⟩ := h
  refine r_getR S hw 8 8 rfl inG8 (by decide) (List.mem_cons_of_mem _ wg59) (by decide) ha1 hb_71 (dd_at ddX8_copy 45 rfl) ?_
  refine r_callV hw (r_runV (As := [.ref b_70]) (rest := []) S hw (m_X6_copy l D cs E d_65 H.size b_67 b_70 _) (cwV 1 S.2.2.2.2 (gV wg1503 wg376 wg377 wg51 wg378) rfl rfl rfl (by decide +kernel) ⟨Nat.le_of_ble_eq_true rfl, Nat.le_of_ble_eq_true rfl⟩) (ci := 6) rfl ho_69 h rfl hl.1 rfl (Nat.le_of_ble_eq_true rfl) (dd_at ddX8_copy 46 rfl) ⟨Nat.le_of_ble_eq_true rfl, Nat.le_of_ble_eq_true rfl⟩) (fun d_73 H locs h hw => ?_)
  refine lv_aload_n S.1 S.2.1 (dd_at ddX8_copy 47 rfl) rfl (lv_at hl 0 rfl) ?_
  obtain ⟨b_75, hb_76, ho_77, h⟩ := h
  refine r_getR S hw 8 9 rfl inG8 (by decide) (List.mem_cons_of_mem _ wg60) (by decide) ha0 hb_76 (dd_at ddX8_copy 48 rfl) ?_
  refine lv_aload_n S.1 S.2.1 (dd_at ddX8_copy 49 rfl) rfl (lv_at hl 1 rfl) ?_
  obtain ⟨b_78, hb_79, ho_80, h⟩ := h
  refine r_getR S hw 8 9 rfl inG8 (by decide) (List.mem_cons_of_mem _ wg60) (by decide) ha1 hb_79 (dd_at ddX8_copy 50 rfl) ?_
  refine r_callV hw (r_runV (As := [.ref b_78]) (rest := []) S hw (m_X6_copy l D cs E d_73 H.size b_75 b_78 _) (cwV 1 S.2.2.2.2 (gV wg1503 wg376 wg377 wg51 wg378) rfl rfl rfl (by decide +kernel) ⟨Nat.le_of_ble_eq_true rfl, Nat.le_of_ble_eq_true rfl⟩) (ci := 6) rfl ho_77 h rfl hl.1 rfl (Nat.le_of_ble_eq_true rfl) (dd_at ddX8_copy 51 rfl) ⟨Nat.le_of_ble_eq_true rfl, Nat.le_of_ble_eq_true rfl⟩) (fun d_81 H locs h hw => ?_)
  refine lv_aload_n S.1 S.2.1 (dd_at ddX8_copy 52 rfl) rfl (lv_at hl 0 rfl) ?_
  obtain ⟨b_83, hb_84, ho_85, h⟩ := h
  refine r_getR S hw 8 10 rfl inG8 (by decide) (List.mem_cons_of_mem _ wg61) (by decide) ha0 hb_84 (dd_at ddX8_copy 53 rfl) ?_
  refine lv_aload_n S.1 S.2.1 (dd_at ddX8_copy 54 rfl) rfl (lv_at hl 1 rfl) ?_
  obtain ⟨b_86, hb_87, ho_88, h⟩ := h
  refine r_getR S hw 8 10 rfl inG8 (by decide) (List.mem_cons_of_mem _ wg61) (by decide) ha1 hb_87 (dd_at ddX8_copy 55 rfl) ?_
  refine r_callV hw (r_runV (As := [.ref b_86]) (rest := []) S hw (m_X6_copy l D cs E d_81 H.size b_83 b_86 _) (cwV 1 S.2.2.2.2 (gV wg1503 wg376 wg377 wg51 wg378) rfl rfl rfl (by decide +kernel) ⟨Nat.le_of_ble_eq_true rfl, Nat.le_of_ble_eq_true rfl⟩) (ci := 6) rfl ho_85 h rfl hl.1 rfl (Nat.le_of_ble_eq_true rfl) (dd_at ddX8_copy 56 rfl) ⟨Nat.le_of_ble_eq_true rfl, Nat.le_of_ble_eq_true rfl⟩) (fun d_89 H locs h hw => ?_)
  refine lv_iconst (v := 0) S.1 S.2.1 (dd_at ddX8_copy 57 rfl) (by decide) ?_
  refine lv_istore_n (lv' := [(2, .int 0), (0, .ref a0), (1, .ref a1)]) S.1 S.2.1 (dd_at ddX8_copy 58 rfl) rfl hl (by decide) rfl (fun ls hl => ?_)
  obtain ⟨n_91, h⟩ := h
  exact tl125 n_91 0 d_89 H locs ls h hw (lv_sub hl [1, 2, 0] rfl)
