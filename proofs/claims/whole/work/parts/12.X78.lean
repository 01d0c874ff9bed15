def w_X8_inForce (E : En) (a0 : Nat) (p1 : Int32) (d : Dy) (K : Option Nat → Dy → Prop) : Prop := okO E a0 8 ∧ ((p1 < 0 → K none d) ∧ (¬ p1 < 0 → ((4 ≤ p1 → K none d) ∧ (¬ 4 ≤ p1 → ∃ b_3 : Nat, eR E a0 11 = some b_3 ∧ okA E b_3 16 ∧ vp_in p1 (eN E b_3) ∧ K (gQ d b_3 (p1).toNatClampNeg) d))))
abbrev rm_X8_inForce : Room := { frames := 0, cells := 0, slots := 0, locals := 0 }
set_option maxRecDepth 100000 in
set_option maxHeartbeats 4000000 in
theorem m_X8_inForce (l : Launch) (D : va_G) (cs : Nat → ClassId) (E : En) (d : Dy) (sz : Nat) (a0 : Nat) (p1 : Int32) (K : Option Nat → Dy → Prop) : CQ l yX8_inForce (.code yX8_inForce cX8_inForce 2 (some (.object "HutRow$Text")) :: wsL_law) rm_X8_inForce D cs E d sz [.ref a0, .int p1] (w_X8_inForce E a0 p1 d K) K := by
  refine e_of (cc := cX8_inForce) (maxL := 2) (ret := (some (.object "HutRow$Text"))) (own := RX8) (by decide) rfl rfl (Nat.le_of_ble_eq_true rfl) ?_
  intro p e s m below meth c S hr hlocks hsz H locs hw h ls hl
  have hl : lv_has ls 2 [(0, .ref a0), (1, .int p1)] := hl
  unfold w_X8_inForce at h
  obtain ⟨ha0, h⟩ := h
  refine lv_iload_n S.1 S.2.1 (dd_at ddX8_inForce 0 rfl) rfl (lv_at hl 1 rfl) ?_
  refine lv_if_lt (tgt := 18) S.1 S.2.1 (dd_at ddX8_inForce 1 rfl) (by decide) (fun hc_1 => ?_) (fun hc_1 => ?_)
  · have h := h.1 hc_1
    refine lv_null S.1 S.2.1 (dd_at ddX8_inForce 10 rfl) ?_
    exact e_Q S hr hlocks hw h (dd_at ddX8_inForce 11 rfl)
  · have h := h.2 hc_1
    refine lv_iload_n S.1 S.2.1 (dd_at ddX8_inForce 2 rfl) rfl (lv_at hl 1 rfl) ?_
    refine lv_iconst (v := 4) S.1 S.2.1 (dd_at ddX8_inForce 3 rfl) (by decide) ?_
    refine lv_icmp_ge (tgt := 18) S.1 S.2.1 (dd_at ddX8_inForce 4 rfl) (by decide) (fun hc_2 => ?_) (fun hc_2 => ?_)
    · have h := h.1 hc_2
      refine lv_null S.1 S.2.1 (dd_at ddX8_inForce 10 rfl) ?_
      exact e_Q S hr hlocks hw h (dd_at ddX8_inForce 11 rfl)
    · have h := h.2 hc_2
      refine lv_aload_n S.1 S.2.1 (dd_at ddX8_inForce 5 rfl) rfl (lv_at hl 0 rfl) ?_
      obtain ⟨b_3, hb_4, ho_5, h⟩ := h
      refine r_getR S hw 8 11 rfl inG8 (by decide) (List.mem_cons_of_mem _ wg63) (by decide) ha0 hb_4 (dd_at ddX8_inForce 6 rfl) ?_
      refine lv_iload_n S.1 S.2.1 (dd_at ddX8_inForce 7 rfl) rfl (lv_at hl 1 rfl) ?_
      obtain ⟨hx_6, h⟩ := h
      refine r_aald S hw ho_5 hx_6 (dd_at ddX8_inForce 8 rfl) ?_
      refine lv_goto (tgt := 19) S.1 S.2.1 (dd_at ddX8_inForce 9 rfl) (by decide) ?_
      exact e_Q S hr hlocks hw h (dd_at ddX8_inForce 11 rfl)

def b_X7_holds_36 (E : En) (a0 : Nat) (p1 : Int32) (a2 : Nat) (K : Int32 → Dy → Prop) (k36 : Int32 → Int32 → Int32 → Dy → Prop) (v3 : Int32) (v4 : Int32) (v5 : Int32) (d : Dy) : Prop := ((v4 ≤ v5 → ((v4 ≤ v3 → K 1 d) ∧ (¬ v4 ≤ v3 → w_X0_isTrue E a2 d (fun r_4 d_3 => ((r_4 = 0 → K 0 d_3) ∧ (¬ r_4 = 0 → K 1 d_3)))))) ∧ (¬ v4 ≤ v5 → ∃ b_6 : Nat, eR E a0 1 = some b_6 ∧ okA E b_6 13 ∧ vp_in v5 (eN E b_6) ∧ w_X0_use E a2 (gA d b_6 (v5).toNatClampNeg) d (fun d_10 => k36 v3 v4 (v5 + 1) d_10)))
def l_X7_holds_36 (E : En) (a0 : Nat) (p1 : Int32) (a2 : Nat) (K : Int32 → Dy → Prop) : Nat → Int32 → Int32 → Int32 → Dy → Prop
  | 0 => fun _ _ _ _ => False
  | n + 1 => b_X7_holds_36 E a0 p1 a2 K (l_X7_holds_36 E a0 p1 a2 K n)
def w_X7_holds (E : En) (a0 : Nat) (p1 : Int32) (a2 : Nat) (d : Dy) (K : Int32 → Dy → Prop) : Prop := okO E a0 7 ∧ okO E a2 0 ∧ ∃ b_12 : Nat, eR E a0 0 = some b_12 ∧ okO E b_12 6 ∧ w_X6_get E b_12 p1 3 d (fun r_16 d_15 => ∃ b_17 : Nat, eR E a0 0 = some b_17 ∧ okO E b_17 6 ∧ w_X6_get E b_17 p1 4 d_15 (fun r_21 d_20 => ∃ b_22 : Nat, eR E a0 1 = some b_22 ∧ okA E b_22 13 ∧ w_X0_clear E a2 d_20 (fun d_25 => (∃ n_27 : Nat, l_X7_holds_36 E a0 p1 a2 K n_27 r_16 (if (nI (eN E b_22)) < r_21 then (nI (eN E b_22)) else r_21) r_16 d_25))))
abbrev rm_X7_holds : Room := { frames := 2, cells := 0, slots := 0, locals := 43 }
set_option maxRecDepth 100000 in
set_option maxHeartbeats 4000000 in
theorem m_X7_holds (l : Launch) (D : va_G) (cs : Nat → ClassId) (E : En) (d : Dy) (sz : Nat) (a0 : Nat) (p1 : Int32) (a2 : Nat) (K : Int32 → Dy → Prop) : CI l yX7_holds (.code yX7_holds cX7_holds 6 (some .boolean) :: wsL_law) rm_X7_holds D cs E d sz [.ref a0, .int p1, .ref a2] (w_X7_holds E a0 p1 a2 d K) K := by
  refine e_of (cc := cX7_holds) (maxL := 6) (ret := (some .boolean)) (own := RX7) (by decide) rfl rfl (Nat.le_of_ble_eq_true rfl) ?_
  intro p e s m below meth c S hr hlocks hsz H locs hw h ls hl
  have hl : lv_has ls 6 [(0, .ref a0), (1, .int p1), (2, .ref a2)] := hl
  unfold w_X7_holds at h
  obtain ⟨ha0, h⟩ := h
  obtain ⟨ha2, h⟩ := h
  have tl36 : ∀ (n : Nat) (v3 : Int32) (v4 : Int32) (v5 : Int32) (d : Dy) (H : Heap) (locs : List Loc) (ls : Array Slot), l_X7_holds_36 E a0 p1 a2 K n v3 v4 v5 d → Wd D cs (AW E sz) s.heap s E d H locs → lv_has ls 6 [(0, .ref a0), (2, .ref a2), (3, .int v3), (4, .int v4), (5, .int v5)] → W p l e rm_X7_holds s m ([.ref a0, .int p1, .ref a2] : List Value).toArray below meth c H locs 0 0 (MQ below (va_Qi K (OutW D cs E (AW E sz)) (AW E sz)) ([.ref a0, .int p1, .ref a2] : List Value).toArray s rm_X7_holds.cells rm_X7_holds.slots (AW E sz)) (F0 m 36 ls []) := by
    intro n36
    induction n36 with
    | zero => intro v3 v4 v5 d H locs ls h; exact absurd h id
    | succ n36 ih36 =>
      intro v3 v4 v5 d H locs ls h hw hl
      have h : b_X7_holds_36 E a0 p1 a2 K (l_X7_holds_36 E a0 p1 a2 K n36) v3 v4 v5 d := h
      unfold b_X7_holds_36 at h
      refine lv_iload S.1 S.2.1 (dd_at ddX7_holds 20 rfl) (lv_at hl 4 rfl) ?_
      refine lv_iload S.1 S.2.1 (dd_at ddX7_holds 21 rfl) (lv_at hl 3 rfl) ?_
      refine lv_icmp_ge (tgt := 60) S.1 S.2.1 (dd_at ddX7_holds 22 rfl) (by decide) (fun hc_1 => ?_) (fun hc_1 => ?_)
      · have h := h.1 hc_1
        refine lv_iload_n S.1 S.2.1 (dd_at ddX7_holds 31 rfl) rfl (lv_at hl 2 rfl) ?_
        refine lv_iload S.1 S.2.1 (dd_at ddX7_holds 32 rfl) (lv_at hl 3 rfl) ?_
        refine lv_icmp_ge (tgt := 73) S.1 S.2.1 (dd_at ddX7_holds 33 rfl) (by decide) (fun hc_2 => ?_) (fun hc_2 => ?_)
        · have h := h.1 hc_2
          refine lv_iconst (v := 1) S.1 S.2.1 (dd_at ddX7_holds 37 rfl) (by decide) ?_
          refine lv_goto (tgt := 78) S.1 S.2.1 (dd_at ddX7_holds 38 rfl) (by decide) ?_
          exact e_Z S hr hlocks hw (Or.inr rfl) h (dd_at ddX7_holds 40 rfl)
        · have h := h.2 hc_2
          refine lv_aload_n S.1 S.2.1 (dd_at ddX7_holds 34 rfl) rfl (lv_at hl 1 rfl) ?_
          refine r_callI hw (r_runV (As := []) (rest := []) S hw (m_X0_isTrue l D cs E d H.size a2 _) (cwV 0 S.2.2.2.2 (gV wg757 wg758 wg759 wg103 wg760) rfl rfl rfl (by decide +kernel) ⟨Nat.le_of_ble_eq_true rfl, Nat.le_of_ble_eq_true rfl⟩) (ci := 0) rfl ha2 h rfl hl.1 rfl (Nat.le_of_ble_eq_true rfl) (dd_at ddX7_holds 35 rfl) ⟨Nat.le_of_ble_eq_true rfl, Nat.le_of_ble_eq_true rfl⟩) (fun r_4 d_3 H locs h hw => ?_)
          refine lv_if_eq (tgt := 77) S.1 S.2.1 (dd_at ddX7_holds 36 rfl) (by decide) (fun hc_5 => ?_) (fun hc_5 => ?_)
          · have h := h.1 hc_5
            refine lv_iconst (v := 0) S.1 S.2.1 (dd_at ddX7_holds 39 rfl) (by decide) ?_
            exact e_Z S hr hlocks hw (Or.inl rfl) h (dd_at ddX7_holds 40 rfl)
          · have h := h.2 hc_5
            refine lv_iconst (v := 1) S.1 S.2.1 (dd_at ddX7_holds 37 rfl) (by decide) ?_
            refine lv_goto (tgt := 78) S.1 S.2.1 (dd_at ddX7_holds 38 rfl) (by decide) ?_
            exact e_Z S hr hlocks hw (Or.inr rfl) h (dd_at ddX7_holds 40 rfl)
      · have h := h.2 hc_1
        refine lv_aload_n S.1 S.2.1 (dd_at ddX7_holds 23 rfl) rfl (lv_at hl 1 rfl) ?_
        refine lv_aload_n S.1 S.2.1 (dd_at ddX7_holds 24 rfl) rfl (lv_at hl 0 rfl) ?_
        obtain ⟨b_6, hb_7, ho_8, h⟩ := h
        refine r_getR S hw 7 1 rfl inG7 (by decide) (List.mem_cons_of_mem _ wg399) (by decide) ha0 hb_7 (dd_at ddX7_holds 25 rfl) ?_
        refine lv_iload S.1 S.2.1 (dd_at ddX7_holds 26 rfl) (lv_at hl 4 rfl) ?_
        obtain ⟨hx_9, h⟩ := h
        refine r_iald S hw ho_8 hx_9 (dd_at ddX7_holds 27 rfl) ?_
        refine r_callV hw (r_runV (As := [.int (gA d b_6 (v5).toNatClampNeg)]) (rest := []) S hw (m_X0_use l D cs E d H.size a2 (gA d b_6 (v5).toNatClampNeg) _) (cwV 1 S.2.2.2.2 (gV wg742 wg743 wg744 wg103 wg745) rfl rfl rfl (by decide +kernel) ⟨Nat.le_of_ble_eq_true rfl, Nat.le_of_ble_eq_true rfl⟩) (ci := 0) rfl ha2 h rfl hl.1 rfl (Nat.le_of_ble_eq_true rfl) (dd_at ddX7_holds 28 rfl) ⟨Nat.le_of_ble_eq_true rfl, Nat.le_of_ble_eq_true rfl⟩) (fun d_10 H locs h hw => ?_)
        refine lv_iinc (v := v5 + 1) (lv' := [(5, .int (v5 + 1)), (0, .ref a0), (2, .ref a2), (3, .int v3), (4, .int v4)]) S.1 S.2.1 (dd_at ddX7_holds 29 rfl) hl (k := 4) rfl rfl (by decide) rfl (fun ls hl => ?_)
        refine lv_goto (tgt := 36) S.1 S.2.1 (dd_at ddX7_holds 30 rfl) (by decide) ?_
        exact ih36 v3 v4 (v5 + 1) d_10 H locs ls h hw (lv_sub hl [1, 2, 3, 4, 0] rfl)
  refine lv_aload_n S.1 S.2.1 (dd_at ddX7_holds 0 rfl) rfl (lv_at hl 0 rfl) ?_
  obtain ⟨b_12, hb_13, ho_14, h⟩ := h
  refine r_getR S hw 7 0 rfl inG7 (by decide) (List.mem_cons_of_mem _ wg398) (by decide) ha0 hb_13 (dd_at ddX7_holds 1 rfl) ?_
  refine lv_iload_n S.1 S.2.1 (dd_at ddX7_holds 2 rfl) rfl (lv_at hl 1 rfl) ?_
  refine lv_iconst (v := 3) S.1 S.2.1 (dd_at ddX7_holds 3 rfl) (by decide) ?_
  refine r_callI hw (r_runV (As := [.int p1, .int 3]) (rest := []) S hw (m_X6_get l D cs E d H.size b_12 p1 3 _) (cwV 2 S.2.2.2.2 (gV wg736 wg623 wg624 wg51 wg625) rfl rfl rfl (by decide +kernel) ⟨Nat.le_of_ble_eq_true rfl, Nat.le_of_ble_eq_true rfl⟩) (ci := 6) rfl ho_14 h rfl hl.1 rfl (Nat.le_of_ble_eq_true rfl) (dd_at ddX7_holds 4 rfl) ⟨Nat.le_of_ble_eq_true rfl, Nat.le_of_ble_eq_true rfl⟩) (fun r_16 d_15 H locs h hw => ?_)
  refine lv_istore_n (lv' := [(3, .int r_16), (0, .ref a0), (1, .int p1), (2, .ref a2)]) S.1 S.2.1 (dd_at ddX7_holds 5 rfl) rfl hl (by decide) rfl (fun ls hl => ?_)
  refine lv_aload_n S.1 S.2.1 (dd_at ddX7_holds 6 rfl) rfl (lv_at hl 1 rfl) ?_
  obtain ⟨b_17, hb_18, ho_19, h⟩ := h
  refine r_getR S hw 7 0 rfl inG7 (by decide) (List.mem_cons_of_mem _ wg398) (by decide) ha0 hb_18 (dd_at ddX7_holds 7 rfl) ?_
  refine lv_iload_n S.1 S.2.1 (dd_at ddX7_holds 8 rfl) rfl (lv_at hl 2 rfl) ?_
  refine lv_iconst (v := 4) S.1 S.2.1 (dd_at ddX7_holds 9 rfl) (by decide) ?_
  refine r_callI hw (r_runV (As := [.int p1, .int 4]) (rest := []) S hw (m_X6_get l D cs E d_15 H.size b_17 p1 4 _) (cwV 2 S.2.2.2.2 (gV wg736 wg623 wg624 wg51 wg625) rfl rfl rfl (by decide +kernel) ⟨Nat.le_of_ble_eq_true rfl, Nat.le_of_ble_eq_true rfl⟩) (ci := 6) rfl ho_19 h rfl hl.1 rfl (Nat.le_of_ble_eq_true rfl) (dd_at ddX7_holds 10 rfl) ⟨Nat.le_of_ble_eq_true rfl, Nat.le_of_ble_eq_true rfl⟩) (fun r_21 d_20 H locs h hw => ?_)
  refine lv_aload_n S.1 S.2.1 (dd_at ddX7_holds 11 rfl) rfl (lv_at hl 1 rfl) ?_
  obtain ⟨b_22, hb_23, ho_24, h⟩ := h
  refine r_getR S hw 7 1 rfl inG7 (by decide) (List.mem_cons_of_mem _ wg399) (by decide) ha0 hb_23 (dd_at ddX7_holds 12 rfl) ?_
  refine r_alenI S hw ho_24 (dd_at ddX7_holds 13 rfl) ?_
  refine va_mmin S.1 S.2.1 (by rw [hl.1]; exact S.2.2.1) S.2.2.2.1 (S.2.2.2.2 _ (List.mem_cons_of_mem _ wg735)) (S.2.2.2.2 _ (List.mem_cons_of_mem _ wg212)) (S.2.2.2.2 _ (List.mem_cons_of_mem _ wg70)) (S.2.2.2.2 _ (List.mem_cons_of_mem _ wg213)) (Nat.le_of_ble_eq_true rfl) (Nat.le_of_ble_eq_true rfl) (Nat.le_of_ble_eq_true rfl) (Nat.le_of_ble_eq_true rfl) (dd_at ddX7_holds 14 rfl) ?_
  refine lv_istore (lv' := [(4, .int (if (nI (eN E b_22)) < r_21 then (nI (eN E b_22)) else r_21)), (3, .int r_16), (0, .ref a0), (1, .int p1), (2, .ref a2)]) S.1 S.2.1 (dd_at ddX7_holds 15 rfl) hl (by decide) rfl (fun ls hl => ?_)
  refine lv_aload_n S.1 S.2.1 (dd_at ddX7_holds 16 rfl) rfl (lv_at hl 4 rfl) ?_
  refine r_callV hw (r_runV (As := []) (rest := []) S hw (m_X0_clear l D cs E d_20 H.size a2 _) (cwV 0 S.2.2.2.2 (gV wg737 wg738 wg739 wg103 wg740) rfl rfl rfl (by decide +kernel) ⟨Nat.le_of_ble_eq_true rfl, Nat.le_of_ble_eq_true rfl⟩) (ci := 0) rfl ha2 h rfl hl.1 rfl (Nat.le_of_ble_eq_true rfl) (dd_at ddX7_holds 17 rfl) ⟨Nat.le_of_ble_eq_true rfl, Nat.le_of_ble_eq_true rfl⟩) (fun d_25 H locs h hw => ?_)
  refine lv_iload_n S.1 S.2.1 (dd_at ddX7_holds 18 rfl) rfl (lv_at hl 1 rfl) ?_
  refine lv_istore (lv' := [(5, .int r_16), (4, .int (if (nI (eN E b_22)) < r_21 then (nI (eN E b_22)) else r_21)), (3, .int r_16), (0, .ref a0), (1, .int p1), (2, .ref a2)]) S.1 S.2.1 (dd_at ddX7_holds 19 rfl) hl (by decide) rfl (fun ls hl => ?_)
  obtain ⟨n_27, h⟩ := h
  exact tl36 n_27 r_16 (if (nI (eN E b_22)) < r_21 then (nI (eN E b_22)) else r_21) r_16 d_25 H locs ls h hw (lv_sub hl [3, 5, 2, 1, 0] rfl)

def b_X7_total_51 (E : En) (a0 : Nat) (a1 : Nat) (K : Int32 → Dy → Prop) (k4 : Int32 → Int32 → Dy → Prop) (v2 : Int32) (v3 : Int32) (s0 : Int32) (d : Dy) : Prop := ∃ b_1 : Nat, eR E a0 0 = some b_1 ∧ okO E b_1 6 ∧ w_X6_get E b_1 v3 0 d (fun r_5 d_4 => ∃ b_6 : Nat, eR E a0 0 = some b_6 ∧ okO E b_6 6 ∧ w_X6_get E b_6 v3 1 d_4 (fun r_10 d_9 => k4 (v2 + ((r_5 * r_10) * s0)) (v3 + 1) d_9))
def b_X7_total_4 (E : En) (a0 : Nat) (a1 : Nat) (K : Int32 → Dy → Prop) (k4 : Int32 → Int32 → Dy → Prop) (v2 : Int32) (v3 : Int32) (d : Dy) : Prop := ∃ b_11 : Nat, eR E a0 0 = some b_11 ∧ okO E b_11 6 ∧ w_X6_size E b_11 d (fun r_15 d_14 => ((r_15 ≤ v3 → K v2 d_14) ∧ (¬ r_15 ≤ v3 → w_X7_holds E a0 v3 a1 d_14 (fun r_18 d_17 => ((r_18 = 0 → k4 v2 (v3 + 1) d_17) ∧ (¬ r_18 = 0 → ∃ b_20 : Nat, eR E a0 0 = some b_20 ∧ okO E b_20 6 ∧ w_X6_get E b_20 v3 2 d_17 (fun r_24 d_23 => ((¬ r_24 = (-1) → w_X0_of E a1 r_24 d_23 (fun r_27 d_26 => b_X7_total_51 E a0 a1 K k4 v2 v3 r_27 d_26)) ∧ (r_24 = (-1) → b_X7_total_51 E a0 a1 K k4 v2 v3 1 d_23)))))))))
def l_X7_total_4 (E : En) (a0 : Nat) (a1 : Nat) (K : Int32 → Dy → Prop) : Nat → Int32 → Int32 → Dy → Prop
  | 0 => fun _ _ _ => False
  | n + 1 => b_X7_total_4 E a0 a1 K (l_X7_total_4 E a0 a1 K n)
def w_X7_total (E : En) (a0 : Nat) (a1 : Nat) (d : Dy) (K : Int32 → Dy → Prop) : Prop := okO E a0 7 ∧ okO E a1 0 ∧ (∃ n_28 : Nat, l_X7_total_4 E a0 a1 K n_28 0 0 d)
abbrev rm_X7_total : Room := { frames := 3, cells := 0, slots := 0, locals := 68 }
set_option maxRecDepth 100000 in
set_option maxHeartbeats 4000000 in
theorem m_X7_total (l : Launch) (D : va_G) (cs : Nat → ClassId) (E : En) (d : Dy) (sz : Nat) (a0 : Nat) (a1 : Nat) (K : Int32 → Dy → Prop) : CI l yX7_total (.code yX7_total cX7_total 6 (some .int) :: wsL_law) rm_X7_total D cs E d sz [.ref a0, .ref a1] (w_X7_total E a0 a1 d K) K := by
  refine e_of (cc := cX7_total) (maxL := 6) (ret := (some .int)) (own := RX7) (by decide) rfl rfl (Nat.le_of_ble_eq_true rfl) ?_
  intro p e s m below meth c S hr hlocks hsz H locs hw h ls hl
  have hl : lv_has ls 6 [(0, .ref a0), (1, .ref a1)] := hl
  unfold w_X7_total at h
  obtain ⟨ha0, h⟩ := h
  obtain ⟨ha1, h⟩ := h
  have tl4 : ∀ (n : Nat) (v2 : Int32) (v3 : Int32) (d : Dy) (H : Heap) (locs : List Loc) (ls : Array Slot), l_X7_total_4 E a0 a1 K n v2 v3 d → Wd D cs (AW E sz) s.heap s E d H locs → lv_has ls 6 [(0, .ref a0), (1, .ref a1), (2, .int v2), (3, .int v3)] → W p l e rm_X7_total s m ([.ref a0, .ref a1] : List Value).toArray below meth c H locs 0 0 (MQ below (va_Qi K (OutW D cs E (AW E sz)) (AW E sz)) ([.ref a0, .ref a1] : List Value).toArray s rm_X7_total.cells rm_X7_total.slots (AW E sz)) (F0 m 4 ls []) := by
    intro n4
    induction n4 with
    | zero => intro v2 v3 d H locs ls h; exact absurd h id
    | succ n4 ih4 =>
      have tb51 : ∀ (v2 : Int32) (v3 : Int32) (s0 : Int32) (d : Dy) (H : Heap) (locs : List Loc) (ls : Array Slot), b_X7_total_51 E a0 a1 K (l_X7_total_4 E a0 a1 K n4) v2 v3 s0 d → Wd D cs (AW E sz) s.heap s E d H locs → lv_has ls 6 [(0, .ref a0), (1, .ref a1), (2, .int v2), (3, .int v3)] → W p l e rm_X7_total s m ([.ref a0, .ref a1] : List Value).toArray below meth c H locs 0 0 (MQ below (va_Qi K (OutW D cs E (AW E sz)) (AW E sz)) ([.ref a0, .ref a1] : List Value).toArray s rm_X7_total.cells rm_X7_total.slots (AW E sz)) (F0 m 51 ls [.int s0]) := by
        intro v2 v3 s0 d H locs ls h hw hl
        unfold b_X7_total_51 at h
        refine lv_istore (lv' := [(5, .int s0), (0, .ref a0), (1, .ref a1), (2, .int v2), (3, .int v3)]) S.1 S.2.1 (dd_at ddX7_total 28 rfl) hl (by decide) rfl (fun ls hl => ?_)
        refine lv_iload_n S.1 S.2.1 (dd_at ddX7_total 29 rfl) rfl (lv_at hl 3 rfl) ?_
        refine lv_aload_n S.1 S.2.1 (dd_at ddX7_total 30 rfl) rfl (lv_at hl 1 rfl) ?_
        obtain ⟨b_1, hb_2, ho_3, h⟩ := h
        refine r_getR S hw 7 0 rfl inG7 (by decide) (List.mem_cons_of_mem _ wg398) (by decide) ha0 hb_2 (dd_at ddX7_total 31 rfl) ?_
        refine lv_iload_n S.1 S.2.1 (dd_at ddX7_total 32 rfl) rfl (lv_at hl 4 rfl) ?_
        refine lv_iconst (v := 0) S.1 S.2.1 (dd_at ddX7_total 33 rfl) (by decide) ?_
        refine r_callI hw (r_runV (As := [.int v3, .int 0]) (rest := [.int v2]) S hw (m_X6_get l D cs E d H.size b_1 v3 0 _) (cwV 2 S.2.2.2.2 (gV wg736 wg623 wg624 wg51 wg625) rfl rfl rfl (by decide +kernel) ⟨Nat.le_of_ble_eq_true rfl, Nat.le_of_ble_eq_true rfl⟩) (ci := 6) rfl ho_3 h rfl hl.1 rfl (Nat.le_of_ble_eq_true rfl) (dd_at ddX7_total 34 rfl) ⟨Nat.le_of_ble_eq_true rfl, Nat.le_of_ble_eq_true rfl⟩) (fun r_5 d_4 H locs h hw => ?_)
        refine lv_aload_n S.1 S.2.1 (dd_at ddX7_total 35 rfl) rfl (lv_at hl 1 rfl) ?_
        obtain ⟨b_6, hb_7, ho_8, h⟩ := h
        refine r_getR S hw 7 0 rfl inG7 (by decide) (List.mem_cons_of_mem _ wg398) (by decide) ha0 hb_7 (dd_at ddX7_total 36 rfl) ?_
        refine lv_iload_n S.1 S.2.1 (dd_at ddX7_total 37 rfl) rfl (lv_at hl 4 rfl) ?_
        refine lv_iconst (v := 1) S.1 S.2.1 (dd_at ddX7_total 38 rfl) (by decide) ?_
        refine r_callI hw (r_runV (As := [.int v3, .int 1]) (rest := [.int r_5, .int v2]) S hw (m_X6_get l D cs E d_4 H.size b_6 v3 1 _) (cwV 2 S.2.2.2.2 (gV wg736 wg623 wg624 wg51 wg625) rfl rfl rfl (by decide +kernel) ⟨Nat.le_of_ble_eq_true rfl, Nat.le_of_ble_eq_true rfl⟩) (ci := 6) rfl ho_8 h rfl hl.1 rfl (Nat.le_of_ble_eq_true rfl) (dd_at ddX7_total 39 rfl) ⟨Nat.le_of_ble_eq_true rfl, Nat.le_of_ble_eq_true rfl⟩) (fun r_10 d_9 H locs h hw => ?_)
        refine lv_imul S.1 S.2.1 (dd_at ddX7_total 40 rfl) ?_
        refine lv_iload S.1 S.2.1 (dd_at ddX7_total 41 rfl) (lv_at hl 0 rfl) ?_
        refine lv_imul S.1 S.2.1 (dd_at ddX7_total 42 rfl) ?_
        refine lv_iadd S.1 S.2.1 (dd_at ddX7_total 43 rfl) ?_
        refine lv_istore_n (lv' := [(2, .int (v2 + ((r_5 * r_10) * s0))), (5, .int s0), (0, .ref a0), (1, .ref a1), (3, .int v3)]) S.1 S.2.1 (dd_at ddX7_total 44 rfl) rfl hl (by decide) rfl (fun ls hl => ?_)
        refine lv_iinc (v := v3 + 1) (lv' := [(3, .int (v3 + 1)), (2, .int (v2 + ((r_5 * r_10) * s0))), (5, .int s0), (0, .ref a0), (1, .ref a1)]) S.1 S.2.1 (dd_at ddX7_total 45 rfl) hl (k := 4) rfl rfl (by decide) rfl (fun ls hl => ?_)
        refine lv_goto (tgt := 4) S.1 S.2.1 (dd_at ddX7_total 46 rfl) (by decide) ?_
        exact ih4 (v2 + ((r_5 * r_10) * s0)) (v3 + 1) d_9 H locs ls h hw (lv_sub hl [3, 4, 1, 0] rfl)
      intro v2 v3 d H locs ls h hw hl
      have h : b_X7_total_4 E a0 a1 K (l_X7_total_4 E a0 a1 K n4) v2 v3 d := h
      unfold b_X7_total_4 at h
      refine lv_iload_n S.1 S.2.1 (dd_at ddX7_total 4 rfl) rfl (lv_at hl 3 rfl) ?_
      refine lv_aload_n S.1 S.2.1 (dd_at ddX7_total 5 rfl) rfl (lv_at hl 0 rfl) ?_
      obtain ⟨b_11, hb_12, ho_13, h⟩ := h
      refine r_getR S hw 7 0 rfl inG7 (by decide) (List.mem_cons_of_mem _ wg398) (by decide) ha0 hb_12 (dd_at ddX7_total 6 rfl) ?_
      refine r_callI hw (r_runV (As := []) (rest := [.int v3]) S hw (m_X6_size l D cs E d H.size b_11 _) (cwV 0 S.2.2.2.2 (gV wg408 wg372 wg373 wg51 wg374) rfl rfl rfl (by decide +kernel) ⟨Nat.le_of_ble_eq_true rfl, Nat.le_of_ble_eq_true rfl⟩) (ci := 6) rfl ho_13 h rfl hl.1 rfl (Nat.le_of_ble_eq_true rfl) (dd_at ddX7_total 7 rfl) ⟨Nat.le_of_ble_eq_true rfl, Nat.le_of_ble_eq_true rfl⟩) (fun r_15 d_14 H locs h hw => ?_)
      refine lv_icmp_ge (tgt := 84) S.1 S.2.1 (dd_at ddX7_total 8 rfl) (by decide) (fun hc_16 => ?_) (fun hc_16 => ?_)
      · have h := h.1 hc_16
        refine lv_iload_n S.1 S.2.1 (dd_at ddX7_total 47 rfl) rfl (lv_at hl 2 rfl) ?_
        exact e_I S hr hlocks hw h (dd_at ddX7_total 48 rfl)
      · have h := h.2 hc_16
        refine lv_aload_n S.1 S.2.1 (dd_at ddX7_total 9 rfl) rfl (lv_at hl 0 rfl) ?_
        refine lv_iload_n S.1 S.2.1 (dd_at ddX7_total 10 rfl) rfl (lv_at hl 3 rfl) ?_
        refine lv_aload_n S.1 S.2.1 (dd_at ddX7_total 11 rfl) rfl (lv_at hl 1 rfl) ?_
        refine r_callI hw (r_runV (As := [.int v3, .ref a1]) (rest := []) S hw (m_X7_holds l D cs E d_14 H.size a0 v3 a1 _) (cwV 2 S.2.2.2.2 (gV wg972 wg732 wg733 wg370 wg734) rfl rfl rfl (by decide +kernel) ⟨Nat.le_of_ble_eq_true rfl, Nat.le_of_ble_eq_true rfl⟩) (ci := 7) rfl ha0 h rfl hl.1 rfl (Nat.le_of_ble_eq_true rfl) (dd_at ddX7_total 12 rfl) ⟨Nat.le_of_ble_eq_true rfl, Nat.le_of_ble_eq_true rfl⟩) (fun r_18 d_17 H locs h hw => ?_)
        refine lv_if_eq (tgt := 78) S.1 S.2.1 (dd_at ddX7_total 13 rfl) (by decide) (fun hc_19 => ?_) (fun hc_19 => ?_)
        · have h := h.1 hc_19
          refine lv_iinc (v := v3 + 1) (lv' := [(3, .int (v3 + 1)), (0, .ref a0), (1, .ref a1), (2, .int v2)]) S.1 S.2.1 (dd_at ddX7_total 45 rfl) hl (k := 3) rfl rfl (by decide) rfl (fun ls hl => ?_)
          refine lv_goto (tgt := 4) S.1 S.2.1 (dd_at ddX7_total 46 rfl) (by decide) ?_
          exact ih4 v2 (v3 + 1) d_17 H locs ls h hw (lv_sub hl [1, 2, 3, 0] rfl)
        · have h := h.2 hc_19
          refine lv_aload_n S.1 S.2.1 (dd_at ddX7_total 14 rfl) rfl (lv_at hl 0 rfl) ?_
          obtain ⟨b_20, hb_21, ho_22, h⟩ := h
          refine r_getR S hw 7 0 rfl inG7 (by decide) (List.mem_cons_of_mem _ wg398) (by decide) ha0 hb_21 (dd_at ddX7_total 15 rfl) ?_
          refine lv_iload_n S.1 S.2.1 (dd_at ddX7_total 16 rfl) rfl (lv_at hl 3 rfl) ?_
          refine lv_iconst (v := 2) S.1 S.2.1 (dd_at ddX7_total 17 rfl) (by decide) ?_
          refine r_callI hw (r_runV (As := [.int v3, .int 2]) (rest := []) S hw (m_X6_get l D cs E d_17 H.size b_20 v3 2 _) (cwV 2 S.2.2.2.2 (gV wg736 wg623 wg624 wg51 wg625) rfl rfl rfl (by decide +kernel) ⟨Nat.le_of_ble_eq_true rfl, Nat.le_of_ble_eq_true rfl⟩) (ci := 6) rfl ho_22 h rfl hl.1 rfl (Nat.le_of_ble_eq_true rfl) (dd_at ddX7_total 18 rfl) ⟨Nat.le_of_ble_eq_true rfl, Nat.le_of_ble_eq_true rfl⟩) (fun r_24 d_23 H locs h hw => ?_)
          refine lv_istore (lv' := [(4, .int r_24), (0, .ref a0), (1, .ref a1), (2, .int v2), (3, .int v3)]) S.1 S.2.1 (dd_at ddX7_total 19 rfl) hl (by decide) rfl (fun ls hl => ?_)
          refine lv_iload S.1 S.2.1 (dd_at ddX7_total 20 rfl) (lv_at hl 0 rfl) ?_
          refine lv_iconst (v := -1) S.1 S.2.1 (dd_at ddX7_total 21 rfl) (by decide) ?_
          refine lv_icmp_ne (tgt := 45) S.1 S.2.1 (dd_at ddX7_total 22 rfl) (by decide) (fun hc_25 => ?_) (fun hc_25 => ?_)
          · have h := h.1 hc_25
            refine lv_aload_n S.1 S.2.1 (dd_at ddX7_total 25 rfl) rfl (lv_at hl 2 rfl) ?_
            refine lv_iload S.1 S.2.1 (dd_at ddX7_total 26 rfl) (lv_at hl 0 rfl) ?_
            refine r_callI hw (r_runV (As := [.int r_24]) (rest := []) S hw (m_X0_of l D cs E d_23 H.size a1 r_24 _) (cwV 1 S.2.2.2.2 (gV wg973 wg751 wg752 wg103 wg753) rfl rfl rfl (by decide +kernel) ⟨Nat.le_of_ble_eq_true rfl, Nat.le_of_ble_eq_true rfl⟩) (ci := 0) rfl ha1 h rfl hl.1 rfl (Nat.le_of_ble_eq_true rfl) (dd_at ddX7_total 27 rfl) ⟨Nat.le_of_ble_eq_true rfl, Nat.le_of_ble_eq_true rfl⟩) (fun r_27 d_26 H locs h hw => ?_)
            exact tb51 v2 v3 r_27 d_26 H locs ls h hw (lv_sub hl [1, 2, 3, 4] rfl)
          · have h := h.2 hc_25
            refine lv_iconst (v := 1) S.1 S.2.1 (dd_at ddX7_total 23 rfl) (by decide) ?_
            refine lv_goto (tgt := 51) S.1 S.2.1 (dd_at ddX7_total 24 rfl) (by decide) ?_
            exact tb51 v2 v3 1 d_23 H locs ls h hw (lv_sub hl [1, 2, 3, 4] rfl)
  refine lv_iconst (v := 0) S.1 S.2.1 (dd_at ddX7_total 0 rfl) (by decide) ?_
  refine lv_istore_n (lv' := [(2, .int 0), (0, .ref a0), (1, .ref a1)]) S.1 S.2.1 (dd_at ddX7_total 1 rfl) rfl hl (by decide) rfl (fun ls hl => ?_)
  refine lv_iconst (v := 0) S.1 S.2.1 (dd_at ddX7_total 2 rfl) (by decide) ?_
  refine lv_istore_n (lv' := [(3, .int 0), (2, .int 0), (0, .ref a0), (1, .ref a1)]) S.1 S.2.1 (dd_at ddX7_total 3 rfl) rfl hl (by decide) rfl (fun ls hl => ?_)
  obtain ⟨n_28, h⟩ := h
  exact tl4 n_28 0 0 d H locs ls h hw (lv_sub hl [2, 3, 1, 0] rfl)

def w_X7_size (E : En) (a0 : Nat) (d : Dy) (K : Int32 → Dy → Prop) : Prop := okO E a0 7 ∧ ∃ b_1 : Nat, eR E a0 0 = some b_1 ∧ okO E b_1 6 ∧ w_X6_size E b_1 d (fun r_5 d_4 => K r_5 d_4)
abbrev rm_X7_size : Room := { frames := 1, cells := 0, slots := 0, locals := 20 }
set_option maxRecDepth 100000 in
set_option maxHeartbeats 4000000 in
theorem m_X7_size (l : Launch) (D : va_G) (cs : Nat → ClassId) (E : En) (d : Dy) (sz : Nat) (a0 : Nat) (K : Int32 → Dy → Prop) : CI l yX7_size (.code yX7_size cX7_size 1 (some .int) :: wsL_law) rm_X7_size D cs E d sz [.ref a0] (w_X7_size E a0 d K) K := by
  refine e_of (cc := cX7_size) (maxL := 1) (ret := (some .int)) (own := RX7) (by decide) rfl rfl (Nat.le_of_ble_eq_true rfl) ?_
  intro p e s m below meth c S hr hlocks hsz H locs hw h ls hl
  have hl : lv_has ls 1 [(0, .ref a0)] := hl
  unfold w_X7_size at h
  obtain ⟨ha0, h⟩ := h
  refine lv_aload_n S.1 S.2.1 (dd_at ddX7_size 0 rfl) rfl (lv_at hl 0 rfl) ?_
  obtain ⟨b_1, hb_2, ho_3, h⟩ := h
  refine r_getR S hw 7 0 rfl inG7 (by decide) (List.mem_cons_of_mem _ wg398) (by decide) ha0 hb_2 (dd_at ddX7_size 1 rfl) ?_
  refine r_callI hw (r_runV (As := []) (rest := []) S hw (m_X6_size l D cs E d H.size b_1 _) (cwV 0 S.2.2.2.2 (gV wg408 wg372 wg373 wg51 wg374) rfl rfl rfl (by decide +kernel) ⟨Nat.le_of_ble_eq_true rfl, Nat.le_of_ble_eq_true rfl⟩) (ci := 6) rfl ho_3 h rfl hl.1 rfl (Nat.le_of_ble_eq_true rfl) (dd_at ddX7_size 2 rfl) ⟨Nat.le_of_ble_eq_true rfl, Nat.le_of_ble_eq_true rfl⟩) (fun r_5 d_4 H locs h hw => ?_)
  exact e_I S hr hlocks hw h (dd_at ddX7_size 3 rfl)

def w_X7_what (E : En) (a0 : Nat) (p1 : Int32) (d : Dy) (K : Int32 → Dy → Prop) : Prop := okO E a0 7 ∧ ∃ b_1 : Nat, eR E a0 0 = some b_1 ∧ okO E b_1 6 ∧ w_X6_get E b_1 p1 0 d (fun r_5 d_4 => K r_5 d_4)
abbrev rm_X7_what : Room := { frames := 1, cells := 0, slots := 0, locals := 23 }
set_option maxRecDepth 100000 in
set_option maxHeartbeats 4000000 in
theorem m_X7_what (l : Launch) (D : va_G) (cs : Nat → ClassId) (E : En) (d : Dy) (sz : Nat) (a0 : Nat) (p1 : Int32) (K : Int32 → Dy → Prop) : CI l yX7_what (.code yX7_what cX7_what 2 (some .int) :: wsL_law) rm_X7_what D cs E d sz [.ref a0, .int p1] (w_X7_what E a0 p1 d K) K := by
  refine e_of (cc := cX7_what) (maxL := 2) (ret := (some .int)) (own := RX7) (by decide) rfl rfl (Nat.le_of_ble_eq_true rfl) ?_
  intro p e s m below meth c S hr hlocks hsz H locs hw h ls hl
  have hl : lv_has ls 2 [(0, .ref a0), (1, .int p1)] := hl
  unfold w_X7_what at h
  obtain ⟨ha0, h⟩ := h
  refine lv_aload_n S.1 S.2.1 (dd_at ddX7_what 0 rfl) rfl (lv_at hl 0 rfl) ?_
  obtain ⟨b_1, hb_2, ho_3, h⟩ := h
  refine r_getR S hw 7 0 rfl inG7 (by decide) (List.mem_cons_of_mem _ wg398) (by decide) ha0 hb_2 (dd_at ddX7_what 1 rfl) ?_
  refine lv_iload_n S.1 S.2.1 (dd_at ddX7_what 2 rfl) rfl (lv_at hl 1 rfl) ?_
  refine lv_iconst (v := 0) S.1 S.2.1 (dd_at ddX7_what 3 rfl) (by decide) ?_
  refine r_callI hw (r_runV (As := [.int p1, .int 0]) (rest := []) S hw (m_X6_get l D cs E d H.size b_1 p1 0 _) (cwV 2 S.2.2.2.2 (gV wg736 wg623 wg624 wg51 wg625) rfl rfl rfl (by decide +kernel) ⟨Nat.le_of_ble_eq_true rfl, Nat.le_of_ble_eq_true rfl⟩) (ci := 6) rfl ho_3 h rfl hl.1 rfl (Nat.le_of_ble_eq_true rfl) (dd_at ddX7_what 4 rfl) ⟨Nat.le_of_ble_eq_true rfl, Nat.le_of_ble_eq_true rfl⟩) (fun r_5 d_4 H locs h hw => ?_)
  exact e_I S hr hlocks hw h (dd_at ddX7_what 5 rfl)

def b_X7_colours_4 (E : En) (a0 : Nat) (a1 : Nat) (K : Int32 → Dy → Prop) (k4 : Int32 → Int32 → Dy → Prop) (v2 : Int32) (v3 : Int32) (d : Dy) : Prop := ∃ b_1 : Nat, eR E a0 0 = some b_1 ∧ okO E b_1 6 ∧ w_X6_size E b_1 d (fun r_5 d_4 => ((r_5 ≤ v3 → K v2 d_4) ∧ (¬ r_5 ≤ v3 → w_X7_holds E a0 v3 a1 d_4 (fun r_8 d_7 => ((r_8 = 0 → k4 v2 (v3 + 1) d_7) ∧ (¬ r_8 = 0 → ∃ b_10 : Nat, eR E a0 0 = some b_10 ∧ okO E b_10 6 ∧ w_X6_get E b_10 v3 0 d_7 (fun r_14 d_13 => k4 (v2 ||| ((1 : Int32) <<< (r_14 &&& 31))) (v3 + 1) d_13)))))))
def l_X7_colours_4 (E : En) (a0 : Nat) (a1 : Nat) (K : Int32 → Dy → Prop) : Nat → Int32 → Int32 → Dy → Prop
  | 0 => fun _ _ _ => False
  | n + 1 => b_X7_colours_4 E a0 a1 K (l_X7_colours_4 E a0 a1 K n)
def w_X7_colours (E : En) (a0 : Nat) (a1 : Nat) (d : Dy) (K : Int32 → Dy → Prop) : Prop := okO E a0 7 ∧ okO E a1 0 ∧ (∃ n_15 : Nat, l_X7_colours_4 E a0 a1 K n_15 0 0 d)
abbrev rm_X7_colours : Room := { frames := 3, cells := 0, slots := 0, locals := 68 }
set_option maxRecDepth 100000 in
set_option maxHeartbeats 4000000 in
theorem m_X7_colours (l : Launch) (D : va_G) (cs : Nat → ClassId) (E : En) (d : Dy) (sz : Nat) (a0 : Nat) (a1 : Nat) (K : Int32 → Dy → Prop) : CI l yX7_colours (.code yX7_colours cX7_colours 4 (some .int) :: wsL_law) rm_X7_colours D cs E d sz [.ref a0, .ref a1] (w_X7_colours E a0 a1 d K) K := by
  refine e_of (cc := cX7_colours) (maxL := 4) (ret := (some .int)) (own := RX7) (by decide) rfl rfl (Nat.le_of_ble_eq_true rfl) ?_
  intro p e s m below meth c S hr hlocks hsz H locs hw h ls hl
  have hl : lv_has ls 4 [(0, .ref a0), (1, .ref a1)] := hl
  unfold w_X7_colours at h
  obtain ⟨ha0, h⟩ := h
  obtain ⟨ha1, h⟩ := h
  have tl4 : ∀ (n : Nat) (v2 : Int32) (v3 : Int32) (d : Dy) (H : Heap) (locs : List Loc) (ls : Array Slot), l_X7_colours_4 E a0 a1 K n v2 v3 d → Wd D cs (AW E sz) s.heap s E d H locs → lv_has ls 4 [(0, .ref a0), (1, .ref a1), (2, .int v2), (3, .int v3)] → W p l e rm_X7_colours s m ([.ref a0, .ref a1] : List Value).toArray below meth c H locs 0 0 (MQ below (va_Qi K (OutW D cs E (AW E sz)) (AW E sz)) ([.ref a0, .ref a1] : List Value).toArray s rm_X7_colours.cells rm_X7_colours.slots (AW E sz)) (F0 m 4 ls []) := by
    intro n4
    induction n4 with
    | zero => intro v2 v3 d H locs ls h; exact absurd h id
    | succ n4 ih4 =>
      intro v2 v3 d H locs ls h hw hl
      have h : b_X7_colours_4 E a0 a1 K (l_X7_colours_4 E a0 a1 K n4) v2 v3 d := h
      unfold b_X7_colours_4 at h
      refine lv_iload_n S.1 S.2.1 (dd_at ddX7_colours 4 rfl) rfl (lv_at hl 3 rfl) ?_
      refine lv_aload_n S.1 S.2.1 (dd_at ddX7_colours 5 rfl) rfl (lv_at hl 0 rfl) ?_
      obtain ⟨b_1, hb_2, ho_3, h⟩ := h
      refine r_getR S hw 7 0 rfl inG7 (by decide) (List.mem_cons_of_mem _ wg398) (by decide) ha0 hb_2 (dd_at ddX7_colours 6 rfl) ?_
      refine r_callI hw (r_runV (As := []) (rest := [.int v3]) S hw (m_X6_size l D cs E d H.size b_1 _) (cwV 0 S.2.2.2.2 (gV wg408 wg372 wg373 wg51 wg374) rfl rfl rfl (by decide +kernel) ⟨Nat.le_of_ble_eq_true rfl, Nat.le_of_ble_eq_true rfl⟩) (ci := 6) rfl ho_3 h rfl hl.1 rfl (Nat.le_of_ble_eq_true rfl) (dd_at ddX7_colours 7 rfl) ⟨Nat.le_of_ble_eq_true rfl, Nat.le_of_ble_eq_true rfl⟩) (fun r_5 d_4 H locs h hw => ?_)
      refine lv_icmp_ge (tgt := 44) S.1 S.2.1 (dd_at ddX7_colours 8 rfl) (by decide) (fun hc_6 => ?_) (fun hc_6 => ?_)
      · have h := h.1 hc_6
        refine lv_iload_n S.1 S.2.1 (dd_at ddX7_colours 26 rfl) rfl (lv_at hl 2 rfl) ?_
        exact e_I S hr hlocks hw h (dd_at ddX7_colours 27 rfl)
      · have h := h.2 hc_6
        refine lv_aload_n S.1 S.2.1 (dd_at ddX7_colours 9 rfl) rfl (lv_at hl 0 rfl) ?_
        refine lv_iload_n S.1 S.2.1 (dd_at ddX7_colours 10 rfl) rfl (lv_at hl 3 rfl) ?_
        refine lv_aload_n S.1 S.2.1 (dd_at ddX7_colours 11 rfl) rfl (lv_at hl 1 rfl) ?_
        refine r_callI hw (r_runV (As := [.int v3, .ref a1]) (rest := []) S hw (m_X7_holds l D cs E d_4 H.size a0 v3 a1 _) (cwV 2 S.2.2.2.2 (gV wg972 wg732 wg733 wg370 wg734) rfl rfl rfl (by decide +kernel) ⟨Nat.le_of_ble_eq_true rfl, Nat.le_of_ble_eq_true rfl⟩) (ci := 7) rfl ha0 h rfl hl.1 rfl (Nat.le_of_ble_eq_true rfl) (dd_at ddX7_colours 12 rfl) ⟨Nat.le_of_ble_eq_true rfl, Nat.le_of_ble_eq_true rfl⟩) (fun r_8 d_7 H locs h hw => ?_)
        refine lv_if_eq (tgt := 38) S.1 S.2.1 (dd_at ddX7_colours 13 rfl) (by decide) (fun hc_9 => ?_) (fun hc_9 => ?_)
        · have h := h.1 hc_9
          refine lv_iinc (v := v3 + 1) (lv' := [(3, .int (v3 + 1)), (0, .ref a0), (1, .ref a1), (2, .int v2)]) S.1 S.2.1 (dd_at ddX7_colours 24 rfl) hl (k := 3) rfl rfl (by decide) rfl (fun ls hl => ?_)
          refine lv_goto (tgt := 4) S.1 S.2.1 (dd_at ddX7_colours 25 rfl) (by decide) ?_
          exact ih4 v2 (v3 + 1) d_7 H locs ls h hw (lv_sub hl [1, 2, 3, 0] rfl)
        · have h := h.2 hc_9
          refine lv_iload_n S.1 S.2.1 (dd_at ddX7_colours 14 rfl) rfl (lv_at hl 2 rfl) ?_
          refine lv_iconst (v := 1) S.1 S.2.1 (dd_at ddX7_colours 15 rfl) (by decide) ?_
          refine lv_aload_n S.1 S.2.1 (dd_at ddX7_colours 16 rfl) rfl (lv_at hl 0 rfl) ?_
          obtain ⟨b_10, hb_11, ho_12, h⟩ := h
          refine r_getR S hw 7 0 rfl inG7 (by decide) (List.mem_cons_of_mem _ wg398) (by decide) ha0 hb_11 (dd_at ddX7_colours 17 rfl) ?_
          refine lv_iload_n S.1 S.2.1 (dd_at ddX7_colours 18 rfl) rfl (lv_at hl 3 rfl) ?_
          refine lv_iconst (v := 0) S.1 S.2.1 (dd_at ddX7_colours 19 rfl) (by decide) ?_
          refine r_callI hw (r_runV (As := [.int v3, .int 0]) (rest := [.int 1, .int v2]) S hw (m_X6_get l D cs E d_7 H.size b_10 v3 0 _) (cwV 2 S.2.2.2.2 (gV wg736 wg623 wg624 wg51 wg625) rfl rfl rfl (by decide +kernel) ⟨Nat.le_of_ble_eq_true rfl, Nat.le_of_ble_eq_true rfl⟩) (ci := 6) rfl ho_12 h rfl hl.1 rfl (Nat.le_of_ble_eq_true rfl) (dd_at ddX7_colours 20 rfl) ⟨Nat.le_of_ble_eq_true rfl, Nat.le_of_ble_eq_true rfl⟩) (fun r_14 d_13 H locs h hw => ?_)
          refine lv_ishl S.1 S.2.1 (dd_at ddX7_colours 21 rfl) ?_
          refine lv_ior S.1 S.2.1 (dd_at ddX7_colours 22 rfl) ?_
          refine lv_istore_n (lv' := [(2, .int (v2 ||| ((1 : Int32) <<< (r_14 &&& 31)))), (0, .ref a0), (1, .ref a1), (3, .int v3)]) S.1 S.2.1 (dd_at ddX7_colours 23 rfl) rfl hl (by decide) rfl (fun ls hl => ?_)
          refine lv_iinc (v := v3 + 1) (lv' := [(3, .int (v3 + 1)), (2, .int (v2 ||| ((1 : Int32) <<< (r_14 &&& 31)))), (0, .ref a0), (1, .ref a1)]) S.1 S.2.1 (dd_at ddX7_colours 24 rfl) hl (k := 3) rfl rfl (by decide) rfl (fun ls hl => ?_)
          refine lv_goto (tgt := 4) S.1 S.2.1 (dd_at ddX7_colours 25 rfl) (by decide) ?_
          exact ih4 (v2 ||| ((1 : Int32) <<< (r_14 &&& 31))) (v3 + 1) d_13 H locs ls h hw (lv_sub hl [2, 3, 1, 0] rfl)
  refine lv_iconst (v := 0) S.1 S.2.1 (dd_at ddX7_colours 0 rfl) (by decide) ?_
  refine lv_istore_n (lv' := [(2, .int 0), (0, .ref a0), (1, .ref a1)]) S.1 S.2.1 (dd_at ddX7_colours 1 rfl) rfl hl (by decide) rfl (fun ls hl => ?_)
  refine lv_iconst (v := 0) S.1 S.2.1 (dd_at ddX7_colours 2 rfl) (by decide) ?_
  refine lv_istore_n (lv' := [(3, .int 0), (2, .int 0), (0, .ref a0), (1, .ref a1)]) S.1 S.2.1 (dd_at ddX7_colours 3 rfl) rfl hl (by decide) rfl (fun ls hl => ?_)
  obtain ⟨n_15, h⟩ := h
  exact tl4 n_15 0 0 d H locs ls h hw (lv_sub hl [2, 3, 1, 0] rfl)

def w_X8_hutBits (E : En) (a0 : Nat) (d : Dy) (K : Int32 → Dy → Prop) : Prop := okO E a0 8 ∧ ∃ b_1 : Nat, eR E a0 2 = some b_1 ∧ okO E b_1 6 ∧ w_X6_size E b_1 d (fun r_5 d_4 => K (((1 : Int32) <<< (r_5 &&& 31)) - 1) d_4)
abbrev rm_X8_hutBits : Room := { frames := 1, cells := 0, slots := 0, locals := 20 }
set_option maxRecDepth 100000 in
set_option maxHeartbeats 4000000 in
theorem m_X8_hutBits (l : Launch) (D : va_G) (cs : Nat → ClassId) (E : En) (d : Dy) (sz : Nat) (a0 : Nat) (K : Int32 → Dy → Prop) : CI l yX8_hutBits (.code yX8_hutBits cX8_hutBits 1 (some .int) :: wsL_law) rm_X8_hutBits D cs E d sz [.ref a0] (w_X8_hutBits E a0 d K) K := by
  refine e_of (cc := cX8_hutBits) (maxL := 1) (ret := (some .int)) (own := RX8) (by decide) rfl rfl (Nat.le_of_ble_eq_true rfl) ?_
  intro p e s m below meth c S hr hlocks hsz H locs hw h ls hl
  have hl : lv_has ls 1 [(0, .ref a0)] := hl
  unfold w_X8_hutBits at h
  obtain ⟨ha0, h⟩ := h
  refine lv_iconst (v := 1) S.1 S.2.1 (dd_at ddX8_hutBits 0 rfl) (by decide) ?_
  refine lv_aload_n S.1 S.2.1 (dd_at ddX8_hutBits 1 rfl) rfl (lv_at hl 0 rfl) ?_
  obtain ⟨b_1, hb_2, ho_3, h⟩ := h
  refine r_getR S hw 8 2 rfl inG8 (by decide) (List.mem_cons_of_mem _ wg53) (by decide) ha0 hb_2 (dd_at ddX8_hutBits 2 rfl) ?_
  refine r_callI hw (r_runV (As := []) (rest := [.int 1]) S hw (m_X6_size l D cs E d H.size b_1 _) (cwV 0 S.2.2.2.2 (gV wg1149 wg372 wg373 wg51 wg374) rfl rfl rfl (by decide +kernel) ⟨Nat.le_of_ble_eq_true rfl, Nat.le_of_ble_eq_true rfl⟩) (ci := 6) rfl ho_3 h rfl hl.1 rfl (Nat.le_of_ble_eq_true rfl) (dd_at ddX8_hutBits 3 rfl) ⟨Nat.le_of_ble_eq_true rfl, Nat.le_of_ble_eq_true rfl⟩) (fun r_5 d_4 H locs h hw => ?_)
  refine lv_ishl S.1 S.2.1 (dd_at ddX8_hutBits 4 rfl) ?_
  refine lv_iconst (v := 1) S.1 S.2.1 (dd_at ddX8_hutBits 5 rfl) (by decide) ?_
  refine lv_isub S.1 S.2.1 (dd_at ddX8_hutBits 6 rfl) ?_
  exact e_I S hr hlocks hw h (dd_at ddX8_hutBits 7 rfl)

def w_X8_enforce (E : En) (a0 : Nat) (p1 : Int32) (a2 : Nat) (d : Dy) (K : Dy → Prop) : Prop := okO E a0 8 ∧ okO E a2 7 ∧ ((p1 < 0 → K d) ∧ (¬ p1 < 0 → ((4 ≤ p1 → K d) ∧ (¬ 4 ≤ p1 → ∃ b_3 : Nat, eR E a0 11 = some b_3 ∧ okA E b_3 16 ∧ vp_in p1 (eN E b_3) ∧ K (pQ d b_3 (p1).toNatClampNeg (some a2))))))
abbrev rm_X8_enforce : Room := { frames := 0, cells := 0, slots := 0, locals := 0 }
set_option maxRecDepth 100000 in
set_option maxHeartbeats 4000000 in
theorem m_X8_enforce (l : Launch) (D : va_G) (cs : Nat → ClassId) (E : En) (d : Dy) (sz : Nat) (a0 : Nat) (p1 : Int32) (a2 : Nat) (K : Dy → Prop) : CV l yX8_enforce (.code yX8_enforce cX8_enforce 3 none :: wsL_law) rm_X8_enforce D cs E d sz [.ref a0, .int p1, .ref a2] (w_X8_enforce E a0 p1 a2 d K) K := by
  refine e_of (cc := cX8_enforce) (maxL := 3) (ret := none) (own := RX8) (by decide) rfl rfl (Nat.le_of_ble_eq_true rfl) ?_
  intro p e s m below meth c S hr hlocks hsz H locs hw h ls hl
  have hl : lv_has ls 3 [(0, .ref a0), (1, .int p1), (2, .ref a2)] := hl
  unfold w_X8_enforce at h
  obtain ⟨ha0, h⟩ := h
  obtain ⟨ha2, h⟩ := h
  refine lv_iload_n S.1 S.2.1 (dd_at ddX8_enforce 0 rfl) rfl (lv_at hl 1 rfl) ?_
  refine lv_if_lt (tgt := 16) S.1 S.2.1 (dd_at ddX8_enforce 1 rfl) (by decide) (fun hc_1 => ?_) (fun hc_1 => ?_)
  · have h := h.1 hc_1
    exact e_V S hr hlocks hw h (dd_at ddX8_enforce 10 rfl)
  · have h := h.2 hc_1
    refine lv_iload_n S.1 S.2.1 (dd_at ddX8_enforce 2 rfl) rfl (lv_at hl 1 rfl) ?_
    refine lv_iconst (v := 4) S.1 S.2.1 (dd_at ddX8_enforce 3 rfl) (by decide) ?_
    refine lv_icmp_ge (tgt := 16) S.1 S.2.1 (dd_at ddX8_enforce 4 rfl) (by decide) (fun hc_2 => ?_) (fun hc_2 => ?_)
    · have h := h.1 hc_2
      exact e_V S hr hlocks hw h (dd_at ddX8_enforce 10 rfl)
    · have h := h.2 hc_2
      refine lv_aload_n S.1 S.2.1 (dd_at ddX8_enforce 5 rfl) rfl (lv_at hl 0 rfl) ?_
      obtain ⟨b_3, hb_4, ho_5, h⟩ := h
      refine r_getR S hw 8 11 rfl inG8 (by decide) (List.mem_cons_of_mem _ wg63) (by decide) ha0 hb_4 (dd_at ddX8_enforce 6 rfl) ?_
      refine lv_iload_n S.1 S.2.1 (dd_at ddX8_enforce 7 rfl) rfl (lv_at hl 1 rfl) ?_
      refine lv_aload_n S.1 S.2.1 (dd_at ddX8_enforce 8 rfl) rfl (lv_at hl 2 rfl) ?_
      obtain ⟨hx_6, h⟩ := h
      refine r_aast (x := (some a2)) S hw ho_5 (fun _ q => by cases q; exact ha2) hx_6 (dd_at ddX8_enforce 9 rfl) (fun H locs hw => ?_)
      exact e_V S hr hlocks hw h (dd_at ddX8_enforce 10 rfl)

def b_X8_copy_125 (E : En) (a0 : Nat) (a1 : Nat) (K : Dy → Prop) (k125 : Int32 → Dy → Prop) (v2 : Int32) (d : Dy) : Prop := ((4 ≤ v2 → K d) ∧ (¬ 4 ≤ v2 → ∃ b_2 : Nat, eR E a0 11 = some b_2 ∧ okA E b_2 16 ∧ ∃ b_5 : Nat, eR E a1 11 = some b_5 ∧ okA E b_5 16 ∧ vp_in v2 (eN E b_5) ∧ (∀ b : Nat, gQ d b_5 (v2).toNatClampNeg = some b → okO E b 7) ∧ vp_in v2 (eN E b_2) ∧ k125 (v2 + 1) (pQ d b_2 (v2).toNatClampNeg (gQ d b_5 (v2).toNatClampNeg))))
def l_X8_copy_125 (E : En) (a0 : Nat) (a1 : Nat) (K : Dy → Prop) : Nat → Int32 → Dy → Prop
  | 0 => fun _ _ => False
  | n + 1 => b_X8_copy_125 E a0 a1 K (l_X8_copy_125 E a0 a1 K n)
def w_X8_copy (E : En) (a0 : Nat) (a1 : Nat) (d : Dy) (K : Dy → Prop) : Prop := okO E a0 8 ∧ okO E a1 8 ∧ ∃ b_11 : Nat, eR E a0 1 = some b_11 ∧ okO E b_11 6 ∧ ∃ b_14 : Nat, eR E a1 1 = some b_14 ∧ okO E b_14 6 ∧ w_X6_copy E b_11 b_14 (pI d a0 0 (gI d a1 0)) (fun d_17 => ∃ b_19 : Nat, eR E a0 2 = some b_19 ∧ okO E b_19 6 ∧ ∃ b_22 : Nat, eR E a1 2 = some b_22 ∧ okO E b_22 6 ∧ w_X6_copy E b_19 b_22 d_17 (fun d_25 => ∃ b_27 : Nat, eR E a0 3 = some b_27 ∧ okO E b_27 6 ∧ ∃ b_30 : Nat, eR E a1 3 = some b_30 ∧ okO E b_30 6 ∧ w_X6_copy E b_27 b_30 d_25 (fun d_33 => ∃ b_35 : Nat, eR E a0 4 = some b_35 ∧ okO E b_35 6 ∧ ∃ b_38 : Nat, eR E a1 4 = some b_38 ∧ okO E b_38 6 ∧ w_X6_copy E b_35 b_38 d_33 (fun d_41 => ∃ b_43 : Nat, eR E a0 5 = some b_43 ∧ okO E b_43 6 ∧ ∃ b_46 : Nat, eR E a1 5 = some b_46 ∧ okO E b_46 6 ∧ w_X6_copy E b_43 b_46 d_41 (fun d_49 => ∃ b_51 : Nat, eR E a0 6 = some b_51 ∧ okO E b_51 6 ∧ ∃ b_54 : Nat, eR E a1 6 = some b_54 ∧ okO E b_54 6 ∧ w_X6_copy E b_51 b_54 d_49 (fun d_57 => ∃ b_59 : Nat, eR E a0 7 = some b_59 ∧ okO E b_59 6 ∧ ∃ b_62 : Nat, eR E a1 7 = some b_62 ∧ okO E b_62 6 ∧ w_X6_copy E b_59 b_62 d_57 (fun d_65 => ∃ b_67 : Nat, eR E a0 8 = some b_67 ∧ okO E b_67 6 ∧ ∃ b_70 : Nat, eR E a1 8 = some b_70 ∧ okO E b_70 6 ∧ w_X6_copy E b_67 b_70 d_65 (fun d_73 => ∃ b_75 : Nat, eR E a0 9 = some b_75 ∧ okO E b_75 6 ∧ ∃ b_78 : Nat, eR E a1 9 = some b_78 ∧ okO E b_78 6 ∧ w_X6_copy E b_75 b_78 d_73 (fun d_81 => ∃ b_83 : Nat, eR E a0 10 = some b_83 ∧ okO E b_83 6 ∧ ∃ b_86 : Nat, eR E a1 10 = some b_86 ∧ okO E b_86 6 ∧ w_X6_copy E b_83 b_86 d_81 (fun d_89 => (∃ n_91 : Nat, l_X8_copy_125 E a0 a1 K n_91 0 d_89)))))))))))
abbrev rm_X8_copy : Room := { frames := 2, cells := 0, slots := 0, locals := 121 }
set_option maxRecDepth 100000 in
set_option maxHeartbeats 4000000 in
theorem m_X8_copy (l : Launch) (D : va_G) (cs : Nat → ClassId) (E : En) (d : Dy) (sz : Nat) (a0 : Nat) (a1 : Nat) (K : Dy → Prop) : CV l yX8_copy (.code yX8_copy cX8_copy 3 none :: wsL_law) rm_X8_copy D cs E d sz [.ref a0, .ref a1] (w_X8_copy E a0 a1 d K) K := by
  refine e_of (cc := cX8_copy) (maxL := 3) (ret := none) (own := RX8) (by decide) rfl rfl (Nat.le_of_ble_eq_true rfl) ?_
  intro p e s m below meth c S hr hlocks hsz H locs hw h ls hl
  have hl : lv_has ls 3 [(0, .ref a0), (1, .ref a1)] := hl
  unfold w_X8_copy at h
  obtain ⟨ha0, h⟩ := h
  obtain ⟨ha1, h⟩ := h
  have tl125 : ∀ (n : Nat) (v2 : Int32) (d : Dy) (H : Heap) (locs : List Loc) (ls : Array Slot), l_X8_copy_125 E a0 a1 K n v2 d → Wd D cs (AW E sz) s.heap s E d H locs → lv_has ls 3 [(0, .ref a0), (1, .ref a1), (2, .int v2)] → W p l e rm_X8_copy s m ([.ref a0, .ref a1] : List Value).toArray below meth c H locs 0 0 (MQ below (va_Qv K (OutW D cs E (AW E sz)) (AW E sz)) ([.ref a0, .ref a1] : List Value).toArray s rm_X8_copy.cells rm_X8_copy.slots (AW E sz)) (F0 m 125 ls []) := by
    intro n125
    induction n125 with
    | zero => intro v2 d H locs ls h; exact absurd h id
    | succ n125 ih125 =>
      intro v2 d H locs ls h hw hl
      have h : b_X8_copy_125 E a0 a1 K (l_X8_copy_125 E a0 a1 K n125) v2 d := h
      unfold b_X8_copy_125 at h
      refine lv_iload_n S.1 S.2.1 (dd_at ddX8_copy 59 rfl) rfl (lv_at hl 2 rfl) ?_
      refine lv_iconst (v := 4) S.1 S.2.1 (dd_at ddX8_copy 60 rfl) (by decide) ?_
      refine lv_icmp_ge (tgt := 148) S.1 S.2.1 (dd_at ddX8_copy 61 rfl) (by decide) (fun hc_1 => ?_) (fun hc_1 => ?_)
      · have h := h.1 hc_1
        exact e_V S hr hlocks hw h (dd_at ddX8_copy 72 rfl)
      · have h := h.2 hc_1
        refine lv_aload_n S.1 S.2.1 (dd_at ddX8_copy 62 rfl) rfl (lv_at hl 0 rfl) ?_
        obtain ⟨b_2, hb_3, ho_4, h⟩ := h
        refine r_getR S hw 8 11 rfl inG8 (by decide) (List.mem_cons_of_mem _ wg63) (by decide) ha0 hb_3 (dd_at ddX8_copy 63 rfl) ?_
        refine lv_iload_n S.1 S.2.1 (dd_at ddX8_copy 64 rfl) rfl (lv_at hl 2 rfl) ?_
        refine lv_aload_n S.1 S.2.1 (dd_at ddX8_copy 65 rfl) rfl (lv_at hl 1 rfl) ?_
        obtain ⟨b_5, hb_6, ho_7, h⟩ := h
        refine r_getR S hw 8 11 rfl inG8 (by decide) (List.mem_cons_of_mem _ wg63) (by decide) ha1 hb_6 (dd_at ddX8_copy 66 rfl) ?_
        refine lv_iload_n S.1 S.2.1 (dd_at ddX8_copy 67 rfl) rfl (lv_at hl 2 rfl) ?_
        obtain ⟨hx_8, h⟩ := h
        refine r_aald S hw ho_7 hx_8 (dd_at ddX8_copy 68 rfl) ?_
        obtain ⟨hq_10, h⟩ := h
        obtain ⟨hx_9, h⟩ := h
        refine r_aast (x := (gQ d b_5 (v2).toNatClampNeg)) S hw ho_4 hq_10 hx_9 (dd_at ddX8_copy 69 rfl) (fun H locs hw => ?_)
        refine lv_iinc (v := v2 + 1) (lv' := [(2, .int (v2 + 1)), (0, .ref a0), (1, .ref a1)]) S.1 S.2.1 (dd_at ddX8_copy 70 rfl) hl (k := 2) rfl rfl (by decide) rfl (fun ls hl => ?_)
        refine lv_goto (tgt := 125) S.1 S.2.1 (dd_at ddX8_copy 71 rfl) (by decide) ?_
        exact ih125 (v2 + 1) (pQ d b_2 (v2).toNatClampNeg (gQ d b_5 (v2).toNatClampNeg)) H locs ls h hw (lv_sub hl [1, 2, 0] rfl)
  refine lv_aload_n S.1 S.2.1 (dd_at ddX8_copy 0 rfl) rfl (lv_at hl 1 rfl) ?_
  refine lv_ifnonnull (tgt := 5) S.1 S.2.1 (dd_at ddX8_copy 1 rfl) (by decide) ?_
  refine lv_aload_n S.1 S.2.1 (dd_at ddX8_copy 3 rfl) rfl (lv_at hl 0 rfl) ?_
  refine lv_aload_n S.1 S.2.1 (dd_at ddX8_copy 4 rfl) rfl (lv_at hl 1 rfl) ?_
  refine r_getI S hw 8 0 rfl inG8 (by decide) (List.mem_cons_of_mem _ wg48) (by decide) ha1 (dd_at ddX8_copy 5 rfl) ?_
  refine r_putI S hw 8 0 (ty := .int) (v := gI d a1 0) rfl inG8 tyX8 tyX8_ok nmX8 (by decide) (List.mem_cons_of_mem _ wg48) (by decide) rfl (by decide +kernel) rfl rfl ha0 (dd_at ddX8_copy 6 rfl) (fun H locs hw => ?_)
  refine lv_aload_n S.1 S.2.1 (dd_at ddX8_copy 7 rfl) rfl (lv_at hl 0 rfl) ?_
  obtain ⟨b_11, hb_12, ho_13, h⟩ := h
  refine r_getR S hw 8 1 rfl inG8 (by decide) (List.mem_cons_of_mem _ wg52) (by decide) ha0 hb_12 (dd_at ddX8_copy 8 rfl) ?_
  refine lv_aload_n S.1 S.2.1 (dd_at ddX8_copy 9 rfl) rfl (lv_at hl 1 rfl) ?_
  obtain ⟨b_14, hb_15, ho_16, h⟩ := h
  refine r_getR S hw 8 1 rfl inG8 (by decide) (List.mem_cons_of_mem _ wg52) (by decide) ha1 hb_15 (dd_at ddX8_copy 10 rfl) ?_
  refine r_callV hw (r_runV (As := [.ref b_14]) (rest := []) S hw (m_X6_copy l D cs E (pI d a0 0 (gI d a1 0)) H.size b_11 b_14 _) (cwV 1 S.2.2.2.2 (gV wg1503 wg376 wg377 wg51 wg378) rfl rfl rfl (by decide +kernel) ⟨Nat.le_of_ble_eq_true rfl, Nat.le_of_ble_eq_true rfl⟩) (ci := 6) rfl ho_13 h rfl hl.1 rfl (Nat.le_of_ble_eq_true rfl) (dd_at ddX8_copy 11 rfl) ⟨Nat.le_of_ble_eq_true rfl, Nat.le_of_ble_eq_true rfl⟩) (fun d_17 H locs h hw => ?_)
  refine lv_aload_n S.1 S.2.1 (dd_at ddX8_copy 12 rfl) rfl (lv_at hl 0 rfl) ?_
  obtain ⟨b_19, hb_20, ho_21, h⟩ := h
  refine r_getR S hw 8 2 rfl inG8 (by decide) (List.mem_cons_of_mem _ wg53) (by decide) ha0 hb_20 (dd_at ddX8_copy 13 rfl) ?_
  refine lv_aload_n S.1 S.2.1 (dd_at ddX8_copy 14 rfl) rfl (lv_at hl 1 rfl) ?_
  obtain ⟨b_22, hb_23, ho_24, h⟩ := h
  refine r_getR S hw 8 2 rfl inG8 (by decide) (List.mem_cons_of_mem _ wg53) (by decide) ha1 hb_23 (dd_at ddX8_copy 15 rfl) ?_
  refine r_callV hw (r_runV (As := [.ref b_22]) (rest := []) S hw (m_X6_copy l D cs E d_17 H.size b_19 b_22 _) (cwV 1 S.2.2.2.2 (gV wg1503 wg376 wg377 wg51 wg378) rfl rfl rfl (by decide +kernel) ⟨Nat.le_of_ble_eq_true rfl, Nat.le_of_ble_eq_true rfl⟩) (ci := 6) rfl ho_21 h rfl hl.1 rfl (Nat.le_of_ble_eq_true rfl) (dd_at ddX8_copy 16 rfl) ⟨Nat.le_of_ble_eq_true rfl, Nat.le_of_ble_eq_true rfl⟩) (fun d_25 H locs h hw => ?_)
  refine lv_aload_n S.1 S.2.1 (dd_at ddX8_copy 17 rfl) rfl (lv_at hl 0 rfl) ?_
  obtain ⟨b_27, hb_28, ho_29, h⟩ := h
  refine r_getR S hw 8 3 rfl inG8 (by decide) (List.mem_cons_of_mem _ wg54) (by decide) ha0 hb_28 (dd_at ddX8_copy 18 rfl) ?_
  refine lv_aload_n S.1 S.2.1 (dd_at ddX8_copy 19 rfl) rfl (lv_at hl 1 rfl) ?_
  obtain ⟨b_30, hb_31, ho_32, h⟩ := h
  refine r_getR S hw 8 3 rfl inG8 (by decide) (List.mem_cons_of_mem _ wg54) (by decide) ha1 hb_31 (dd_at ddX8_copy 20 rfl) ?_
  refine r_callV hw (r_runV (As := [.ref b_30]) (rest := []) S hw (m_X6_copy l D cs E d_25 H.size b_27 b_30 _) (cwV 1 S.2.2.2.2 (gV wg1503 wg376 wg377 wg51 wg378) rfl rfl rfl (by decide +kernel) ⟨Nat.le_of_ble_eq_true rfl, Nat.le_of_ble_eq_true rfl⟩) (ci := 6) rfl ho_29 h rfl hl.1 rfl (Nat.le_of_ble_eq_true rfl) (dd_at ddX8_copy 21 rfl) ⟨Nat.le_of_ble_eq_true rfl, Nat.le_of_ble_eq_true rfl⟩) (fun d_33 H locs h hw => ?_)
  refine lv_aload_n S.1 S.2.1 (dd_at ddX8_copy 22 rfl) rfl (lv_at hl 0 rfl) ?_
  obtain ⟨b_35, hb_36, ho_37, h⟩ := h
  refine r_getR S hw 8 4 rfl inG8 (by decide) (List.mem_cons_of_mem _ wg55) (by decide) ha0 hb_36 (dd_at ddX8_copy 23 rfl) ?_
  refine lv_aload_n S.1 S.2.1 (dd_at ddX8_copy 24 rfl) rfl (lv_at hl 1 rfl) ?_
  obtain ⟨b_38, hb_39, ho_40, h⟩ := h
  refine r_getR S hw 8 4 rfl inG8 (by decide) (List.mem_cons_of_mem _ wg55) (by decide) ha1 hb_39 (dd_at ddX8_copy 25 rfl) ?_
  refine r_callV hw (r_runV (As := [.ref b_38]) (rest := []) S hw (m_X6_copy l D cs E d_33 H.size b_35 b_38 _) (cwV 1 S.2.2.2.2 (gV wg1503 wg376 wg377 wg51 wg378) rfl rfl rfl (by decide +kernel) ⟨Nat.le_of_ble_eq_true rfl, Nat.le_of_ble_eq_true rfl⟩) (ci := 6) rfl ho_37 h rfl hl.1 rfl (Nat.le_of_ble_eq_true rfl) (dd_at ddX8_copy 26 rfl) ⟨Nat.le_of_ble_eq_true rfl, Nat.le_of_ble_eq_true rfl⟩) (fun d_41 H locs h hw => ?_)
  refine lv_aload_n S.1 S.2.1 (dd_at ddX8_copy 27 rfl) rfl (lv_at hl 0 rfl) ?_
  obtain ⟨b_43, hb_44, ho_45, h⟩ := h
  refine r_getR S hw 8 5 rfl inG8 (by decide) (List.mem_cons_of_mem _ wg56) (by decide) ha0 hb_44 (dd_at ddX8_copy 28 rfl) ?_
  refine lv_aload_n S.1 S.2.1 (dd_at ddX8_copy 29 rfl) rfl (lv_at hl 1 rfl) ?_
  obtain ⟨b_46, hb_47, ho_48, h⟩ := h
  refine r_getR S hw 8 5 rfl inG8 (by decide) (List.mem_cons_of_mem _ wg56) (by decide) ha1 hb_47 (dd_at ddX8_copy 30 rfl) ?_
  refine r_callV hw (r_runV (As := [.ref b_46]) (rest := []) S hw (m_X6_copy l D cs E d_41 H.size b_43 b_46 _) (cwV 1 S.2.2.2.2 (gV wg1503 wg376 wg377 wg51 wg378) rfl rfl rfl (by decide +kernel) ⟨Nat.le_of_ble_eq_true rfl, Nat.le_of_ble_eq_true rfl⟩) (ci := 6) rfl ho_45 h rfl hl.1 rfl (Nat.le_of_ble_eq_true rfl) (dd_at ddX8_copy 31 rfl) ⟨Nat.le_of_ble_eq_true rfl, Nat.le_of_ble_eq_true rfl⟩) (fun d_49 H locs h hw => ?_)
  refine lv_aload_n S.1 S.2.1 (dd_at ddX8_copy 32 rfl) rfl (lv_at hl 0 rfl) ?_
  obtain ⟨b_51, hb_52, ho_53, h⟩ := h
  refine r_getR S hw 8 6 rfl inG8 (by decide) (List.mem_cons_of_mem _ wg57) (by decide) ha0 hb_52 (dd_at ddX8_copy 33 rfl) ?_
  refine lv_aload_n S.1 S.2.1 (dd_at ddX8_copy 34 rfl) rfl (lv_at hl 1 rfl) ?_
  obtain ⟨b_54, hb_55, ho_56, h⟩ := h
  refine r_getR S hw 8 6 rfl inG8 (by decide) (List.mem_cons_of_mem _ wg57) (by decide) ha1 hb_55 (dd_at ddX8_copy 35 rfl) ?_
  refine r_callV hw (r_runV (As := [.ref b_54]) (rest := []) S hw (m_X6_copy l D cs E d_49 H.size b_51 b_54 _) (cwV 1 S.2.2.2.2 (gV wg1503 wg376 wg377 wg51 wg378) rfl rfl rfl (by decide +kernel) ⟨Nat.le_of_ble_eq_true rfl, Nat.le_of_ble_eq_true rfl⟩) (ci := 6) rfl ho_53 h rfl hl.1 rfl (Nat.le_of_ble_eq_true rfl) (dd_at ddX8_copy 36 rfl) ⟨Nat.le_of_ble_eq_true rfl, Nat.le_of_ble_eq_true rfl⟩) (fun d_57 H locs h hw => ?_)
  refine lv_aload_n S.1 S.2.1 (dd_at ddX8_copy 37 rfl) rfl (lv_at hl 0 rfl) ?_
  obtain ⟨b_59, hb_60, ho_61, h⟩ := h
  refine r_getR S hw 8 7 rfl inG8 (by decide) (List.mem_cons_of_mem _ wg58) (by decide) ha0 hb_60 (dd_at ddX8_copy 38 rfl) ?_
  refine lv_aload_n S.1 S.2.1 (dd_at ddX8_copy 39 rfl) rfl (lv_at hl 1 rfl) ?_
  obtain ⟨b_62, hb_63, ho_64, h⟩ := h
  refine r_getR S hw 8 7 rfl inG8 (by decide) (List.mem_cons_of_mem _ wg58) (by decide) ha1 hb_63 (dd_at ddX8_copy 40 rfl) ?_
  refine r_callV hw (r_runV (As := [.ref b_62]) (rest := []) S hw (m_X6_copy l D cs E d_57 H.size b_59 b_62 _) (cwV 1 S.2.2.2.2 (gV wg1503 wg376 wg377 wg51 wg378) rfl rfl rfl (by decide +kernel) ⟨Nat.le_of_ble_eq_true rfl, Nat.le_of_ble_eq_true rfl⟩) (ci := 6) rfl ho_61 h rfl hl.1 rfl (Nat.le_of_ble_eq_true rfl) (dd_at ddX8_copy 41 rfl) ⟨Nat.le_of_ble_eq_true rfl, Nat.le_of_ble_eq_true rfl⟩) (fun d_65 H locs h hw => ?_)
  refine lv_aload_n S.1 S.2.1 (dd_at ddX8_copy 42 rfl) rfl (lv_at hl 0 rfl) ?_
  obtain ⟨b_67, hb_68, ho_69, h⟩ := h
  refine r_getR S hw 8 8 rfl inG8 (by decide) (List.mem_cons_of_mem _ wg59) (by decide) ha0 hb_68 (dd_at ddX8_copy 43 rfl) ?_
  refine lv_aload_n S.1 S.2.1 (dd_at ddX8_copy 44 rfl) rfl (lv_at hl 1 rfl) ?_
  obtain ⟨b_70, hb_71, ho_72, h⟩ := h
  refine r_getR S hw 8 8 rfl inG8 (by decide) (List.mem_cons_of_mem _ wg59) (by decide) ha1 hb_71 (dd_at ddX8_copy 45 rfl) ?_
  refine r_callV hw (r_runV (As := [.ref b_70]) (rest := []) S hw (m_X6_copy l D cs E d_65 H.size b_67 b_70 _) (cwV 1 S.2.2.2.2 (gV wg1503 wg376 wg377 wg51 wg378) rfl rfl rfl (by decide +kernel) ⟨Nat.le_of_ble_eq_true rfl, Nat.le_of_ble_eq_true rfl⟩) (ci := 6) rfl ho_69 h rfl hl.1 rfl (Nat.le_of_ble_eq_true rfl) (dd_at ddX8_copy 46 rfl) ⟨Nat.le_of_ble_eq_true rfl, Nat.le_of_ble_eq_true rfl⟩) (fun d_73 H locs h hw => ?_)
  refine lv_aload_n S.1 S.2.1 (dd_at ddX8_copy 47 rfl) rfl (lv_at hl 0 rfl) ?_
  obtain ⟨b_75, hb_76, ho_77, h⟩ := h
  refine r_getR S hw 8 9 rfl inG8 (by decide) (List.mem_cons_of_mem _ wg60) (by decide) ha0 hb_76 (dd_at ddX8_copy 48 rfl) ?_
  refine lv_aload_n S.1 S.2.1 (dd_at ddX8_copy 49 rfl) rfl (lv_at hl 1 rfl) ?_
  obtain ⟨b_78, hb_79, ho_80, h⟩ := h
  refine r_getR S hw 8 9 rfl inG8 (by decide) (List.mem_cons_of_mem _ wg60) (by decide) ha1 hb_79 (dd_at ddX8_copy 50 rfl) ?_
  refine r_callV hw (r_runV (As := [.ref b_78]) (rest := []) S hw (m_X6_copy l D cs E d_73 H.size b_75 b_78 _) (cwV 1 S.2.2.2.2 (gV wg1503 wg376 wg377 wg51 wg378) rfl rfl rfl (by decide +kernel) ⟨Nat.le_of_ble_eq_true rfl, Nat.le_of_ble_eq_true rfl⟩) (ci := 6) rfl ho_77 h rfl hl.1 rfl (Nat.le_of_ble_eq_true rfl) (dd_at ddX8_copy 51 rfl) ⟨Nat.le_of_ble_eq_true rfl, Nat.le_of_ble_eq_true rfl⟩) (fun d_81 H locs h hw => ?_)
  refine lv_aload_n S.1 S.2.1 (dd_at ddX8_copy 52 rfl) rfl (lv_at hl 0 rfl) ?_
  obtain ⟨b_83, hb_84, ho_85, h⟩ := h
  refine r_getR S hw 8 10 rfl inG8 (by decide) (List.mem_cons_of_mem _ wg61) (by decide) ha0 hb_84 (dd_at ddX8_copy 53 rfl) ?_
  refine lv_aload_n S.1 S.2.1 (dd_at ddX8_copy 54 rfl) rfl (lv_at hl 1 rfl) ?_
  obtain ⟨b_86, hb_87, ho_88, h⟩ := h
  refine r_getR S hw 8 10 rfl inG8 (by decide) (List.mem_cons_of_mem _ wg61) (by decide) ha1 hb_87 (dd_at ddX8_copy 55 rfl) ?_
  refine r_callV hw (r_runV (As := [.ref b_86]) (rest := []) S hw (m_X6_copy l D cs E d_81 H.size b_83 b_86 _) (cwV 1 S.2.2.2.2 (gV wg1503 wg376 wg377 wg51 wg378) rfl rfl rfl (by decide +kernel) ⟨Nat.le_of_ble_eq_true rfl, Nat.le_of_ble_eq_true rfl⟩) (ci := 6) rfl ho_85 h rfl hl.1 rfl (Nat.le_of_ble_eq_true rfl) (dd_at ddX8_copy 56 rfl) ⟨Nat.le_of_ble_eq_true rfl, Nat.le_of_ble_eq_true rfl⟩) (fun d_89 H locs h hw => ?_)
  refine lv_iconst (v := 0) S.1 S.2.1 (dd_at ddX8_copy 57 rfl) (by decide) ?_
  refine lv_istore_n (lv' := [(2, .int 0), (0, .ref a0), (1, .ref a1)]) S.1 S.2.1 (dd_at ddX8_copy 58 rfl) rfl hl (by decide) rfl (fun ls hl => ?_)
  obtain ⟨n_91, h⟩ := h
  exact tl125 n_91 0 d_89 H locs ls h hw (lv_sub hl [1, 2, 0] rfl)
