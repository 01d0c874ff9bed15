def b_X10_crane_118 (E : En) (a0 : Nat) (p1 : Int32) (p2 : Int32) (p3 : Int32) (p4 : Int32) (K : Int32 → Dy → Prop) (X : String → Dy → Prop) (k27 : Int32 → Int32 → Dy → Prop) (v5 : Int32) (v6 : Int32) (d : Dy) : Prop := ((¬ v5 = 0 → k27 v5 (v6 + 1) d) ∧ (v5 = 0 → K v6 d))
def b_X10_crane_90 (E : En) (a0 : Nat) (p1 : Int32) (p2 : Int32) (p3 : Int32) (p4 : Int32) (K : Int32 → Dy → Prop) (X : String → Dy → Prop) (k27 : Int32 → Int32 → Dy → Prop) (k55 : Int32 → Int32 → Int32 → Int32 → Dy → Prop) (v5 : Int32) (v6 : Int32) (v7 : Int32) (v8 : Int32) (s0 : Int32) (d : Dy) : Prop := ((¬ s0 = (-1) → k55 (v5 &&& (((1 : Int32) <<< (s0 &&& 31)) ^^^ (-1))) v6 v7 (v8 + 1) d) ∧ (s0 = (-1) → b_X10_crane_118 E a0 p1 p2 p3 p4 K X k27 v5 v6 d))
def b_X10_crane_55 (E : En) (a0 : Nat) (p1 : Int32) (p2 : Int32) (p3 : Int32) (p4 : Int32) (K : Int32 → Dy → Prop) (X : String → Dy → Prop) (k27 : Int32 → Int32 → Dy → Prop) (k55 : Int32 → Int32 → Int32 → Int32 → Dy → Prop) (v5 : Int32) (v6 : Int32) (v7 : Int32) (v8 : Int32) (d : Dy) : Prop := ((p3 ≤ v8 → b_X10_crane_118 E a0 p1 p2 p3 p4 K X k27 v5 v6 d) ∧ (¬ p3 ≤ v8 → ((v5 = 0 → b_X10_crane_118 E a0 p1 p2 p3 p4 K X k27 v5 v6 d) ∧ (¬ v5 = 0 → ((p4 = 0 → w_X10_largestWithin E a0 v5 v7 d (fun r_7 d_6 => b_X10_crane_90 E a0 p1 p2 p3 p4 K X k27 k55 v5 v6 v7 v8 r_7 d_6)) ∧ (¬ p4 = 0 → w_X10_firstWithin E a0 v5 v7 d (fun r_9 d_8 => b_X10_crane_90 E a0 p1 p2 p3 p4 K X k27 k55 v5 v6 v7 v8 r_9 d_8)))))))
def l_X10_crane_55 (E : En) (a0 : Nat) (p1 : Int32) (p2 : Int32) (p3 : Int32) (p4 : Int32) (K : Int32 → Dy → Prop) (X : String → Dy → Prop) (k27 : Int32 → Int32 → Dy → Prop) : Nat → Int32 → Int32 → Int32 → Int32 → Dy → Prop
  | 0 => fun _ _ _ _ _ => False
  | n + 1 => b_X10_crane_55 E a0 p1 p2 p3 p4 K X k27 (l_X10_crane_55 E a0 p1 p2 p3 p4 K X k27 n)
def b_X10_crane_27 (E : En) (a0 : Nat) (p1 : Int32) (p2 : Int32) (p3 : Int32) (p4 : Int32) (K : Int32 → Dy → Prop) (X : String → Dy → Prop) (k27 : Int32 → Int32 → Dy → Prop) (v5 : Int32) (v6 : Int32) (d : Dy) : Prop := ((60 ≤ v6 → K (-1) d) ∧ (¬ 60 ≤ v6 → ∃ b_11 : Nat, eR E a0 0 = some b_11 ∧ okO E b_11 8 ∧ ∃ b_14 : Nat, eR E b_11 6 = some b_14 ∧ okO E b_14 6 ∧ w_X6_get E b_14 v6 0 d (fun r_18 d_17 => (∃ n_19 : Nat, l_X10_crane_55 E a0 p1 p2 p3 p4 K X k27 n_19 v5 v6 (12 - r_18) 0 d_17))))
def l_X10_crane_27 (E : En) (a0 : Nat) (p1 : Int32) (p2 : Int32) (p3 : Int32) (p4 : Int32) (K : Int32 → Dy → Prop) (X : String → Dy → Prop) : Nat → Int32 → Int32 → Dy → Prop
  | 0 => fun _ _ _ => False
  | n + 1 => b_X10_crane_27 E a0 p1 p2 p3 p4 K X (l_X10_crane_27 E a0 p1 p2 p3 p4 K X n)
def w_X10_crane (E : En) (a0 : Nat) (p1 : Int32) (p2 : Int32) (p3 : Int32) (p4 : Int32) (d : Dy) (K : Int32 → Dy → Prop) (X : String → Dy → Prop) : Prop := okO E a0 10 ∧ w_X10_needIndex E p2 60 d (fun d_20 => w_X10_needBetween E p3 1 9 d_20 (fun d_22 => ∃ b_24 : Nat, eR E a0 0 = some b_24 ∧ okO E b_24 8 ∧ w_X8_hutBits E b_24 d_22 (fun r_28 d_27 => (∃ n_29 : Nat, l_X10_crane_27 E a0 p1 p2 p3 p4 K X n_29 (p1 &&& r_28) p2 d_27))) X) X
abbrev rm_X10_crane : Room := { frames := 8, cells := 2, slots := 12, locals := 142 }
set_option maxRecDepth 100000 in
set_option maxHeartbeats 4000000 in
theorem m_X10_crane (l : Launch) (hst : l.stackTraces = false) (D : va_G) (cs : Nat → ClassId) (E : En) (d : Dy) (sz : Nat) (a0 : Nat) (p1 : Int32) (p2 : Int32) (p3 : Int32) (p4 : Int32) (K : Int32 → Dy → Prop) (X : String → Dy → Prop) : XI l yX10_crane (.code yX10_crane cX10_crane 10 (some .int) :: wsL_law) rm_X10_crane D cs E d sz [.ref a0, .int p1, .int p2, .int p3, .int p4] (w_X10_crane E a0 p1 p2 p3 p4 d K X) K X := by
  refine e_ofX (cc := cX10_crane) (maxL := 10) (ret := (some .int)) (own := RX10) (by decide) rfl rfl (Nat.le_of_ble_eq_true rfl) ?_
  intro p e s m below meth c S hr hlocks hsz hT H locs hw h ls hl
  have hl : lv_has ls 10 [(0, .ref a0), (1, .int p1), (2, .int p2), (3, .int p3), (4, .int p4)] := hl
  unfold w_X10_crane at h
  obtain ⟨ha0, h⟩ := h
  have tl27 : ∀ (n : Nat) (v5 : Int32) (v6 : Int32) (d : Dy) (H : Heap) (locs : List Loc) (ls : Array Slot), l_X10_crane_27 E a0 p1 p2 p3 p4 K X n v5 v6 d → Wd D cs (AW E sz) s.heap s E d H locs → lv_has ls 10 [(0, .ref a0), (3, .int p3), (4, .int p4), (5, .int v5), (6, .int v6)] → W p l e rm_X10_crane s m ([.ref a0, .int p1, .int p2, .int p3, .int p4] : List Value).toArray below meth c H locs 2 12 (vx_MQ below (va_Qi K (OutW D cs E (AW E sz)) (AW E sz)) (XX D cs E sz X) ([.ref a0, .int p1, .int p2, .int p3, .int p4] : List Value).toArray s rm_X10_crane.cells rm_X10_crane.slots (AW E sz)) (F0 m 27 ls []) := by
    intro n27
    induction n27 with
    | zero => intro v5 v6 d H locs ls h; exact absurd h id
    | succ n27 ih27 =>
      have tb118 : ∀ (v5 : Int32) (v6 : Int32) (d : Dy) (H : Heap) (locs : List Loc) (ls : Array Slot), b_X10_crane_118 E a0 p1 p2 p3 p4 K X (l_X10_crane_27 E a0 p1 p2 p3 p4 K X n27) v5 v6 d → Wd D cs (AW E sz) s.heap s E d H locs → lv_has ls 10 [(0, .ref a0), (3, .int p3), (4, .int p4), (5, .int v5), (6, .int v6)] → W p l e rm_X10_crane s m ([.ref a0, .int p1, .int p2, .int p3, .int p4] : List Value).toArray below meth c H locs 2 12 (vx_MQ below (va_Qi K (OutW D cs E (AW E sz)) (AW E sz)) (XX D cs E sz X) ([.ref a0, .int p1, .int p2, .int p3, .int p4] : List Value).toArray s rm_X10_crane.cells rm_X10_crane.slots (AW E sz)) (F0 m 118 ls []) := by
        intro v5 v6 d H locs ls h hw hl
        unfold b_X10_crane_118 at h
        refine lv_iload S.1 S.2.1 (dd_at ddX10_crane 60 rfl) (lv_at hl 3 rfl) ?_
        refine lv_if_ne (tgt := 126) S.1 S.2.1 (dd_at ddX10_crane 61 rfl) (by decide) (fun hc_1 => ?_) (fun hc_1 => ?_)
        · have h := h.1 hc_1
          refine lv_iinc (v := v6 + 1) (lv' := [(6, .int (v6 + 1)), (0, .ref a0), (3, .int p3), (4, .int p4), (5, .int v5)]) S.1 S.2.1 (dd_at ddX10_crane 64 rfl) hl (k := 4) rfl rfl (by decide) rfl (fun ls hl => ?_)
          refine lv_goto (tgt := 27) S.1 S.2.1 (dd_at ddX10_crane 65 rfl) (by decide) ?_
          exact ih27 v5 (v6 + 1) d H locs ls h hw (lv_sub hl [1, 2, 3, 4, 0] rfl)
        · have h := h.2 hc_1
          refine lv_iload S.1 S.2.1 (dd_at ddX10_crane 62 rfl) (lv_at hl 4 rfl) ?_
          exact vx_ret (e_I S hr hlocks hw h (dd_at ddX10_crane 63 rfl))
      have tl55 : ∀ (n : Nat) (v5 : Int32) (v6 : Int32) (v7 : Int32) (v8 : Int32) (d : Dy) (H : Heap) (locs : List Loc) (ls : Array Slot), l_X10_crane_55 E a0 p1 p2 p3 p4 K X (l_X10_crane_27 E a0 p1 p2 p3 p4 K X n27) n v5 v6 v7 v8 d → Wd D cs (AW E sz) s.heap s E d H locs → lv_has ls 10 [(0, .ref a0), (3, .int p3), (4, .int p4), (5, .int v5), (6, .int v6), (7, .int v7), (8, .int v8)] → W p l e rm_X10_crane s m ([.ref a0, .int p1, .int p2, .int p3, .int p4] : List Value).toArray below meth c H locs 2 12 (vx_MQ below (va_Qi K (OutW D cs E (AW E sz)) (AW E sz)) (XX D cs E sz X) ([.ref a0, .int p1, .int p2, .int p3, .int p4] : List Value).toArray s rm_X10_crane.cells rm_X10_crane.slots (AW E sz)) (F0 m 55 ls []) := by
        intro n55
        induction n55 with
        | zero => intro v5 v6 v7 v8 d H locs ls h; exact absurd h id
        | succ n55 ih55 =>
          have tb90 : ∀ (v5 : Int32) (v6 : Int32) (v7 : Int32) (v8 : Int32) (s0 : Int32) (d : Dy) (H : Heap) (locs : List Loc) (ls : Array Slot), b_X10_crane_90 E a0 p1 p2 p3 p4 K X (l_X10_crane_27 E a0 p1 p2 p3 p4 K X n27) (l_X10_crane_55 E a0 p1 p2 p3 p4 K X (l_X10_crane_27 E a0 p1 p2 p3 p4 K X n27) n55) v5 v6 v7 v8 s0 d → Wd D cs (AW E sz) s.heap s E d H locs → lv_has ls 10 [(0, .ref a0), (3, .int p3), (4, .int p4), (5, .int v5), (6, .int v6), (7, .int v7), (8, .int v8)] → W p l e rm_X10_crane s m ([.ref a0, .int p1, .int p2, .int p3, .int p4] : List Value).toArray below meth c H locs 2 12 (vx_MQ below (va_Qi K (OutW D cs E (AW E sz)) (AW E sz)) (XX D cs E sz X) ([.ref a0, .int p1, .int p2, .int p3, .int p4] : List Value).toArray s rm_X10_crane.cells rm_X10_crane.slots (AW E sz)) (F0 m 90 ls [.int s0]) := by
            intro v5 v6 v7 v8 s0 d H locs ls h hw hl
            unfold b_X10_crane_90 at h
            refine lv_istore (lv' := [(9, .int s0), (0, .ref a0), (3, .int p3), (4, .int p4), (5, .int v5), (6, .int v6), (7, .int v7), (8, .int v8)]) S.1 S.2.1 (dd_at ddX10_crane 45 rfl) hl (by decide) rfl (fun ls hl => ?_)
            refine lv_iload S.1 S.2.1 (dd_at ddX10_crane 46 rfl) (lv_at hl 0 rfl) ?_
            refine lv_iconst (v := -1) S.1 S.2.1 (dd_at ddX10_crane 47 rfl) (by decide) ?_
            refine lv_icmp_ne (tgt := 101) S.1 S.2.1 (dd_at ddX10_crane 48 rfl) (by decide) (fun hc_2 => ?_) (fun hc_2 => ?_)
            · have h := h.1 hc_2
              refine lv_iload S.1 S.2.1 (dd_at ddX10_crane 50 rfl) (lv_at hl 4 rfl) ?_
              refine lv_iconst (v := 1) S.1 S.2.1 (dd_at ddX10_crane 51 rfl) (by decide) ?_
              refine lv_iload S.1 S.2.1 (dd_at ddX10_crane 52 rfl) (lv_at hl 0 rfl) ?_
              refine lv_ishl S.1 S.2.1 (dd_at ddX10_crane 53 rfl) ?_
              refine lv_iconst (v := -1) S.1 S.2.1 (dd_at ddX10_crane 54 rfl) (by decide) ?_
              refine lv_ixor S.1 S.2.1 (dd_at ddX10_crane 55 rfl) ?_
              refine lv_iand S.1 S.2.1 (dd_at ddX10_crane 56 rfl) ?_
              refine lv_istore (lv' := [(5, .int (v5 &&& (((1 : Int32) <<< (s0 &&& 31)) ^^^ (-1)))), (9, .int s0), (0, .ref a0), (3, .int p3), (4, .int p4), (6, .int v6), (7, .int v7), (8, .int v8)]) S.1 S.2.1 (dd_at ddX10_crane 57 rfl) hl (by decide) rfl (fun ls hl => ?_)
              refine lv_iinc (v := v8 + 1) (lv' := [(8, .int (v8 + 1)), (5, .int (v5 &&& (((1 : Int32) <<< (s0 &&& 31)) ^^^ (-1)))), (9, .int s0), (0, .ref a0), (3, .int p3), (4, .int p4), (6, .int v6), (7, .int v7)]) S.1 S.2.1 (dd_at ddX10_crane 58 rfl) hl (k := 7) rfl rfl (by decide) rfl (fun ls hl => ?_)
              refine lv_goto (tgt := 55) S.1 S.2.1 (dd_at ddX10_crane 59 rfl) (by decide) ?_
              exact ih55 (v5 &&& (((1 : Int32) <<< (s0 &&& 31)) ^^^ (-1))) v6 v7 (v8 + 1) d H locs ls h hw (lv_sub hl [3, 4, 5, 1, 6, 7, 0] rfl)
            · have h := h.2 hc_2
              refine lv_goto (tgt := 118) S.1 S.2.1 (dd_at ddX10_crane 49 rfl) (by decide) ?_
              exact tb118 v5 v6 d H locs ls h hw (lv_sub hl [1, 2, 3, 4, 5] rfl)
          intro v5 v6 v7 v8 d H locs ls h hw hl
          have h : b_X10_crane_55 E a0 p1 p2 p3 p4 K X (l_X10_crane_27 E a0 p1 p2 p3 p4 K X n27) (l_X10_crane_55 E a0 p1 p2 p3 p4 K X (l_X10_crane_27 E a0 p1 p2 p3 p4 K X n27) n55) v5 v6 v7 v8 d := h
          unfold b_X10_crane_55 at h
          refine lv_iload S.1 S.2.1 (dd_at ddX10_crane 29 rfl) (lv_at hl 6 rfl) ?_
          refine lv_iload_n S.1 S.2.1 (dd_at ddX10_crane 30 rfl) rfl (lv_at hl 1 rfl) ?_
          refine lv_icmp_ge (tgt := 118) S.1 S.2.1 (dd_at ddX10_crane 31 rfl) (by decide) (fun hc_3 => ?_) (fun hc_3 => ?_)
          · have h := h.1 hc_3
            exact tb118 v5 v6 d H locs ls h hw (lv_sub hl [0, 1, 2, 3, 4] rfl)
          · have h := h.2 hc_3
            refine lv_iload S.1 S.2.1 (dd_at ddX10_crane 32 rfl) (lv_at hl 3 rfl) ?_
            refine lv_if_eq (tgt := 118) S.1 S.2.1 (dd_at ddX10_crane 33 rfl) (by decide) (fun hc_4 => ?_) (fun hc_4 => ?_)
            · have h := h.1 hc_4
              exact tb118 v5 v6 d H locs ls h hw (lv_sub hl [0, 1, 2, 3, 4] rfl)
            · have h := h.2 hc_4
              refine lv_iload S.1 S.2.1 (dd_at ddX10_crane 34 rfl) (lv_at hl 2 rfl) ?_
              refine lv_if_eq (tgt := 82) S.1 S.2.1 (dd_at ddX10_crane 35 rfl) (by decide) (fun hc_5 => ?_) (fun hc_5 => ?_)
              · have h := h.1 hc_5
                refine lv_aload_n S.1 S.2.1 (dd_at ddX10_crane 41 rfl) rfl (lv_at hl 0 rfl) ?_
                refine lv_iload S.1 S.2.1 (dd_at ddX10_crane 42 rfl) (lv_at hl 3 rfl) ?_
                refine lv_iload S.1 S.2.1 (dd_at ddX10_crane 43 rfl) (lv_at hl 5 rfl) ?_
                refine r_callI hw (r_runV (As := [.int v5, .int v7]) (rest := []) S hw (m_X10_largestWithin l D cs E d H.size a0 v5 v7 _) (cwV 2 S.2.2.2.2 (gV wg1230 wg1231 wg1232 wg2 wg1233) rfl rfl rfl (by decide +kernel) ⟨Nat.le_of_ble_eq_true rfl, Nat.le_of_ble_eq_true rfl⟩) (ci := 10) rfl ha0 h rfl hl.1 rfl (Nat.le_of_ble_eq_true rfl) (dd_at ddX10_crane 44 rfl) ⟨Nat.le_of_ble_eq_true rfl, Nat.le_of_ble_eq_true rfl⟩) (fun r_7 d_6 H locs h hw => ?_)
                exact tb90 v5 v6 v7 v8 r_7 d_6 H locs ls h hw (lv_sub hl [0, 1, 2, 3, 4, 5, 6] rfl)
              · have h := h.2 hc_5
                refine lv_aload_n S.1 S.2.1 (dd_at ddX10_crane 36 rfl) rfl (lv_at hl 0 rfl) ?_
                refine lv_iload S.1 S.2.1 (dd_at ddX10_crane 37 rfl) (lv_at hl 3 rfl) ?_
                refine lv_iload S.1 S.2.1 (dd_at ddX10_crane 38 rfl) (lv_at hl 5 rfl) ?_
                refine r_callI hw (r_runV (As := [.int v5, .int v7]) (rest := []) S hw (m_X10_firstWithin l D cs E d H.size a0 v5 v7 _) (cwV 2 S.2.2.2.2 (gV wg1225 wg1226 wg1227 wg2 wg1228) rfl rfl rfl (by decide +kernel) ⟨Nat.le_of_ble_eq_true rfl, Nat.le_of_ble_eq_true rfl⟩) (ci := 10) rfl ha0 h rfl hl.1 rfl (Nat.le_of_ble_eq_true rfl) (dd_at ddX10_crane 39 rfl) ⟨Nat.le_of_ble_eq_true rfl, Nat.le_of_ble_eq_true rfl⟩) (fun r_9 d_8 H locs h hw => ?_)
                refine lv_goto (tgt := 90) S.1 S.2.1 (dd_at ddX10_crane 40 rfl) (by decide) ?_
                exact tb90 v5 v6 v7 v8 r_9 d_8 H locs ls h hw (lv_sub hl [0, 1, 2, 3, 4, 5, 6] rfl)
      intro v5 v6 d H locs ls h hw hl
      have h : b_X10_crane_27 E a0 p1 p2 p3 p4 K X (l_X10_crane_27 E a0 p1 p2 p3 p4 K X n27) v5 v6 d := h
      unfold b_X10_crane_27 at h
      refine lv_iload S.1 S.2.1 (dd_at ddX10_crane 15 rfl) (lv_at hl 4 rfl) ?_
      refine lv_bipush (v := 60) S.1 S.2.1 (dd_at ddX10_crane 16 rfl) (by decide) ?_
      refine lv_icmp_ge (tgt := 132) S.1 S.2.1 (dd_at ddX10_crane 17 rfl) (by decide) (fun hc_10 => ?_) (fun hc_10 => ?_)
      · have h := h.1 hc_10
        refine lv_iconst (v := -1) S.1 S.2.1 (dd_at ddX10_crane 66 rfl) (by decide) ?_
        exact vx_ret (e_I S hr hlocks hw h (dd_at ddX10_crane 67 rfl))
      · have h := h.2 hc_10
        refine lv_bipush (v := 12) S.1 S.2.1 (dd_at ddX10_crane 18 rfl) (by decide) ?_
        refine lv_aload_n S.1 S.2.1 (dd_at ddX10_crane 19 rfl) rfl (lv_at hl 0 rfl) ?_
        obtain ⟨b_11, hb_12, ho_13, h⟩ := h
        refine r_getR S hw 10 0 rfl inG10 (by decide) (List.mem_cons_of_mem _ wg16) (by decide) ha0 hb_12 (dd_at ddX10_crane 20 rfl) ?_
        obtain ⟨b_14, hb_15, ho_16, h⟩ := h
        refine r_getRN S hw 8 6 rfl inG8 (by decide) nx14 (by decide) ho_13 hb_15 (dd_at ddX10_crane 21 rfl) ?_
        refine lv_iload S.1 S.2.1 (dd_at ddX10_crane 22 rfl) (lv_at hl 4 rfl) ?_
        refine lv_iconst (v := 0) S.1 S.2.1 (dd_at ddX10_crane 23 rfl) (by decide) ?_
        refine r_callI hw (r_runV (As := [.int v6, .int 0]) (rest := [.int 12]) S hw (m_X6_get l D cs E d H.size b_14 v6 0 _) (cwV 2 S.2.2.2.2 (gV wg997 wg623 wg624 wg51 wg625) rfl rfl rfl (by decide +kernel) ⟨Nat.le_of_ble_eq_true rfl, Nat.le_of_ble_eq_true rfl⟩) (ci := 6) rfl ho_16 h rfl hl.1 rfl (Nat.le_of_ble_eq_true rfl) (dd_at ddX10_crane 24 rfl) ⟨Nat.le_of_ble_eq_true rfl, Nat.le_of_ble_eq_true rfl⟩) (fun r_18 d_17 H locs h hw => ?_)
        refine lv_isub S.1 S.2.1 (dd_at ddX10_crane 25 rfl) ?_
        refine lv_istore (lv' := [(7, .int (12 - r_18)), (0, .ref a0), (3, .int p3), (4, .int p4), (5, .int v5), (6, .int v6)]) S.1 S.2.1 (dd_at ddX10_crane 26 rfl) hl (by decide) rfl (fun ls hl => ?_)
        refine lv_iconst (v := 0) S.1 S.2.1 (dd_at ddX10_crane 27 rfl) (by decide) ?_
        refine lv_istore (lv' := [(8, .int 0), (7, .int (12 - r_18)), (0, .ref a0), (3, .int p3), (4, .int p4), (5, .int v5), (6, .int v6)]) S.1 S.2.1 (dd_at ddX10_crane 28 rfl) hl (by decide) rfl (fun ls hl => ?_)
        obtain ⟨n_19, h⟩ := h
        exact tl55 n_19 v5 v6 (12 - r_18) 0 d_17 H locs ls h hw (lv_sub hl [2, 3, 4, 5, 6, 1, 0] rfl)
  refine lv_iload_n S.1 S.2.1 (dd_at ddX10_crane 0 rfl) rfl (lv_at hl 2 rfl) ?_
  refine lv_bipush (v := 60) S.1 S.2.1 (dd_at ddX10_crane 1 rfl) (by decide) ?_
  refine r_xcallV hT hlocks hw (r_xrunS (As := [.int p2, .int 60]) (rest := []) S hw (m_X10_needIndex l hst D cs E d H.size p2 60 _ _) (va_cwS 2 S.2.2.2.2 (gS wg579 wg580 wg2 wg581) rfl rfl rfl (by decide +kernel) ⟨Nat.le_of_ble_eq_true rfl, Nat.le_of_ble_eq_true rfl⟩) h rfl hl.1 rfl (Nat.le_of_ble_eq_true rfl) (dd_at ddX10_crane 2 rfl) ⟨Nat.le_of_ble_eq_true rfl, Nat.le_of_ble_eq_true rfl⟩) (Nat.le_of_ble_eq_true rfl) (Nat.le_of_ble_eq_true rfl) (fun d_20 H locs h hw => ?_)
  refine lv_iload_n S.1 S.2.1 (dd_at ddX10_crane 3 rfl) rfl (lv_at hl 3 rfl) ?_
  refine lv_iconst (v := 1) S.1 S.2.1 (dd_at ddX10_crane 4 rfl) (by decide) ?_
  refine lv_bipush (v := 9) S.1 S.2.1 (dd_at ddX10_crane 5 rfl) (by decide) ?_
  refine r_xcallV hT hlocks hw (r_xrunS (As := [.int p3, .int 1, .int 9]) (rest := []) S hw (m_X10_needBetween l hst D cs E d_20 H.size p3 1 9 _ _) (va_cwS 3 S.2.2.2.2 (gS wg525 wg526 wg2 wg527) rfl rfl rfl (by decide +kernel) ⟨Nat.le_of_ble_eq_true rfl, Nat.le_of_ble_eq_true rfl⟩) h rfl hl.1 rfl (Nat.le_of_ble_eq_true rfl) (dd_at ddX10_crane 6 rfl) ⟨Nat.le_of_ble_eq_true rfl, Nat.le_of_ble_eq_true rfl⟩) (Nat.le_of_ble_eq_true rfl) (Nat.le_of_ble_eq_true rfl) (fun d_22 H locs h hw => ?_)
  refine lv_iload_n S.1 S.2.1 (dd_at ddX10_crane 7 rfl) rfl (lv_at hl 1 rfl) ?_
  refine lv_aload_n S.1 S.2.1 (dd_at ddX10_crane 8 rfl) rfl (lv_at hl 0 rfl) ?_
  obtain ⟨b_24, hb_25, ho_26, h⟩ := h
  refine r_getR S hw 10 0 rfl inG10 (by decide) (List.mem_cons_of_mem _ wg16) (by decide) ha0 hb_25 (dd_at ddX10_crane 9 rfl) ?_
  refine r_callI hw (r_runV (As := []) (rest := [.int p1]) S hw (m_X8_hutBits l D cs E d_22 H.size b_24 _) (cwV 0 S.2.2.2.2 (gV wg1145 wg1146 wg1147 wg15 wg1148) rfl rfl rfl (by decide +kernel) ⟨Nat.le_of_ble_eq_true rfl, Nat.le_of_ble_eq_true rfl⟩) (ci := 8) rfl ho_26 h rfl hl.1 rfl (Nat.le_of_ble_eq_true rfl) (dd_at ddX10_crane 10 rfl) ⟨Nat.le_of_ble_eq_true rfl, Nat.le_of_ble_eq_true rfl⟩) (fun r_28 d_27 H locs h hw => ?_)
  refine lv_iand S.1 S.2.1 (dd_at ddX10_crane 11 rfl) ?_
  refine lv_istore (lv' := [(5, .int (p1 &&& r_28)), (0, .ref a0), (1, .int p1), (2, .int p2), (3, .int p3), (4, .int p4)]) S.1 S.2.1 (dd_at ddX10_crane 12 rfl) hl (by decide) rfl (fun ls hl => ?_)
  refine lv_iload_n S.1 S.2.1 (dd_at ddX10_crane 13 rfl) rfl (lv_at hl 3 rfl) ?_
  refine lv_istore (lv' := [(6, .int p2), (5, .int (p1 &&& r_28)), (0, .ref a0), (1, .int p1), (2, .int p2), (3, .int p3), (4, .int p4)]) S.1 S.2.1 (dd_at ddX10_crane 14 rfl) hl (by decide) rfl (fun ls hl => ?_)
  obtain ⟨n_29, h⟩ := h
  exact tl27 n_29 (p1 &&& r_28) p2 d_27 H locs ls h hw (lv_sub hl [2, 5, 6, 1, 0] rfl)

def w_X10_line (E : En) (a0 : Nat) (p1 : Int32) (p2 : Int32) (p3 : Int32) (d : Dy) (K : Dy → Prop) (X : String → Dy → Prop) : Prop := okO E a0 10 ∧ w_X10_needHut E a0 p1 d (fun d_1 => w_X10_needBetween E p2 0 99 d_1 (fun d_3 => w_X10_needBetween E p3 p2 99 d_3 (fun d_5 => ∃ b_7 : Nat, eR E a0 0 = some b_7 ∧ okO E b_7 8 ∧ ∃ b_10 : Nat, eR E b_7 2 = some b_10 ∧ okO E b_10 6 ∧ w_X6_set E b_10 p1 3 p2 d_5 (fun d_13 => ∃ b_15 : Nat, eR E a0 0 = some b_15 ∧ okO E b_15 8 ∧ ∃ b_18 : Nat, eR E b_15 2 = some b_18 ∧ okO E b_18 6 ∧ w_X6_set E b_18 p1 4 p3 d_13 (fun d_21 => K d_21))) X) X) X
abbrev rm_X10_line : Room := { frames := 8, cells := 3, slots := 18, locals := 142 }
set_option maxRecDepth 100000 in
set_option maxHeartbeats 4000000 in
theorem m_X10_line (l : Launch) (hst : l.stackTraces = false) (D : va_G) (cs : Nat → ClassId) (E : En) (d : Dy) (sz : Nat) (a0 : Nat) (p1 : Int32) (p2 : Int32) (p3 : Int32) (K : Dy → Prop) (X : String → Dy → Prop) : XV l yX10_line (.code yX10_line cX10_line 4 none :: wsL_law) rm_X10_line D cs E d sz [.ref a0, .int p1, .int p2, .int p3] (w_X10_line E a0 p1 p2 p3 d K X) K X := by
  refine e_ofX (cc := cX10_line) (maxL := 4) (ret := none) (own := RX10) (by decide) rfl rfl (Nat.le_of_ble_eq_true rfl) ?_
  intro p e s m below meth c S hr hlocks hsz hT H locs hw h ls hl
  have hl : lv_has ls 4 [(0, .ref a0), (1, .int p1), (2, .int p2), (3, .int p3)] := hl
  unfold w_X10_line at h
  obtain ⟨ha0, h⟩ := h
  refine lv_aload_n S.1 S.2.1 (dd_at ddX10_line 0 rfl) rfl (lv_at hl 0 rfl) ?_
  refine lv_iload_n S.1 S.2.1 (dd_at ddX10_line 1 rfl) rfl (lv_at hl 1 rfl) ?_
  refine r_xcallV hT hlocks hw (r_xrunV (As := [.int p1]) (rest := []) S hw (m_X10_needHut l hst D cs E d H.size a0 p1 _ _) (cwV 1 S.2.2.2.2 (gV wg610 wg611 wg612 wg2 wg613) rfl rfl rfl (by decide +kernel) ⟨Nat.le_of_ble_eq_true rfl, Nat.le_of_ble_eq_true rfl⟩) (ci := 10) rfl ha0 h rfl hl.1 rfl (Nat.le_of_ble_eq_true rfl) (dd_at ddX10_line 2 rfl) ⟨Nat.le_of_ble_eq_true rfl, Nat.le_of_ble_eq_true rfl⟩) (Nat.le_of_ble_eq_true rfl) (Nat.le_of_ble_eq_true rfl) (fun d_1 H locs h hw => ?_)
  refine lv_iload_n S.1 S.2.1 (dd_at ddX10_line 3 rfl) rfl (lv_at hl 2 rfl) ?_
  refine lv_iconst (v := 0) S.1 S.2.1 (dd_at ddX10_line 4 rfl) (by decide) ?_
  refine lv_bipush (v := 99) S.1 S.2.1 (dd_at ddX10_line 5 rfl) (by decide) ?_
  refine r_xcallV hT hlocks hw (r_xrunS (As := [.int p2, .int 0, .int 99]) (rest := []) S hw (m_X10_needBetween l hst D cs E d_1 H.size p2 0 99 _ _) (va_cwS 3 S.2.2.2.2 (gS wg525 wg526 wg2 wg527) rfl rfl rfl (by decide +kernel) ⟨Nat.le_of_ble_eq_true rfl, Nat.le_of_ble_eq_true rfl⟩) h rfl hl.1 rfl (Nat.le_of_ble_eq_true rfl) (dd_at ddX10_line 6 rfl) ⟨Nat.le_of_ble_eq_true rfl, Nat.le_of_ble_eq_true rfl⟩) (Nat.le_of_ble_eq_true rfl) (Nat.le_of_ble_eq_true rfl) (fun d_3 H locs h hw => ?_)
  refine lv_iload_n S.1 S.2.1 (dd_at ddX10_line 7 rfl) rfl (lv_at hl 3 rfl) ?_
  refine lv_iload_n S.1 S.2.1 (dd_at ddX10_line 8 rfl) rfl (lv_at hl 2 rfl) ?_
  refine lv_bipush (v := 99) S.1 S.2.1 (dd_at ddX10_line 9 rfl) (by decide) ?_
  refine r_xcallV hT hlocks hw (r_xrunS (As := [.int p3, .int p2, .int 99]) (rest := []) S hw (m_X10_needBetween l hst D cs E d_3 H.size p3 p2 99 _ _) (va_cwS 3 S.2.2.2.2 (gS wg525 wg526 wg2 wg527) rfl rfl rfl (by decide +kernel) ⟨Nat.le_of_ble_eq_true rfl, Nat.le_of_ble_eq_true rfl⟩) h rfl hl.1 rfl (Nat.le_of_ble_eq_true rfl) (dd_at ddX10_line 10 rfl) ⟨Nat.le_of_ble_eq_true rfl, Nat.le_of_ble_eq_true rfl⟩) (Nat.le_of_ble_eq_true rfl) (Nat.le_of_ble_eq_true rfl) (fun d_5 H locs h hw => ?_)
  refine lv_aload_n S.1 S.2.1 (dd_at ddX10_line 11 rfl) rfl (lv_at hl 0 rfl) ?_
  obtain ⟨b_7, hb_8, ho_9, h⟩ := h
  refine r_getR S hw 10 0 rfl inG10 (by decide) (List.mem_cons_of_mem _ wg16) (by decide) ha0 hb_8 (dd_at ddX10_line 12 rfl) ?_
  obtain ⟨b_10, hb_11, ho_12, h⟩ := h
  refine r_getRN S hw 8 2 rfl inG8 (by decide) nx7 (by decide) ho_9 hb_11 (dd_at ddX10_line 13 rfl) ?_
  refine lv_iload_n S.1 S.2.1 (dd_at ddX10_line 14 rfl) rfl (lv_at hl 1 rfl) ?_
  refine lv_iconst (v := 3) S.1 S.2.1 (dd_at ddX10_line 15 rfl) (by decide) ?_
  refine lv_iload_n S.1 S.2.1 (dd_at ddX10_line 16 rfl) rfl (lv_at hl 2 rfl) ?_
  refine r_callV hw (r_runV (As := [.int p1, .int 3, .int p2]) (rest := []) S hw (m_X6_set l D cs E d_5 H.size b_10 p1 3 p2 _) (cwV 3 S.2.2.2.2 (gV wg550 wg318 wg319 wg51 wg320) rfl rfl rfl (by decide +kernel) ⟨Nat.le_of_ble_eq_true rfl, Nat.le_of_ble_eq_true rfl⟩) (ci := 6) rfl ho_12 h rfl hl.1 rfl (Nat.le_of_ble_eq_true rfl) (dd_at ddX10_line 17 rfl) ⟨Nat.le_of_ble_eq_true rfl, Nat.le_of_ble_eq_true rfl⟩) (fun d_13 H locs h hw => ?_)
  refine lv_aload_n S.1 S.2.1 (dd_at ddX10_line 18 rfl) rfl (lv_at hl 0 rfl) ?_
  obtain ⟨b_15, hb_16, ho_17, h⟩ := h
  refine r_getR S hw 10 0 rfl inG10 (by decide) (List.mem_cons_of_mem _ wg16) (by decide) ha0 hb_16 (dd_at ddX10_line 19 rfl) ?_
  obtain ⟨b_18, hb_19, ho_20, h⟩ := h
  refine r_getRN S hw 8 2 rfl inG8 (by decide) nx7 (by decide) ho_17 hb_19 (dd_at ddX10_line 20 rfl) ?_
  refine lv_iload_n S.1 S.2.1 (dd_at ddX10_line 21 rfl) rfl (lv_at hl 1 rfl) ?_
  refine lv_iconst (v := 4) S.1 S.2.1 (dd_at ddX10_line 22 rfl) (by decide) ?_
  refine lv_iload_n S.1 S.2.1 (dd_at ddX10_line 23 rfl) rfl (lv_at hl 3 rfl) ?_
  refine r_callV hw (r_runV (As := [.int p1, .int 4, .int p3]) (rest := []) S hw (m_X6_set l D cs E d_13 H.size b_18 p1 4 p3 _) (cwV 3 S.2.2.2.2 (gV wg550 wg318 wg319 wg51 wg320) rfl rfl rfl (by decide +kernel) ⟨Nat.le_of_ble_eq_true rfl, Nat.le_of_ble_eq_true rfl⟩) (ci := 6) rfl ho_20 h rfl hl.1 rfl (Nat.le_of_ble_eq_true rfl) (dd_at ddX10_line 24 rfl) ⟨Nat.le_of_ble_eq_true rfl, Nat.le_of_ble_eq_true rfl⟩) (fun d_21 H locs h hw => ?_)
  exact vx_ret (e_V S hr hlocks hw h (dd_at ddX10_line 25 rfl))

def b_X10_storm_23 (E : En) (a0 : Nat) (p1 : Int32) (p2 : Int32) (K : Int32 → Dy → Prop) (X : String → Dy → Prop) (s0 : Int32) (d : Dy) : Prop := w_X10_need E s0 d (fun d_1 => ∃ b_3 : Nat, eR E a0 0 = some b_3 ∧ okO E b_3 8 ∧ ∃ b_6 : Nat, eR E b_3 7 = some b_6 ∧ okO E b_6 6 ∧ w_X10_needRoom E b_6 d_1 (fun d_9 => ∃ b_11 : Nat, eR E a0 0 = some b_11 ∧ okO E b_11 8 ∧ ∃ b_14 : Nat, eR E b_11 7 = some b_14 ∧ okO E b_14 6 ∧ w_X6_open E b_14 d_9 (fun r_18 d_17 => ∃ b_19 : Nat, eR E a0 0 = some b_19 ∧ okO E b_19 8 ∧ ∃ b_22 : Nat, eR E b_19 7 = some b_22 ∧ okO E b_22 6 ∧ w_X6_set E b_22 r_18 0 p1 d_17 (fun d_25 => ∃ b_27 : Nat, eR E a0 0 = some b_27 ∧ okO E b_27 8 ∧ ∃ b_30 : Nat, eR E b_27 7 = some b_30 ∧ okO E b_30 6 ∧ ∃ b_33 : Nat, eR E a0 0 = some b_33 ∧ okO E b_33 8 ∧ w_X6_set E b_30 r_18 1 (gI d_25 b_33 0) d_25 (fun d_36 => ∃ b_38 : Nat, eR E a0 0 = some b_38 ∧ okO E b_38 8 ∧ ∃ b_41 : Nat, eR E b_38 7 = some b_41 ∧ okO E b_41 6 ∧ w_X6_set E b_41 r_18 2 p2 d_36 (fun d_44 => K r_18 d_44))))) X) X
def w_X10_storm (E : En) (a0 : Nat) (p1 : Int32) (p2 : Int32) (d : Dy) (K : Int32 → Dy → Prop) (X : String → Dy → Prop) : Prop := okO E a0 10 ∧ w_X10_needYear E p1 d (fun d_46 => ∃ b_48 : Nat, eR E a0 0 = some b_48 ∧ okO E b_48 8 ∧ w_X8_hutBits E b_48 d_46 (fun r_52 d_51 => ((¬ (p2 &&& (r_52 ^^^ (-1))) = 0 → b_X10_storm_23 E a0 p1 p2 K X 0 d_51) ∧ ((p2 &&& (r_52 ^^^ (-1))) = 0 → b_X10_storm_23 E a0 p1 p2 K X 1 d_51)))) X
abbrev rm_X10_storm : Room := { frames := 7, cells := 3, slots := 18, locals := 120 }
set_option maxRecDepth 100000 in
set_option maxHeartbeats 4000000 in
theorem m_X10_storm (l : Launch) (hst : l.stackTraces = false) (D : va_G) (cs : Nat → ClassId) (E : En) (d : Dy) (sz : Nat) (a0 : Nat) (p1 : Int32) (p2 : Int32) (K : Int32 → Dy → Prop) (X : String → Dy → Prop) : XI l yX10_storm (.code yX10_storm cX10_storm 4 (some .int) :: wsL_law) rm_X10_storm D cs E d sz [.ref a0, .int p1, .int p2] (w_X10_storm E a0 p1 p2 d K X) K X := by
  refine e_ofX (cc := cX10_storm) (maxL := 4) (ret := (some .int)) (own := RX10) (by decide) rfl rfl (Nat.le_of_ble_eq_true rfl) ?_
  intro p e s m below meth c S hr hlocks hsz hT H locs hw h ls hl
  have hl : lv_has ls 4 [(0, .ref a0), (1, .int p1), (2, .int p2)] := hl
  unfold w_X10_storm at h
  obtain ⟨ha0, h⟩ := h
  have tb23 : ∀ (s0 : Int32) (d : Dy) (H : Heap) (locs : List Loc) (ls : Array Slot), b_X10_storm_23 E a0 p1 p2 K X s0 d → Wd D cs (AW E sz) s.heap s E d H locs → lv_has ls 4 [(0, .ref a0), (1, .int p1), (2, .int p2)] → W p l e rm_X10_storm s m ([.ref a0, .int p1, .int p2] : List Value).toArray below meth c H locs 1 6 (vx_MQ below (va_Qi K (OutW D cs E (AW E sz)) (AW E sz)) (XX D cs E sz X) ([.ref a0, .int p1, .int p2] : List Value).toArray s rm_X10_storm.cells rm_X10_storm.slots (AW E sz)) (F0 m 23 ls [.int s0]) := by
    intro s0 d H locs ls h hw hl
    unfold b_X10_storm_23 at h
    refine r_xcallV hT hlocks hw (r_xrunS (As := [.int s0]) (rest := []) S hw (m_X10_need l hst D cs E d H.size s0 _ _) (va_cwS 1 S.2.2.2.2 (gS wg361 wg362 wg2 wg363) rfl rfl rfl (by decide +kernel) ⟨Nat.le_of_ble_eq_true rfl, Nat.le_of_ble_eq_true rfl⟩) h rfl hl.1 rfl (Nat.le_of_ble_eq_true rfl) (dd_at ddX10_storm 13 rfl) ⟨Nat.le_of_ble_eq_true rfl, Nat.le_of_ble_eq_true rfl⟩) (Nat.le_of_ble_eq_true rfl) (Nat.le_of_ble_eq_true rfl) (fun d_1 H locs h hw => ?_)
    refine lv_aload_n S.1 S.2.1 (dd_at ddX10_storm 14 rfl) rfl (lv_at hl 0 rfl) ?_
    obtain ⟨b_3, hb_4, ho_5, h⟩ := h
    refine r_getR S hw 10 0 rfl inG10 (by decide) (List.mem_cons_of_mem _ wg16) (by decide) ha0 hb_4 (dd_at ddX10_storm 15 rfl) ?_
    obtain ⟨b_6, hb_7, ho_8, h⟩ := h
    refine r_getRN S hw 8 7 rfl inG8 (by decide) nx16 (by decide) ho_5 hb_7 (dd_at ddX10_storm 16 rfl) ?_
    refine r_xcallV hT hlocks hw (r_xrunS (As := [.ref b_6]) (rest := []) S hw (m_X10_needRoom l hst D cs E d_1 H.size b_6 _ _) (va_cwS 1 S.2.2.2.2 (gS wg540 wg541 wg2 wg542) rfl rfl rfl (by decide +kernel) ⟨Nat.le_of_ble_eq_true rfl, Nat.le_of_ble_eq_true rfl⟩) h rfl hl.1 rfl (Nat.le_of_ble_eq_true rfl) (dd_at ddX10_storm 17 rfl) ⟨Nat.le_of_ble_eq_true rfl, Nat.le_of_ble_eq_true rfl⟩) (Nat.le_of_ble_eq_true rfl) (Nat.le_of_ble_eq_true rfl) (fun d_9 H locs h hw => ?_)
    refine lv_aload_n S.1 S.2.1 (dd_at ddX10_storm 18 rfl) rfl (lv_at hl 0 rfl) ?_
    obtain ⟨b_11, hb_12, ho_13, h⟩ := h
    refine r_getR S hw 10 0 rfl inG10 (by decide) (List.mem_cons_of_mem _ wg16) (by decide) ha0 hb_12 (dd_at ddX10_storm 19 rfl) ?_
    obtain ⟨b_14, hb_15, ho_16, h⟩ := h
    refine r_getRN S hw 8 7 rfl inG8 (by decide) nx16 (by decide) ho_13 hb_15 (dd_at ddX10_storm 20 rfl) ?_
    refine r_callI hw (r_runV (As := []) (rest := []) S hw (m_X6_open l D cs E d_9 H.size b_14 _) (cwV 0 S.2.2.2.2 (gV wg549 wg310 wg311 wg51 wg312) rfl rfl rfl (by decide +kernel) ⟨Nat.le_of_ble_eq_true rfl, Nat.le_of_ble_eq_true rfl⟩) (ci := 6) rfl ho_16 h rfl hl.1 rfl (Nat.le_of_ble_eq_true rfl) (dd_at ddX10_storm 21 rfl) ⟨Nat.le_of_ble_eq_true rfl, Nat.le_of_ble_eq_true rfl⟩) (fun r_18 d_17 H locs h hw => ?_)
    refine lv_istore_n (lv' := [(3, .int r_18), (0, .ref a0), (1, .int p1), (2, .int p2)]) S.1 S.2.1 (dd_at ddX10_storm 22 rfl) rfl hl (by decide) rfl (fun ls hl => ?_)
    refine lv_aload_n S.1 S.2.1 (dd_at ddX10_storm 23 rfl) rfl (lv_at hl 1 rfl) ?_
    obtain ⟨b_19, hb_20, ho_21, h⟩ := h
    refine r_getR S hw 10 0 rfl inG10 (by decide) (List.mem_cons_of_mem _ wg16) (by decide) ha0 hb_20 (dd_at ddX10_storm 24 rfl) ?_
    obtain ⟨b_22, hb_23, ho_24, h⟩ := h
    refine r_getRN S hw 8 7 rfl inG8 (by decide) nx16 (by decide) ho_21 hb_23 (dd_at ddX10_storm 25 rfl) ?_
    refine lv_iload_n S.1 S.2.1 (dd_at ddX10_storm 26 rfl) rfl (lv_at hl 0 rfl) ?_
    refine lv_iconst (v := 0) S.1 S.2.1 (dd_at ddX10_storm 27 rfl) (by decide) ?_
    refine lv_iload_n S.1 S.2.1 (dd_at ddX10_storm 28 rfl) rfl (lv_at hl 2 rfl) ?_
    refine r_callV hw (r_runV (As := [.int r_18, .int 0, .int p1]) (rest := []) S hw (m_X6_set l D cs E d_17 H.size b_22 r_18 0 p1 _) (cwV 3 S.2.2.2.2 (gV wg550 wg318 wg319 wg51 wg320) rfl rfl rfl (by decide +kernel) ⟨Nat.le_of_ble_eq_true rfl, Nat.le_of_ble_eq_true rfl⟩) (ci := 6) rfl ho_24 h rfl hl.1 rfl (Nat.le_of_ble_eq_true rfl) (dd_at ddX10_storm 29 rfl) ⟨Nat.le_of_ble_eq_true rfl, Nat.le_of_ble_eq_true rfl⟩) (fun d_25 H locs h hw => ?_)
    refine lv_aload_n S.1 S.2.1 (dd_at ddX10_storm 30 rfl) rfl (lv_at hl 1 rfl) ?_
    obtain ⟨b_27, hb_28, ho_29, h⟩ := h
    refine r_getR S hw 10 0 rfl inG10 (by decide) (List.mem_cons_of_mem _ wg16) (by decide) ha0 hb_28 (dd_at ddX10_storm 31 rfl) ?_
    obtain ⟨b_30, hb_31, ho_32, h⟩ := h
    refine r_getRN S hw 8 7 rfl inG8 (by decide) nx16 (by decide) ho_29 hb_31 (dd_at ddX10_storm 32 rfl) ?_
    refine lv_iload_n S.1 S.2.1 (dd_at ddX10_storm 33 rfl) rfl (lv_at hl 0 rfl) ?_
    refine lv_iconst (v := 1) S.1 S.2.1 (dd_at ddX10_storm 34 rfl) (by decide) ?_
    refine lv_aload_n S.1 S.2.1 (dd_at ddX10_storm 35 rfl) rfl (lv_at hl 1 rfl) ?_
    obtain ⟨b_33, hb_34, ho_35, h⟩ := h
    refine r_getR S hw 10 0 rfl inG10 (by decide) (List.mem_cons_of_mem _ wg16) (by decide) ha0 hb_34 (dd_at ddX10_storm 36 rfl) ?_
    refine r_getIN S hw 8 0 rfl inG8 (by decide) nx0 (by decide) ho_35 (dd_at ddX10_storm 37 rfl) ?_
    refine r_callV hw (r_runV (As := [.int r_18, .int 1, .int (gI d_25 b_33 0)]) (rest := []) S hw (m_X6_set l D cs E d_25 H.size b_30 r_18 1 (gI d_25 b_33 0) _) (cwV 3 S.2.2.2.2 (gV wg550 wg318 wg319 wg51 wg320) rfl rfl rfl (by decide +kernel) ⟨Nat.le_of_ble_eq_true rfl, Nat.le_of_ble_eq_true rfl⟩) (ci := 6) rfl ho_32 h rfl hl.1 rfl (Nat.le_of_ble_eq_true rfl) (dd_at ddX10_storm 38 rfl) ⟨Nat.le_of_ble_eq_true rfl, Nat.le_of_ble_eq_true rfl⟩) (fun d_36 H locs h hw => ?_)
    refine lv_aload_n S.1 S.2.1 (dd_at ddX10_storm 39 rfl) rfl (lv_at hl 1 rfl) ?_
    obtain ⟨b_38, hb_39, ho_40, h⟩ := h
    refine r_getR S hw 10 0 rfl inG10 (by decide) (List.mem_cons_of_mem _ wg16) (by decide) ha0 hb_39 (dd_at ddX10_storm 40 rfl) ?_
    obtain ⟨b_41, hb_42, ho_43, h⟩ := h
    refine r_getRN S hw 8 7 rfl inG8 (by decide) nx16 (by decide) ho_40 hb_42 (dd_at ddX10_storm 41 rfl) ?_
    refine lv_iload_n S.1 S.2.1 (dd_at ddX10_storm 42 rfl) rfl (lv_at hl 0 rfl) ?_
    refine lv_iconst (v := 2) S.1 S.2.1 (dd_at ddX10_storm 43 rfl) (by decide) ?_
    refine lv_iload_n S.1 S.2.1 (dd_at ddX10_storm 44 rfl) rfl (lv_at hl 3 rfl) ?_
    refine r_callV hw (r_runV (As := [.int r_18, .int 2, .int p2]) (rest := []) S hw (m_X6_set l D cs E d_36 H.size b_41 r_18 2 p2 _) (cwV 3 S.2.2.2.2 (gV wg550 wg318 wg319 wg51 wg320) rfl rfl rfl (by decide +kernel) ⟨Nat.le_of_ble_eq_true rfl, Nat.le_of_ble_eq_true rfl⟩) (ci := 6) rfl ho_43 h rfl hl.1 rfl (Nat.le_of_ble_eq_true rfl) (dd_at ddX10_storm 45 rfl) ⟨Nat.le_of_ble_eq_true rfl, Nat.le_of_ble_eq_true rfl⟩) (fun d_44 H locs h hw => ?_)
    refine lv_iload_n S.1 S.2.1 (dd_at ddX10_storm 46 rfl) rfl (lv_at hl 0 rfl) ?_
    exact vx_ret (e_I S hr hlocks hw h (dd_at ddX10_storm 47 rfl))
  refine lv_iload_n S.1 S.2.1 (dd_at ddX10_storm 0 rfl) rfl (lv_at hl 1 rfl) ?_
  refine r_xcallV hT hlocks hw (r_xrunS (As := [.int p1]) (rest := []) S hw (m_X10_needYear l hst D cs E d H.size p1 _ _) (va_cwS 1 S.2.2.2.2 (gS wg607 wg608 wg2 wg609) rfl rfl rfl (by decide +kernel) ⟨Nat.le_of_ble_eq_true rfl, Nat.le_of_ble_eq_true rfl⟩) h rfl hl.1 rfl (Nat.le_of_ble_eq_true rfl) (dd_at ddX10_storm 1 rfl) ⟨Nat.le_of_ble_eq_true rfl, Nat.le_of_ble_eq_true rfl⟩) (Nat.le_of_ble_eq_true rfl) (Nat.le_of_ble_eq_true rfl) (fun d_46 H locs h hw => ?_)
  refine lv_iload_n S.1 S.2.1 (dd_at ddX10_storm 2 rfl) rfl (lv_at hl 2 rfl) ?_
  refine lv_aload_n S.1 S.2.1 (dd_at ddX10_storm 3 rfl) rfl (lv_at hl 0 rfl) ?_
  obtain ⟨b_48, hb_49, ho_50, h⟩ := h
  refine r_getR S hw 10 0 rfl inG10 (by decide) (List.mem_cons_of_mem _ wg16) (by decide) ha0 hb_49 (dd_at ddX10_storm 4 rfl) ?_
  refine r_callI hw (r_runV (As := []) (rest := [.int p2]) S hw (m_X8_hutBits l D cs E d_46 H.size b_48 _) (cwV 0 S.2.2.2.2 (gV wg1145 wg1146 wg1147 wg15 wg1148) rfl rfl rfl (by decide +kernel) ⟨Nat.le_of_ble_eq_true rfl, Nat.le_of_ble_eq_true rfl⟩) (ci := 8) rfl ho_50 h rfl hl.1 rfl (Nat.le_of_ble_eq_true rfl) (dd_at ddX10_storm 5 rfl) ⟨Nat.le_of_ble_eq_true rfl, Nat.le_of_ble_eq_true rfl⟩) (fun r_52 d_51 H locs h hw => ?_)
  refine lv_iconst (v := -1) S.1 S.2.1 (dd_at ddX10_storm 6 rfl) (by decide) ?_
  refine lv_ixor S.1 S.2.1 (dd_at ddX10_storm 7 rfl) ?_
  refine lv_iand S.1 S.2.1 (dd_at ddX10_storm 8 rfl) ?_
  refine lv_if_ne (tgt := 22) S.1 S.2.1 (dd_at ddX10_storm 9 rfl) (by decide) (fun hc_53 => ?_) (fun hc_53 => ?_)
  · have h := h.1 hc_53
    refine lv_iconst (v := 0) S.1 S.2.1 (dd_at ddX10_storm 12 rfl) (by decide) ?_
    exact tb23 0 d_51 H locs ls h hw (lv_sub hl [0, 1, 2] rfl)
  · have h := h.2 hc_53
    refine lv_iconst (v := 1) S.1 S.2.1 (dd_at ddX10_storm 10 rfl) (by decide) ?_
    refine lv_goto (tgt := 23) S.1 S.2.1 (dd_at ddX10_storm 11 rfl) (by decide) ?_
    exact tb23 1 d_51 H locs ls h hw (lv_sub hl [0, 1, 2] rfl)

def w_X10_sea (E : En) (a0 : Nat) (p1 : Int32) (p2 : Int32) (p3 : Int32) (d : Dy) (K : Int32 → Dy → Prop) (X : String → Dy → Prop) : Prop := okO E a0 10 ∧ ∃ b_1 : Nat, eR E a0 0 = some b_1 ∧ okO E b_1 8 ∧ ∃ b_4 : Nat, eR E b_1 7 = some b_4 ∧ okO E b_4 6 ∧ w_X6_size E b_4 d (fun r_8 d_7 => w_X10_needIndex E p1 r_8 d_7 (fun d_9 => w_X10_needYear E p2 d_9 (fun d_11 => ∃ b_13 : Nat, eR E a0 9 = some b_13 ∧ okO E b_13 5 ∧ w_X5_solves E b_13 p2 d_11 (fun r_17 d_16 => ((r_17 = 0 → K (-1) d_16) ∧ (¬ r_17 = 0 → ∃ b_19 : Nat, eR E a0 9 = some b_19 ∧ okO E b_19 5 ∧ w_X5_seaOf E b_19 p1 p3 d_16 (fun r_23 d_22 => K r_23 d_22))))) X) X)
abbrev rm_X10_sea : Room := { frames := 7, cells := 2, slots := 12, locals := 121 }
set_option maxRecDepth 100000 in
set_option maxHeartbeats 4000000 in
theorem m_X10_sea (l : Launch) (hst : l.stackTraces = false) (D : va_G) (cs : Nat → ClassId) (E : En) (d : Dy) (sz : Nat) (a0 : Nat) (p1 : Int32) (p2 : Int32) (p3 : Int32) (K : Int32 → Dy → Prop) (X : String → Dy → Prop) : XI l yX10_sea (.code yX10_sea cX10_sea 4 (some .int) :: wsL_law) rm_X10_sea D cs E d sz [.ref a0, .int p1, .int p2, .int p3] (w_X10_sea E a0 p1 p2 p3 d K X) K X := by
  refine e_ofX (cc := cX10_sea) (maxL := 4) (ret := (some .int)) (own := RX10) (by decide) rfl rfl (Nat.le_of_ble_eq_true rfl) ?_
  intro p e s m below meth c S hr hlocks hsz hT H locs hw h ls hl
  have hl : lv_has ls 4 [(0, .ref a0), (1, .int p1), (2, .int p2), (3, .int p3)] := hl
  unfold w_X10_sea at h
  obtain ⟨ha0, h⟩ := h
  refine lv_iload_n S.1 S.2.1 (dd_at ddX10_sea 0 rfl) rfl (lv_at hl 1 rfl) ?_
  refine lv_aload_n S.1 S.2.1 (dd_at ddX10_sea 1 rfl) rfl (lv_at hl 0 rfl) ?_
  obtain ⟨b_1, hb_2, ho_3, h⟩ := h
  refine r_getR S hw 10 0 rfl inG10 (by decide) (List.mem_cons_of_mem _ wg16) (by decide) ha0 hb_2 (dd_at ddX10_sea 2 rfl) ?_
  obtain ⟨b_4, hb_5, ho_6, h⟩ := h
  refine r_getRN S hw 8 7 rfl inG8 (by decide) nx16 (by decide) ho_3 hb_5 (dd_at ddX10_sea 3 rfl) ?_
  refine r_callI hw (r_runV (As := []) (rest := [.int p1]) S hw (m_X6_size l D cs E d H.size b_4 _) (cwV 0 S.2.2.2.2 (gV wg578 wg372 wg373 wg51 wg374) rfl rfl rfl (by decide +kernel) ⟨Nat.le_of_ble_eq_true rfl, Nat.le_of_ble_eq_true rfl⟩) (ci := 6) rfl ho_6 h rfl hl.1 rfl (Nat.le_of_ble_eq_true rfl) (dd_at ddX10_sea 4 rfl) ⟨Nat.le_of_ble_eq_true rfl, Nat.le_of_ble_eq_true rfl⟩) (fun r_8 d_7 H locs h hw => ?_)
  refine r_xcallV hT hlocks hw (r_xrunS (As := [.int p1, .int r_8]) (rest := []) S hw (m_X10_needIndex l hst D cs E d_7 H.size p1 r_8 _ _) (va_cwS 2 S.2.2.2.2 (gS wg579 wg580 wg2 wg581) rfl rfl rfl (by decide +kernel) ⟨Nat.le_of_ble_eq_true rfl, Nat.le_of_ble_eq_true rfl⟩) h rfl hl.1 rfl (Nat.le_of_ble_eq_true rfl) (dd_at ddX10_sea 5 rfl) ⟨Nat.le_of_ble_eq_true rfl, Nat.le_of_ble_eq_true rfl⟩) (Nat.le_of_ble_eq_true rfl) (Nat.le_of_ble_eq_true rfl) (fun d_9 H locs h hw => ?_)
  refine lv_iload_n S.1 S.2.1 (dd_at ddX10_sea 6 rfl) rfl (lv_at hl 2 rfl) ?_
  refine r_xcallV hT hlocks hw (r_xrunS (As := [.int p2]) (rest := []) S hw (m_X10_needYear l hst D cs E d_9 H.size p2 _ _) (va_cwS 1 S.2.2.2.2 (gS wg607 wg608 wg2 wg609) rfl rfl rfl (by decide +kernel) ⟨Nat.le_of_ble_eq_true rfl, Nat.le_of_ble_eq_true rfl⟩) h rfl hl.1 rfl (Nat.le_of_ble_eq_true rfl) (dd_at ddX10_sea 7 rfl) ⟨Nat.le_of_ble_eq_true rfl, Nat.le_of_ble_eq_true rfl⟩) (Nat.le_of_ble_eq_true rfl) (Nat.le_of_ble_eq_true rfl) (fun d_11 H locs h hw => ?_)
  refine lv_aload_n S.1 S.2.1 (dd_at ddX10_sea 8 rfl) rfl (lv_at hl 0 rfl) ?_
  obtain ⟨b_13, hb_14, ho_15, h⟩ := h
  refine r_getR S hw 10 9 rfl inG10 (by decide) (List.mem_cons_of_mem _ wg39) (by decide) ha0 hb_14 (dd_at ddX10_sea 9 rfl) ?_
  refine lv_iload_n S.1 S.2.1 (dd_at ddX10_sea 10 rfl) rfl (lv_at hl 2 rfl) ?_
  refine r_callI hw (r_runV (As := [.int p2]) (rest := []) S hw (m_X5_solves l D cs E d_11 H.size b_13 p2 _) (cwV 1 S.2.2.2.2 (gV wg1271 wg1272 wg1273 wg38 wg1274) rfl rfl rfl (by decide +kernel) ⟨Nat.le_of_ble_eq_true rfl, Nat.le_of_ble_eq_true rfl⟩) (ci := 5) rfl ho_15 h rfl hl.1 rfl (Nat.le_of_ble_eq_true rfl) (dd_at ddX10_sea 11 rfl) ⟨Nat.le_of_ble_eq_true rfl, Nat.le_of_ble_eq_true rfl⟩) (fun r_17 d_16 H locs h hw => ?_)
  refine lv_if_eq (tgt := 41) S.1 S.2.1 (dd_at ddX10_sea 12 rfl) (by decide) (fun hc_18 => ?_) (fun hc_18 => ?_)
  · have h := h.1 hc_18
    refine lv_iconst (v := -1) S.1 S.2.1 (dd_at ddX10_sea 19 rfl) (by decide) ?_
    exact vx_ret (e_I S hr hlocks hw h (dd_at ddX10_sea 20 rfl))
  · have h := h.2 hc_18
    refine lv_aload_n S.1 S.2.1 (dd_at ddX10_sea 13 rfl) rfl (lv_at hl 0 rfl) ?_
    obtain ⟨b_19, hb_20, ho_21, h⟩ := h
    refine r_getR S hw 10 9 rfl inG10 (by decide) (List.mem_cons_of_mem _ wg39) (by decide) ha0 hb_20 (dd_at ddX10_sea 14 rfl) ?_
    refine lv_iload_n S.1 S.2.1 (dd_at ddX10_sea 15 rfl) rfl (lv_at hl 1 rfl) ?_
    refine lv_iload_n S.1 S.2.1 (dd_at ddX10_sea 16 rfl) rfl (lv_at hl 3 rfl) ?_
    refine r_callI hw (r_runV (As := [.int p1, .int p3]) (rest := []) S hw (m_X5_seaOf l D cs E d_16 H.size b_19 p1 p3 _) (cwV 2 S.2.2.2.2 (gV wg1291 wg1292 wg1293 wg38 wg1294) rfl rfl rfl (by decide +kernel) ⟨Nat.le_of_ble_eq_true rfl, Nat.le_of_ble_eq_true rfl⟩) (ci := 5) rfl ho_21 h rfl hl.1 rfl (Nat.le_of_ble_eq_true rfl) (dd_at ddX10_sea 17 rfl) ⟨Nat.le_of_ble_eq_true rfl, Nat.le_of_ble_eq_true rfl⟩) (fun r_23 d_22 H locs h hw => ?_)
    refine lv_goto (tgt := 42) S.1 S.2.1 (dd_at ddX10_sea 18 rfl) (by decide) ?_
    exact vx_ret (e_I S hr hlocks hw h (dd_at ddX10_sea 20 rfl))

def w_X10_level (E : En) (a0 : Nat) (p1 : Int32) (p2 : Int32) (p3 : Int32) (d : Dy) (K : Int32 → Dy → Prop) (X : String → Dy → Prop) : Prop := okO E a0 10 ∧ w_X10_needHut E a0 p1 d (fun d_1 => w_X10_needYear E p2 d_1 (fun d_3 => ∃ b_5 : Nat, eR E a0 9 = some b_5 ∧ okO E b_5 5 ∧ w_X5_solves E b_5 p2 d_3 (fun r_9 d_8 => ((r_9 = 0 → K (-1) d_8) ∧ (¬ r_9 = 0 → ∃ b_11 : Nat, eR E a0 9 = some b_11 ∧ okO E b_11 5 ∧ w_X5_lineOf E b_11 p1 p3 d_8 (fun r_15 d_14 => K r_15 d_14))))) X) X
abbrev rm_X10_level : Room := { frames := 8, cells := 2, slots := 12, locals := 142 }
set_option maxRecDepth 100000 in
set_option maxHeartbeats 4000000 in
theorem m_X10_level (l : Launch) (hst : l.stackTraces = false) (D : va_G) (cs : Nat → ClassId) (E : En) (d : Dy) (sz : Nat) (a0 : Nat) (p1 : Int32) (p2 : Int32) (p3 : Int32) (K : Int32 → Dy → Prop) (X : String → Dy → Prop) : XI l yX10_level (.code yX10_level cX10_level 4 (some .int) :: wsL_law) rm_X10_level D cs E d sz [.ref a0, .int p1, .int p2, .int p3] (w_X10_level E a0 p1 p2 p3 d K X) K X := by
  refine e_ofX (cc := cX10_level) (maxL := 4) (ret := (some .int)) (own := RX10) (by decide) rfl rfl (Nat.le_of_ble_eq_true rfl) ?_
  intro p e s m below meth c S hr hlocks hsz hT H locs hw h ls hl
  have hl : lv_has ls 4 [(0, .ref a0), (1, .int p1), (2, .int p2), (3, .int p3)] := hl
  unfold w_X10_level at h
  obtain ⟨ha0, h⟩ := h
  refine lv_aload_n S.1 S.2.1 (dd_at ddX10_level 0 rfl) rfl (lv_at hl 0 rfl) ?_
  refine lv_iload_n S.1 S.2.1 (dd_at ddX10_level 1 rfl) rfl (lv_at hl 1 rfl) ?_
  refine r_xcallV hT hlocks hw (r_xrunV (As := [.int p1]) (rest := []) S hw (m_X10_needHut l hst D cs E d H.size a0 p1 _ _) (cwV 1 S.2.2.2.2 (gV wg610 wg611 wg612 wg2 wg613) rfl rfl rfl (by decide +kernel) ⟨Nat.le_of_ble_eq_true rfl, Nat.le_of_ble_eq_true rfl⟩) (ci := 10) rfl ha0 h rfl hl.1 rfl (Nat.le_of_ble_eq_true rfl) (dd_at ddX10_level 2 rfl) ⟨Nat.le_of_ble_eq_true rfl, Nat.le_of_ble_eq_true rfl⟩) (Nat.le_of_ble_eq_true rfl) (Nat.le_of_ble_eq_true rfl) (fun d_1 H locs h hw => ?_)
  refine lv_iload_n S.1 S.2.1 (dd_at ddX10_level 3 rfl) rfl (lv_at hl 2 rfl) ?_
  refine r_xcallV hT hlocks hw (r_xrunS (As := [.int p2]) (rest := []) S hw (m_X10_needYear l hst D cs E d_1 H.size p2 _ _) (va_cwS 1 S.2.2.2.2 (gS wg607 wg608 wg2 wg609) rfl rfl rfl (by decide +kernel) ⟨Nat.le_of_ble_eq_true rfl, Nat.le_of_ble_eq_true rfl⟩) h rfl hl.1 rfl (Nat.le_of_ble_eq_true rfl) (dd_at ddX10_level 4 rfl) ⟨Nat.le_of_ble_eq_true rfl, Nat.le_of_ble_eq_true rfl⟩) (Nat.le_of_ble_eq_true rfl) (Nat.le_of_ble_eq_true rfl) (fun d_3 H locs h hw => ?_)
  refine lv_aload_n S.1 S.2.1 (dd_at ddX10_level 5 rfl) rfl (lv_at hl 0 rfl) ?_
  obtain ⟨b_5, hb_6, ho_7, h⟩ := h
  refine r_getR S hw 10 9 rfl inG10 (by decide) (List.mem_cons_of_mem _ wg39) (by decide) ha0 hb_6 (dd_at ddX10_level 6 rfl) ?_
  refine lv_iload_n S.1 S.2.1 (dd_at ddX10_level 7 rfl) rfl (lv_at hl 2 rfl) ?_
  refine r_callI hw (r_runV (As := [.int p2]) (rest := []) S hw (m_X5_solves l D cs E d_3 H.size b_5 p2 _) (cwV 1 S.2.2.2.2 (gV wg1271 wg1272 wg1273 wg38 wg1274) rfl rfl rfl (by decide +kernel) ⟨Nat.le_of_ble_eq_true rfl, Nat.le_of_ble_eq_true rfl⟩) (ci := 5) rfl ho_7 h rfl hl.1 rfl (Nat.le_of_ble_eq_true rfl) (dd_at ddX10_level 8 rfl) ⟨Nat.le_of_ble_eq_true rfl, Nat.le_of_ble_eq_true rfl⟩) (fun r_9 d_8 H locs h hw => ?_)
  refine lv_if_eq (tgt := 32) S.1 S.2.1 (dd_at ddX10_level 9 rfl) (by decide) (fun hc_10 => ?_) (fun hc_10 => ?_)
  · have h := h.1 hc_10
    refine lv_iconst (v := -1) S.1 S.2.1 (dd_at ddX10_level 16 rfl) (by decide) ?_
    exact vx_ret (e_I S hr hlocks hw h (dd_at ddX10_level 17 rfl))
  · have h := h.2 hc_10
    refine lv_aload_n S.1 S.2.1 (dd_at ddX10_level 10 rfl) rfl (lv_at hl 0 rfl) ?_
    obtain ⟨b_11, hb_12, ho_13, h⟩ := h
    refine r_getR S hw 10 9 rfl inG10 (by decide) (List.mem_cons_of_mem _ wg39) (by decide) ha0 hb_12 (dd_at ddX10_level 11 rfl) ?_
    refine lv_iload_n S.1 S.2.1 (dd_at ddX10_level 12 rfl) rfl (lv_at hl 1 rfl) ?_
    refine lv_iload_n S.1 S.2.1 (dd_at ddX10_level 13 rfl) rfl (lv_at hl 3 rfl) ?_
    refine r_callI hw (r_runV (As := [.int p1, .int p3]) (rest := []) S hw (m_X5_lineOf l D cs E d_8 H.size b_11 p1 p3 _) (cwV 2 S.2.2.2.2 (gV wg1310 wg1311 wg1312 wg38 wg1313) rfl rfl rfl (by decide +kernel) ⟨Nat.le_of_ble_eq_true rfl, Nat.le_of_ble_eq_true rfl⟩) (ci := 5) rfl ho_13 h rfl hl.1 rfl (Nat.le_of_ble_eq_true rfl) (dd_at ddX10_level 14 rfl) ⟨Nat.le_of_ble_eq_true rfl, Nat.le_of_ble_eq_true rfl⟩) (fun r_15 d_14 H locs h hw => ?_)
    refine lv_goto (tgt := 33) S.1 S.2.1 (dd_at ddX10_level 15 rfl) (by decide) ?_
    exact vx_ret (e_I S hr hlocks hw h (dd_at ddX10_level 17 rfl))

def b_X10_flood_61 (E : En) (a0 : Nat) (p1 : Int32) (p2 : Int32) (p3 : Int32) (K : Int32 → Dy → Prop) (X : String → Dy → Prop) (k30 : Int32 → Int32 → Dy → Prop) (v4 : Int32) (v5 : Int32) (s0 : Int32) (s1 : Nat) (s2 : Int32) (s3 : Int32) (d : Dy) : Prop := okO E s1 5 ∧ w_X5_lineOf E s1 s2 s3 d (fun r_2 d_1 => ((s0 ≤ r_2 → k30 v4 (v5 + 1) d_1) ∧ (¬ s0 ≤ r_2 → k30 (v4 ||| ((1 : Int32) <<< (v5 &&& 31))) (v5 + 1) d_1)))
def b_X10_flood_30 (E : En) (a0 : Nat) (p1 : Int32) (p2 : Int32) (p3 : Int32) (K : Int32 → Dy → Prop) (X : String → Dy → Prop) (k30 : Int32 → Int32 → Dy → Prop) (v4 : Int32) (v5 : Int32) (d : Dy) : Prop := ∃ b_4 : Nat, eR E a0 0 = some b_4 ∧ okO E b_4 8 ∧ ∃ b_7 : Nat, eR E b_4 2 = some b_7 ∧ okO E b_7 6 ∧ w_X6_size E b_7 d (fun r_11 d_10 => ((r_11 ≤ v5 → K v4 d_10) ∧ (¬ r_11 ≤ v5 → ∃ b_13 : Nat, eR E a0 9 = some b_13 ∧ okO E b_13 5 ∧ ((¬ p3 = 0 → b_X10_flood_61 E a0 p1 p2 p3 K X k30 v4 v5 p1 b_13 v5 0 d_10) ∧ (p3 = 0 → b_X10_flood_61 E a0 p1 p2 p3 K X k30 v4 v5 p1 b_13 v5 1 d_10)))))
def l_X10_flood_30 (E : En) (a0 : Nat) (p1 : Int32) (p2 : Int32) (p3 : Int32) (K : Int32 → Dy → Prop) (X : String → Dy → Prop) : Nat → Int32 → Int32 → Dy → Prop
  | 0 => fun _ _ _ => False
  | n + 1 => b_X10_flood_30 E a0 p1 p2 p3 K X (l_X10_flood_30 E a0 p1 p2 p3 K X n)
def w_X10_flood (E : En) (a0 : Nat) (p1 : Int32) (p2 : Int32) (p3 : Int32) (d : Dy) (K : Int32 → Dy → Prop) (X : String → Dy → Prop) : Prop := okO E a0 10 ∧ w_X10_needYear E p2 d (fun d_17 => w_X10_needBetween E p1 0 100 d_17 (fun d_19 => ∃ b_21 : Nat, eR E a0 9 = some b_21 ∧ okO E b_21 5 ∧ w_X5_solves E b_21 p2 d_19 (fun r_25 d_24 => ((¬ r_25 = 0 → (∃ n_27 : Nat, l_X10_flood_30 E a0 p1 p2 p3 K X n_27 0 0 d_24)) ∧ (r_25 = 0 → K (-1) d_24)))) X) X
abbrev rm_X10_flood : Room := { frames := 8, cells := 2, slots := 12, locals := 142 }
set_option maxRecDepth 100000 in
set_option maxHeartbeats 4000000 in
theorem m_X10_flood (l : Launch) (hst : l.stackTraces = false) (D : va_G) (cs : Nat → ClassId) (E : En) (d : Dy) (sz : Nat) (a0 : Nat) (p1 : Int32) (p2 : Int32) (p3 : Int32) (K : Int32 → Dy → Prop) (X : String → Dy → Prop) : XI l yX10_flood (.code yX10_flood cX10_flood 6 (some .int) :: wsL_law) rm_X10_flood D cs E d sz [.ref a0, .int p1, .int p2, .int p3] (w_X10_flood E a0 p1 p2 p3 d K X) K X := by
  refine e_ofX (cc := cX10_flood) (maxL := 6) (ret := (some .int)) (own := RX10) (by decide) rfl rfl (Nat.le_of_ble_eq_true rfl) ?_
  intro p e s m below meth c S hr hlocks hsz hT H locs hw h ls hl
  have hl : lv_has ls 6 [(0, .ref a0), (1, .int p1), (2, .int p2), (3, .int p3)] := hl
  unfold w_X10_flood at h
  obtain ⟨ha0, h⟩ := h
  have tl30 : ∀ (n : Nat) (v4 : Int32) (v5 : Int32) (d : Dy) (H : Heap) (locs : List Loc) (ls : Array Slot), l_X10_flood_30 E a0 p1 p2 p3 K X n v4 v5 d → Wd D cs (AW E sz) s.heap s E d H locs → lv_has ls 6 [(0, .ref a0), (1, .int p1), (3, .int p3), (4, .int v4), (5, .int v5)] → W p l e rm_X10_flood s m ([.ref a0, .int p1, .int p2, .int p3] : List Value).toArray below meth c H locs 2 12 (vx_MQ below (va_Qi K (OutW D cs E (AW E sz)) (AW E sz)) (XX D cs E sz X) ([.ref a0, .int p1, .int p2, .int p3] : List Value).toArray s rm_X10_flood.cells rm_X10_flood.slots (AW E sz)) (F0 m 30 ls []) := by
    intro n30
    induction n30 with
    | zero => intro v4 v5 d H locs ls h; exact absurd h id
    | succ n30 ih30 =>
      have tb61 : ∀ (v4 : Int32) (v5 : Int32) (s0 : Int32) (s1 : Nat) (s2 : Int32) (s3 : Int32) (d : Dy) (H : Heap) (locs : List Loc) (ls : Array Slot), b_X10_flood_61 E a0 p1 p2 p3 K X (l_X10_flood_30 E a0 p1 p2 p3 K X n30) v4 v5 s0 s1 s2 s3 d → Wd D cs (AW E sz) s.heap s E d H locs → lv_has ls 6 [(0, .ref a0), (1, .int p1), (3, .int p3), (4, .int v4), (5, .int v5)] → W p l e rm_X10_flood s m ([.ref a0, .int p1, .int p2, .int p3] : List Value).toArray below meth c H locs 2 12 (vx_MQ below (va_Qi K (OutW D cs E (AW E sz)) (AW E sz)) (XX D cs E sz X) ([.ref a0, .int p1, .int p2, .int p3] : List Value).toArray s rm_X10_flood.cells rm_X10_flood.slots (AW E sz)) (F0 m 61 ls [.int s3, .int s2, .ref s1, .int s0]) := by
        intro v4 v5 s0 s1 s2 s3 d H locs ls h hw hl
        unfold b_X10_flood_61 at h
        obtain ⟨hos1, h⟩ := h
        refine r_callI hw (r_runV (As := [.int s2, .int s3]) (rest := [.int s0]) S hw (m_X5_lineOf l D cs E d H.size s1 s2 s3 _) (cwV 2 S.2.2.2.2 (gV wg1310 wg1311 wg1312 wg38 wg1313) rfl rfl rfl (by decide +kernel) ⟨Nat.le_of_ble_eq_true rfl, Nat.le_of_ble_eq_true rfl⟩) (ci := 5) rfl hos1 h rfl hl.1 rfl (Nat.le_of_ble_eq_true rfl) (dd_at ddX10_flood 32 rfl) ⟨Nat.le_of_ble_eq_true rfl, Nat.le_of_ble_eq_true rfl⟩) (fun r_2 d_1 H locs h hw => ?_)
        refine lv_icmp_le (tgt := 76) S.1 S.2.1 (dd_at ddX10_flood 33 rfl) (by decide) (fun hc_3 => ?_) (fun hc_3 => ?_)
        · have h := h.1 hc_3
          refine lv_iinc (v := v5 + 1) (lv' := [(5, .int (v5 + 1)), (0, .ref a0), (1, .int p1), (3, .int p3), (4, .int v4)]) S.1 S.2.1 (dd_at ddX10_flood 40 rfl) hl (k := 4) rfl rfl (by decide) rfl (fun ls hl => ?_)
          refine lv_goto (tgt := 30) S.1 S.2.1 (dd_at ddX10_flood 41 rfl) (by decide) ?_
          exact ih30 v4 (v5 + 1) d_1 H locs ls h hw (lv_sub hl [1, 2, 3, 4, 0] rfl)
        · have h := h.2 hc_3
          refine lv_iload S.1 S.2.1 (dd_at ddX10_flood 34 rfl) (lv_at hl 3 rfl) ?_
          refine lv_iconst (v := 1) S.1 S.2.1 (dd_at ddX10_flood 35 rfl) (by decide) ?_
          refine lv_iload S.1 S.2.1 (dd_at ddX10_flood 36 rfl) (lv_at hl 4 rfl) ?_
          refine lv_ishl S.1 S.2.1 (dd_at ddX10_flood 37 rfl) ?_
          refine lv_ior S.1 S.2.1 (dd_at ddX10_flood 38 rfl) ?_
          refine lv_istore (lv' := [(4, .int (v4 ||| ((1 : Int32) <<< (v5 &&& 31)))), (0, .ref a0), (1, .int p1), (3, .int p3), (5, .int v5)]) S.1 S.2.1 (dd_at ddX10_flood 39 rfl) hl (by decide) rfl (fun ls hl => ?_)
          refine lv_iinc (v := v5 + 1) (lv' := [(5, .int (v5 + 1)), (4, .int (v4 ||| ((1 : Int32) <<< (v5 &&& 31)))), (0, .ref a0), (1, .int p1), (3, .int p3)]) S.1 S.2.1 (dd_at ddX10_flood 40 rfl) hl (k := 4) rfl rfl (by decide) rfl (fun ls hl => ?_)
          refine lv_goto (tgt := 30) S.1 S.2.1 (dd_at ddX10_flood 41 rfl) (by decide) ?_
          exact ih30 (v4 ||| ((1 : Int32) <<< (v5 &&& 31))) (v5 + 1) d_1 H locs ls h hw (lv_sub hl [2, 3, 4, 1, 0] rfl)
      intro v4 v5 d H locs ls h hw hl
      have h : b_X10_flood_30 E a0 p1 p2 p3 K X (l_X10_flood_30 E a0 p1 p2 p3 K X n30) v4 v5 d := h
      unfold b_X10_flood_30 at h
      refine lv_iload S.1 S.2.1 (dd_at ddX10_flood 17 rfl) (lv_at hl 4 rfl) ?_
      refine lv_aload_n S.1 S.2.1 (dd_at ddX10_flood 18 rfl) rfl (lv_at hl 0 rfl) ?_
      obtain ⟨b_4, hb_5, ho_6, h⟩ := h
      refine r_getR S hw 10 0 rfl inG10 (by decide) (List.mem_cons_of_mem _ wg16) (by decide) ha0 hb_5 (dd_at ddX10_flood 19 rfl) ?_
      obtain ⟨b_7, hb_8, ho_9, h⟩ := h
      refine r_getRN S hw 8 2 rfl inG8 (by decide) nx7 (by decide) ho_6 hb_8 (dd_at ddX10_flood 20 rfl) ?_
      refine r_callI hw (r_runV (As := []) (rest := [.int v5]) S hw (m_X6_size l D cs E d H.size b_7 _) (cwV 0 S.2.2.2.2 (gV wg578 wg372 wg373 wg51 wg374) rfl rfl rfl (by decide +kernel) ⟨Nat.le_of_ble_eq_true rfl, Nat.le_of_ble_eq_true rfl⟩) (ci := 6) rfl ho_9 h rfl hl.1 rfl (Nat.le_of_ble_eq_true rfl) (dd_at ddX10_flood 21 rfl) ⟨Nat.le_of_ble_eq_true rfl, Nat.le_of_ble_eq_true rfl⟩) (fun r_11 d_10 H locs h hw => ?_)
      refine lv_icmp_ge (tgt := 82) S.1 S.2.1 (dd_at ddX10_flood 22 rfl) (by decide) (fun hc_12 => ?_) (fun hc_12 => ?_)
      · have h := h.1 hc_12
        refine lv_iload S.1 S.2.1 (dd_at ddX10_flood 42 rfl) (lv_at hl 3 rfl) ?_
        exact vx_ret (e_I S hr hlocks hw h (dd_at ddX10_flood 43 rfl))
      · have h := h.2 hc_12
        refine lv_iload_n S.1 S.2.1 (dd_at ddX10_flood 23 rfl) rfl (lv_at hl 1 rfl) ?_
        refine lv_aload_n S.1 S.2.1 (dd_at ddX10_flood 24 rfl) rfl (lv_at hl 0 rfl) ?_
        obtain ⟨b_13, hb_14, ho_15, h⟩ := h
        refine r_getR S hw 10 9 rfl inG10 (by decide) (List.mem_cons_of_mem _ wg39) (by decide) ha0 hb_14 (dd_at ddX10_flood 25 rfl) ?_
        refine lv_iload S.1 S.2.1 (dd_at ddX10_flood 26 rfl) (lv_at hl 4 rfl) ?_
        refine lv_iload_n S.1 S.2.1 (dd_at ddX10_flood 27 rfl) rfl (lv_at hl 2 rfl) ?_
        refine lv_if_ne (tgt := 60) S.1 S.2.1 (dd_at ddX10_flood 28 rfl) (by decide) (fun hc_16 => ?_) (fun hc_16 => ?_)
        · have h := h.1 hc_16
          refine lv_iconst (v := 0) S.1 S.2.1 (dd_at ddX10_flood 31 rfl) (by decide) ?_
          exact tb61 v4 v5 p1 b_13 v5 0 d_10 H locs ls h hw (lv_sub hl [0, 1, 2, 3, 4] rfl)
        · have h := h.2 hc_16
          refine lv_iconst (v := 1) S.1 S.2.1 (dd_at ddX10_flood 29 rfl) (by decide) ?_
          refine lv_goto (tgt := 61) S.1 S.2.1 (dd_at ddX10_flood 30 rfl) (by decide) ?_
          exact tb61 v4 v5 p1 b_13 v5 1 d_10 H locs ls h hw (lv_sub hl [0, 1, 2, 3, 4] rfl)
  refine lv_iload_n S.1 S.2.1 (dd_at ddX10_flood 0 rfl) rfl (lv_at hl 2 rfl) ?_
  refine r_xcallV hT hlocks hw (r_xrunS (As := [.int p2]) (rest := []) S hw (m_X10_needYear l hst D cs E d H.size p2 _ _) (va_cwS 1 S.2.2.2.2 (gS wg607 wg608 wg2 wg609) rfl rfl rfl (by decide +kernel) ⟨Nat.le_of_ble_eq_true rfl, Nat.le_of_ble_eq_true rfl⟩) h rfl hl.1 rfl (Nat.le_of_ble_eq_true rfl) (dd_at ddX10_flood 1 rfl) ⟨Nat.le_of_ble_eq_true rfl, Nat.le_of_ble_eq_true rfl⟩) (Nat.le_of_ble_eq_true rfl) (Nat.le_of_ble_eq_true rfl) (fun d_17 H locs h hw => ?_)
  refine lv_iload_n S.1 S.2.1 (dd_at ddX10_flood 2 rfl) rfl (lv_at hl 1 rfl) ?_
  refine lv_iconst (v := 0) S.1 S.2.1 (dd_at ddX10_flood 3 rfl) (by decide) ?_
  refine lv_bipush (v := 100) S.1 S.2.1 (dd_at ddX10_flood 4 rfl) (by decide) ?_
  refine r_xcallV hT hlocks hw (r_xrunS (As := [.int p1, .int 0, .int 100]) (rest := []) S hw (m_X10_needBetween l hst D cs E d_17 H.size p1 0 100 _ _) (va_cwS 3 S.2.2.2.2 (gS wg525 wg526 wg2 wg527) rfl rfl rfl (by decide +kernel) ⟨Nat.le_of_ble_eq_true rfl, Nat.le_of_ble_eq_true rfl⟩) h rfl hl.1 rfl (Nat.le_of_ble_eq_true rfl) (dd_at ddX10_flood 5 rfl) ⟨Nat.le_of_ble_eq_true rfl, Nat.le_of_ble_eq_true rfl⟩) (Nat.le_of_ble_eq_true rfl) (Nat.le_of_ble_eq_true rfl) (fun d_19 H locs h hw => ?_)
  refine lv_aload_n S.1 S.2.1 (dd_at ddX10_flood 6 rfl) rfl (lv_at hl 0 rfl) ?_
  obtain ⟨b_21, hb_22, ho_23, h⟩ := h
  refine r_getR S hw 10 9 rfl inG10 (by decide) (List.mem_cons_of_mem _ wg39) (by decide) ha0 hb_22 (dd_at ddX10_flood 7 rfl) ?_
  refine lv_iload_n S.1 S.2.1 (dd_at ddX10_flood 8 rfl) rfl (lv_at hl 2 rfl) ?_
  refine r_callI hw (r_runV (As := [.int p2]) (rest := []) S hw (m_X5_solves l D cs E d_19 H.size b_21 p2 _) (cwV 1 S.2.2.2.2 (gV wg1271 wg1272 wg1273 wg38 wg1274) rfl rfl rfl (by decide +kernel) ⟨Nat.le_of_ble_eq_true rfl, Nat.le_of_ble_eq_true rfl⟩) (ci := 5) rfl ho_23 h rfl hl.1 rfl (Nat.le_of_ble_eq_true rfl) (dd_at ddX10_flood 9 rfl) ⟨Nat.le_of_ble_eq_true rfl, Nat.le_of_ble_eq_true rfl⟩) (fun r_25 d_24 H locs h hw => ?_)
  refine lv_if_ne (tgt := 24) S.1 S.2.1 (dd_at ddX10_flood 10 rfl) (by decide) (fun hc_26 => ?_) (fun hc_26 => ?_)
  · have h := h.1 hc_26
    refine lv_iconst (v := 0) S.1 S.2.1 (dd_at ddX10_flood 13 rfl) (by decide) ?_
    refine lv_istore (lv' := [(4, .int 0), (0, .ref a0), (1, .int p1), (2, .int p2), (3, .int p3)]) S.1 S.2.1 (dd_at ddX10_flood 14 rfl) hl (by decide) rfl (fun ls hl => ?_)
    refine lv_iconst (v := 0) S.1 S.2.1 (dd_at ddX10_flood 15 rfl) (by decide) ?_
    refine lv_istore (lv' := [(5, .int 0), (4, .int 0), (0, .ref a0), (1, .int p1), (2, .int p2), (3, .int p3)]) S.1 S.2.1 (dd_at ddX10_flood 16 rfl) hl (by decide) rfl (fun ls hl => ?_)
    obtain ⟨n_27, h⟩ := h
    exact tl30 n_27 0 0 d_24 H locs ls h hw (lv_sub hl [2, 3, 5, 1, 0] rfl)
  · have h := h.2 hc_26
    refine lv_iconst (v := -1) S.1 S.2.1 (dd_at ddX10_flood 11 rfl) (by decide) ?_
    exact vx_ret (e_I S hr hlocks hw h (dd_at ddX10_flood 12 rfl))

def w_X10_lost (E : En) (a0 : Nat) (p1 : Int32) (p2 : Int32) (p3 : Int32) (d : Dy) (K : Dy → Prop) (X : String → Dy → Prop) : Prop := okO E a0 10 ∧ w_X10_needHut E a0 p1 d (fun d_1 => w_X10_needBetween E p2 0 4 d_1 (fun d_3 => w_X10_needBetween E p3 0 7 d_3 (fun d_5 => ∃ b_7 : Nat, eR E a0 0 = some b_7 ∧ okO E b_7 8 ∧ ∃ b_10 : Nat, eR E b_7 2 = some b_10 ∧ okO E b_10 6 ∧ w_X6_set E b_10 p1 5 p2 d_5 (fun d_13 => ∃ b_15 : Nat, eR E a0 0 = some b_15 ∧ okO E b_15 8 ∧ ∃ b_18 : Nat, eR E b_15 2 = some b_18 ∧ okO E b_18 6 ∧ w_X6_set E b_18 p1 6 p3 d_13 (fun d_21 => K d_21))) X) X) X
abbrev rm_X10_lost : Room := { frames := 8, cells := 3, slots := 18, locals := 142 }
set_option maxRecDepth 100000 in
set_option maxHeartbeats 4000000 in
theorem m_X10_lost (l : Launch) (hst : l.stackTraces = false) (D : va_G) (cs : Nat → ClassId) (E : En) (d : Dy) (sz : Nat) (a0 : Nat) (p1 : Int32) (p2 : Int32) (p3 : Int32) (K : Dy → Prop) (X : String → Dy → Prop) : XV l yX10_lost (.code yX10_lost cX10_lost 4 none :: wsL_law) rm_X10_lost D cs E d sz [.ref a0, .int p1, .int p2, .int p3] (w_X10_lost E a0 p1 p2 p3 d K X) K X := by
  refine e_ofX (cc := cX10_lost) (maxL := 4) (ret := none) (own := RX10) (by decide) rfl rfl (Nat.le_of_ble_eq_true rfl) ?_
  intro p e s m below meth c S hr hlocks hsz hT H locs hw h ls hl
  have hl : lv_has ls 4 [(0, .ref a0), (1, .int p1), (2, .int p2), (3, .int p3)] := hl
  unfold w_X10_lost at h
  obtain ⟨ha0, h⟩ := h
  refine lv_aload_n S.1 S.2.1 (dd_at ddX10_lost 0 rfl) rfl (lv_at hl 0 rfl) ?_
  refine lv_iload_n S.1 S.2.1 (dd_at ddX10_lost 1 rfl) rfl (lv_at hl 1 rfl) ?_
  refine r_xcallV hT hlocks hw (r_xrunV (As := [.int p1]) (rest := []) S hw (m_X10_needHut l hst D cs E d H.size a0 p1 _ _) (cwV 1 S.2.2.2.2 (gV wg610 wg611 wg612 wg2 wg613) rfl rfl rfl (by decide +kernel) ⟨Nat.le_of_ble_eq_true rfl, Nat.le_of_ble_eq_true rfl⟩) (ci := 10) rfl ha0 h rfl hl.1 rfl (Nat.le_of_ble_eq_true rfl) (dd_at ddX10_lost 2 rfl) ⟨Nat.le_of_ble_eq_true rfl, Nat.le_of_ble_eq_true rfl⟩) (Nat.le_of_ble_eq_true rfl) (Nat.le_of_ble_eq_true rfl) (fun d_1 H locs h hw => ?_)
  refine lv_iload_n S.1 S.2.1 (dd_at ddX10_lost 3 rfl) rfl (lv_at hl 2 rfl) ?_
  refine lv_iconst (v := 0) S.1 S.2.1 (dd_at ddX10_lost 4 rfl) (by decide) ?_
  refine lv_iconst (v := 4) S.1 S.2.1 (dd_at ddX10_lost 5 rfl) (by decide) ?_
  refine r_xcallV hT hlocks hw (r_xrunS (As := [.int p2, .int 0, .int 4]) (rest := []) S hw (m_X10_needBetween l hst D cs E d_1 H.size p2 0 4 _ _) (va_cwS 3 S.2.2.2.2 (gS wg525 wg526 wg2 wg527) rfl rfl rfl (by decide +kernel) ⟨Nat.le_of_ble_eq_true rfl, Nat.le_of_ble_eq_true rfl⟩) h rfl hl.1 rfl (Nat.le_of_ble_eq_true rfl) (dd_at ddX10_lost 6 rfl) ⟨Nat.le_of_ble_eq_true rfl, Nat.le_of_ble_eq_true rfl⟩) (Nat.le_of_ble_eq_true rfl) (Nat.le_of_ble_eq_true rfl) (fun d_3 H locs h hw => ?_)
  refine lv_iload_n S.1 S.2.1 (dd_at ddX10_lost 7 rfl) rfl (lv_at hl 3 rfl) ?_
  refine lv_iconst (v := 0) S.1 S.2.1 (dd_at ddX10_lost 8 rfl) (by decide) ?_
  refine lv_bipush (v := 7) S.1 S.2.1 (dd_at ddX10_lost 9 rfl) (by decide) ?_
  refine r_xcallV hT hlocks hw (r_xrunS (As := [.int p3, .int 0, .int 7]) (rest := []) S hw (m_X10_needBetween l hst D cs E d_3 H.size p3 0 7 _ _) (va_cwS 3 S.2.2.2.2 (gS wg525 wg526 wg2 wg527) rfl rfl rfl (by decide +kernel) ⟨Nat.le_of_ble_eq_true rfl, Nat.le_of_ble_eq_true rfl⟩) h rfl hl.1 rfl (Nat.le_of_ble_eq_true rfl) (dd_at ddX10_lost 10 rfl) ⟨Nat.le_of_ble_eq_true rfl, Nat.le_of_ble_eq_true rfl⟩) (Nat.le_of_ble_eq_true rfl) (Nat.le_of_ble_eq_true rfl) (fun d_5 H locs h hw => ?_)
  refine lv_aload_n S.1 S.2.1 (dd_at ddX10_lost 11 rfl) rfl (lv_at hl 0 rfl) ?_
  obtain ⟨b_7, hb_8, ho_9, h⟩ := h
  refine r_getR S hw 10 0 rfl inG10 (by decide) (List.mem_cons_of_mem _ wg16) (by decide) ha0 hb_8 (dd_at ddX10_lost 12 rfl) ?_
  obtain ⟨b_10, hb_11, ho_12, h⟩ := h
  refine r_getRN S hw 8 2 rfl inG8 (by decide) nx7 (by decide) ho_9 hb_11 (dd_at ddX10_lost 13 rfl) ?_
  refine lv_iload_n S.1 S.2.1 (dd_at ddX10_lost 14 rfl) rfl (lv_at hl 1 rfl) ?_
  refine lv_iconst (v := 5) S.1 S.2.1 (dd_at ddX10_lost 15 rfl) (by decide) ?_
  refine lv_iload_n S.1 S.2.1 (dd_at ddX10_lost 16 rfl) rfl (lv_at hl 2 rfl) ?_
  refine r_callV hw (r_runV (As := [.int p1, .int 5, .int p2]) (rest := []) S hw (m_X6_set l D cs E d_5 H.size b_10 p1 5 p2 _) (cwV 3 S.2.2.2.2 (gV wg550 wg318 wg319 wg51 wg320) rfl rfl rfl (by decide +kernel) ⟨Nat.le_of_ble_eq_true rfl, Nat.le_of_ble_eq_true rfl⟩) (ci := 6) rfl ho_12 h rfl hl.1 rfl (Nat.le_of_ble_eq_true rfl) (dd_at ddX10_lost 17 rfl) ⟨Nat.le_of_ble_eq_true rfl, Nat.le_of_ble_eq_true rfl⟩) (fun d_13 H locs h hw => ?_)
  refine lv_aload_n S.1 S.2.1 (dd_at ddX10_lost 18 rfl) rfl (lv_at hl 0 rfl) ?_
  obtain ⟨b_15, hb_16, ho_17, h⟩ := h
  refine r_getR S hw 10 0 rfl inG10 (by decide) (List.mem_cons_of_mem _ wg16) (by decide) ha0 hb_16 (dd_at ddX10_lost 19 rfl) ?_
  obtain ⟨b_18, hb_19, ho_20, h⟩ := h
  refine r_getRN S hw 8 2 rfl inG8 (by decide) nx7 (by decide) ho_17 hb_19 (dd_at ddX10_lost 20 rfl) ?_
  refine lv_iload_n S.1 S.2.1 (dd_at ddX10_lost 21 rfl) rfl (lv_at hl 1 rfl) ?_
  refine lv_bipush (v := 6) S.1 S.2.1 (dd_at ddX10_lost 22 rfl) (by decide) ?_
  refine lv_iload_n S.1 S.2.1 (dd_at ddX10_lost 23 rfl) rfl (lv_at hl 3 rfl) ?_
  refine r_callV hw (r_runV (As := [.int p1, .int 6, .int p3]) (rest := []) S hw (m_X6_set l D cs E d_13 H.size b_18 p1 6 p3 _) (cwV 3 S.2.2.2.2 (gV wg550 wg318 wg319 wg51 wg320) rfl rfl rfl (by decide +kernel) ⟨Nat.le_of_ble_eq_true rfl, Nat.le_of_ble_eq_true rfl⟩) (ci := 6) rfl ho_20 h rfl hl.1 rfl (Nat.le_of_ble_eq_true rfl) (dd_at ddX10_lost 24 rfl) ⟨Nat.le_of_ble_eq_true rfl, Nat.le_of_ble_eq_true rfl⟩) (fun d_21 H locs h hw => ?_)
  exact vx_ret (e_V S hr hlocks hw h (dd_at ddX10_lost 25 rfl))

def w_X10_plank (E : En) (a0 : Nat) (p1 : Int32) (p2 : Int32) (p3 : Int32) (d : Dy) (K : Int32 → Dy → Prop) (X : String → Dy → Prop) : Prop := okO E a0 10 ∧ w_X10_needIndex E p2 10 d (fun d_1 => w_X10_needBetween E p1 1 255 d_1 (fun d_3 => w_X10_needBetween E p3 0 9 d_3 (fun d_5 => ∃ b_7 : Nat, eR E a0 0 = some b_7 ∧ okO E b_7 8 ∧ ∃ b_10 : Nat, eR E b_7 8 = some b_10 ∧ okO E b_10 6 ∧ w_X10_needRoom E b_10 d_5 (fun d_13 => ∃ b_15 : Nat, eR E a0 0 = some b_15 ∧ okO E b_15 8 ∧ ∃ b_18 : Nat, eR E b_15 8 = some b_18 ∧ okO E b_18 6 ∧ w_X6_open E b_18 d_13 (fun r_22 d_21 => ∃ b_23 : Nat, eR E a0 0 = some b_23 ∧ okO E b_23 8 ∧ ∃ b_26 : Nat, eR E b_23 8 = some b_26 ∧ okO E b_26 6 ∧ w_X6_set E b_26 r_22 0 p1 d_21 (fun d_29 => ∃ b_31 : Nat, eR E a0 0 = some b_31 ∧ okO E b_31 8 ∧ ∃ b_34 : Nat, eR E b_31 8 = some b_34 ∧ okO E b_34 6 ∧ w_X6_set E b_34 r_22 1 p2 d_29 (fun d_37 => ∃ b_39 : Nat, eR E a0 0 = some b_39 ∧ okO E b_39 8 ∧ ∃ b_42 : Nat, eR E b_39 8 = some b_42 ∧ okO E b_42 6 ∧ w_X6_set E b_42 r_22 2 p3 d_37 (fun d_45 => K r_22 d_45))))) X) X) X) X
abbrev rm_X10_plank : Room := { frames := 8, cells := 4, slots := 24, locals := 142 }
set_option maxRecDepth 100000 in
set_option maxHeartbeats 4000000 in
theorem m_X10_plank (l : Launch) (hst : l.stackTraces = false) (D : va_G) (cs : Nat → ClassId) (E : En) (d : Dy) (sz : Nat) (a0 : Nat) (p1 : Int32) (p2 : Int32) (p3 : Int32) (K : Int32 → Dy → Prop) (X : String → Dy → Prop) : XI l yX10_plank (.code yX10_plank cX10_plank 5 (some .int) :: wsL_law) rm_X10_plank D cs E d sz [.ref a0, .int p1, .int p2, .int p3] (w_X10_plank E a0 p1 p2 p3 d K X) K X := by
  refine e_ofX (cc := cX10_plank) (maxL := 5) (ret := (some .int)) (own := RX10) (by decide) rfl rfl (Nat.le_of_ble_eq_true rfl) ?_
  intro p e s m below meth c S hr hlocks hsz hT H locs hw h ls hl
  have hl : lv_has ls 5 [(0, .ref a0), (1, .int p1), (2, .int p2), (3, .int p3)] := hl
  unfold w_X10_plank at h
  obtain ⟨ha0, h⟩ := h
  refine lv_iload_n S.1 S.2.1 (dd_at ddX10_plank 0 rfl) rfl (lv_at hl 2 rfl) ?_
  refine lv_bipush (v := 10) S.1 S.2.1 (dd_at ddX10_plank 1 rfl) (by decide) ?_
  refine r_xcallV hT hlocks hw (r_xrunS (As := [.int p2, .int 10]) (rest := []) S hw (m_X10_needIndex l hst D cs E d H.size p2 10 _ _) (va_cwS 2 S.2.2.2.2 (gS wg579 wg580 wg2 wg581) rfl rfl rfl (by decide +kernel) ⟨Nat.le_of_ble_eq_true rfl, Nat.le_of_ble_eq_true rfl⟩) h rfl hl.1 rfl (Nat.le_of_ble_eq_true rfl) (dd_at ddX10_plank 2 rfl) ⟨Nat.le_of_ble_eq_true rfl, Nat.le_of_ble_eq_true rfl⟩) (Nat.le_of_ble_eq_true rfl) (Nat.le_of_ble_eq_true rfl) (fun d_1 H locs h hw => ?_)
  refine lv_iload_n S.1 S.2.1 (dd_at ddX10_plank 3 rfl) rfl (lv_at hl 1 rfl) ?_
  refine lv_iconst (v := 1) S.1 S.2.1 (dd_at ddX10_plank 4 rfl) (by decide) ?_
  refine lv_sipush (v := 255) S.1 S.2.1 (dd_at ddX10_plank 5 rfl) (by decide) ?_
  refine r_xcallV hT hlocks hw (r_xrunS (As := [.int p1, .int 1, .int 255]) (rest := []) S hw (m_X10_needBetween l hst D cs E d_1 H.size p1 1 255 _ _) (va_cwS 3 S.2.2.2.2 (gS wg525 wg526 wg2 wg527) rfl rfl rfl (by decide +kernel) ⟨Nat.le_of_ble_eq_true rfl, Nat.le_of_ble_eq_true rfl⟩) h rfl hl.1 rfl (Nat.le_of_ble_eq_true rfl) (dd_at ddX10_plank 6 rfl) ⟨Nat.le_of_ble_eq_true rfl, Nat.le_of_ble_eq_true rfl⟩) (Nat.le_of_ble_eq_true rfl) (Nat.le_of_ble_eq_true rfl) (fun d_3 H locs h hw => ?_)
  refine lv_iload_n S.1 S.2.1 (dd_at ddX10_plank 7 rfl) rfl (lv_at hl 3 rfl) ?_
  refine lv_iconst (v := 0) S.1 S.2.1 (dd_at ddX10_plank 8 rfl) (by decide) ?_
  refine lv_bipush (v := 9) S.1 S.2.1 (dd_at ddX10_plank 9 rfl) (by decide) ?_
  refine r_xcallV hT hlocks hw (r_xrunS (As := [.int p3, .int 0, .int 9]) (rest := []) S hw (m_X10_needBetween l hst D cs E d_3 H.size p3 0 9 _ _) (va_cwS 3 S.2.2.2.2 (gS wg525 wg526 wg2 wg527) rfl rfl rfl (by decide +kernel) ⟨Nat.le_of_ble_eq_true rfl, Nat.le_of_ble_eq_true rfl⟩) h rfl hl.1 rfl (Nat.le_of_ble_eq_true rfl) (dd_at ddX10_plank 10 rfl) ⟨Nat.le_of_ble_eq_true rfl, Nat.le_of_ble_eq_true rfl⟩) (Nat.le_of_ble_eq_true rfl) (Nat.le_of_ble_eq_true rfl) (fun d_5 H locs h hw => ?_)
  refine lv_aload_n S.1 S.2.1 (dd_at ddX10_plank 11 rfl) rfl (lv_at hl 0 rfl) ?_
  obtain ⟨b_7, hb_8, ho_9, h⟩ := h
  refine r_getR S hw 10 0 rfl inG10 (by decide) (List.mem_cons_of_mem _ wg16) (by decide) ha0 hb_8 (dd_at ddX10_plank 12 rfl) ?_
  obtain ⟨b_10, hb_11, ho_12, h⟩ := h
  refine r_getRN S hw 8 8 rfl inG8 (by decide) nx18 (by decide) ho_9 hb_11 (dd_at ddX10_plank 13 rfl) ?_
  refine r_xcallV hT hlocks hw (r_xrunS (As := [.ref b_10]) (rest := []) S hw (m_X10_needRoom l hst D cs E d_5 H.size b_10 _ _) (va_cwS 1 S.2.2.2.2 (gS wg540 wg541 wg2 wg542) rfl rfl rfl (by decide +kernel) ⟨Nat.le_of_ble_eq_true rfl, Nat.le_of_ble_eq_true rfl⟩) h rfl hl.1 rfl (Nat.le_of_ble_eq_true rfl) (dd_at ddX10_plank 14 rfl) ⟨Nat.le_of_ble_eq_true rfl, Nat.le_of_ble_eq_true rfl⟩) (Nat.le_of_ble_eq_true rfl) (Nat.le_of_ble_eq_true rfl) (fun d_13 H locs h hw => ?_)
  refine lv_aload_n S.1 S.2.1 (dd_at ddX10_plank 15 rfl) rfl (lv_at hl 0 rfl) ?_
  obtain ⟨b_15, hb_16, ho_17, h⟩ := h
  refine r_getR S hw 10 0 rfl inG10 (by decide) (List.mem_cons_of_mem _ wg16) (by decide) ha0 hb_16 (dd_at ddX10_plank 16 rfl) ?_
  obtain ⟨b_18, hb_19, ho_20, h⟩ := h
  refine r_getRN S hw 8 8 rfl inG8 (by decide) nx18 (by decide) ho_17 hb_19 (dd_at ddX10_plank 17 rfl) ?_
  refine r_callI hw (r_runV (As := []) (rest := []) S hw (m_X6_open l D cs E d_13 H.size b_18 _) (cwV 0 S.2.2.2.2 (gV wg549 wg310 wg311 wg51 wg312) rfl rfl rfl (by decide +kernel) ⟨Nat.le_of_ble_eq_true rfl, Nat.le_of_ble_eq_true rfl⟩) (ci := 6) rfl ho_20 h rfl hl.1 rfl (Nat.le_of_ble_eq_true rfl) (dd_at ddX10_plank 18 rfl) ⟨Nat.le_of_ble_eq_true rfl, Nat.le_of_ble_eq_true rfl⟩) (fun r_22 d_21 H locs h hw => ?_)
  refine lv_istore (lv' := [(4, .int r_22), (0, .ref a0), (1, .int p1), (2, .int p2), (3, .int p3)]) S.1 S.2.1 (dd_at ddX10_plank 19 rfl) hl (by decide) rfl (fun ls hl => ?_)
  refine lv_aload_n S.1 S.2.1 (dd_at ddX10_plank 20 rfl) rfl (lv_at hl 1 rfl) ?_
  obtain ⟨b_23, hb_24, ho_25, h⟩ := h
  refine r_getR S hw 10 0 rfl inG10 (by decide) (List.mem_cons_of_mem _ wg16) (by decide) ha0 hb_24 (dd_at ddX10_plank 21 rfl) ?_
  obtain ⟨b_26, hb_27, ho_28, h⟩ := h
  refine r_getRN S hw 8 8 rfl inG8 (by decide) nx18 (by decide) ho_25 hb_27 (dd_at ddX10_plank 22 rfl) ?_
  refine lv_iload S.1 S.2.1 (dd_at ddX10_plank 23 rfl) (lv_at hl 0 rfl) ?_
  refine lv_iconst (v := 0) S.1 S.2.1 (dd_at ddX10_plank 24 rfl) (by decide) ?_
  refine lv_iload_n S.1 S.2.1 (dd_at ddX10_plank 25 rfl) rfl (lv_at hl 2 rfl) ?_
  refine r_callV hw (r_runV (As := [.int r_22, .int 0, .int p1]) (rest := []) S hw (m_X6_set l D cs E d_21 H.size b_26 r_22 0 p1 _) (cwV 3 S.2.2.2.2 (gV wg550 wg318 wg319 wg51 wg320) rfl rfl rfl (by decide +kernel) ⟨Nat.le_of_ble_eq_true rfl, Nat.le_of_ble_eq_true rfl⟩) (ci := 6) rfl ho_28 h rfl hl.1 rfl (Nat.le_of_ble_eq_true rfl) (dd_at ddX10_plank 26 rfl) ⟨Nat.le_of_ble_eq_true rfl, Nat.le_of_ble_eq_true rfl⟩) (fun d_29 H locs h hw => ?_)
  refine lv_aload_n S.1 S.2.1 (dd_at ddX10_plank 27 rfl) rfl (lv_at hl 1 rfl) ?_
  obtain ⟨b_31, hb_32, ho_33, h⟩ := h
  refine r_getR S hw 10 0 rfl inG10 (by decide) (List.mem_cons_of_mem _ wg16) (by decide) ha0 hb_32 (dd_at ddX10_plank 28 rfl) ?_
  obtain ⟨b_34, hb_35, ho_36, h⟩ := h
  refine r_getRN S hw 8 8 rfl inG8 (by decide) nx18 (by decide) ho_33 hb_35 (dd_at ddX10_plank 29 rfl) ?_
  refine lv_iload S.1 S.2.1 (dd_at ddX10_plank 30 rfl) (lv_at hl 0 rfl) ?_
  refine lv_iconst (v := 1) S.1 S.2.1 (dd_at ddX10_plank 31 rfl) (by decide) ?_
  refine lv_iload_n S.1 S.2.1 (dd_at ddX10_plank 32 rfl) rfl (lv_at hl 3 rfl) ?_
  refine r_callV hw (r_runV (As := [.int r_22, .int 1, .int p2]) (rest := []) S hw (m_X6_set l D cs E d_29 H.size b_34 r_22 1 p2 _) (cwV 3 S.2.2.2.2 (gV wg550 wg318 wg319 wg51 wg320) rfl rfl rfl (by decide +kernel) ⟨Nat.le_of_ble_eq_true rfl, Nat.le_of_ble_eq_true rfl⟩) (ci := 6) rfl ho_36 h rfl hl.1 rfl (Nat.le_of_ble_eq_true rfl) (dd_at ddX10_plank 33 rfl) ⟨Nat.le_of_ble_eq_true rfl, Nat.le_of_ble_eq_true rfl⟩) (fun d_37 H locs h hw => ?_)
  refine lv_aload_n S.1 S.2.1 (dd_at ddX10_plank 34 rfl) rfl (lv_at hl 1 rfl) ?_
  obtain ⟨b_39, hb_40, ho_41, h⟩ := h
  refine r_getR S hw 10 0 rfl inG10 (by decide) (List.mem_cons_of_mem _ wg16) (by decide) ha0 hb_40 (dd_at ddX10_plank 35 rfl) ?_
  obtain ⟨b_42, hb_43, ho_44, h⟩ := h
  refine r_getRN S hw 8 8 rfl inG8 (by decide) nx18 (by decide) ho_41 hb_43 (dd_at ddX10_plank 36 rfl) ?_
  refine lv_iload S.1 S.2.1 (dd_at ddX10_plank 37 rfl) (lv_at hl 0 rfl) ?_
  refine lv_iconst (v := 2) S.1 S.2.1 (dd_at ddX10_plank 38 rfl) (by decide) ?_
  refine lv_iload_n S.1 S.2.1 (dd_at ddX10_plank 39 rfl) rfl (lv_at hl 4 rfl) ?_
  refine r_callV hw (r_runV (As := [.int r_22, .int 2, .int p3]) (rest := []) S hw (m_X6_set l D cs E d_37 H.size b_42 r_22 2 p3 _) (cwV 3 S.2.2.2.2 (gV wg550 wg318 wg319 wg51 wg320) rfl rfl rfl (by decide +kernel) ⟨Nat.le_of_ble_eq_true rfl, Nat.le_of_ble_eq_true rfl⟩) (ci := 6) rfl ho_44 h rfl hl.1 rfl (Nat.le_of_ble_eq_true rfl) (dd_at ddX10_plank 40 rfl) ⟨Nat.le_of_ble_eq_true rfl, Nat.le_of_ble_eq_true rfl⟩) (fun d_45 H locs h hw => ?_)
  refine lv_iload S.1 S.2.1 (dd_at ddX10_plank 41 rfl) (lv_at hl 0 rfl) ?_
  exact vx_ret (e_I S hr hlocks hw h (dd_at ddX10_plank 42 rfl))

def w_X10_rows (E : En) (a0 : Nat) (d : Dy) (K : Int64 → Dy → Prop) : Prop := okO E a0 10 ∧ ∃ b_1 : Nat, eR E a0 5 = some b_1 ∧ okO E b_1 3 ∧ ∃ b_4 : Nat, eR E a0 0 = some b_4 ∧ okO E b_4 8 ∧ w_X3_begin E b_1 (gI d b_4 0) d (fun d_7 => ∃ b_9 : Nat, eR E a0 5 = some b_9 ∧ okO E b_9 3 ∧ ∃ b_12 : Nat, eR E a0 0 = some b_12 ∧ okO E b_12 8 ∧ w_X3_goTo E b_9 (gI d_7 b_12 0) d_7 (fun d_15 => ∃ b_17 : Nat, eR E a0 10 = some b_17 ∧ okO E b_17 4 ∧ w_X4_ways E b_17 d_15 (fun r_21 d_20 => K r_21 d_20)))
abbrev rm_X10_rows : Room := { frames := 7, cells := 0, slots := 0, locals := 165 }
set_option maxRecDepth 100000 in
set_option maxHeartbeats 4000000 in
theorem m_X10_rows (l : Launch) (D : va_G) (cs : Nat → ClassId) (E : En) (d : Dy) (sz : Nat) (a0 : Nat) (K : Int64 → Dy → Prop) : CJ l yX10_rows (.code yX10_rows cX10_rows 1 (some .long) :: wsL_law) rm_X10_rows D cs E d sz [.ref a0] (w_X10_rows E a0 d K) K := by
  refine e_of (cc := cX10_rows) (maxL := 1) (ret := (some .long)) (own := RX10) (by decide) rfl rfl (Nat.le_of_ble_eq_true rfl) ?_
  intro p e s m below meth c S hr hlocks hsz H locs hw h ls hl
  have hl : lv_has ls 1 [(0, .ref a0)] := hl
  unfold w_X10_rows at h
  obtain ⟨ha0, h⟩ := h
  refine lv_aload_n S.1 S.2.1 (dd_at ddX10_rows 0 rfl) rfl (lv_at hl 0 rfl) ?_
  obtain ⟨b_1, hb_2, ho_3, h⟩ := h
  refine r_getR S hw 10 5 rfl inG10 (by decide) (List.mem_cons_of_mem _ wg26) (by decide) ha0 hb_2 (dd_at ddX10_rows 1 rfl) ?_
  refine lv_aload_n S.1 S.2.1 (dd_at ddX10_rows 2 rfl) rfl (lv_at hl 0 rfl) ?_
  obtain ⟨b_4, hb_5, ho_6, h⟩ := h
  refine r_getR S hw 10 0 rfl inG10 (by decide) (List.mem_cons_of_mem _ wg16) (by decide) ha0 hb_5 (dd_at ddX10_rows 3 rfl) ?_
  refine r_getIN S hw 8 0 rfl inG8 (by decide) nx0 (by decide) ho_6 (dd_at ddX10_rows 4 rfl) ?_
  refine r_callV hw (r_runV (As := [.int (gI d b_4 0)]) (rest := []) S hw (m_X3_begin l D cs E d H.size b_1 (gI d b_4 0) _) (cwV 1 S.2.2.2.2 (gV wg661 wg662 wg663 wg25 wg664) rfl rfl rfl (by decide +kernel) ⟨Nat.le_of_ble_eq_true rfl, Nat.le_of_ble_eq_true rfl⟩) (ci := 3) rfl ho_3 h rfl hl.1 rfl (Nat.le_of_ble_eq_true rfl) (dd_at ddX10_rows 5 rfl) ⟨Nat.le_of_ble_eq_true rfl, Nat.le_of_ble_eq_true rfl⟩) (fun d_7 H locs h hw => ?_)
  refine lv_aload_n S.1 S.2.1 (dd_at ddX10_rows 6 rfl) rfl (lv_at hl 0 rfl) ?_
  obtain ⟨b_9, hb_10, ho_11, h⟩ := h
  refine r_getR S hw 10 5 rfl inG10 (by decide) (List.mem_cons_of_mem _ wg26) (by decide) ha0 hb_10 (dd_at ddX10_rows 7 rfl) ?_
  refine lv_aload_n S.1 S.2.1 (dd_at ddX10_rows 8 rfl) rfl (lv_at hl 0 rfl) ?_
  obtain ⟨b_12, hb_13, ho_14, h⟩ := h
  refine r_getR S hw 10 0 rfl inG10 (by decide) (List.mem_cons_of_mem _ wg16) (by decide) ha0 hb_13 (dd_at ddX10_rows 9 rfl) ?_
  refine r_getIN S hw 8 0 rfl inG8 (by decide) nx0 (by decide) ho_14 (dd_at ddX10_rows 10 rfl) ?_
  refine r_callV hw (r_runV (As := [.int (gI d_7 b_12 0)]) (rest := []) S hw (m_X3_goTo l D cs E d_7 H.size b_9 (gI d_7 b_12 0) _) (cwV 1 S.2.2.2.2 (gV wg678 wg679 wg680 wg25 wg681) rfl rfl rfl (by decide +kernel) ⟨Nat.le_of_ble_eq_true rfl, Nat.le_of_ble_eq_true rfl⟩) (ci := 3) rfl ho_11 h rfl hl.1 rfl (Nat.le_of_ble_eq_true rfl) (dd_at ddX10_rows 11 rfl) ⟨Nat.le_of_ble_eq_true rfl, Nat.le_of_ble_eq_true rfl⟩) (fun d_15 H locs h hw => ?_)
  refine lv_aload_n S.1 S.2.1 (dd_at ddX10_rows 12 rfl) rfl (lv_at hl 0 rfl) ?_
  obtain ⟨b_17, hb_18, ho_19, h⟩ := h
  refine r_getR S hw 10 10 rfl inG10 (by decide) (List.mem_cons_of_mem _ wg43) (by decide) ha0 hb_18 (dd_at ddX10_rows 13 rfl) ?_
  refine r_callJ hw (r_runV (As := []) (rest := []) S hw (m_X4_ways l D cs E d_15 H.size b_17 _) (cwV 0 S.2.2.2.2 (gV wg1355 wg1356 wg1357 wg42 wg1358) rfl rfl rfl (by decide +kernel) ⟨Nat.le_of_ble_eq_true rfl, Nat.le_of_ble_eq_true rfl⟩) (ci := 4) rfl ho_19 h rfl hl.1 rfl (Nat.le_of_ble_eq_true rfl) (dd_at ddX10_rows 14 rfl) ⟨Nat.le_of_ble_eq_true rfl, Nat.le_of_ble_eq_true rfl⟩) (fun r_21 d_20 H locs h hw => ?_)
  exact e_J S hr hlocks hw h (dd_at ddX10_rows 15 rfl)

def w_X10_whose (E : En) (a0 : Nat) (p1 : Int32) (d : Dy) (K : Int32 → Dy → Prop) (X : String → Dy → Prop) : Prop := okO E a0 10 ∧ ∃ b_1 : Nat, eR E a0 0 = some b_1 ∧ okO E b_1 8 ∧ ∃ b_4 : Nat, eR E b_1 8 = some b_4 ∧ okO E b_4 6 ∧ w_X6_size E b_4 d (fun r_8 d_7 => w_X10_needIndex E p1 r_8 d_7 (fun d_9 => ∃ b_11 : Nat, eR E a0 5 = some b_11 ∧ okO E b_11 3 ∧ ∃ b_14 : Nat, eR E a0 0 = some b_14 ∧ okO E b_14 8 ∧ w_X3_begin E b_11 (gI d_9 b_14 0) d_9 (fun d_17 => ∃ b_19 : Nat, eR E a0 5 = some b_19 ∧ okO E b_19 3 ∧ ∃ b_22 : Nat, eR E a0 0 = some b_22 ∧ okO E b_22 8 ∧ w_X3_goTo E b_19 (gI d_17 b_22 0) d_17 (fun d_25 => ∃ b_27 : Nat, eR E a0 10 = some b_27 ∧ okO E b_27 4 ∧ w_X4_ownersOf E b_27 p1 d_25 (fun r_31 d_30 => K r_31 d_30)))) X)
abbrev rm_X10_whose : Room := { frames := 7, cells := 1, slots := 6, locals := 165 }
set_option maxRecDepth 100000 in
set_option maxHeartbeats 4000000 in
theorem m_X10_whose (l : Launch) (hst : l.stackTraces = false) (D : va_G) (cs : Nat → ClassId) (E : En) (d : Dy) (sz : Nat) (a0 : Nat) (p1 : Int32) (K : Int32 → Dy → Prop) (X : String → Dy → Prop) : XI l yX10_whose (.code yX10_whose cX10_whose 2 (some .int) :: wsL_law) rm_X10_whose D cs E d sz [.ref a0, .int p1] (w_X10_whose E a0 p1 d K X) K X := by
  refine e_ofX (cc := cX10_whose) (maxL := 2) (ret := (some .int)) (own := RX10) (by decide) rfl rfl (Nat.le_of_ble_eq_true rfl) ?_
  intro p e s m below meth c S hr hlocks hsz hT H locs hw h ls hl
  have hl : lv_has ls 2 [(0, .ref a0), (1, .int p1)] := hl
  unfold w_X10_whose at h
  obtain ⟨ha0, h⟩ := h
  refine lv_iload_n S.1 S.2.1 (dd_at ddX10_whose 0 rfl) rfl (lv_at hl 1 rfl) ?_
  refine lv_aload_n S.1 S.2.1 (dd_at ddX10_whose 1 rfl) rfl (lv_at hl 0 rfl) ?_
  obtain ⟨b_1, hb_2, ho_3, h⟩ := h
  refine r_getR S hw 10 0 rfl inG10 (by decide) (List.mem_cons_of_mem _ wg16) (by decide) ha0 hb_2 (dd_at ddX10_whose 2 rfl) ?_
  obtain ⟨b_4, hb_5, ho_6, h⟩ := h
  refine r_getRN S hw 8 8 rfl inG8 (by decide) nx18 (by decide) ho_3 hb_5 (dd_at ddX10_whose 3 rfl) ?_
  refine r_callI hw (r_runV (As := []) (rest := [.int p1]) S hw (m_X6_size l D cs E d H.size b_4 _) (cwV 0 S.2.2.2.2 (gV wg578 wg372 wg373 wg51 wg374) rfl rfl rfl (by decide +kernel) ⟨Nat.le_of_ble_eq_true rfl, Nat.le_of_ble_eq_true rfl⟩) (ci := 6) rfl ho_6 h rfl hl.1 rfl (Nat.le_of_ble_eq_true rfl) (dd_at ddX10_whose 4 rfl) ⟨Nat.le_of_ble_eq_true rfl, Nat.le_of_ble_eq_true rfl⟩) (fun r_8 d_7 H locs h hw => ?_)
  refine r_xcallV hT hlocks hw (r_xrunS (As := [.int p1, .int r_8]) (rest := []) S hw (m_X10_needIndex l hst D cs E d_7 H.size p1 r_8 _ _) (va_cwS 2 S.2.2.2.2 (gS wg579 wg580 wg2 wg581) rfl rfl rfl (by decide +kernel) ⟨Nat.le_of_ble_eq_true rfl, Nat.le_of_ble_eq_true rfl⟩) h rfl hl.1 rfl (Nat.le_of_ble_eq_true rfl) (dd_at ddX10_whose 5 rfl) ⟨Nat.le_of_ble_eq_true rfl, Nat.le_of_ble_eq_true rfl⟩) (Nat.le_of_ble_eq_true rfl) (Nat.le_of_ble_eq_true rfl) (fun d_9 H locs h hw => ?_)
  refine lv_aload_n S.1 S.2.1 (dd_at ddX10_whose 6 rfl) rfl (lv_at hl 0 rfl) ?_
  obtain ⟨b_11, hb_12, ho_13, h⟩ := h
  refine r_getR S hw 10 5 rfl inG10 (by decide) (List.mem_cons_of_mem _ wg26) (by decide) ha0 hb_12 (dd_at ddX10_whose 7 rfl) ?_
  refine lv_aload_n S.1 S.2.1 (dd_at ddX10_whose 8 rfl) rfl (lv_at hl 0 rfl) ?_
  obtain ⟨b_14, hb_15, ho_16, h⟩ := h
  refine r_getR S hw 10 0 rfl inG10 (by decide) (List.mem_cons_of_mem _ wg16) (by decide) ha0 hb_15 (dd_at ddX10_whose 9 rfl) ?_
  refine r_getIN S hw 8 0 rfl inG8 (by decide) nx0 (by decide) ho_16 (dd_at ddX10_whose 10 rfl) ?_
  refine r_callV hw (r_runV (As := [.int (gI d_9 b_14 0)]) (rest := []) S hw (m_X3_begin l D cs E d_9 H.size b_11 (gI d_9 b_14 0) _) (cwV 1 S.2.2.2.2 (gV wg661 wg662 wg663 wg25 wg664) rfl rfl rfl (by decide +kernel) ⟨Nat.le_of_ble_eq_true rfl, Nat.le_of_ble_eq_true rfl⟩) (ci := 3) rfl ho_13 h rfl hl.1 rfl (Nat.le_of_ble_eq_true rfl) (dd_at ddX10_whose 11 rfl) ⟨Nat.le_of_ble_eq_true rfl, Nat.le_of_ble_eq_true rfl⟩) (fun d_17 H locs h hw => ?_)
  refine lv_aload_n S.1 S.2.1 (dd_at ddX10_whose 12 rfl) rfl (lv_at hl 0 rfl) ?_
  obtain ⟨b_19, hb_20, ho_21, h⟩ := h
  refine r_getR S hw 10 5 rfl inG10 (by decide) (List.mem_cons_of_mem _ wg26) (by decide) ha0 hb_20 (dd_at ddX10_whose 13 rfl) ?_
  refine lv_aload_n S.1 S.2.1 (dd_at ddX10_whose 14 rfl) rfl (lv_at hl 0 rfl) ?_
  obtain ⟨b_22, hb_23, ho_24, h⟩ := h
  refine r_getR S hw 10 0 rfl inG10 (by decide) (List.mem_cons_of_mem _ wg16) (by decide) ha0 hb_23 (dd_at ddX10_whose 15 rfl) ?_
  refine r_getIN S hw 8 0 rfl inG8 (by decide) nx0 (by decide) ho_24 (dd_at ddX10_whose 16 rfl) ?_
  refine r_callV hw (r_runV (As := [.int (gI d_17 b_22 0)]) (rest := []) S hw (m_X3_goTo l D cs E d_17 H.size b_19 (gI d_17 b_22 0) _) (cwV 1 S.2.2.2.2 (gV wg678 wg679 wg680 wg25 wg681) rfl rfl rfl (by decide +kernel) ⟨Nat.le_of_ble_eq_true rfl, Nat.le_of_ble_eq_true rfl⟩) (ci := 3) rfl ho_21 h rfl hl.1 rfl (Nat.le_of_ble_eq_true rfl) (dd_at ddX10_whose 17 rfl) ⟨Nat.le_of_ble_eq_true rfl, Nat.le_of_ble_eq_true rfl⟩) (fun d_25 H locs h hw => ?_)
  refine lv_aload_n S.1 S.2.1 (dd_at ddX10_whose 18 rfl) rfl (lv_at hl 0 rfl) ?_
  obtain ⟨b_27, hb_28, ho_29, h⟩ := h
  refine r_getR S hw 10 10 rfl inG10 (by decide) (List.mem_cons_of_mem _ wg43) (by decide) ha0 hb_28 (dd_at ddX10_whose 19 rfl) ?_
  refine lv_iload_n S.1 S.2.1 (dd_at ddX10_whose 20 rfl) rfl (lv_at hl 1 rfl) ?_
  refine r_callI hw (r_runV (As := [.int p1]) (rest := []) S hw (m_X4_ownersOf l D cs E d_25 H.size b_27 p1 _) (cwV 1 S.2.2.2.2 (gV wg1403 wg1404 wg1405 wg42 wg1406) rfl rfl rfl (by decide +kernel) ⟨Nat.le_of_ble_eq_true rfl, Nat.le_of_ble_eq_true rfl⟩) (ci := 4) rfl ho_29 h rfl hl.1 rfl (Nat.le_of_ble_eq_true rfl) (dd_at ddX10_whose 21 rfl) ⟨Nat.le_of_ble_eq_true rfl, Nat.le_of_ble_eq_true rfl⟩) (fun r_31 d_30 H locs h hw => ?_)
  exact vx_ret (e_I S hr hlocks hw h (dd_at ddX10_whose 22 rfl))

def w_X10_photo (E : En) (a0 : Nat) (p1 : Int32) (p2 : Int32) (p3 : Int32) (d : Dy) (K : Int32 → Dy → Prop) (X : String → Dy → Prop) : Prop := okO E a0 10 ∧ w_X10_needHut E a0 p1 d (fun d_1 => w_X10_needYear E p2 d_1 (fun d_3 => w_X10_needBetween E p3 0 7 d_3 (fun d_5 => ∃ b_7 : Nat, eR E a0 0 = some b_7 ∧ okO E b_7 8 ∧ ∃ b_10 : Nat, eR E b_7 9 = some b_10 ∧ okO E b_10 6 ∧ w_X10_needRoom E b_10 d_5 (fun d_13 => ∃ b_15 : Nat, eR E a0 0 = some b_15 ∧ okO E b_15 8 ∧ ∃ b_18 : Nat, eR E b_15 9 = some b_18 ∧ okO E b_18 6 ∧ w_X6_openByYear E b_18 p2 d_13 (fun r_22 d_21 => ∃ b_23 : Nat, eR E a0 0 = some b_23 ∧ okO E b_23 8 ∧ ∃ b_26 : Nat, eR E b_23 9 = some b_26 ∧ okO E b_26 6 ∧ w_X6_set E b_26 r_22 1 p1 d_21 (fun d_29 => ∃ b_31 : Nat, eR E a0 0 = some b_31 ∧ okO E b_31 8 ∧ ∃ b_34 : Nat, eR E b_31 9 = some b_34 ∧ okO E b_34 6 ∧ w_X6_set E b_34 r_22 2 p3 d_29 (fun d_37 => ∃ b_39 : Nat, eR E a0 0 = some b_39 ∧ okO E b_39 8 ∧ ∃ b_42 : Nat, eR E b_39 9 = some b_42 ∧ okO E b_42 6 ∧ w_X6_size E b_42 d_37 (fun r_46 d_45 => K r_46 d_45))))) X) X) X) X
abbrev rm_X10_photo : Room := { frames := 8, cells := 4, slots := 24, locals := 142 }
set_option maxRecDepth 100000 in
set_option maxHeartbeats 4000000 in
theorem m_X10_photo (l : Launch) (hst : l.stackTraces = false) (D : va_G) (cs : Nat → ClassId) (E : En) (d : Dy) (sz : Nat) (a0 : Nat) (p1 : Int32) (p2 : Int32) (p3 : Int32) (K : Int32 → Dy → Prop) (X : String → Dy → Prop) : XI l yX10_photo (.code yX10_photo cX10_photo 5 (some .int) :: wsL_law) rm_X10_photo D cs E d sz [.ref a0, .int p1, .int p2, .int p3] (w_X10_photo E a0 p1 p2 p3 d K X) K X := by
  refine e_ofX (cc := cX10_photo) (maxL := 5) (ret := (some .int)) (own := RX10) (by decide) rfl rfl (Nat.le_of_ble_eq_true rfl) ?_
  intro p e s m below meth c S hr hlocks hsz hT H locs hw h ls hl
  have hl : lv_has ls 5 [(0, .ref a0), (1, .int p1), (2, .int p2), (3, .int p3)] := hl
  unfold w_X10_photo at h
  obtain ⟨ha0, h⟩ := h
  refine lv_aload_n S.1 S.2.1 (dd_at ddX10_photo 0 rfl) rfl (lv_at hl 0 rfl) ?_
  refine lv_iload_n S.1 S.2.1 (dd_at ddX10_photo 1 rfl) rfl (lv_at hl 1 rfl) ?_
  refine r_xcallV hT hlocks hw (r_xrunV (As := [.int p1]) (rest := []) S hw (m_X10_needHut l hst D cs E d H.size a0 p1 _ _) (cwV 1 S.2.2.2.2 (gV wg610 wg611 wg612 wg2 wg613) rfl rfl rfl (by decide +kernel) ⟨Nat.le_of_ble_eq_true rfl, Nat.le_of_ble_eq_true rfl⟩) (ci := 10) rfl ha0 h rfl hl.1 rfl (Nat.le_of_ble_eq_true rfl) (dd_at ddX10_photo 2 rfl) ⟨Nat.le_of_ble_eq_true rfl, Nat.le_of_ble_eq_true rfl⟩) (Nat.le_of_ble_eq_true rfl) (Nat.le_of_ble_eq_true rfl) (fun d_1 H locs h hw => ?_)
  refine lv_iload_n S.1 S.2.1 (dd_at ddX10_photo 3 rfl) rfl (lv_at hl 2 rfl) ?_
  refine r_xcallV hT hlocks hw (r_xrunS (As := [.int p2]) (rest := []) S hw (m_X10_needYear l hst D cs E d_1 H.size p2 _ _) (va_cwS 1 S.2.2.2.2 (gS wg607 wg608 wg2 wg609) rfl rfl rfl (by decide +kernel) ⟨Nat.le_of_ble_eq_true rfl, Nat.le_of_ble_eq_true rfl⟩) h rfl hl.1 rfl (Nat.le_of_ble_eq_true rfl) (dd_at ddX10_photo 4 rfl) ⟨Nat.le_of_ble_eq_true rfl, Nat.le_of_ble_eq_true rfl⟩) (Nat.le_of_ble_eq_true rfl) (Nat.le_of_ble_eq_true rfl) (fun d_3 H locs h hw => ?_)
  refine lv_iload_n S.1 S.2.1 (dd_at ddX10_photo 5 rfl) rfl (lv_at hl 3 rfl) ?_
  refine lv_iconst (v := 0) S.1 S.2.1 (dd_at ddX10_photo 6 rfl) (by decide) ?_
  refine lv_bipush (v := 7) S.1 S.2.1 (dd_at ddX10_photo 7 rfl) (by decide) ?_
  refine r_xcallV hT hlocks hw (r_xrunS (As := [.int p3, .int 0, .int 7]) (rest := []) S hw (m_X10_needBetween l hst D cs E d_3 H.size p3 0 7 _ _) (va_cwS 3 S.2.2.2.2 (gS wg525 wg526 wg2 wg527) rfl rfl rfl (by decide +kernel) ⟨Nat.le_of_ble_eq_true rfl, Nat.le_of_ble_eq_true rfl⟩) h rfl hl.1 rfl (Nat.le_of_ble_eq_true rfl) (dd_at ddX10_photo 8 rfl) ⟨Nat.le_of_ble_eq_true rfl, Nat.le_of_ble_eq_true rfl⟩) (Nat.le_of_ble_eq_true rfl) (Nat.le_of_ble_eq_true rfl) (fun d_5 H locs h hw => ?_)
  refine lv_aload_n S.1 S.2.1 (dd_at ddX10_photo 9 rfl) rfl (lv_at hl 0 rfl) ?_
  obtain ⟨b_7, hb_8, ho_9, h⟩ := h
  refine r_getR S hw 10 0 rfl inG10 (by decide) (List.mem_cons_of_mem _ wg16) (by decide) ha0 hb_8 (dd_at ddX10_photo 10 rfl) ?_
  obtain ⟨b_10, hb_11, ho_12, h⟩ := h
  refine r_getRN S hw 8 9 rfl inG8 (by decide) nx19 (by decide) ho_9 hb_11 (dd_at ddX10_photo 11 rfl) ?_
  refine r_xcallV hT hlocks hw (r_xrunS (As := [.ref b_10]) (rest := []) S hw (m_X10_needRoom l hst D cs E d_5 H.size b_10 _ _) (va_cwS 1 S.2.2.2.2 (gS wg540 wg541 wg2 wg542) rfl rfl rfl (by decide +kernel) ⟨Nat.le_of_ble_eq_true rfl, Nat.le_of_ble_eq_true rfl⟩) h rfl hl.1 rfl (Nat.le_of_ble_eq_true rfl) (dd_at ddX10_photo 12 rfl) ⟨Nat.le_of_ble_eq_true rfl, Nat.le_of_ble_eq_true rfl⟩) (Nat.le_of_ble_eq_true rfl) (Nat.le_of_ble_eq_true rfl) (fun d_13 H locs h hw => ?_)
  refine lv_aload_n S.1 S.2.1 (dd_at ddX10_photo 13 rfl) rfl (lv_at hl 0 rfl) ?_
  obtain ⟨b_15, hb_16, ho_17, h⟩ := h
  refine r_getR S hw 10 0 rfl inG10 (by decide) (List.mem_cons_of_mem _ wg16) (by decide) ha0 hb_16 (dd_at ddX10_photo 14 rfl) ?_
  obtain ⟨b_18, hb_19, ho_20, h⟩ := h
  refine r_getRN S hw 8 9 rfl inG8 (by decide) nx19 (by decide) ho_17 hb_19 (dd_at ddX10_photo 15 rfl) ?_
  refine lv_iload_n S.1 S.2.1 (dd_at ddX10_photo 16 rfl) rfl (lv_at hl 2 rfl) ?_
  refine r_callI hw (r_runV (As := [.int p2]) (rest := []) S hw (m_X6_openByYear l D cs E d_13 H.size b_18 p2 _) (cwV 1 S.2.2.2.2 (gV wg618 wg619 wg620 wg51 wg621) rfl rfl rfl (by decide +kernel) ⟨Nat.le_of_ble_eq_true rfl, Nat.le_of_ble_eq_true rfl⟩) (ci := 6) rfl ho_20 h rfl hl.1 rfl (Nat.le_of_ble_eq_true rfl) (dd_at ddX10_photo 17 rfl) ⟨Nat.le_of_ble_eq_true rfl, Nat.le_of_ble_eq_true rfl⟩) (fun r_22 d_21 H locs h hw => ?_)
  refine lv_istore (lv' := [(4, .int r_22), (0, .ref a0), (1, .int p1), (2, .int p2), (3, .int p3)]) S.1 S.2.1 (dd_at ddX10_photo 18 rfl) hl (by decide) rfl (fun ls hl => ?_)
  refine lv_aload_n S.1 S.2.1 (dd_at ddX10_photo 19 rfl) rfl (lv_at hl 1 rfl) ?_
  obtain ⟨b_23, hb_24, ho_25, h⟩ := h
  refine r_getR S hw 10 0 rfl inG10 (by decide) (List.mem_cons_of_mem _ wg16) (by decide) ha0 hb_24 (dd_at ddX10_photo 20 rfl) ?_
  obtain ⟨b_26, hb_27, ho_28, h⟩ := h
  refine r_getRN S hw 8 9 rfl inG8 (by decide) nx19 (by decide) ho_25 hb_27 (dd_at ddX10_photo 21 rfl) ?_
  refine lv_iload S.1 S.2.1 (dd_at ddX10_photo 22 rfl) (lv_at hl 0 rfl) ?_
  refine lv_iconst (v := 1) S.1 S.2.1 (dd_at ddX10_photo 23 rfl) (by decide) ?_
  refine lv_iload_n S.1 S.2.1 (dd_at ddX10_photo 24 rfl) rfl (lv_at hl 2 rfl) ?_
  refine r_callV hw (r_runV (As := [.int r_22, .int 1, .int p1]) (rest := []) S hw (m_X6_set l D cs E d_21 H.size b_26 r_22 1 p1 _) (cwV 3 S.2.2.2.2 (gV wg550 wg318 wg319 wg51 wg320) rfl rfl rfl (by decide +kernel) ⟨Nat.le_of_ble_eq_true rfl, Nat.le_of_ble_eq_true rfl⟩) (ci := 6) rfl ho_28 h rfl hl.1 rfl (Nat.le_of_ble_eq_true rfl) (dd_at ddX10_photo 25 rfl) ⟨Nat.le_of_ble_eq_true rfl, Nat.le_of_ble_eq_true rfl⟩) (fun d_29 H locs h hw => ?_)
  refine lv_aload_n S.1 S.2.1 (dd_at ddX10_photo 26 rfl) rfl (lv_at hl 1 rfl) ?_
  obtain ⟨b_31, hb_32, ho_33, h⟩ := h
  refine r_getR S hw 10 0 rfl inG10 (by decide) (List.mem_cons_of_mem _ wg16) (by decide) ha0 hb_32 (dd_at ddX10_photo 27 rfl) ?_
  obtain ⟨b_34, hb_35, ho_36, h⟩ := h
  refine r_getRN S hw 8 9 rfl inG8 (by decide) nx19 (by decide) ho_33 hb_35 (dd_at ddX10_photo 28 rfl) ?_
  refine lv_iload S.1 S.2.1 (dd_at ddX10_photo 29 rfl) (lv_at hl 0 rfl) ?_
  refine lv_iconst (v := 2) S.1 S.2.1 (dd_at ddX10_photo 30 rfl) (by decide) ?_
  refine lv_iload_n S.1 S.2.1 (dd_at ddX10_photo 31 rfl) rfl (lv_at hl 4 rfl) ?_
  refine r_callV hw (r_runV (As := [.int r_22, .int 2, .int p3]) (rest := []) S hw (m_X6_set l D cs E d_29 H.size b_34 r_22 2 p3 _) (cwV 3 S.2.2.2.2 (gV wg550 wg318 wg319 wg51 wg320) rfl rfl rfl (by decide +kernel) ⟨Nat.le_of_ble_eq_true rfl, Nat.le_of_ble_eq_true rfl⟩) (ci := 6) rfl ho_36 h rfl hl.1 rfl (Nat.le_of_ble_eq_true rfl) (dd_at ddX10_photo 32 rfl) ⟨Nat.le_of_ble_eq_true rfl, Nat.le_of_ble_eq_true rfl⟩) (fun d_37 H locs h hw => ?_)
  refine lv_aload_n S.1 S.2.1 (dd_at ddX10_photo 33 rfl) rfl (lv_at hl 1 rfl) ?_
  obtain ⟨b_39, hb_40, ho_41, h⟩ := h
  refine r_getR S hw 10 0 rfl inG10 (by decide) (List.mem_cons_of_mem _ wg16) (by decide) ha0 hb_40 (dd_at ddX10_photo 34 rfl) ?_
  obtain ⟨b_42, hb_43, ho_44, h⟩ := h
  refine r_getRN S hw 8 9 rfl inG8 (by decide) nx19 (by decide) ho_41 hb_43 (dd_at ddX10_photo 35 rfl) ?_
  refine r_callI hw (r_runV (As := []) (rest := []) S hw (m_X6_size l D cs E d_37 H.size b_42 _) (cwV 0 S.2.2.2.2 (gV wg578 wg372 wg373 wg51 wg374) rfl rfl rfl (by decide +kernel) ⟨Nat.le_of_ble_eq_true rfl, Nat.le_of_ble_eq_true rfl⟩) (ci := 6) rfl ho_44 h rfl hl.1 rfl (Nat.le_of_ble_eq_true rfl) (dd_at ddX10_photo 36 rfl) ⟨Nat.le_of_ble_eq_true rfl, Nat.le_of_ble_eq_true rfl⟩) (fun r_46 d_45 H locs h hw => ?_)
  exact vx_ret (e_I S hr hlocks hw h (dd_at ddX10_photo 37 rfl))

def w_X10_allowed (E : En) (a0 : Nat) (p1 : Int32) (p2 : Int32) (d : Dy) (K : Int32 → Dy → Prop) (X : String → Dy → Prop) : Prop := okO E a0 10 ∧ w_X10_needHut E a0 p1 d (fun d_1 => w_X10_needYear E p2 d_1 (fun d_3 => ∃ b_5 : Nat, eR E a0 5 = some b_5 ∧ okO E b_5 3 ∧ ∃ b_8 : Nat, eR E a0 0 = some b_8 ∧ okO E b_8 8 ∧ w_X3_begin E b_5 (gI d_3 b_8 0) d_3 (fun d_11 => ∃ b_13 : Nat, eR E a0 5 = some b_13 ∧ okO E b_13 3 ∧ w_X3_goTo E b_13 p2 d_11 (fun d_16 => ∃ b_18 : Nat, eR E a0 5 = some b_18 ∧ okO E b_18 3 ∧ w_X3_coloursOf E b_18 p1 d_16 (fun r_22 d_21 => K r_22 d_21)))) X) X
abbrev rm_X10_allowed : Room := { frames := 8, cells := 2, slots := 12, locals := 165 }
set_option maxRecDepth 100000 in
set_option maxHeartbeats 4000000 in
theorem m_X10_allowed (l : Launch) (hst : l.stackTraces = false) (D : va_G) (cs : Nat → ClassId) (E : En) (d : Dy) (sz : Nat) (a0 : Nat) (p1 : Int32) (p2 : Int32) (K : Int32 → Dy → Prop) (X : String → Dy → Prop) : XI l yX10_allowed (.code yX10_allowed cX10_allowed 3 (some .int) :: wsL_law) rm_X10_allowed D cs E d sz [.ref a0, .int p1, .int p2] (w_X10_allowed E a0 p1 p2 d K X) K X := by
  refine e_ofX (cc := cX10_allowed) (maxL := 3) (ret := (some .int)) (own := RX10) (by decide) rfl rfl (Nat.le_of_ble_eq_true rfl) ?_
  intro p e s m below meth c S hr hlocks hsz hT H locs hw h ls hl
  have hl : lv_has ls 3 [(0, .ref a0), (1, .int p1), (2, .int p2)] := hl
  unfold w_X10_allowed at h
  obtain ⟨ha0, h⟩ := h
  refine lv_aload_n S.1 S.2.1 (dd_at ddX10_allowed 0 rfl) rfl (lv_at hl 0 rfl) ?_
  refine lv_iload_n S.1 S.2.1 (dd_at ddX10_allowed 1 rfl) rfl (lv_at hl 1 rfl) ?_
  refine r_xcallV hT hlocks hw (r_xrunV (As := [.int p1]) (rest := []) S hw (m_X10_needHut l hst D cs E d H.size a0 p1 _ _) (cwV 1 S.2.2.2.2 (gV wg610 wg611 wg612 wg2 wg613) rfl rfl rfl (by decide +kernel) ⟨Nat.le_of_ble_eq_true rfl, Nat.le_of_ble_eq_true rfl⟩) (ci := 10) rfl ha0 h rfl hl.1 rfl (Nat.le_of_ble_eq_true rfl) (dd_at ddX10_allowed 2 rfl) ⟨Nat.le_of_ble_eq_true rfl, Nat.le_of_ble_eq_true rfl⟩) (Nat.le_of_ble_eq_true rfl) (Nat.le_of_ble_eq_true rfl) (fun d_1 H locs h hw => ?_)
  refine lv_iload_n S.1 S.2.1 (dd_at ddX10_allowed 3 rfl) rfl (lv_at hl 2 rfl) ?_
  refine r_xcallV hT hlocks hw (r_xrunS (As := [.int p2]) (rest := []) S hw (m_X10_needYear l hst D cs E d_1 H.size p2 _ _) (va_cwS 1 S.2.2.2.2 (gS wg607 wg608 wg2 wg609) rfl rfl rfl (by decide +kernel) ⟨Nat.le_of_ble_eq_true rfl, Nat.le_of_ble_eq_true rfl⟩) h rfl hl.1 rfl (Nat.le_of_ble_eq_true rfl) (dd_at ddX10_allowed 4 rfl) ⟨Nat.le_of_ble_eq_true rfl, Nat.le_of_ble_eq_true rfl⟩) (Nat.le_of_ble_eq_true rfl) (Nat.le_of_ble_eq_true rfl) (fun d_3 H locs h hw => ?_)
  refine lv_aload_n S.1 S.2.1 (dd_at ddX10_allowed 5 rfl) rfl (lv_at hl 0 rfl) ?_
  obtain ⟨b_5, hb_6, ho_7, h⟩ := h
  refine r_getR S hw 10 5 rfl inG10 (by decide) (List.mem_cons_of_mem _ wg26) (by decide) ha0 hb_6 (dd_at ddX10_allowed 6 rfl) ?_
  refine lv_aload_n S.1 S.2.1 (dd_at ddX10_allowed 7 rfl) rfl (lv_at hl 0 rfl) ?_
  obtain ⟨b_8, hb_9, ho_10, h⟩ := h
  refine r_getR S hw 10 0 rfl inG10 (by decide) (List.mem_cons_of_mem _ wg16) (by decide) ha0 hb_9 (dd_at ddX10_allowed 8 rfl) ?_
  refine r_getIN S hw 8 0 rfl inG8 (by decide) nx0 (by decide) ho_10 (dd_at ddX10_allowed 9 rfl) ?_
  refine r_callV hw (r_runV (As := [.int (gI d_3 b_8 0)]) (rest := []) S hw (m_X3_begin l D cs E d_3 H.size b_5 (gI d_3 b_8 0) _) (cwV 1 S.2.2.2.2 (gV wg661 wg662 wg663 wg25 wg664) rfl rfl rfl (by decide +kernel) ⟨Nat.le_of_ble_eq_true rfl, Nat.le_of_ble_eq_true rfl⟩) (ci := 3) rfl ho_7 h rfl hl.1 rfl (Nat.le_of_ble_eq_true rfl) (dd_at ddX10_allowed 10 rfl) ⟨Nat.le_of_ble_eq_true rfl, Nat.le_of_ble_eq_true rfl⟩) (fun d_11 H locs h hw => ?_)
  refine lv_aload_n S.1 S.2.1 (dd_at ddX10_allowed 11 rfl) rfl (lv_at hl 0 rfl) ?_
  obtain ⟨b_13, hb_14, ho_15, h⟩ := h
  refine r_getR S hw 10 5 rfl inG10 (by decide) (List.mem_cons_of_mem _ wg26) (by decide) ha0 hb_14 (dd_at ddX10_allowed 12 rfl) ?_
  refine lv_iload_n S.1 S.2.1 (dd_at ddX10_allowed 13 rfl) rfl (lv_at hl 2 rfl) ?_
  refine r_callV hw (r_runV (As := [.int p2]) (rest := []) S hw (m_X3_goTo l D cs E d_11 H.size b_13 p2 _) (cwV 1 S.2.2.2.2 (gV wg678 wg679 wg680 wg25 wg681) rfl rfl rfl (by decide +kernel) ⟨Nat.le_of_ble_eq_true rfl, Nat.le_of_ble_eq_true rfl⟩) (ci := 3) rfl ho_15 h rfl hl.1 rfl (Nat.le_of_ble_eq_true rfl) (dd_at ddX10_allowed 14 rfl) ⟨Nat.le_of_ble_eq_true rfl, Nat.le_of_ble_eq_true rfl⟩) (fun d_16 H locs h hw => ?_)
  refine lv_aload_n S.1 S.2.1 (dd_at ddX10_allowed 15 rfl) rfl (lv_at hl 0 rfl) ?_
  obtain ⟨b_18, hb_19, ho_20, h⟩ := h
  refine r_getR S hw 10 5 rfl inG10 (by decide) (List.mem_cons_of_mem _ wg26) (by decide) ha0 hb_19 (dd_at ddX10_allowed 16 rfl) ?_
  refine lv_iload_n S.1 S.2.1 (dd_at ddX10_allowed 17 rfl) rfl (lv_at hl 1 rfl) ?_
  refine r_callI hw (r_runV (As := [.int p1]) (rest := []) S hw (m_X3_coloursOf l D cs E d_16 H.size b_18 p1 _) (cwV 1 S.2.2.2.2 (gV wg1433 wg1434 wg1435 wg25 wg1436) rfl rfl rfl (by decide +kernel) ⟨Nat.le_of_ble_eq_true rfl, Nat.le_of_ble_eq_true rfl⟩) (ci := 3) rfl ho_20 h rfl hl.1 rfl (Nat.le_of_ble_eq_true rfl) (dd_at ddX10_allowed 18 rfl) ⟨Nat.le_of_ble_eq_true rfl, Nat.le_of_ble_eq_true rfl⟩) (fun r_22 d_21 H locs h hw => ?_)
  exact vx_ret (e_I S hr hlocks hw h (dd_at ddX10_allowed 19 rfl))

def b_X10_breaches_23 (E : En) (a0 : Nat) (p1 : Int32) (K : Int32 → Dy → Prop) (X : String → Dy → Prop) (k23 : Int32 → Int32 → Dy → Prop) (v2 : Int32) (v3 : Int32) (d : Dy) : Prop := ∃ b_1 : Nat, eR E a0 0 = some b_1 ∧ okO E b_1 8 ∧ ∃ b_4 : Nat, eR E b_1 9 = some b_4 ∧ okO E b_4 6 ∧ w_X6_size E b_4 d (fun r_8 d_7 => ((r_8 ≤ v3 → K v2 d_7) ∧ (¬ r_8 ≤ v3 → ∃ b_10 : Nat, eR E a0 0 = some b_10 ∧ okO E b_10 8 ∧ ∃ b_13 : Nat, eR E b_10 9 = some b_13 ∧ okO E b_13 6 ∧ w_X6_get E b_13 v3 1 d_7 (fun r_17 d_16 => ((¬ r_17 = p1 → k23 v2 (v3 + 1) d_16) ∧ (r_17 = p1 → ∃ b_19 : Nat, eR E a0 5 = some b_19 ∧ okO E b_19 3 ∧ ∃ b_22 : Nat, eR E a0 0 = some b_22 ∧ okO E b_22 8 ∧ ∃ b_25 : Nat, eR E b_22 9 = some b_25 ∧ okO E b_25 6 ∧ w_X6_get E b_25 v3 0 d_16 (fun r_29 d_28 => w_X3_goTo E b_19 r_29 d_28 (fun d_30 => ∃ b_32 : Nat, eR E a0 5 = some b_32 ∧ okO E b_32 3 ∧ w_X3_coloursOf E b_32 p1 d_30 (fun r_36 d_35 => ∃ b_37 : Nat, eR E a0 0 = some b_37 ∧ okO E b_37 8 ∧ ∃ b_40 : Nat, eR E b_37 9 = some b_40 ∧ okO E b_40 6 ∧ w_X6_get E b_40 v3 2 d_35 (fun r_44 d_43 => k23 (v2 + (1 - ((r_36 >>> (r_44 &&& 31)) &&& 1))) (v3 + 1) d_43))))))))))
def l_X10_breaches_23 (E : En) (a0 : Nat) (p1 : Int32) (K : Int32 → Dy → Prop) (X : String → Dy → Prop) : Nat → Int32 → Int32 → Dy → Prop
  | 0 => fun _ _ _ => False
  | n + 1 => b_X10_breaches_23 E a0 p1 K X (l_X10_breaches_23 E a0 p1 K X n)
def w_X10_breaches (E : En) (a0 : Nat) (p1 : Int32) (d : Dy) (K : Int32 → Dy → Prop) (X : String → Dy → Prop) : Prop := okO E a0 10 ∧ w_X10_needHut E a0 p1 d (fun d_45 => ∃ b_47 : Nat, eR E a0 5 = some b_47 ∧ okO E b_47 3 ∧ ∃ b_50 : Nat, eR E a0 0 = some b_50 ∧ okO E b_50 8 ∧ w_X3_begin E b_47 (gI d_45 b_50 0) d_45 (fun d_53 => (∃ n_55 : Nat, l_X10_breaches_23 E a0 p1 K X n_55 0 0 d_53))) X
abbrev rm_X10_breaches : Room := { frames := 8, cells := 1, slots := 6, locals := 165 }
set_option maxRecDepth 100000 in
set_option maxHeartbeats 4000000 in
theorem m_X10_breaches (l : Launch) (hst : l.stackTraces = false) (D : va_G) (cs : Nat → ClassId) (E : En) (d : Dy) (sz : Nat) (a0 : Nat) (p1 : Int32) (K : Int32 → Dy → Prop) (X : String → Dy → Prop) : XI l yX10_breaches (.code yX10_breaches cX10_breaches 5 (some .int) :: wsL_law) rm_X10_breaches D cs E d sz [.ref a0, .int p1] (w_X10_breaches E a0 p1 d K X) K X := by
  refine e_ofX (cc := cX10_breaches) (maxL := 5) (ret := (some .int)) (own := RX10) (by decide) rfl rfl (Nat.le_of_ble_eq_true rfl) ?_
  intro p e s m below meth c S hr hlocks hsz hT H locs hw h ls hl
  have hl : lv_has ls 5 [(0, .ref a0), (1, .int p1)] := hl
  unfold w_X10_breaches at h
  obtain ⟨ha0, h⟩ := h
  have tl23 : ∀ (n : Nat) (v2 : Int32) (v3 : Int32) (d : Dy) (H : Heap) (locs : List Loc) (ls : Array Slot), l_X10_breaches_23 E a0 p1 K X n v2 v3 d → Wd D cs (AW E sz) s.heap s E d H locs → lv_has ls 5 [(0, .ref a0), (1, .int p1), (2, .int v2), (3, .int v3)] → W p l e rm_X10_breaches s m ([.ref a0, .int p1] : List Value).toArray below meth c H locs 1 6 (vx_MQ below (va_Qi K (OutW D cs E (AW E sz)) (AW E sz)) (XX D cs E sz X) ([.ref a0, .int p1] : List Value).toArray s rm_X10_breaches.cells rm_X10_breaches.slots (AW E sz)) (F0 m 23 ls []) := by
    intro n23
    induction n23 with
    | zero => intro v2 v3 d H locs ls h; exact absurd h id
    | succ n23 ih23 =>
      intro v2 v3 d H locs ls h hw hl
      have h : b_X10_breaches_23 E a0 p1 K X (l_X10_breaches_23 E a0 p1 K X n23) v2 v3 d := h
      unfold b_X10_breaches_23 at h
      refine lv_iload_n S.1 S.2.1 (dd_at ddX10_breaches 13 rfl) rfl (lv_at hl 3 rfl) ?_
      refine lv_aload_n S.1 S.2.1 (dd_at ddX10_breaches 14 rfl) rfl (lv_at hl 0 rfl) ?_
      obtain ⟨b_1, hb_2, ho_3, h⟩ := h
      refine r_getR S hw 10 0 rfl inG10 (by decide) (List.mem_cons_of_mem _ wg16) (by decide) ha0 hb_2 (dd_at ddX10_breaches 15 rfl) ?_
      obtain ⟨b_4, hb_5, ho_6, h⟩ := h
      refine r_getRN S hw 8 9 rfl inG8 (by decide) nx19 (by decide) ho_3 hb_5 (dd_at ddX10_breaches 16 rfl) ?_
      refine r_callI hw (r_runV (As := []) (rest := [.int v3]) S hw (m_X6_size l D cs E d H.size b_4 _) (cwV 0 S.2.2.2.2 (gV wg578 wg372 wg373 wg51 wg374) rfl rfl rfl (by decide +kernel) ⟨Nat.le_of_ble_eq_true rfl, Nat.le_of_ble_eq_true rfl⟩) (ci := 6) rfl ho_6 h rfl hl.1 rfl (Nat.le_of_ble_eq_true rfl) (dd_at ddX10_breaches 17 rfl) ⟨Nat.le_of_ble_eq_true rfl, Nat.le_of_ble_eq_true rfl⟩) (fun r_8 d_7 H locs h hw => ?_)
      refine lv_icmp_ge (tgt := 110) S.1 S.2.1 (dd_at ddX10_breaches 18 rfl) (by decide) (fun hc_9 => ?_) (fun hc_9 => ?_)
      · have h := h.1 hc_9
        refine lv_iload_n S.1 S.2.1 (dd_at ddX10_breaches 58 rfl) rfl (lv_at hl 2 rfl) ?_
        exact vx_ret (e_I S hr hlocks hw h (dd_at ddX10_breaches 59 rfl))
      · have h := h.2 hc_9
        refine lv_aload_n S.1 S.2.1 (dd_at ddX10_breaches 19 rfl) rfl (lv_at hl 0 rfl) ?_
        obtain ⟨b_10, hb_11, ho_12, h⟩ := h
        refine r_getR S hw 10 0 rfl inG10 (by decide) (List.mem_cons_of_mem _ wg16) (by decide) ha0 hb_11 (dd_at ddX10_breaches 20 rfl) ?_
        obtain ⟨b_13, hb_14, ho_15, h⟩ := h
        refine r_getRN S hw 8 9 rfl inG8 (by decide) nx19 (by decide) ho_12 hb_14 (dd_at ddX10_breaches 21 rfl) ?_
        refine lv_iload_n S.1 S.2.1 (dd_at ddX10_breaches 22 rfl) rfl (lv_at hl 3 rfl) ?_
        refine lv_iconst (v := 1) S.1 S.2.1 (dd_at ddX10_breaches 23 rfl) (by decide) ?_
        refine r_callI hw (r_runV (As := [.int v3, .int 1]) (rest := []) S hw (m_X6_get l D cs E d_7 H.size b_13 v3 1 _) (cwV 2 S.2.2.2.2 (gV wg997 wg623 wg624 wg51 wg625) rfl rfl rfl (by decide +kernel) ⟨Nat.le_of_ble_eq_true rfl, Nat.le_of_ble_eq_true rfl⟩) (ci := 6) rfl ho_15 h rfl hl.1 rfl (Nat.le_of_ble_eq_true rfl) (dd_at ddX10_breaches 24 rfl) ⟨Nat.le_of_ble_eq_true rfl, Nat.le_of_ble_eq_true rfl⟩) (fun r_17 d_16 H locs h hw => ?_)
        refine lv_iload_n S.1 S.2.1 (dd_at ddX10_breaches 25 rfl) rfl (lv_at hl 1 rfl) ?_
        refine lv_icmp_ne (tgt := 104) S.1 S.2.1 (dd_at ddX10_breaches 26 rfl) (by decide) (fun hc_18 => ?_) (fun hc_18 => ?_)
        · have h := h.1 hc_18
          refine lv_iinc (v := v3 + 1) (lv' := [(3, .int (v3 + 1)), (0, .ref a0), (1, .int p1), (2, .int v2)]) S.1 S.2.1 (dd_at ddX10_breaches 56 rfl) hl (k := 3) rfl rfl (by decide) rfl (fun ls hl => ?_)
          refine lv_goto (tgt := 23) S.1 S.2.1 (dd_at ddX10_breaches 57 rfl) (by decide) ?_
          exact ih23 v2 (v3 + 1) d_16 H locs ls h hw (lv_sub hl [1, 2, 3, 0] rfl)
        · have h := h.2 hc_18
          refine lv_aload_n S.1 S.2.1 (dd_at ddX10_breaches 27 rfl) rfl (lv_at hl 0 rfl) ?_
          obtain ⟨b_19, hb_20, ho_21, h⟩ := h
          refine r_getR S hw 10 5 rfl inG10 (by decide) (List.mem_cons_of_mem _ wg26) (by decide) ha0 hb_20 (dd_at ddX10_breaches 28 rfl) ?_
          refine lv_aload_n S.1 S.2.1 (dd_at ddX10_breaches 29 rfl) rfl (lv_at hl 0 rfl) ?_
          obtain ⟨b_22, hb_23, ho_24, h⟩ := h
          refine r_getR S hw 10 0 rfl inG10 (by decide) (List.mem_cons_of_mem _ wg16) (by decide) ha0 hb_23 (dd_at ddX10_breaches 30 rfl) ?_
          obtain ⟨b_25, hb_26, ho_27, h⟩ := h
          refine r_getRN S hw 8 9 rfl inG8 (by decide) nx19 (by decide) ho_24 hb_26 (dd_at ddX10_breaches 31 rfl) ?_
          refine lv_iload_n S.1 S.2.1 (dd_at ddX10_breaches 32 rfl) rfl (lv_at hl 3 rfl) ?_
          refine lv_iconst (v := 0) S.1 S.2.1 (dd_at ddX10_breaches 33 rfl) (by decide) ?_
          refine r_callI hw (r_runV (As := [.int v3, .int 0]) (rest := [.ref b_19]) S hw (m_X6_get l D cs E d_16 H.size b_25 v3 0 _) (cwV 2 S.2.2.2.2 (gV wg997 wg623 wg624 wg51 wg625) rfl rfl rfl (by decide +kernel) ⟨Nat.le_of_ble_eq_true rfl, Nat.le_of_ble_eq_true rfl⟩) (ci := 6) rfl ho_27 h rfl hl.1 rfl (Nat.le_of_ble_eq_true rfl) (dd_at ddX10_breaches 34 rfl) ⟨Nat.le_of_ble_eq_true rfl, Nat.le_of_ble_eq_true rfl⟩) (fun r_29 d_28 H locs h hw => ?_)
          refine r_callV hw (r_runV (As := [.int r_29]) (rest := []) S hw (m_X3_goTo l D cs E d_28 H.size b_19 r_29 _) (cwV 1 S.2.2.2.2 (gV wg678 wg679 wg680 wg25 wg681) rfl rfl rfl (by decide +kernel) ⟨Nat.le_of_ble_eq_true rfl, Nat.le_of_ble_eq_true rfl⟩) (ci := 3) rfl ho_21 h rfl hl.1 rfl (Nat.le_of_ble_eq_true rfl) (dd_at ddX10_breaches 35 rfl) ⟨Nat.le_of_ble_eq_true rfl, Nat.le_of_ble_eq_true rfl⟩) (fun d_30 H locs h hw => ?_)
          refine lv_aload_n S.1 S.2.1 (dd_at ddX10_breaches 36 rfl) rfl (lv_at hl 0 rfl) ?_
          obtain ⟨b_32, hb_33, ho_34, h⟩ := h
          refine r_getR S hw 10 5 rfl inG10 (by decide) (List.mem_cons_of_mem _ wg26) (by decide) ha0 hb_33 (dd_at ddX10_breaches 37 rfl) ?_
          refine lv_iload_n S.1 S.2.1 (dd_at ddX10_breaches 38 rfl) rfl (lv_at hl 1 rfl) ?_
          refine r_callI hw (r_runV (As := [.int p1]) (rest := []) S hw (m_X3_coloursOf l D cs E d_30 H.size b_32 p1 _) (cwV 1 S.2.2.2.2 (gV wg1433 wg1434 wg1435 wg25 wg1436) rfl rfl rfl (by decide +kernel) ⟨Nat.le_of_ble_eq_true rfl, Nat.le_of_ble_eq_true rfl⟩) (ci := 3) rfl ho_34 h rfl hl.1 rfl (Nat.le_of_ble_eq_true rfl) (dd_at ddX10_breaches 39 rfl) ⟨Nat.le_of_ble_eq_true rfl, Nat.le_of_ble_eq_true rfl⟩) (fun r_36 d_35 H locs h hw => ?_)
          refine lv_istore (lv' := [(4, .int r_36), (0, .ref a0), (1, .int p1), (2, .int v2), (3, .int v3)]) S.1 S.2.1 (dd_at ddX10_breaches 40 rfl) hl (by decide) rfl (fun ls hl => ?_)
          refine lv_iload_n S.1 S.2.1 (dd_at ddX10_breaches 41 rfl) rfl (lv_at hl 3 rfl) ?_
          refine lv_iconst (v := 1) S.1 S.2.1 (dd_at ddX10_breaches 42 rfl) (by decide) ?_
          refine lv_iload S.1 S.2.1 (dd_at ddX10_breaches 43 rfl) (lv_at hl 0 rfl) ?_
          refine lv_aload_n S.1 S.2.1 (dd_at ddX10_breaches 44 rfl) rfl (lv_at hl 1 rfl) ?_
          obtain ⟨b_37, hb_38, ho_39, h⟩ := h
          refine r_getR S hw 10 0 rfl inG10 (by decide) (List.mem_cons_of_mem _ wg16) (by decide) ha0 hb_38 (dd_at ddX10_breaches 45 rfl) ?_
          obtain ⟨b_40, hb_41, ho_42, h⟩ := h
          refine r_getRN S hw 8 9 rfl inG8 (by decide) nx19 (by decide) ho_39 hb_41 (dd_at ddX10_breaches 46 rfl) ?_
          refine lv_iload_n S.1 S.2.1 (dd_at ddX10_breaches 47 rfl) rfl (lv_at hl 4 rfl) ?_
          refine lv_iconst (v := 2) S.1 S.2.1 (dd_at ddX10_breaches 48 rfl) (by decide) ?_
          refine r_callI hw (r_runV (As := [.int v3, .int 2]) (rest := [.int r_36, .int 1, .int v2]) S hw (m_X6_get l D cs E d_35 H.size b_40 v3 2 _) (cwV 2 S.2.2.2.2 (gV wg997 wg623 wg624 wg51 wg625) rfl rfl rfl (by decide +kernel) ⟨Nat.le_of_ble_eq_true rfl, Nat.le_of_ble_eq_true rfl⟩) (ci := 6) rfl ho_42 h rfl hl.1 rfl (Nat.le_of_ble_eq_true rfl) (dd_at ddX10_breaches 49 rfl) ⟨Nat.le_of_ble_eq_true rfl, Nat.le_of_ble_eq_true rfl⟩) (fun r_44 d_43 H locs h hw => ?_)
          refine lv_ishr S.1 S.2.1 (dd_at ddX10_breaches 50 rfl) ?_
          refine lv_iconst (v := 1) S.1 S.2.1 (dd_at ddX10_breaches 51 rfl) (by decide) ?_
          refine lv_iand S.1 S.2.1 (dd_at ddX10_breaches 52 rfl) ?_
          refine lv_isub S.1 S.2.1 (dd_at ddX10_breaches 53 rfl) ?_
          refine lv_iadd S.1 S.2.1 (dd_at ddX10_breaches 54 rfl) ?_
          refine lv_istore_n (lv' := [(2, .int (v2 + (1 - ((r_36 >>> (r_44 &&& 31)) &&& 1)))), (4, .int r_36), (0, .ref a0), (1, .int p1), (3, .int v3)]) S.1 S.2.1 (dd_at ddX10_breaches 55 rfl) rfl hl (by decide) rfl (fun ls hl => ?_)
          refine lv_iinc (v := v3 + 1) (lv' := [(3, .int (v3 + 1)), (2, .int (v2 + (1 - ((r_36 >>> (r_44 &&& 31)) &&& 1)))), (4, .int r_36), (0, .ref a0), (1, .int p1)]) S.1 S.2.1 (dd_at ddX10_breaches 56 rfl) hl (k := 4) rfl rfl (by decide) rfl (fun ls hl => ?_)
          refine lv_goto (tgt := 23) S.1 S.2.1 (dd_at ddX10_breaches 57 rfl) (by decide) ?_
          exact ih23 (v2 + (1 - ((r_36 >>> (r_44 &&& 31)) &&& 1))) (v3 + 1) d_43 H locs ls h hw (lv_sub hl [3, 4, 1, 0] rfl)
  refine lv_aload_n S.1 S.2.1 (dd_at ddX10_breaches 0 rfl) rfl (lv_at hl 0 rfl) ?_
  refine lv_iload_n S.1 S.2.1 (dd_at ddX10_breaches 1 rfl) rfl (lv_at hl 1 rfl) ?_
  refine r_xcallV hT hlocks hw (r_xrunV (As := [.int p1]) (rest := []) S hw (m_X10_needHut l hst D cs E d H.size a0 p1 _ _) (cwV 1 S.2.2.2.2 (gV wg610 wg611 wg612 wg2 wg613) rfl rfl rfl (by decide +kernel) ⟨Nat.le_of_ble_eq_true rfl, Nat.le_of_ble_eq_true rfl⟩) (ci := 10) rfl ha0 h rfl hl.1 rfl (Nat.le_of_ble_eq_true rfl) (dd_at ddX10_breaches 2 rfl) ⟨Nat.le_of_ble_eq_true rfl, Nat.le_of_ble_eq_true rfl⟩) (Nat.le_of_ble_eq_true rfl) (Nat.le_of_ble_eq_true rfl) (fun d_45 H locs h hw => ?_)
  refine lv_iconst (v := 0) S.1 S.2.1 (dd_at ddX10_breaches 3 rfl) (by decide) ?_
  refine lv_istore_n (lv' := [(2, .int 0), (0, .ref a0), (1, .int p1)]) S.1 S.2.1 (dd_at ddX10_breaches 4 rfl) rfl hl (by decide) rfl (fun ls hl => ?_)
  refine lv_aload_n S.1 S.2.1 (dd_at ddX10_breaches 5 rfl) rfl (lv_at hl 1 rfl) ?_
  obtain ⟨b_47, hb_48, ho_49, h⟩ := h
  refine r_getR S hw 10 5 rfl inG10 (by decide) (List.mem_cons_of_mem _ wg26) (by decide) ha0 hb_48 (dd_at ddX10_breaches 6 rfl) ?_
  refine lv_aload_n S.1 S.2.1 (dd_at ddX10_breaches 7 rfl) rfl (lv_at hl 1 rfl) ?_
  obtain ⟨b_50, hb_51, ho_52, h⟩ := h
  refine r_getR S hw 10 0 rfl inG10 (by decide) (List.mem_cons_of_mem _ wg16) (by decide) ha0 hb_51 (dd_at ddX10_breaches 8 rfl) ?_
  refine r_getIN S hw 8 0 rfl inG8 (by decide) nx0 (by decide) ho_52 (dd_at ddX10_breaches 9 rfl) ?_
  refine r_callV hw (r_runV (As := [.int (gI d_45 b_50 0)]) (rest := []) S hw (m_X3_begin l D cs E d_45 H.size b_47 (gI d_45 b_50 0) _) (cwV 1 S.2.2.2.2 (gV wg661 wg662 wg663 wg25 wg664) rfl rfl rfl (by decide +kernel) ⟨Nat.le_of_ble_eq_true rfl, Nat.le_of_ble_eq_true rfl⟩) (ci := 3) rfl ho_49 h rfl hl.1 rfl (Nat.le_of_ble_eq_true rfl) (dd_at ddX10_breaches 10 rfl) ⟨Nat.le_of_ble_eq_true rfl, Nat.le_of_ble_eq_true rfl⟩) (fun d_53 H locs h hw => ?_)
  refine lv_iconst (v := 0) S.1 S.2.1 (dd_at ddX10_breaches 11 rfl) (by decide) ?_
  refine lv_istore_n (lv' := [(3, .int 0), (2, .int 0), (0, .ref a0), (1, .int p1)]) S.1 S.2.1 (dd_at ddX10_breaches 12 rfl) rfl hl (by decide) rfl (fun ls hl => ?_)
  obtain ⟨n_55, h⟩ := h
  exact tl23 n_55 0 0 d_53 H locs ls h hw (lv_sub hl [2, 3, 1, 0] rfl)

def b_X10_painted_76 (E : En) (a0 : Nat) (p1 : Int32) (K : Int32 → Dy → Prop) (X : String → Dy → Prop) (k12 : Int32 → Int32 → Int32 → Dy → Prop) (v4 : Int32) (v5 : Int32) (s0 : Int32) (s1 : Int32) (d : Dy) : Prop := k12 (s0 + s1) v5 (v4 + 1) d
def b_X10_painted_75 (E : En) (a0 : Nat) (p1 : Int32) (K : Int32 → Dy → Prop) (X : String → Dy → Prop) (k12 : Int32 → Int32 → Int32 → Dy → Prop) (v4 : Int32) (v5 : Int32) (s0 : Int32) (d : Dy) : Prop := b_X10_painted_76 E a0 p1 K X k12 v4 v5 s0 0 d
def b_X10_painted_12 (E : En) (a0 : Nat) (p1 : Int32) (K : Int32 → Dy → Prop) (X : String → Dy → Prop) (k12 : Int32 → Int32 → Int32 → Dy → Prop) (v2 : Int32) (v3 : Int32) (v4 : Int32) (d : Dy) : Prop := ∃ b_1 : Nat, eR E a0 0 = some b_1 ∧ okO E b_1 8 ∧ ∃ b_4 : Nat, eR E b_1 9 = some b_4 ∧ okO E b_4 6 ∧ w_X6_size E b_4 d (fun r_8 d_7 => ((r_8 ≤ v4 → K v2 d_7) ∧ (¬ r_8 ≤ v4 → ∃ b_10 : Nat, eR E a0 0 = some b_10 ∧ okO E b_10 8 ∧ ∃ b_13 : Nat, eR E b_10 9 = some b_13 ∧ okO E b_13 6 ∧ w_X6_get E b_13 v4 1 d_7 (fun r_17 d_16 => ((¬ r_17 = p1 → k12 v2 v3 (v4 + 1) d_16) ∧ (r_17 = p1 → ∃ b_19 : Nat, eR E a0 0 = some b_19 ∧ okO E b_19 8 ∧ ∃ b_22 : Nat, eR E b_19 9 = some b_22 ∧ okO E b_22 6 ∧ w_X6_get E b_22 v4 2 d_16 (fun r_26 d_25 => ((v3 = (-1) → b_X10_painted_75 E a0 p1 K X k12 v4 r_26 v2 d_25) ∧ (¬ v3 = (-1) → ((v3 = r_26 → b_X10_painted_75 E a0 p1 K X k12 v4 r_26 v2 d_25) ∧ (¬ v3 = r_26 → b_X10_painted_76 E a0 p1 K X k12 v4 r_26 v2 1 d_25)))))))))))
def l_X10_painted_12 (E : En) (a0 : Nat) (p1 : Int32) (K : Int32 → Dy → Prop) (X : String → Dy → Prop) : Nat → Int32 → Int32 → Int32 → Dy → Prop
  | 0 => fun _ _ _ _ => False
  | n + 1 => b_X10_painted_12 E a0 p1 K X (l_X10_painted_12 E a0 p1 K X n)
def w_X10_painted (E : En) (a0 : Nat) (p1 : Int32) (d : Dy) (K : Int32 → Dy → Prop) (X : String → Dy → Prop) : Prop := okO E a0 10 ∧ w_X10_needHut E a0 p1 d (fun d_29 => (∃ n_31 : Nat, l_X10_painted_12 E a0 p1 K X n_31 0 (-1) 0 d_29)) X
abbrev rm_X10_painted : Room := { frames := 8, cells := 1, slots := 6, locals := 142 }
set_option maxRecDepth 100000 in
set_option maxHeartbeats 4000000 in
theorem m_X10_painted (l : Launch) (hst : l.stackTraces = false) (D : va_G) (cs : Nat → ClassId) (E : En) (d : Dy) (sz : Nat) (a0 : Nat) (p1 : Int32) (K : Int32 → Dy → Prop) (X : String → Dy → Prop) : XI l yX10_painted (.code yX10_painted cX10_painted 6 (some .int) :: wsL_law) rm_X10_painted D cs E d sz [.ref a0, .int p1] (w_X10_painted E a0 p1 d K X) K X := by
  refine e_ofX (cc := cX10_painted) (maxL := 6) (ret := (some .int)) (own := RX10) (by decide) rfl rfl (Nat.le_of_ble_eq_true rfl) ?_
  intro p e s m below meth c S hr hlocks hsz hT H locs hw h ls hl
  have hl : lv_has ls 6 [(0, .ref a0), (1, .int p1)] := hl
  unfold w_X10_painted at h
  obtain ⟨ha0, h⟩ := h
  have tl12 : ∀ (n : Nat) (v2 : Int32) (v3 : Int32) (v4 : Int32) (d : Dy) (H : Heap) (locs : List Loc) (ls : Array Slot), l_X10_painted_12 E a0 p1 K X n v2 v3 v4 d → Wd D cs (AW E sz) s.heap s E d H locs → lv_has ls 6 [(0, .ref a0), (1, .int p1), (2, .int v2), (3, .int v3), (4, .int v4)] → W p l e rm_X10_painted s m ([.ref a0, .int p1] : List Value).toArray below meth c H locs 1 6 (vx_MQ below (va_Qi K (OutW D cs E (AW E sz)) (AW E sz)) (XX D cs E sz X) ([.ref a0, .int p1] : List Value).toArray s rm_X10_painted.cells rm_X10_painted.slots (AW E sz)) (F0 m 12 ls []) := by
    intro n12
    induction n12 with
    | zero => intro v2 v3 v4 d H locs ls h; exact absurd h id
    | succ n12 ih12 =>
      have tb76 : ∀ (v4 : Int32) (v5 : Int32) (s0 : Int32) (s1 : Int32) (d : Dy) (H : Heap) (locs : List Loc) (ls : Array Slot), b_X10_painted_76 E a0 p1 K X (l_X10_painted_12 E a0 p1 K X n12) v4 v5 s0 s1 d → Wd D cs (AW E sz) s.heap s E d H locs → lv_has ls 6 [(0, .ref a0), (1, .int p1), (4, .int v4), (5, .int v5)] → W p l e rm_X10_painted s m ([.ref a0, .int p1] : List Value).toArray below meth c H locs 1 6 (vx_MQ below (va_Qi K (OutW D cs E (AW E sz)) (AW E sz)) (XX D cs E sz X) ([.ref a0, .int p1] : List Value).toArray s rm_X10_painted.cells rm_X10_painted.slots (AW E sz)) (F0 m 76 ls [.int s1, .int s0]) := by
        intro v4 v5 s0 s1 d H locs ls h hw hl
        unfold b_X10_painted_76 at h
        refine lv_iadd S.1 S.2.1 (dd_at ddX10_painted 40 rfl) ?_
        refine lv_istore_n (lv' := [(2, .int (s0 + s1)), (0, .ref a0), (1, .int p1), (4, .int v4), (5, .int v5)]) S.1 S.2.1 (dd_at ddX10_painted 41 rfl) rfl hl (by decide) rfl (fun ls hl => ?_)
        refine lv_iload S.1 S.2.1 (dd_at ddX10_painted 42 rfl) (lv_at hl 4 rfl) ?_
        refine lv_istore_n (lv' := [(3, .int v5), (2, .int (s0 + s1)), (0, .ref a0), (1, .int p1), (4, .int v4), (5, .int v5)]) S.1 S.2.1 (dd_at ddX10_painted 43 rfl) rfl hl (by decide) rfl (fun ls hl => ?_)
        refine lv_iinc (v := v4 + 1) (lv' := [(4, .int (v4 + 1)), (3, .int v5), (2, .int (s0 + s1)), (0, .ref a0), (1, .int p1), (5, .int v5)]) S.1 S.2.1 (dd_at ddX10_painted 44 rfl) hl (k := 4) rfl rfl (by decide) rfl (fun ls hl => ?_)
        refine lv_goto (tgt := 12) S.1 S.2.1 (dd_at ddX10_painted 45 rfl) (by decide) ?_
        exact ih12 (s0 + s1) v5 (v4 + 1) d H locs ls h hw (lv_sub hl [3, 4, 2, 1, 0] rfl)
      have tb75 : ∀ (v4 : Int32) (v5 : Int32) (s0 : Int32) (d : Dy) (H : Heap) (locs : List Loc) (ls : Array Slot), b_X10_painted_75 E a0 p1 K X (l_X10_painted_12 E a0 p1 K X n12) v4 v5 s0 d → Wd D cs (AW E sz) s.heap s E d H locs → lv_has ls 6 [(0, .ref a0), (1, .int p1), (4, .int v4), (5, .int v5)] → W p l e rm_X10_painted s m ([.ref a0, .int p1] : List Value).toArray below meth c H locs 1 6 (vx_MQ below (va_Qi K (OutW D cs E (AW E sz)) (AW E sz)) (XX D cs E sz X) ([.ref a0, .int p1] : List Value).toArray s rm_X10_painted.cells rm_X10_painted.slots (AW E sz)) (F0 m 75 ls [.int s0]) := by
        intro v4 v5 s0 d H locs ls h hw hl
        unfold b_X10_painted_75 at h
        refine lv_iconst (v := 0) S.1 S.2.1 (dd_at ddX10_painted 39 rfl) (by decide) ?_
        exact tb76 v4 v5 s0 0 d H locs ls h hw (lv_sub hl [0, 1, 2, 3] rfl)
      intro v2 v3 v4 d H locs ls h hw hl
      have h : b_X10_painted_12 E a0 p1 K X (l_X10_painted_12 E a0 p1 K X n12) v2 v3 v4 d := h
      unfold b_X10_painted_12 at h
      refine lv_iload S.1 S.2.1 (dd_at ddX10_painted 9 rfl) (lv_at hl 4 rfl) ?_
      refine lv_aload_n S.1 S.2.1 (dd_at ddX10_painted 10 rfl) rfl (lv_at hl 0 rfl) ?_
      obtain ⟨b_1, hb_2, ho_3, h⟩ := h
      refine r_getR S hw 10 0 rfl inG10 (by decide) (List.mem_cons_of_mem _ wg16) (by decide) ha0 hb_2 (dd_at ddX10_painted 11 rfl) ?_
      obtain ⟨b_4, hb_5, ho_6, h⟩ := h
      refine r_getRN S hw 8 9 rfl inG8 (by decide) nx19 (by decide) ho_3 hb_5 (dd_at ddX10_painted 12 rfl) ?_
      refine r_callI hw (r_runV (As := []) (rest := [.int v4]) S hw (m_X6_size l D cs E d H.size b_4 _) (cwV 0 S.2.2.2.2 (gV wg578 wg372 wg373 wg51 wg374) rfl rfl rfl (by decide +kernel) ⟨Nat.le_of_ble_eq_true rfl, Nat.le_of_ble_eq_true rfl⟩) (ci := 6) rfl ho_6 h rfl hl.1 rfl (Nat.le_of_ble_eq_true rfl) (dd_at ddX10_painted 13 rfl) ⟨Nat.le_of_ble_eq_true rfl, Nat.le_of_ble_eq_true rfl⟩) (fun r_8 d_7 H locs h hw => ?_)
      refine lv_icmp_ge (tgt := 87) S.1 S.2.1 (dd_at ddX10_painted 14 rfl) (by decide) (fun hc_9 => ?_) (fun hc_9 => ?_)
      · have h := h.1 hc_9
        refine lv_iload_n S.1 S.2.1 (dd_at ddX10_painted 46 rfl) rfl (lv_at hl 2 rfl) ?_
        exact vx_ret (e_I S hr hlocks hw h (dd_at ddX10_painted 47 rfl))
      · have h := h.2 hc_9
        refine lv_aload_n S.1 S.2.1 (dd_at ddX10_painted 15 rfl) rfl (lv_at hl 0 rfl) ?_
        obtain ⟨b_10, hb_11, ho_12, h⟩ := h
        refine r_getR S hw 10 0 rfl inG10 (by decide) (List.mem_cons_of_mem _ wg16) (by decide) ha0 hb_11 (dd_at ddX10_painted 16 rfl) ?_
        obtain ⟨b_13, hb_14, ho_15, h⟩ := h
        refine r_getRN S hw 8 9 rfl inG8 (by decide) nx19 (by decide) ho_12 hb_14 (dd_at ddX10_painted 17 rfl) ?_
        refine lv_iload S.1 S.2.1 (dd_at ddX10_painted 18 rfl) (lv_at hl 4 rfl) ?_
        refine lv_iconst (v := 1) S.1 S.2.1 (dd_at ddX10_painted 19 rfl) (by decide) ?_
        refine r_callI hw (r_runV (As := [.int v4, .int 1]) (rest := []) S hw (m_X6_get l D cs E d_7 H.size b_13 v4 1 _) (cwV 2 S.2.2.2.2 (gV wg997 wg623 wg624 wg51 wg625) rfl rfl rfl (by decide +kernel) ⟨Nat.le_of_ble_eq_true rfl, Nat.le_of_ble_eq_true rfl⟩) (ci := 6) rfl ho_15 h rfl hl.1 rfl (Nat.le_of_ble_eq_true rfl) (dd_at ddX10_painted 20 rfl) ⟨Nat.le_of_ble_eq_true rfl, Nat.le_of_ble_eq_true rfl⟩) (fun r_17 d_16 H locs h hw => ?_)
        refine lv_iload_n S.1 S.2.1 (dd_at ddX10_painted 21 rfl) rfl (lv_at hl 1 rfl) ?_
        refine lv_icmp_ne (tgt := 81) S.1 S.2.1 (dd_at ddX10_painted 22 rfl) (by decide) (fun hc_18 => ?_) (fun hc_18 => ?_)
        · have h := h.1 hc_18
          refine lv_iinc (v := v4 + 1) (lv' := [(4, .int (v4 + 1)), (0, .ref a0), (1, .int p1), (2, .int v2), (3, .int v3)]) S.1 S.2.1 (dd_at ddX10_painted 44 rfl) hl (k := 4) rfl rfl (by decide) rfl (fun ls hl => ?_)
          refine lv_goto (tgt := 12) S.1 S.2.1 (dd_at ddX10_painted 45 rfl) (by decide) ?_
          exact ih12 v2 v3 (v4 + 1) d_16 H locs ls h hw (lv_sub hl [1, 2, 3, 4, 0] rfl)
        · have h := h.2 hc_18
          refine lv_aload_n S.1 S.2.1 (dd_at ddX10_painted 23 rfl) rfl (lv_at hl 0 rfl) ?_
          obtain ⟨b_19, hb_20, ho_21, h⟩ := h
          refine r_getR S hw 10 0 rfl inG10 (by decide) (List.mem_cons_of_mem _ wg16) (by decide) ha0 hb_20 (dd_at ddX10_painted 24 rfl) ?_
          obtain ⟨b_22, hb_23, ho_24, h⟩ := h
          refine r_getRN S hw 8 9 rfl inG8 (by decide) nx19 (by decide) ho_21 hb_23 (dd_at ddX10_painted 25 rfl) ?_
          refine lv_iload S.1 S.2.1 (dd_at ddX10_painted 26 rfl) (lv_at hl 4 rfl) ?_
          refine lv_iconst (v := 2) S.1 S.2.1 (dd_at ddX10_painted 27 rfl) (by decide) ?_
          refine r_callI hw (r_runV (As := [.int v4, .int 2]) (rest := []) S hw (m_X6_get l D cs E d_16 H.size b_22 v4 2 _) (cwV 2 S.2.2.2.2 (gV wg997 wg623 wg624 wg51 wg625) rfl rfl rfl (by decide +kernel) ⟨Nat.le_of_ble_eq_true rfl, Nat.le_of_ble_eq_true rfl⟩) (ci := 6) rfl ho_24 h rfl hl.1 rfl (Nat.le_of_ble_eq_true rfl) (dd_at ddX10_painted 28 rfl) ⟨Nat.le_of_ble_eq_true rfl, Nat.le_of_ble_eq_true rfl⟩) (fun r_26 d_25 H locs h hw => ?_)
          refine lv_istore (lv' := [(5, .int r_26), (0, .ref a0), (1, .int p1), (2, .int v2), (3, .int v3), (4, .int v4)]) S.1 S.2.1 (dd_at ddX10_painted 29 rfl) hl (by decide) rfl (fun ls hl => ?_)
          refine lv_iload_n S.1 S.2.1 (dd_at ddX10_painted 30 rfl) rfl (lv_at hl 3 rfl) ?_
          refine lv_iload_n S.1 S.2.1 (dd_at ddX10_painted 31 rfl) rfl (lv_at hl 4 rfl) ?_
          refine lv_iconst (v := -1) S.1 S.2.1 (dd_at ddX10_painted 32 rfl) (by decide) ?_
          refine lv_icmp_eq (tgt := 75) S.1 S.2.1 (dd_at ddX10_painted 33 rfl) (by decide) (fun hc_27 => ?_) (fun hc_27 => ?_)
          · have h := h.1 hc_27
            exact tb75 v4 r_26 v2 d_25 H locs ls h hw (lv_sub hl [1, 2, 5, 0] rfl)
          · have h := h.2 hc_27
            refine lv_iload_n S.1 S.2.1 (dd_at ddX10_painted 34 rfl) rfl (lv_at hl 4 rfl) ?_
            refine lv_iload S.1 S.2.1 (dd_at ddX10_painted 35 rfl) (lv_at hl 0 rfl) ?_
            refine lv_icmp_eq (tgt := 75) S.1 S.2.1 (dd_at ddX10_painted 36 rfl) (by decide) (fun hc_28 => ?_) (fun hc_28 => ?_)
            · have h := h.1 hc_28
              exact tb75 v4 r_26 v2 d_25 H locs ls h hw (lv_sub hl [1, 2, 5, 0] rfl)
            · have h := h.2 hc_28
              refine lv_iconst (v := 1) S.1 S.2.1 (dd_at ddX10_painted 37 rfl) (by decide) ?_
              refine lv_goto (tgt := 76) S.1 S.2.1 (dd_at ddX10_painted 38 rfl) (by decide) ?_
              exact tb76 v4 r_26 v2 1 d_25 H locs ls h hw (lv_sub hl [1, 2, 5, 0] rfl)
  refine lv_aload_n S.1 S.2.1 (dd_at ddX10_painted 0 rfl) rfl (lv_at hl 0 rfl) ?_
  refine lv_iload_n S.1 S.2.1 (dd_at ddX10_painted 1 rfl) rfl (lv_at hl 1 rfl) ?_
  refine r_xcallV hT hlocks hw (r_xrunV (As := [.int p1]) (rest := []) S hw (m_X10_needHut l hst D cs E d H.size a0 p1 _ _) (cwV 1 S.2.2.2.2 (gV wg610 wg611 wg612 wg2 wg613) rfl rfl rfl (by decide +kernel) ⟨Nat.le_of_ble_eq_true rfl, Nat.le_of_ble_eq_true rfl⟩) (ci := 10) rfl ha0 h rfl hl.1 rfl (Nat.le_of_ble_eq_true rfl) (dd_at ddX10_painted 2 rfl) ⟨Nat.le_of_ble_eq_true rfl, Nat.le_of_ble_eq_true rfl⟩) (Nat.le_of_ble_eq_true rfl) (Nat.le_of_ble_eq_true rfl) (fun d_29 H locs h hw => ?_)
  refine lv_iconst (v := 0) S.1 S.2.1 (dd_at ddX10_painted 3 rfl) (by decide) ?_
  refine lv_istore_n (lv' := [(2, .int 0), (0, .ref a0), (1, .int p1)]) S.1 S.2.1 (dd_at ddX10_painted 4 rfl) rfl hl (by decide) rfl (fun ls hl => ?_)
  refine lv_iconst (v := -1) S.1 S.2.1 (dd_at ddX10_painted 5 rfl) (by decide) ?_
  refine lv_istore_n (lv' := [(3, .int (-1)), (2, .int 0), (0, .ref a0), (1, .int p1)]) S.1 S.2.1 (dd_at ddX10_painted 6 rfl) rfl hl (by decide) rfl (fun ls hl => ?_)
  refine lv_iconst (v := 0) S.1 S.2.1 (dd_at ddX10_painted 7 rfl) (by decide) ?_
  refine lv_istore (lv' := [(4, .int 0), (3, .int (-1)), (2, .int 0), (0, .ref a0), (1, .int p1)]) S.1 S.2.1 (dd_at ddX10_painted 8 rfl) hl (by decide) rfl (fun ls hl => ?_)
  obtain ⟨n_31, h⟩ := h
  exact tl12 n_31 0 (-1) 0 d_29 H locs ls h hw (lv_sub hl [3, 4, 2, 1, 0] rfl)

def w_X10_thief (E : En) (a0 : Nat) (p1 : Int32) (d : Dy) (K : Int32 → Dy → Prop) (X : String → Dy → Prop) : Prop := okO E a0 10 ∧ w_X10_needBetween E p1 0 365 d (fun d_1 => ∃ b_3 : Nat, eR E a0 0 = some b_3 ∧ okO E b_3 8 ∧ ∃ b_6 : Nat, eR E b_3 10 = some b_6 ∧ okO E b_6 6 ∧ w_X10_needRoom E b_6 d_1 (fun d_9 => ∃ b_11 : Nat, eR E a0 0 = some b_11 ∧ okO E b_11 8 ∧ ∃ b_14 : Nat, eR E b_11 10 = some b_14 ∧ okO E b_14 6 ∧ ∃ b_17 : Nat, eR E a0 0 = some b_17 ∧ okO E b_17 8 ∧ ∃ b_20 : Nat, eR E b_17 10 = some b_20 ∧ okO E b_20 6 ∧ w_X6_open E b_20 d_9 (fun r_24 d_23 => w_X6_set E b_14 r_24 0 p1 d_23 (fun d_25 => ∃ b_27 : Nat, eR E a0 0 = some b_27 ∧ okO E b_27 8 ∧ ∃ b_30 : Nat, eR E b_27 10 = some b_30 ∧ okO E b_30 6 ∧ w_X6_size E b_30 d_25 (fun r_34 d_33 => K r_34 d_33)))) X) X
abbrev rm_X10_thief : Room := { frames := 8, cells := 2, slots := 12, locals := 142 }
set_option maxRecDepth 100000 in
set_option maxHeartbeats 4000000 in
theorem m_X10_thief (l : Launch) (hst : l.stackTraces = false) (D : va_G) (cs : Nat → ClassId) (E : En) (d : Dy) (sz : Nat) (a0 : Nat) (p1 : Int32) (K : Int32 → Dy → Prop) (X : String → Dy → Prop) : XI l yX10_thief (.code yX10_thief cX10_thief 2 (some .int) :: wsL_law) rm_X10_thief D cs E d sz [.ref a0, .int p1] (w_X10_thief E a0 p1 d K X) K X := by
  refine e_ofX (cc := cX10_thief) (maxL := 2) (ret := (some .int)) (own := RX10) (by decide) rfl rfl (Nat.le_of_ble_eq_true rfl) ?_
  intro p e s m below meth c S hr hlocks hsz hT H locs hw h ls hl
  have hl : lv_has ls 2 [(0, .ref a0), (1, .int p1)] := hl
  unfold w_X10_thief at h
  obtain ⟨ha0, h⟩ := h
  refine lv_iload_n S.1 S.2.1 (dd_at ddX10_thief 0 rfl) rfl (lv_at hl 1 rfl) ?_
  refine lv_iconst (v := 0) S.1 S.2.1 (dd_at ddX10_thief 1 rfl) (by decide) ?_
  refine lv_sipush (v := 365) S.1 S.2.1 (dd_at ddX10_thief 2 rfl) (by decide) ?_
  refine r_xcallV hT hlocks hw (r_xrunS (As := [.int p1, .int 0, .int 365]) (rest := []) S hw (m_X10_needBetween l hst D cs E d H.size p1 0 365 _ _) (va_cwS 3 S.2.2.2.2 (gS wg525 wg526 wg2 wg527) rfl rfl rfl (by decide +kernel) ⟨Nat.le_of_ble_eq_true rfl, Nat.le_of_ble_eq_true rfl⟩) h rfl hl.1 rfl (Nat.le_of_ble_eq_true rfl) (dd_at ddX10_thief 3 rfl) ⟨Nat.le_of_ble_eq_true rfl, Nat.le_of_ble_eq_true rfl⟩) (Nat.le_of_ble_eq_true rfl) (Nat.le_of_ble_eq_true rfl) (fun d_1 H locs h hw => ?_)
  refine lv_aload_n S.1 S.2.1 (dd_at ddX10_thief 4 rfl) rfl (lv_at hl 0 rfl) ?_
  obtain ⟨b_3, hb_4, ho_5, h⟩ := h
  refine r_getR S hw 10 0 rfl inG10 (by decide) (List.mem_cons_of_mem _ wg16) (by decide) ha0 hb_4 (dd_at ddX10_thief 5 rfl) ?_
  obtain ⟨b_6, hb_7, ho_8, h⟩ := h
  refine r_getRN S hw 8 10 rfl inG8 (by decide) nx20 (by decide) ho_5 hb_7 (dd_at ddX10_thief 6 rfl) ?_
  refine r_xcallV hT hlocks hw (r_xrunS (As := [.ref b_6]) (rest := []) S hw (m_X10_needRoom l hst D cs E d_1 H.size b_6 _ _) (va_cwS 1 S.2.2.2.2 (gS wg540 wg541 wg2 wg542) rfl rfl rfl (by decide +kernel) ⟨Nat.le_of_ble_eq_true rfl, Nat.le_of_ble_eq_true rfl⟩) h rfl hl.1 rfl (Nat.le_of_ble_eq_true rfl) (dd_at ddX10_thief 7 rfl) ⟨Nat.le_of_ble_eq_true rfl, Nat.le_of_ble_eq_true rfl⟩) (Nat.le_of_ble_eq_true rfl) (Nat.le_of_ble_eq_true rfl) (fun d_9 H locs h hw => ?_)
  refine lv_aload_n S.1 S.2.1 (dd_at ddX10_thief 8 rfl) rfl (lv_at hl 0 rfl) ?_
  obtain ⟨b_11, hb_12, ho_13, h⟩ := h
  refine r_getR S hw 10 0 rfl inG10 (by decide) (List.mem_cons_of_mem _ wg16) (by decide) ha0 hb_12 (dd_at ddX10_thief 9 rfl) ?_
  obtain ⟨b_14, hb_15, ho_16, h⟩ := h
  refine r_getRN S hw 8 10 rfl inG8 (by decide) nx20 (by decide) ho_13 hb_15 (dd_at ddX10_thief 10 rfl) ?_
  refine lv_aload_n S.1 S.2.1 (dd_at ddX10_thief 11 rfl) rfl (lv_at hl 0 rfl) ?_
  obtain ⟨b_17, hb_18, ho_19, h⟩ := h
  refine r_getR S hw 10 0 rfl inG10 (by decide) (List.mem_cons_of_mem _ wg16) (by decide) ha0 hb_18 (dd_at ddX10_thief 12 rfl) ?_
  obtain ⟨b_20, hb_21, ho_22, h⟩ := h
  refine r_getRN S hw 8 10 rfl inG8 (by decide) nx20 (by decide) ho_19 hb_21 (dd_at ddX10_thief 13 rfl) ?_
  refine r_callI hw (r_runV (As := []) (rest := [.ref b_14]) S hw (m_X6_open l D cs E d_9 H.size b_20 _) (cwV 0 S.2.2.2.2 (gV wg549 wg310 wg311 wg51 wg312) rfl rfl rfl (by decide +kernel) ⟨Nat.le_of_ble_eq_true rfl, Nat.le_of_ble_eq_true rfl⟩) (ci := 6) rfl ho_22 h rfl hl.1 rfl (Nat.le_of_ble_eq_true rfl) (dd_at ddX10_thief 14 rfl) ⟨Nat.le_of_ble_eq_true rfl, Nat.le_of_ble_eq_true rfl⟩) (fun r_24 d_23 H locs h hw => ?_)
  refine lv_iconst (v := 0) S.1 S.2.1 (dd_at ddX10_thief 15 rfl) (by decide) ?_
  refine lv_iload_n S.1 S.2.1 (dd_at ddX10_thief 16 rfl) rfl (lv_at hl 1 rfl) ?_
  refine r_callV hw (r_runV (As := [.int r_24, .int 0, .int p1]) (rest := []) S hw (m_X6_set l D cs E d_23 H.size b_14 r_24 0 p1 _) (cwV 3 S.2.2.2.2 (gV wg550 wg318 wg319 wg51 wg320) rfl rfl rfl (by decide +kernel) ⟨Nat.le_of_ble_eq_true rfl, Nat.le_of_ble_eq_true rfl⟩) (ci := 6) rfl ho_16 h rfl hl.1 rfl (Nat.le_of_ble_eq_true rfl) (dd_at ddX10_thief 17 rfl) ⟨Nat.le_of_ble_eq_true rfl, Nat.le_of_ble_eq_true rfl⟩) (fun d_25 H locs h hw => ?_)
  refine lv_aload_n S.1 S.2.1 (dd_at ddX10_thief 18 rfl) rfl (lv_at hl 0 rfl) ?_
  obtain ⟨b_27, hb_28, ho_29, h⟩ := h
  refine r_getR S hw 10 0 rfl inG10 (by decide) (List.mem_cons_of_mem _ wg16) (by decide) ha0 hb_28 (dd_at ddX10_thief 19 rfl) ?_
  obtain ⟨b_30, hb_31, ho_32, h⟩ := h
  refine r_getRN S hw 8 10 rfl inG8 (by decide) nx20 (by decide) ho_29 hb_31 (dd_at ddX10_thief 20 rfl) ?_
  refine r_callI hw (r_runV (As := []) (rest := []) S hw (m_X6_size l D cs E d_25 H.size b_30 _) (cwV 0 S.2.2.2.2 (gV wg578 wg372 wg373 wg51 wg374) rfl rfl rfl (by decide +kernel) ⟨Nat.le_of_ble_eq_true rfl, Nat.le_of_ble_eq_true rfl⟩) (ci := 6) rfl ho_32 h rfl hl.1 rfl (Nat.le_of_ble_eq_true rfl) (dd_at ddX10_thief 21 rfl) ⟨Nat.le_of_ble_eq_true rfl, Nat.le_of_ble_eq_true rfl⟩) (fun r_34 d_33 H locs h hw => ?_)
  exact vx_ret (e_I S hr hlocks hw h (dd_at ddX10_thief 22 rfl))

def b_X10_allFallOn_2 (E : En) (a0 : Nat) (p1 : Int32) (p2 : Int32) (K : Int32 → Dy → Prop) (k2 : Int32 → Dy → Prop) (v3 : Int32) (d : Dy) : Prop := ∃ b_1 : Nat, eR E a0 0 = some b_1 ∧ okO E b_1 8 ∧ ∃ b_4 : Nat, eR E b_1 10 = some b_4 ∧ okO E b_4 6 ∧ w_X6_size E b_4 d (fun r_8 d_7 => ((r_8 ≤ v3 → K 1 d_7) ∧ (¬ r_8 ≤ v3 → ((p1 < 1 → K 0 d_7) ∧ (¬ p1 < 1 → ∃ b_11 : Nat, eR E a0 0 = some b_11 ∧ okO E b_11 8 ∧ ∃ b_14 : Nat, eR E b_11 10 = some b_14 ∧ okO E b_14 6 ∧ w_X6_get E b_14 v3 0 d_7 (fun r_18 d_17 => ¬ p1 = 0 ∧ ((((p2 - r_18) - (p2 - r_18) / p1 * p1) = 0 → k2 (v3 + 1) d_17) ∧ (¬ ((p2 - r_18) - (p2 - r_18) / p1 * p1) = 0 → K 0 d_17))))))))
def l_X10_allFallOn_2 (E : En) (a0 : Nat) (p1 : Int32) (p2 : Int32) (K : Int32 → Dy → Prop) : Nat → Int32 → Dy → Prop
  | 0 => fun _ _ => False
  | n + 1 => b_X10_allFallOn_2 E a0 p1 p2 K (l_X10_allFallOn_2 E a0 p1 p2 K n)
def w_X10_allFallOn (E : En) (a0 : Nat) (p1 : Int32) (p2 : Int32) (d : Dy) (K : Int32 → Dy → Prop) : Prop := okO E a0 10 ∧ (∃ n_21 : Nat, l_X10_allFallOn_2 E a0 p1 p2 K n_21 0 d)
abbrev rm_X10_allFallOn : Room := { frames := 1, cells := 0, slots := 0, locals := 23 }
set_option maxRecDepth 100000 in
set_option maxHeartbeats 4000000 in
theorem m_X10_allFallOn (l : Launch) (D : va_G) (cs : Nat → ClassId) (E : En) (d : Dy) (sz : Nat) (a0 : Nat) (p1 : Int32) (p2 : Int32) (K : Int32 → Dy → Prop) : CI l yX10_allFallOn (.code yX10_allFallOn cX10_allFallOn 4 (some .boolean) :: wsL_law) rm_X10_allFallOn D cs E d sz [.ref a0, .int p1, .int p2] (w_X10_allFallOn E a0 p1 p2 d K) K := by
  refine e_of (cc := cX10_allFallOn) (maxL := 4) (ret := (some .boolean)) (own := RX10) (by decide) rfl rfl (Nat.le_of_ble_eq_true rfl) ?_
  intro p e s m below meth c S hr hlocks hsz H locs hw h ls hl
  have hl : lv_has ls 4 [(0, .ref a0), (1, .int p1), (2, .int p2)] := hl
  unfold w_X10_allFallOn at h
  obtain ⟨ha0, h⟩ := h
  have tl2 : ∀ (n : Nat) (v3 : Int32) (d : Dy) (H : Heap) (locs : List Loc) (ls : Array Slot), l_X10_allFallOn_2 E a0 p1 p2 K n v3 d → Wd D cs (AW E sz) s.heap s E d H locs → lv_has ls 4 [(0, .ref a0), (1, .int p1), (2, .int p2), (3, .int v3)] → W p l e rm_X10_allFallOn s m ([.ref a0, .int p1, .int p2] : List Value).toArray below meth c H locs 0 0 (MQ below (va_Qi K (OutW D cs E (AW E sz)) (AW E sz)) ([.ref a0, .int p1, .int p2] : List Value).toArray s rm_X10_allFallOn.cells rm_X10_allFallOn.slots (AW E sz)) (F0 m 2 ls []) := by
    intro n2
    induction n2 with
    | zero => intro v3 d H locs ls h; exact absurd h id
    | succ n2 ih2 =>
      intro v3 d H locs ls h hw hl
      have h : b_X10_allFallOn_2 E a0 p1 p2 K (l_X10_allFallOn_2 E a0 p1 p2 K n2) v3 d := h
      unfold b_X10_allFallOn_2 at h
      refine lv_iload_n S.1 S.2.1 (dd_at ddX10_allFallOn 2 rfl) rfl (lv_at hl 3 rfl) ?_
      refine lv_aload_n S.1 S.2.1 (dd_at ddX10_allFallOn 3 rfl) rfl (lv_at hl 0 rfl) ?_
      obtain ⟨b_1, hb_2, ho_3, h⟩ := h
      refine r_getR S hw 10 0 rfl inG10 (by decide) (List.mem_cons_of_mem _ wg16) (by decide) ha0 hb_2 (dd_at ddX10_allFallOn 4 rfl) ?_
      obtain ⟨b_4, hb_5, ho_6, h⟩ := h
      refine r_getRN S hw 8 10 rfl inG8 (by decide) nx20 (by decide) ho_3 hb_5 (dd_at ddX10_allFallOn 5 rfl) ?_
      refine r_callI hw (r_runV (As := []) (rest := [.int v3]) S hw (m_X6_size l D cs E d H.size b_4 _) (cwV 0 S.2.2.2.2 (gV wg578 wg372 wg373 wg51 wg374) rfl rfl rfl (by decide +kernel) ⟨Nat.le_of_ble_eq_true rfl, Nat.le_of_ble_eq_true rfl⟩) (ci := 6) rfl ho_6 h rfl hl.1 rfl (Nat.le_of_ble_eq_true rfl) (dd_at ddX10_allFallOn 6 rfl) ⟨Nat.le_of_ble_eq_true rfl, Nat.le_of_ble_eq_true rfl⟩) (fun r_8 d_7 H locs h hw => ?_)
      refine lv_icmp_ge (tgt := 48) S.1 S.2.1 (dd_at ddX10_allFallOn 7 rfl) (by decide) (fun hc_9 => ?_) (fun hc_9 => ?_)
      · have h := h.1 hc_9
        refine lv_iconst (v := 1) S.1 S.2.1 (dd_at ddX10_allFallOn 26 rfl) (by decide) ?_
        exact e_Z S hr hlocks hw (Or.inr rfl) h (dd_at ddX10_allFallOn 27 rfl)
      · have h := h.2 hc_9
        refine lv_iload_n S.1 S.2.1 (dd_at ddX10_allFallOn 8 rfl) rfl (lv_at hl 1 rfl) ?_
        refine lv_iconst (v := 1) S.1 S.2.1 (dd_at ddX10_allFallOn 9 rfl) (by decide) ?_
        refine lv_icmp_lt (tgt := 40) S.1 S.2.1 (dd_at ddX10_allFallOn 10 rfl) (by decide) (fun hc_10 => ?_) (fun hc_10 => ?_)
        · have h := h.1 hc_10
          refine lv_iconst (v := 0) S.1 S.2.1 (dd_at ddX10_allFallOn 22 rfl) (by decide) ?_
          exact e_Z S hr hlocks hw (Or.inl rfl) h (dd_at ddX10_allFallOn 23 rfl)
        · have h := h.2 hc_10
          refine lv_iload_n S.1 S.2.1 (dd_at ddX10_allFallOn 11 rfl) rfl (lv_at hl 2 rfl) ?_
          refine lv_aload_n S.1 S.2.1 (dd_at ddX10_allFallOn 12 rfl) rfl (lv_at hl 0 rfl) ?_
          obtain ⟨b_11, hb_12, ho_13, h⟩ := h
          refine r_getR S hw 10 0 rfl inG10 (by decide) (List.mem_cons_of_mem _ wg16) (by decide) ha0 hb_12 (dd_at ddX10_allFallOn 13 rfl) ?_
          obtain ⟨b_14, hb_15, ho_16, h⟩ := h
          refine r_getRN S hw 8 10 rfl inG8 (by decide) nx20 (by decide) ho_13 hb_15 (dd_at ddX10_allFallOn 14 rfl) ?_
          refine lv_iload_n S.1 S.2.1 (dd_at ddX10_allFallOn 15 rfl) rfl (lv_at hl 3 rfl) ?_
          refine lv_iconst (v := 0) S.1 S.2.1 (dd_at ddX10_allFallOn 16 rfl) (by decide) ?_
          refine r_callI hw (r_runV (As := [.int v3, .int 0]) (rest := [.int p2]) S hw (m_X6_get l D cs E d_7 H.size b_14 v3 0 _) (cwV 2 S.2.2.2.2 (gV wg997 wg623 wg624 wg51 wg625) rfl rfl rfl (by decide +kernel) ⟨Nat.le_of_ble_eq_true rfl, Nat.le_of_ble_eq_true rfl⟩) (ci := 6) rfl ho_16 h rfl hl.1 rfl (Nat.le_of_ble_eq_true rfl) (dd_at ddX10_allFallOn 17 rfl) ⟨Nat.le_of_ble_eq_true rfl, Nat.le_of_ble_eq_true rfl⟩) (fun r_18 d_17 H locs h hw => ?_)
          refine lv_isub S.1 S.2.1 (dd_at ddX10_allFallOn 18 rfl) ?_
          refine lv_iload_n S.1 S.2.1 (dd_at ddX10_allFallOn 19 rfl) rfl (lv_at hl 1 rfl) ?_
          obtain ⟨hz_19, h⟩ := h
          refine lv_irem S.1 S.2.1 (dd_at ddX10_allFallOn 20 rfl) hz_19 ?_
          refine lv_if_eq (tgt := 42) S.1 S.2.1 (dd_at ddX10_allFallOn 21 rfl) (by decide) (fun hc_20 => ?_) (fun hc_20 => ?_)
          · have h := h.1 hc_20
            refine lv_iinc (v := v3 + 1) (lv' := [(3, .int (v3 + 1)), (0, .ref a0), (1, .int p1), (2, .int p2)]) S.1 S.2.1 (dd_at ddX10_allFallOn 24 rfl) hl (k := 3) rfl rfl (by decide) rfl (fun ls hl => ?_)
            refine lv_goto (tgt := 2) S.1 S.2.1 (dd_at ddX10_allFallOn 25 rfl) (by decide) ?_
            exact ih2 (v3 + 1) d_17 H locs ls h hw (lv_sub hl [1, 2, 3, 0] rfl)
          · have h := h.2 hc_20
            refine lv_iconst (v := 0) S.1 S.2.1 (dd_at ddX10_allFallOn 22 rfl) (by decide) ?_
            exact e_Z S hr hlocks hw (Or.inl rfl) h (dd_at ddX10_allFallOn 23 rfl)
  refine lv_iconst (v := 0) S.1 S.2.1 (dd_at ddX10_allFallOn 0 rfl) (by decide) ?_
  refine lv_istore_n (lv' := [(3, .int 0), (0, .ref a0), (1, .int p1), (2, .int p2)]) S.1 S.2.1 (dd_at ddX10_allFallOn 1 rfl) rfl hl (by decide) rfl (fun ls hl => ?_)
  obtain ⟨n_21, h⟩ := h
  exact tl2 n_21 0 d H locs ls h hw (lv_sub hl [1, 2, 3, 0] rfl)

def b_X10_thieves_59 (E : En) (a0 : Nat) (p1 : Int32) (K : Int32 → Dy → Prop) (k59 : Int32 → Int32 → Dy → Prop) (v2 : Int32) (v3 : Int32) (d : Dy) : Prop := ((40 < v3 → K (-1) d) ∧ (¬ 40 < v3 → w_X10_allFallOn E a0 v3 v2 d (fun r_3 d_2 => ((r_3 = 0 → k59 v2 (v3 + 1) d_2) ∧ (¬ r_3 = 0 → ((p1 = 0 → K v3 d_2) ∧ (¬ p1 = 0 → K (v2 + v3) d_2)))))))
def l_X10_thieves_59 (E : En) (a0 : Nat) (p1 : Int32) (K : Int32 → Dy → Prop) : Nat → Int32 → Int32 → Dy → Prop
  | 0 => fun _ _ _ => False
  | n + 1 => b_X10_thieves_59 E a0 p1 K (l_X10_thieves_59 E a0 p1 K n)
def b_X10_thieves_20 (E : En) (a0 : Nat) (p1 : Int32) (K : Int32 → Dy → Prop) (k20 : Int32 → Int32 → Dy → Prop) (v2 : Int32) (v3 : Int32) (d : Dy) : Prop := ∃ b_6 : Nat, eR E a0 0 = some b_6 ∧ okO E b_6 8 ∧ ∃ b_9 : Nat, eR E b_6 10 = some b_9 ∧ okO E b_9 6 ∧ w_X6_size E b_9 d (fun r_13 d_12 => ((r_13 ≤ v3 → (∃ n_15 : Nat, l_X10_thieves_59 E a0 p1 K n_15 v2 2 d_12)) ∧ (¬ r_13 ≤ v3 → ∃ b_16 : Nat, eR E a0 0 = some b_16 ∧ okO E b_16 8 ∧ ∃ b_19 : Nat, eR E b_16 10 = some b_19 ∧ okO E b_19 6 ∧ w_X6_get E b_19 v3 0 d_12 (fun r_23 d_22 => k20 (if v2 < r_23 then r_23 else v2) (v3 + 1) d_22))))
def l_X10_thieves_20 (E : En) (a0 : Nat) (p1 : Int32) (K : Int32 → Dy → Prop) : Nat → Int32 → Int32 → Dy → Prop
  | 0 => fun _ _ _ => False
  | n + 1 => b_X10_thieves_20 E a0 p1 K (l_X10_thieves_20 E a0 p1 K n)
def w_X10_thieves (E : En) (a0 : Nat) (p1 : Int32) (d : Dy) (K : Int32 → Dy → Prop) : Prop := okO E a0 10 ∧ ∃ b_24 : Nat, eR E a0 0 = some b_24 ∧ okO E b_24 8 ∧ ∃ b_27 : Nat, eR E b_24 10 = some b_27 ∧ okO E b_27 6 ∧ w_X6_size E b_27 d (fun r_31 d_30 => ((2 ≤ r_31 → (∃ n_33 : Nat, l_X10_thieves_20 E a0 p1 K n_33 0 0 d_30)) ∧ (¬ 2 ≤ r_31 → K (-1) d_30)))
abbrev rm_X10_thieves : Room := { frames := 2, cells := 0, slots := 0, locals := 46 }
set_option maxRecDepth 100000 in
set_option maxHeartbeats 4000000 in
theorem m_X10_thieves (l : Launch) (D : va_G) (cs : Nat → ClassId) (E : En) (d : Dy) (sz : Nat) (a0 : Nat) (p1 : Int32) (K : Int32 → Dy → Prop) : CI l yX10_thieves (.code yX10_thieves cX10_thieves 4 (some .int) :: wsL_law) rm_X10_thieves D cs E d sz [.ref a0, .int p1] (w_X10_thieves E a0 p1 d K) K := by
  refine e_of (cc := cX10_thieves) (maxL := 4) (ret := (some .int)) (own := RX10) (by decide) rfl rfl (Nat.le_of_ble_eq_true rfl) ?_
  intro p e s m below meth c S hr hlocks hsz H locs hw h ls hl
  have hl : lv_has ls 4 [(0, .ref a0), (1, .int p1)] := hl
  unfold w_X10_thieves at h
  obtain ⟨ha0, h⟩ := h
  have tl59 : ∀ (n : Nat) (v2 : Int32) (v3 : Int32) (d : Dy) (H : Heap) (locs : List Loc) (ls : Array Slot), l_X10_thieves_59 E a0 p1 K n v2 v3 d → Wd D cs (AW E sz) s.heap s E d H locs → lv_has ls 4 [(0, .ref a0), (1, .int p1), (2, .int v2), (3, .int v3)] → W p l e rm_X10_thieves s m ([.ref a0, .int p1] : List Value).toArray below meth c H locs 0 0 (MQ below (va_Qi K (OutW D cs E (AW E sz)) (AW E sz)) ([.ref a0, .int p1] : List Value).toArray s rm_X10_thieves.cells rm_X10_thieves.slots (AW E sz)) (F0 m 59 ls []) := by
    intro n59
    induction n59 with
    | zero => intro v2 v3 d H locs ls h; exact absurd h id
    | succ n59 ih59 =>
      intro v2 v3 d H locs ls h hw hl
      have h : b_X10_thieves_59 E a0 p1 K (l_X10_thieves_59 E a0 p1 K n59) v2 v3 d := h
      unfold b_X10_thieves_59 at h
      refine lv_iload_n S.1 S.2.1 (dd_at ddX10_thieves 31 rfl) rfl (lv_at hl 3 rfl) ?_
      refine lv_bipush (v := 40) S.1 S.2.1 (dd_at ddX10_thieves 32 rfl) (by decide) ?_
      refine lv_icmp_gt (tgt := 92) S.1 S.2.1 (dd_at ddX10_thieves 33 rfl) (by decide) (fun hc_1 => ?_) (fun hc_1 => ?_)
      · have h := h.1 hc_1
        refine lv_iconst (v := -1) S.1 S.2.1 (dd_at ddX10_thieves 49 rfl) (by decide) ?_
        exact e_I S hr hlocks hw h (dd_at ddX10_thieves 50 rfl)
      · have h := h.2 hc_1
        refine lv_aload_n S.1 S.2.1 (dd_at ddX10_thieves 34 rfl) rfl (lv_at hl 0 rfl) ?_
        refine lv_iload_n S.1 S.2.1 (dd_at ddX10_thieves 35 rfl) rfl (lv_at hl 3 rfl) ?_
        refine lv_iload_n S.1 S.2.1 (dd_at ddX10_thieves 36 rfl) rfl (lv_at hl 2 rfl) ?_
        refine r_callI hw (r_runV (As := [.int v3, .int v2]) (rest := []) S hw (m_X10_allFallOn l D cs E d H.size a0 v3 v2 _) (cwV 2 S.2.2.2.2 (gV wg1486 wg1487 wg1488 wg2 wg1489) rfl rfl rfl (by decide +kernel) ⟨Nat.le_of_ble_eq_true rfl, Nat.le_of_ble_eq_true rfl⟩) (ci := 10) rfl ha0 h rfl hl.1 rfl (Nat.le_of_ble_eq_true rfl) (dd_at ddX10_thieves 37 rfl) ⟨Nat.le_of_ble_eq_true rfl, Nat.le_of_ble_eq_true rfl⟩) (fun r_3 d_2 H locs h hw => ?_)
        refine lv_if_eq (tgt := 86) S.1 S.2.1 (dd_at ddX10_thieves 38 rfl) (by decide) (fun hc_4 => ?_) (fun hc_4 => ?_)
        · have h := h.1 hc_4
          refine lv_iinc (v := v3 + 1) (lv' := [(3, .int (v3 + 1)), (0, .ref a0), (1, .int p1), (2, .int v2)]) S.1 S.2.1 (dd_at ddX10_thieves 47 rfl) hl (k := 3) rfl rfl (by decide) rfl (fun ls hl => ?_)
          refine lv_goto (tgt := 59) S.1 S.2.1 (dd_at ddX10_thieves 48 rfl) (by decide) ?_
          exact ih59 v2 (v3 + 1) d_2 H locs ls h hw (lv_sub hl [1, 2, 3, 0] rfl)
        · have h := h.2 hc_4
          refine lv_iload_n S.1 S.2.1 (dd_at ddX10_thieves 39 rfl) rfl (lv_at hl 1 rfl) ?_
          refine lv_if_eq (tgt := 84) S.1 S.2.1 (dd_at ddX10_thieves 40 rfl) (by decide) (fun hc_5 => ?_) (fun hc_5 => ?_)
          · have h := h.1 hc_5
            refine lv_iload_n S.1 S.2.1 (dd_at ddX10_thieves 45 rfl) rfl (lv_at hl 3 rfl) ?_
            exact e_I S hr hlocks hw h (dd_at ddX10_thieves 46 rfl)
          · have h := h.2 hc_5
            refine lv_iload_n S.1 S.2.1 (dd_at ddX10_thieves 41 rfl) rfl (lv_at hl 2 rfl) ?_
            refine lv_iload_n S.1 S.2.1 (dd_at ddX10_thieves 42 rfl) rfl (lv_at hl 3 rfl) ?_
            refine lv_iadd S.1 S.2.1 (dd_at ddX10_thieves 43 rfl) ?_
            refine lv_goto (tgt := 85) S.1 S.2.1 (dd_at ddX10_thieves 44 rfl) (by decide) ?_
            exact e_I S hr hlocks hw h (dd_at ddX10_thieves 46 rfl)
  have tl20 : ∀ (n : Nat) (v2 : Int32) (v3 : Int32) (d : Dy) (H : Heap) (locs : List Loc) (ls : Array Slot), l_X10_thieves_20 E a0 p1 K n v2 v3 d → Wd D cs (AW E sz) s.heap s E d H locs → lv_has ls 4 [(0, .ref a0), (1, .int p1), (2, .int v2), (3, .int v3)] → W p l e rm_X10_thieves s m ([.ref a0, .int p1] : List Value).toArray below meth c H locs 0 0 (MQ below (va_Qi K (OutW D cs E (AW E sz)) (AW E sz)) ([.ref a0, .int p1] : List Value).toArray s rm_X10_thieves.cells rm_X10_thieves.slots (AW E sz)) (F0 m 20 ls []) := by
    intro n20
    induction n20 with
    | zero => intro v2 v3 d H locs ls h; exact absurd h id
    | succ n20 ih20 =>
      intro v2 v3 d H locs ls h hw hl
      have h : b_X10_thieves_20 E a0 p1 K (l_X10_thieves_20 E a0 p1 K n20) v2 v3 d := h
      unfold b_X10_thieves_20 at h
      refine lv_iload_n S.1 S.2.1 (dd_at ddX10_thieves 12 rfl) rfl (lv_at hl 3 rfl) ?_
      refine lv_aload_n S.1 S.2.1 (dd_at ddX10_thieves 13 rfl) rfl (lv_at hl 0 rfl) ?_
      obtain ⟨b_6, hb_7, ho_8, h⟩ := h
      refine r_getR S hw 10 0 rfl inG10 (by decide) (List.mem_cons_of_mem _ wg16) (by decide) ha0 hb_7 (dd_at ddX10_thieves 14 rfl) ?_
      obtain ⟨b_9, hb_10, ho_11, h⟩ := h
      refine r_getRN S hw 8 10 rfl inG8 (by decide) nx20 (by decide) ho_8 hb_10 (dd_at ddX10_thieves 15 rfl) ?_
      refine r_callI hw (r_runV (As := []) (rest := [.int v3]) S hw (m_X6_size l D cs E d H.size b_9 _) (cwV 0 S.2.2.2.2 (gV wg578 wg372 wg373 wg51 wg374) rfl rfl rfl (by decide +kernel) ⟨Nat.le_of_ble_eq_true rfl, Nat.le_of_ble_eq_true rfl⟩) (ci := 6) rfl ho_11 h rfl hl.1 rfl (Nat.le_of_ble_eq_true rfl) (dd_at ddX10_thieves 16 rfl) ⟨Nat.le_of_ble_eq_true rfl, Nat.le_of_ble_eq_true rfl⟩) (fun r_13 d_12 H locs h hw => ?_)
      refine lv_icmp_ge (tgt := 57) S.1 S.2.1 (dd_at ddX10_thieves 17 rfl) (by decide) (fun hc_14 => ?_) (fun hc_14 => ?_)
      · have h := h.1 hc_14
        refine lv_iconst (v := 2) S.1 S.2.1 (dd_at ddX10_thieves 29 rfl) (by decide) ?_
        refine lv_istore_n (lv' := [(3, .int 2), (0, .ref a0), (1, .int p1), (2, .int v2)]) S.1 S.2.1 (dd_at ddX10_thieves 30 rfl) rfl hl (by decide) rfl (fun ls hl => ?_)
        obtain ⟨n_15, h⟩ := h
        exact tl59 n_15 v2 2 d_12 H locs ls h hw (lv_sub hl [1, 2, 3, 0] rfl)
      · have h := h.2 hc_14
        refine lv_iload_n S.1 S.2.1 (dd_at ddX10_thieves 18 rfl) rfl (lv_at hl 2 rfl) ?_
        refine lv_aload_n S.1 S.2.1 (dd_at ddX10_thieves 19 rfl) rfl (lv_at hl 0 rfl) ?_
        obtain ⟨b_16, hb_17, ho_18, h⟩ := h
        refine r_getR S hw 10 0 rfl inG10 (by decide) (List.mem_cons_of_mem _ wg16) (by decide) ha0 hb_17 (dd_at ddX10_thieves 20 rfl) ?_
        obtain ⟨b_19, hb_20, ho_21, h⟩ := h
        refine r_getRN S hw 8 10 rfl inG8 (by decide) nx20 (by decide) ho_18 hb_20 (dd_at ddX10_thieves 21 rfl) ?_
        refine lv_iload_n S.1 S.2.1 (dd_at ddX10_thieves 22 rfl) rfl (lv_at hl 3 rfl) ?_
        refine lv_iconst (v := 0) S.1 S.2.1 (dd_at ddX10_thieves 23 rfl) (by decide) ?_
        refine r_callI hw (r_runV (As := [.int v3, .int 0]) (rest := [.int v2]) S hw (m_X6_get l D cs E d_12 H.size b_19 v3 0 _) (cwV 2 S.2.2.2.2 (gV wg997 wg623 wg624 wg51 wg625) rfl rfl rfl (by decide +kernel) ⟨Nat.le_of_ble_eq_true rfl, Nat.le_of_ble_eq_true rfl⟩) (ci := 6) rfl ho_21 h rfl hl.1 rfl (Nat.le_of_ble_eq_true rfl) (dd_at ddX10_thieves 24 rfl) ⟨Nat.le_of_ble_eq_true rfl, Nat.le_of_ble_eq_true rfl⟩) (fun r_23 d_22 H locs h hw => ?_)
        refine va_mmax S.1 S.2.1 (by rw [hl.1]; exact S.2.2.1) S.2.2.2.1 (S.2.2.2.2 _ (List.mem_cons_of_mem _ wg1100)) (S.2.2.2.2 _ (List.mem_cons_of_mem _ wg69)) (S.2.2.2.2 _ (List.mem_cons_of_mem _ wg70)) (S.2.2.2.2 _ (List.mem_cons_of_mem _ wg71)) (Nat.le_of_ble_eq_true rfl) (Nat.le_of_ble_eq_true rfl) (Nat.le_of_ble_eq_true rfl) (Nat.le_of_ble_eq_true rfl) (dd_at ddX10_thieves 25 rfl) ?_
        refine lv_istore_n (lv' := [(2, .int (if v2 < r_23 then r_23 else v2)), (0, .ref a0), (1, .int p1), (3, .int v3)]) S.1 S.2.1 (dd_at ddX10_thieves 26 rfl) rfl hl (by decide) rfl (fun ls hl => ?_)
        refine lv_iinc (v := v3 + 1) (lv' := [(3, .int (v3 + 1)), (2, .int (if v2 < r_23 then r_23 else v2)), (0, .ref a0), (1, .int p1)]) S.1 S.2.1 (dd_at ddX10_thieves 27 rfl) hl (k := 3) rfl rfl (by decide) rfl (fun ls hl => ?_)
        refine lv_goto (tgt := 20) S.1 S.2.1 (dd_at ddX10_thieves 28 rfl) (by decide) ?_
        exact ih20 (if v2 < r_23 then r_23 else v2) (v3 + 1) d_22 H locs ls h hw (lv_sub hl [2, 3, 1, 0] rfl)
  refine lv_aload_n S.1 S.2.1 (dd_at ddX10_thieves 0 rfl) rfl (lv_at hl 0 rfl) ?_
  obtain ⟨b_24, hb_25, ho_26, h⟩ := h
  refine r_getR S hw 10 0 rfl inG10 (by decide) (List.mem_cons_of_mem _ wg16) (by decide) ha0 hb_25 (dd_at ddX10_thieves 1 rfl) ?_
  obtain ⟨b_27, hb_28, ho_29, h⟩ := h
  refine r_getRN S hw 8 10 rfl inG8 (by decide) nx20 (by decide) ho_26 hb_28 (dd_at ddX10_thieves 2 rfl) ?_
  refine r_callI hw (r_runV (As := []) (rest := []) S hw (m_X6_size l D cs E d H.size b_27 _) (cwV 0 S.2.2.2.2 (gV wg578 wg372 wg373 wg51 wg374) rfl rfl rfl (by decide +kernel) ⟨Nat.le_of_ble_eq_true rfl, Nat.le_of_ble_eq_true rfl⟩) (ci := 6) rfl ho_29 h rfl hl.1 rfl (Nat.le_of_ble_eq_true rfl) (dd_at ddX10_thieves 3 rfl) ⟨Nat.le_of_ble_eq_true rfl, Nat.le_of_ble_eq_true rfl⟩) (fun r_31 d_30 H locs h hw => ?_)
  refine lv_iconst (v := 2) S.1 S.2.1 (dd_at ddX10_thieves 4 rfl) (by decide) ?_
  refine lv_icmp_ge (tgt := 16) S.1 S.2.1 (dd_at ddX10_thieves 5 rfl) (by decide) (fun hc_32 => ?_) (fun hc_32 => ?_)
  · have h := h.1 hc_32
    refine lv_iconst (v := 0) S.1 S.2.1 (dd_at ddX10_thieves 8 rfl) (by decide) ?_
    refine lv_istore_n (lv' := [(2, .int 0), (0, .ref a0), (1, .int p1)]) S.1 S.2.1 (dd_at ddX10_thieves 9 rfl) rfl hl (by decide) rfl (fun ls hl => ?_)
    refine lv_iconst (v := 0) S.1 S.2.1 (dd_at ddX10_thieves 10 rfl) (by decide) ?_
    refine lv_istore_n (lv' := [(3, .int 0), (2, .int 0), (0, .ref a0), (1, .int p1)]) S.1 S.2.1 (dd_at ddX10_thieves 11 rfl) rfl hl (by decide) rfl (fun ls hl => ?_)
    obtain ⟨n_33, h⟩ := h
    exact tl20 n_33 0 0 d_30 H locs ls h hw (lv_sub hl [2, 3, 1, 0] rfl)
  · have h := h.2 hc_32
    refine lv_iconst (v := -1) S.1 S.2.1 (dd_at ddX10_thieves 6 rfl) (by decide) ?_
    exact e_I S hr hlocks hw h (dd_at ddX10_thieves 7 rfl)

def w_X10_image (E : En) (a0 : Nat) (d : Dy) (K : Dy → Prop) : Prop := okO E a0 10 ∧ ∃ b_1 : Nat, eR E a0 1 = some b_1 ∧ okO E b_1 8 ∧ ∃ b_4 : Nat, eR E a0 0 = some b_4 ∧ okO E b_4 8 ∧ w_X8_copy E b_1 b_4 d (fun d_7 => K (pI d_7 a0 2 1))
abbrev rm_X10_image : Room := { frames := 3, cells := 0, slots := 0, locals := 143 }
set_option maxRecDepth 100000 in
set_option maxHeartbeats 4000000 in
theorem m_X10_image (l : Launch) (D : va_G) (cs : Nat → ClassId) (E : En) (d : Dy) (sz : Nat) (a0 : Nat) (K : Dy → Prop) : CV l yX10_image (.code yX10_image cX10_image 1 none :: wsL_law) rm_X10_image D cs E d sz [.ref a0] (w_X10_image E a0 d K) K := by
  refine e_of (cc := cX10_image) (maxL := 1) (ret := none) (own := RX10) (by decide) rfl rfl (Nat.le_of_ble_eq_true rfl) ?_
  intro p e s m below meth c S hr hlocks hsz H locs hw h ls hl
  have hl : lv_has ls 1 [(0, .ref a0)] := hl
  unfold w_X10_image at h
  obtain ⟨ha0, h⟩ := h
  refine lv_aload_n S.1 S.2.1 (dd_at ddX10_image 0 rfl) rfl (lv_at hl 0 rfl) ?_
  obtain ⟨b_1, hb_2, ho_3, h⟩ := h
  refine r_getR S hw 10 1 rfl inG10 (by decide) (List.mem_cons_of_mem _ wg17) (by decide) ha0 hb_2 (dd_at ddX10_image 1 rfl) ?_
  refine lv_aload_n S.1 S.2.1 (dd_at ddX10_image 2 rfl) rfl (lv_at hl 0 rfl) ?_
  obtain ⟨b_4, hb_5, ho_6, h⟩ := h
  refine r_getR S hw 10 0 rfl inG10 (by decide) (List.mem_cons_of_mem _ wg16) (by decide) ha0 hb_5 (dd_at ddX10_image 3 rfl) ?_
  refine r_callV hw (r_runV (As := [.ref b_4]) (rest := []) S hw (m_X8_copy l D cs E d H.size b_1 b_4 _) (cwV 1 S.2.2.2.2 (gV wg1499 wg1500 wg1501 wg15 wg1502) rfl rfl rfl (by decide +kernel) ⟨Nat.le_of_ble_eq_true rfl, Nat.le_of_ble_eq_true rfl⟩) (ci := 8) rfl ho_3 h rfl hl.1 rfl (Nat.le_of_ble_eq_true rfl) (dd_at ddX10_image 4 rfl) ⟨Nat.le_of_ble_eq_true rfl, Nat.le_of_ble_eq_true rfl⟩) (fun d_7 H locs h hw => ?_)
  refine lv_aload_n S.1 S.2.1 (dd_at ddX10_image 5 rfl) rfl (lv_at hl 0 rfl) ?_
  refine lv_iconst (v := 1) S.1 S.2.1 (dd_at ddX10_image 6 rfl) (by decide) ?_
  refine r_putI S hw 10 2 (ty := .boolean) (v := 1) rfl inG10 tyX10 tyX10_ok nmX10 (by decide) (List.mem_cons_of_mem _ wg1498) (by decide) rfl (by decide +kernel) (by decide) (by decide) ha0 (dd_at ddX10_image 7 rfl) (fun H locs hw => ?_)
  exact e_V S hr hlocks hw h (dd_at ddX10_image 8 rfl)

def w_X10_back (E : En) (a0 : Nat) (d : Dy) (K : Int32 → Dy → Prop) : Prop := okO E a0 10 ∧ (((gI d a0 2) = 0 → ((gI d a0 2) = 0 ∨ (gI d a0 2) = 1) ∧ K (gI d a0 2) d) ∧ (¬ (gI d a0 2) = 0 → ∃ b_2 : Nat, eR E a0 0 = some b_2 ∧ okO E b_2 8 ∧ ∃ b_5 : Nat, eR E a0 1 = some b_5 ∧ okO E b_5 8 ∧ w_X8_copy E b_2 b_5 d (fun d_8 => ((gI d_8 a0 2) = 0 ∨ (gI d_8 a0 2) = 1) ∧ K (gI d_8 a0 2) d_8)))
abbrev rm_X10_back : Room := { frames := 3, cells := 0, slots := 0, locals := 143 }
set_option maxRecDepth 100000 in
set_option maxHeartbeats 4000000 in
theorem m_X10_back (l : Launch) (D : va_G) (cs : Nat → ClassId) (E : En) (d : Dy) (sz : Nat) (a0 : Nat) (K : Int32 → Dy → Prop) : CI l yX10_back (.code yX10_back cX10_back 1 (some .boolean) :: wsL_law) rm_X10_back D cs E d sz [.ref a0] (w_X10_back E a0 d K) K := by
  refine e_of (cc := cX10_back) (maxL := 1) (ret := (some .boolean)) (own := RX10) (by decide) rfl rfl (Nat.le_of_ble_eq_true rfl) ?_
  intro p e s m below meth c S hr hlocks hsz H locs hw h ls hl
  have hl : lv_has ls 1 [(0, .ref a0)] := hl
  unfold w_X10_back at h
  obtain ⟨ha0, h⟩ := h
  refine lv_aload_n S.1 S.2.1 (dd_at ddX10_back 0 rfl) rfl (lv_at hl 0 rfl) ?_
  refine r_getI S hw 10 2 rfl inG10 (by decide) (List.mem_cons_of_mem _ wg1498) (by decide) ha0 (dd_at ddX10_back 1 rfl) ?_
  refine lv_if_eq (tgt := 18) S.1 S.2.1 (dd_at ddX10_back 2 rfl) (by decide) (fun hc_1 => ?_) (fun hc_1 => ?_)
  · have h := h.1 hc_1
    refine lv_aload_n S.1 S.2.1 (dd_at ddX10_back 8 rfl) rfl (lv_at hl 0 rfl) ?_
    refine r_getI S hw 10 2 rfl inG10 (by decide) (List.mem_cons_of_mem _ wg1498) (by decide) ha0 (dd_at ddX10_back 9 rfl) ?_
    exact e_Z S hr hlocks hw h.1 h.2 (dd_at ddX10_back 10 rfl)
  · have h := h.2 hc_1
    refine lv_aload_n S.1 S.2.1 (dd_at ddX10_back 3 rfl) rfl (lv_at hl 0 rfl) ?_
    obtain ⟨b_2, hb_3, ho_4, h⟩ := h
    refine r_getR S hw 10 0 rfl inG10 (by decide) (List.mem_cons_of_mem _ wg16) (by decide) ha0 hb_3 (dd_at ddX10_back 4 rfl) ?_
    refine lv_aload_n S.1 S.2.1 (dd_at ddX10_back 5 rfl) rfl (lv_at hl 0 rfl) ?_
    obtain ⟨b_5, hb_6, ho_7, h⟩ := h
    refine r_getR S hw 10 1 rfl inG10 (by decide) (List.mem_cons_of_mem _ wg17) (by decide) ha0 hb_6 (dd_at ddX10_back 6 rfl) ?_
    refine r_callV hw (r_runV (As := [.ref b_5]) (rest := []) S hw (m_X8_copy l D cs E d H.size b_2 b_5 _) (cwV 1 S.2.2.2.2 (gV wg1499 wg1500 wg1501 wg15 wg1502) rfl rfl rfl (by decide +kernel) ⟨Nat.le_of_ble_eq_true rfl, Nat.le_of_ble_eq_true rfl⟩) (ci := 8) rfl ho_4 h rfl hl.1 rfl (Nat.le_of_ble_eq_true rfl) (dd_at ddX10_back 7 rfl) ⟨Nat.le_of_ble_eq_true rfl, Nat.le_of_ble_eq_true rfl⟩) (fun d_8 H locs h hw => ?_)
    refine lv_aload_n S.1 S.2.1 (dd_at ddX10_back 8 rfl) rfl (lv_at hl 0 rfl) ?_
    refine r_getI S hw 10 2 rfl inG10 (by decide) (List.mem_cons_of_mem _ wg1498) (by decide) ha0 (dd_at ddX10_back 9 rfl) ?_
    exact e_Z S hr hlocks hw h.1 h.2 (dd_at ddX10_back 10 rfl)

def w_X10_count (E : En) (a0 : Nat) (p1 : Int32) (d : Dy) (K : Int32 → Dy → Prop) : Prop := okO E a0 10 ∧ ((p1 = 0 → ∃ b_2 : Nat, eR E a0 0 = some b_2 ∧ okO E b_2 8 ∧ ∃ b_5 : Nat, eR E b_2 1 = some b_5 ∧ okO E b_5 6 ∧ w_X6_size E b_5 d (fun r_9 d_8 => K r_9 d_8)) ∧ (p1 = 1 → ∃ b_11 : Nat, eR E a0 0 = some b_11 ∧ okO E b_11 8 ∧ ∃ b_14 : Nat, eR E b_11 2 = some b_14 ∧ okO E b_14 6 ∧ w_X6_size E b_14 d (fun r_18 d_17 => K r_18 d_17)) ∧ (p1 = 2 → ∃ b_20 : Nat, eR E a0 0 = some b_20 ∧ okO E b_20 8 ∧ ∃ b_23 : Nat, eR E b_20 3 = some b_23 ∧ okO E b_23 6 ∧ w_X6_size E b_23 d (fun r_27 d_26 => K r_27 d_26)) ∧ (p1 = 3 → ∃ b_29 : Nat, eR E a0 0 = some b_29 ∧ okO E b_29 8 ∧ K (gI d b_29 0) d) ∧ (p1 = 4 → ∃ b_33 : Nat, eR E a0 0 = some b_33 ∧ okO E b_33 8 ∧ ∃ b_36 : Nat, eR E b_33 4 = some b_36 ∧ okO E b_36 6 ∧ w_X6_size E b_36 d (fun r_40 d_39 => K r_40 d_39)) ∧ (p1 = 5 → ∃ b_42 : Nat, eR E a0 0 = some b_42 ∧ okO E b_42 8 ∧ ∃ b_45 : Nat, eR E b_42 7 = some b_45 ∧ okO E b_45 6 ∧ w_X6_size E b_45 d (fun r_49 d_48 => K r_49 d_48)) ∧ (p1 = 6 → ∃ b_51 : Nat, eR E a0 0 = some b_51 ∧ okO E b_51 8 ∧ ∃ b_54 : Nat, eR E b_51 8 = some b_54 ∧ okO E b_54 6 ∧ w_X6_size E b_54 d (fun r_58 d_57 => K r_58 d_57)) ∧ (p1 = 7 → ∃ b_60 : Nat, eR E a0 0 = some b_60 ∧ okO E b_60 8 ∧ ∃ b_63 : Nat, eR E b_60 9 = some b_63 ∧ okO E b_63 6 ∧ w_X6_size E b_63 d (fun r_67 d_66 => K r_67 d_66)) ∧ (p1 = 8 → ∃ b_69 : Nat, eR E a0 5 = some b_69 ∧ okO E b_69 3 ∧ ∃ b_72 : Nat, eR E a0 0 = some b_72 ∧ okO E b_72 8 ∧ w_X3_begin E b_69 (gI d b_72 0) d (fun d_75 => ∃ b_77 : Nat, eR E a0 5 = some b_77 ∧ okO E b_77 3 ∧ ∃ b_80 : Nat, eR E a0 0 = some b_80 ∧ okO E b_80 8 ∧ w_X3_goTo E b_77 (gI d_75 b_80 0) d_75 (fun d_83 => ∃ b_85 : Nat, eR E a0 5 = some b_85 ∧ okO E b_85 3 ∧ w_X3_livingMany E b_85 d_83 (fun r_89 d_88 => K r_89 d_88)))) ∧ (p1 = 9 → ∃ b_91 : Nat, eR E a0 5 = some b_91 ∧ okO E b_91 3 ∧ ∃ b_94 : Nat, eR E a0 0 = some b_94 ∧ okO E b_94 8 ∧ w_X3_begin E b_91 (gI d b_94 0) d (fun d_97 => ∃ b_99 : Nat, eR E a0 5 = some b_99 ∧ okO E b_99 3 ∧ ∃ b_102 : Nat, eR E a0 0 = some b_102 ∧ okO E b_102 8 ∧ w_X3_goTo E b_99 (gI d_97 b_102 0) d_97 (fun d_105 => ∃ b_107 : Nat, eR E a0 5 = some b_107 ∧ okO E b_107 3 ∧ w_X3_heldMany E b_107 d_105 (fun r_111 d_110 => K r_111 d_110)))) ∧ (¬ p1 = 0 → ¬ p1 = 1 → ¬ p1 = 2 → ¬ p1 = 3 → ¬ p1 = 4 → ¬ p1 = 5 → ¬ p1 = 6 → ¬ p1 = 7 → ¬ p1 = 8 → ¬ p1 = 9 → K (-1) d))
abbrev rm_X10_count : Room := { frames := 7, cells := 0, slots := 0, locals := 165 }
set_option maxRecDepth 100000 in
set_option maxHeartbeats 4000000 in
theorem m_X10_count (l : Launch) (D : va_G) (cs : Nat → ClassId) (E : En) (d : Dy) (sz : Nat) (a0 : Nat) (p1 : Int32) (K : Int32 → Dy → Prop) : CI l yX10_count (.code yX10_count cX10_count 2 (some .int) :: wsL_law) rm_X10_count D cs E d sz [.ref a0, .int p1] (w_X10_count E a0 p1 d K) K := by
  refine e_of (cc := cX10_count) (maxL := 2) (ret := (some .int)) (own := RX10) (by decide) rfl rfl (Nat.le_of_ble_eq_true rfl) ?_
  intro p e s m below meth c S hr hlocks hsz H locs hw h ls hl
  have hl : lv_has ls 2 [(0, .ref a0), (1, .int p1)] := hl
  unfold w_X10_count at h
  obtain ⟨ha0, h⟩ := h
  refine lv_iload_n S.1 S.2.1 (dd_at ddX10_count 0 rfl) rfl (lv_at hl 1 rfl) ?_
  by_cases hc_10 : p1 = 0
  · have h := h.1 hc_10
    refine lv_tableIn (off := 55) (tgt := 56) S.1 S.2.1 (dd_at ddX10_count 1 rfl) (by rw [hc_10]; decide) (by rw [hc_10]; decide) (by rw [hc_10]; rfl) (by decide) ?_
    refine lv_aload_n S.1 S.2.1 (dd_at ddX10_count 2 rfl) rfl (lv_at hl 0 rfl) ?_
    obtain ⟨b_2, hb_3, ho_4, h⟩ := h
    refine r_getR S hw 10 0 rfl inG10 (by decide) (List.mem_cons_of_mem _ wg16) (by decide) ha0 hb_3 (dd_at ddX10_count 3 rfl) ?_
    obtain ⟨b_5, hb_6, ho_7, h⟩ := h
    refine r_getRN S hw 8 1 rfl inG8 (by decide) nx3 (by decide) ho_4 hb_6 (dd_at ddX10_count 4 rfl) ?_
    refine r_callI hw (r_runV (As := []) (rest := []) S hw (m_X6_size l D cs E d H.size b_5 _) (cwV 0 S.2.2.2.2 (gV wg578 wg372 wg373 wg51 wg374) rfl rfl rfl (by decide +kernel) ⟨Nat.le_of_ble_eq_true rfl, Nat.le_of_ble_eq_true rfl⟩) (ci := 6) rfl ho_7 h rfl hl.1 rfl (Nat.le_of_ble_eq_true rfl) (dd_at ddX10_count 5 rfl) ⟨Nat.le_of_ble_eq_true rfl, Nat.le_of_ble_eq_true rfl⟩) (fun r_9 d_8 H locs h hw => ?_)
    exact e_I S hr hlocks hw h (dd_at ddX10_count 6 rfl)
  · skip
    by_cases hc_19 : p1 = 1
    · have h := h.2.1 hc_19
      refine lv_tableIn (off := 66) (tgt := 67) S.1 S.2.1 (dd_at ddX10_count 1 rfl) (by rw [hc_19]; decide) (by rw [hc_19]; decide) (by rw [hc_19]; rfl) (by decide) ?_
      refine lv_aload_n S.1 S.2.1 (dd_at ddX10_count 7 rfl) rfl (lv_at hl 0 rfl) ?_
      obtain ⟨b_11, hb_12, ho_13, h⟩ := h
      refine r_getR S hw 10 0 rfl inG10 (by decide) (List.mem_cons_of_mem _ wg16) (by decide) ha0 hb_12 (dd_at ddX10_count 8 rfl) ?_
      obtain ⟨b_14, hb_15, ho_16, h⟩ := h
      refine r_getRN S hw 8 2 rfl inG8 (by decide) nx7 (by decide) ho_13 hb_15 (dd_at ddX10_count 9 rfl) ?_
      refine r_callI hw (r_runV (As := []) (rest := []) S hw (m_X6_size l D cs E d H.size b_14 _) (cwV 0 S.2.2.2.2 (gV wg578 wg372 wg373 wg51 wg374) rfl rfl rfl (by decide +kernel) ⟨Nat.le_of_ble_eq_true rfl, Nat.le_of_ble_eq_true rfl⟩) (ci := 6) rfl ho_16 h rfl hl.1 rfl (Nat.le_of_ble_eq_true rfl) (dd_at ddX10_count 10 rfl) ⟨Nat.le_of_ble_eq_true rfl, Nat.le_of_ble_eq_true rfl⟩) (fun r_18 d_17 H locs h hw => ?_)
      exact e_I S hr hlocks hw h (dd_at ddX10_count 11 rfl)
    · skip
      by_cases hc_28 : p1 = 2
      · have h := h.2.2.1 hc_28
        refine lv_tableIn (off := 77) (tgt := 78) S.1 S.2.1 (dd_at ddX10_count 1 rfl) (by rw [hc_28]; decide) (by rw [hc_28]; decide) (by rw [hc_28]; rfl) (by decide) ?_
        refine lv_aload_n S.1 S.2.1 (dd_at ddX10_count 12 rfl) rfl (lv_at hl 0 rfl) ?_
        obtain ⟨b_20, hb_21, ho_22, h⟩ := h
        refine r_getR S hw 10 0 rfl inG10 (by decide) (List.mem_cons_of_mem _ wg16) (by decide) ha0 hb_21 (dd_at ddX10_count 13 rfl) ?_
        obtain ⟨b_23, hb_24, ho_25, h⟩ := h
        refine r_getRN S hw 8 3 rfl inG8 (by decide) nx9 (by decide) ho_22 hb_24 (dd_at ddX10_count 14 rfl) ?_
        refine r_callI hw (r_runV (As := []) (rest := []) S hw (m_X6_size l D cs E d H.size b_23 _) (cwV 0 S.2.2.2.2 (gV wg578 wg372 wg373 wg51 wg374) rfl rfl rfl (by decide +kernel) ⟨Nat.le_of_ble_eq_true rfl, Nat.le_of_ble_eq_true rfl⟩) (ci := 6) rfl ho_25 h rfl hl.1 rfl (Nat.le_of_ble_eq_true rfl) (dd_at ddX10_count 15 rfl) ⟨Nat.le_of_ble_eq_true rfl, Nat.le_of_ble_eq_true rfl⟩) (fun r_27 d_26 H locs h hw => ?_)
        exact e_I S hr hlocks hw h (dd_at ddX10_count 16 rfl)
      · skip
        by_cases hc_32 : p1 = 3
        · have h := h.2.2.2.1 hc_32
          refine lv_tableIn (off := 88) (tgt := 89) S.1 S.2.1 (dd_at ddX10_count 1 rfl) (by rw [hc_32]; decide) (by rw [hc_32]; decide) (by rw [hc_32]; rfl) (by decide) ?_
          refine lv_aload_n S.1 S.2.1 (dd_at ddX10_count 17 rfl) rfl (lv_at hl 0 rfl) ?_
          obtain ⟨b_29, hb_30, ho_31, h⟩ := h
          refine r_getR S hw 10 0 rfl inG10 (by decide) (List.mem_cons_of_mem _ wg16) (by decide) ha0 hb_30 (dd_at ddX10_count 18 rfl) ?_
          refine r_getIN S hw 8 0 rfl inG8 (by decide) nx0 (by decide) ho_31 (dd_at ddX10_count 19 rfl) ?_
          exact e_I S hr hlocks hw h (dd_at ddX10_count 20 rfl)
        · skip
          by_cases hc_41 : p1 = 4
          · have h := h.2.2.2.2.1 hc_41
            refine lv_tableIn (off := 96) (tgt := 97) S.1 S.2.1 (dd_at ddX10_count 1 rfl) (by rw [hc_41]; decide) (by rw [hc_41]; decide) (by rw [hc_41]; rfl) (by decide) ?_
            refine lv_aload_n S.1 S.2.1 (dd_at ddX10_count 21 rfl) rfl (lv_at hl 0 rfl) ?_
            obtain ⟨b_33, hb_34, ho_35, h⟩ := h
            refine r_getR S hw 10 0 rfl inG10 (by decide) (List.mem_cons_of_mem _ wg16) (by decide) ha0 hb_34 (dd_at ddX10_count 22 rfl) ?_
            obtain ⟨b_36, hb_37, ho_38, h⟩ := h
            refine r_getRN S hw 8 4 rfl inG8 (by decide) nx12 (by decide) ho_35 hb_37 (dd_at ddX10_count 23 rfl) ?_
            refine r_callI hw (r_runV (As := []) (rest := []) S hw (m_X6_size l D cs E d H.size b_36 _) (cwV 0 S.2.2.2.2 (gV wg578 wg372 wg373 wg51 wg374) rfl rfl rfl (by decide +kernel) ⟨Nat.le_of_ble_eq_true rfl, Nat.le_of_ble_eq_true rfl⟩) (ci := 6) rfl ho_38 h rfl hl.1 rfl (Nat.le_of_ble_eq_true rfl) (dd_at ddX10_count 24 rfl) ⟨Nat.le_of_ble_eq_true rfl, Nat.le_of_ble_eq_true rfl⟩) (fun r_40 d_39 H locs h hw => ?_)
            exact e_I S hr hlocks hw h (dd_at ddX10_count 25 rfl)
          · skip
            by_cases hc_50 : p1 = 5
            · have h := h.2.2.2.2.2.1 hc_50
              refine lv_tableIn (off := 107) (tgt := 108) S.1 S.2.1 (dd_at ddX10_count 1 rfl) (by rw [hc_50]; decide) (by rw [hc_50]; decide) (by rw [hc_50]; rfl) (by decide) ?_
              refine lv_aload_n S.1 S.2.1 (dd_at ddX10_count 26 rfl) rfl (lv_at hl 0 rfl) ?_
              obtain ⟨b_42, hb_43, ho_44, h⟩ := h
              refine r_getR S hw 10 0 rfl inG10 (by decide) (List.mem_cons_of_mem _ wg16) (by decide) ha0 hb_43 (dd_at ddX10_count 27 rfl) ?_
              obtain ⟨b_45, hb_46, ho_47, h⟩ := h
              refine r_getRN S hw 8 7 rfl inG8 (by decide) nx16 (by decide) ho_44 hb_46 (dd_at ddX10_count 28 rfl) ?_
              refine r_callI hw (r_runV (As := []) (rest := []) S hw (m_X6_size l D cs E d H.size b_45 _) (cwV 0 S.2.2.2.2 (gV wg578 wg372 wg373 wg51 wg374) rfl rfl rfl (by decide +kernel) ⟨Nat.le_of_ble_eq_true rfl, Nat.le_of_ble_eq_true rfl⟩) (ci := 6) rfl ho_47 h rfl hl.1 rfl (Nat.le_of_ble_eq_true rfl) (dd_at ddX10_count 29 rfl) ⟨Nat.le_of_ble_eq_true rfl, Nat.le_of_ble_eq_true rfl⟩) (fun r_49 d_48 H locs h hw => ?_)
              exact e_I S hr hlocks hw h (dd_at ddX10_count 30 rfl)
            · skip
              by_cases hc_59 : p1 = 6
              · have h := h.2.2.2.2.2.2.1 hc_59
                refine lv_tableIn (off := 118) (tgt := 119) S.1 S.2.1 (dd_at ddX10_count 1 rfl) (by rw [hc_59]; decide) (by rw [hc_59]; decide) (by rw [hc_59]; rfl) (by decide) ?_
                refine lv_aload_n S.1 S.2.1 (dd_at ddX10_count 31 rfl) rfl (lv_at hl 0 rfl) ?_
                obtain ⟨b_51, hb_52, ho_53, h⟩ := h
                refine r_getR S hw 10 0 rfl inG10 (by decide) (List.mem_cons_of_mem _ wg16) (by decide) ha0 hb_52 (dd_at ddX10_count 32 rfl) ?_
                obtain ⟨b_54, hb_55, ho_56, h⟩ := h
                refine r_getRN S hw 8 8 rfl inG8 (by decide) nx18 (by decide) ho_53 hb_55 (dd_at ddX10_count 33 rfl) ?_
                refine r_callI hw (r_runV (As := []) (rest := []) S hw (m_X6_size l D cs E d H.size b_54 _) (cwV 0 S.2.2.2.2 (gV wg578 wg372 wg373 wg51 wg374) rfl rfl rfl (by decide +kernel) ⟨Nat.le_of_ble_eq_true rfl, Nat.le_of_ble_eq_true rfl⟩) (ci := 6) rfl ho_56 h rfl hl.1 rfl (Nat.le_of_ble_eq_true rfl) (dd_at ddX10_count 34 rfl) ⟨Nat.le_of_ble_eq_true rfl, Nat.le_of_ble_eq_true rfl⟩) (fun r_58 d_57 H locs h hw => ?_)
                exact e_I S hr hlocks hw h (dd_at ddX10_count 35 rfl)
              · skip
                by_cases hc_68 : p1 = 7
                · have h := h.2.2.2.2.2.2.2.1 hc_68
                  refine lv_tableIn (off := 129) (tgt := 130) S.1 S.2.1 (dd_at ddX10_count 1 rfl) (by rw [hc_68]; decide) (by rw [hc_68]; decide) (by rw [hc_68]; rfl) (by decide) ?_
                  refine lv_aload_n S.1 S.2.1 (dd_at ddX10_count 36 rfl) rfl (lv_at hl 0 rfl) ?_
                  obtain ⟨b_60, hb_61, ho_62, h⟩ := h
                  refine r_getR S hw 10 0 rfl inG10 (by decide) (List.mem_cons_of_mem _ wg16) (by decide) ha0 hb_61 (dd_at ddX10_count 37 rfl) ?_
                  obtain ⟨b_63, hb_64, ho_65, h⟩ := h
                  refine r_getRN S hw 8 9 rfl inG8 (by decide) nx19 (by decide) ho_62 hb_64 (dd_at ddX10_count 38 rfl) ?_
                  refine r_callI hw (r_runV (As := []) (rest := []) S hw (m_X6_size l D cs E d H.size b_63 _) (cwV 0 S.2.2.2.2 (gV wg578 wg372 wg373 wg51 wg374) rfl rfl rfl (by decide +kernel) ⟨Nat.le_of_ble_eq_true rfl, Nat.le_of_ble_eq_true rfl⟩) (ci := 6) rfl ho_65 h rfl hl.1 rfl (Nat.le_of_ble_eq_true rfl) (dd_at ddX10_count 39 rfl) ⟨Nat.le_of_ble_eq_true rfl, Nat.le_of_ble_eq_true rfl⟩) (fun r_67 d_66 H locs h hw => ?_)
                  exact e_I S hr hlocks hw h (dd_at ddX10_count 40 rfl)
                · skip
                  by_cases hc_90 : p1 = 8
                  · have h := h.2.2.2.2.2.2.2.2.1 hc_90
                    refine lv_tableIn (off := 140) (tgt := 141) S.1 S.2.1 (dd_at ddX10_count 1 rfl) (by rw [hc_90]; decide) (by rw [hc_90]; decide) (by rw [hc_90]; rfl) (by decide) ?_
                    refine lv_aload_n S.1 S.2.1 (dd_at ddX10_count 41 rfl) rfl (lv_at hl 0 rfl) ?_
                    obtain ⟨b_69, hb_70, ho_71, h⟩ := h
                    refine r_getR S hw 10 5 rfl inG10 (by decide) (List.mem_cons_of_mem _ wg26) (by decide) ha0 hb_70 (dd_at ddX10_count 42 rfl) ?_
                    refine lv_aload_n S.1 S.2.1 (dd_at ddX10_count 43 rfl) rfl (lv_at hl 0 rfl) ?_
                    obtain ⟨b_72, hb_73, ho_74, h⟩ := h
                    refine r_getR S hw 10 0 rfl inG10 (by decide) (List.mem_cons_of_mem _ wg16) (by decide) ha0 hb_73 (dd_at ddX10_count 44 rfl) ?_
                    refine r_getIN S hw 8 0 rfl inG8 (by decide) nx0 (by decide) ho_74 (dd_at ddX10_count 45 rfl) ?_
                    refine r_callV hw (r_runV (As := [.int (gI d b_72 0)]) (rest := []) S hw (m_X3_begin l D cs E d H.size b_69 (gI d b_72 0) _) (cwV 1 S.2.2.2.2 (gV wg661 wg662 wg663 wg25 wg664) rfl rfl rfl (by decide +kernel) ⟨Nat.le_of_ble_eq_true rfl, Nat.le_of_ble_eq_true rfl⟩) (ci := 3) rfl ho_71 h rfl hl.1 rfl (Nat.le_of_ble_eq_true rfl) (dd_at ddX10_count 46 rfl) ⟨Nat.le_of_ble_eq_true rfl, Nat.le_of_ble_eq_true rfl⟩) (fun d_75 H locs h hw => ?_)
                    refine lv_aload_n S.1 S.2.1 (dd_at ddX10_count 47 rfl) rfl (lv_at hl 0 rfl) ?_
                    obtain ⟨b_77, hb_78, ho_79, h⟩ := h
                    refine r_getR S hw 10 5 rfl inG10 (by decide) (List.mem_cons_of_mem _ wg26) (by decide) ha0 hb_78 (dd_at ddX10_count 48 rfl) ?_
                    refine lv_aload_n S.1 S.2.1 (dd_at ddX10_count 49 rfl) rfl (lv_at hl 0 rfl) ?_
                    obtain ⟨b_80, hb_81, ho_82, h⟩ := h
                    refine r_getR S hw 10 0 rfl inG10 (by decide) (List.mem_cons_of_mem _ wg16) (by decide) ha0 hb_81 (dd_at ddX10_count 50 rfl) ?_
                    refine r_getIN S hw 8 0 rfl inG8 (by decide) nx0 (by decide) ho_82 (dd_at ddX10_count 51 rfl) ?_
                    refine r_callV hw (r_runV (As := [.int (gI d_75 b_80 0)]) (rest := []) S hw (m_X3_goTo l D cs E d_75 H.size b_77 (gI d_75 b_80 0) _) (cwV 1 S.2.2.2.2 (gV wg678 wg679 wg680 wg25 wg681) rfl rfl rfl (by decide +kernel) ⟨Nat.le_of_ble_eq_true rfl, Nat.le_of_ble_eq_true rfl⟩) (ci := 3) rfl ho_79 h rfl hl.1 rfl (Nat.le_of_ble_eq_true rfl) (dd_at ddX10_count 52 rfl) ⟨Nat.le_of_ble_eq_true rfl, Nat.le_of_ble_eq_true rfl⟩) (fun d_83 H locs h hw => ?_)
                    refine lv_aload_n S.1 S.2.1 (dd_at ddX10_count 53 rfl) rfl (lv_at hl 0 rfl) ?_
                    obtain ⟨b_85, hb_86, ho_87, h⟩ := h
                    refine r_getR S hw 10 5 rfl inG10 (by decide) (List.mem_cons_of_mem _ wg26) (by decide) ha0 hb_86 (dd_at ddX10_count 54 rfl) ?_
                    refine r_callI hw (r_runV (As := []) (rest := []) S hw (m_X3_livingMany l D cs E d_83 H.size b_85 _) (cwV 0 S.2.2.2.2 (gV wg1521 wg1522 wg1523 wg25 wg1524) rfl rfl rfl (by decide +kernel) ⟨Nat.le_of_ble_eq_true rfl, Nat.le_of_ble_eq_true rfl⟩) (ci := 3) rfl ho_87 h rfl hl.1 rfl (Nat.le_of_ble_eq_true rfl) (dd_at ddX10_count 55 rfl) ⟨Nat.le_of_ble_eq_true rfl, Nat.le_of_ble_eq_true rfl⟩) (fun r_89 d_88 H locs h hw => ?_)
                    exact e_I S hr hlocks hw h (dd_at ddX10_count 56 rfl)
                  · skip
                    by_cases hc_112 : p1 = 9
                    · have h := h.2.2.2.2.2.2.2.2.2.1 hc_112
                      refine lv_tableIn (off := 176) (tgt := 177) S.1 S.2.1 (dd_at ddX10_count 1 rfl) (by rw [hc_112]; decide) (by rw [hc_112]; decide) (by rw [hc_112]; rfl) (by decide) ?_
                      refine lv_aload_n S.1 S.2.1 (dd_at ddX10_count 57 rfl) rfl (lv_at hl 0 rfl) ?_
                      obtain ⟨b_91, hb_92, ho_93, h⟩ := h
                      refine r_getR S hw 10 5 rfl inG10 (by decide) (List.mem_cons_of_mem _ wg26) (by decide) ha0 hb_92 (dd_at ddX10_count 58 rfl) ?_
                      refine lv_aload_n S.1 S.2.1 (dd_at ddX10_count 59 rfl) rfl (lv_at hl 0 rfl) ?_
                      obtain ⟨b_94, hb_95, ho_96, h⟩ := h
                      refine r_getR S hw 10 0 rfl inG10 (by decide) (List.mem_cons_of_mem _ wg16) (by decide) ha0 hb_95 (dd_at ddX10_count 60 rfl) ?_
                      refine r_getIN S hw 8 0 rfl inG8 (by decide) nx0 (by decide) ho_96 (dd_at ddX10_count 61 rfl) ?_
                      refine r_callV hw (r_runV (As := [.int (gI d b_94 0)]) (rest := []) S hw (m_X3_begin l D cs E d H.size b_91 (gI d b_94 0) _) (cwV 1 S.2.2.2.2 (gV wg661 wg662 wg663 wg25 wg664) rfl rfl rfl (by decide +kernel) ⟨Nat.le_of_ble_eq_true rfl, Nat.le_of_ble_eq_true rfl⟩) (ci := 3) rfl ho_93 h rfl hl.1 rfl (Nat.le_of_ble_eq_true rfl) (dd_at ddX10_count 62 rfl) ⟨Nat.le_of_ble_eq_true rfl, Nat.le_of_ble_eq_true rfl⟩) (fun d_97 H locs h hw => ?_)
                      refine lv_aload_n S.1 S.2.1 (dd_at ddX10_count 63 rfl) rfl (lv_at hl 0 rfl) ?_
                      obtain ⟨b_99, hb_100, ho_101, h⟩ := h
                      refine r_getR S hw 10 5 rfl inG10 (by decide) (List.mem_cons_of_mem _ wg26) (by decide) ha0 hb_100 (dd_at ddX10_count 64 rfl) ?_
                      refine lv_aload_n S.1 S.2.1 (dd_at ddX10_count 65 rfl) rfl (lv_at hl 0 rfl) ?_
                      obtain ⟨b_102, hb_103, ho_104, h⟩ := h
                      refine r_getR S hw 10 0 rfl inG10 (by decide) (List.mem_cons_of_mem _ wg16) (by decide) ha0 hb_103 (dd_at ddX10_count 66 rfl) ?_
                      refine r_getIN S hw 8 0 rfl inG8 (by decide) nx0 (by decide) ho_104 (dd_at ddX10_count 67 rfl) ?_
                      refine r_callV hw (r_runV (As := [.int (gI d_97 b_102 0)]) (rest := []) S hw (m_X3_goTo l D cs E d_97 H.size b_99 (gI d_97 b_102 0) _) (cwV 1 S.2.2.2.2 (gV wg678 wg679 wg680 wg25 wg681) rfl rfl rfl (by decide +kernel) ⟨Nat.le_of_ble_eq_true rfl, Nat.le_of_ble_eq_true rfl⟩) (ci := 3) rfl ho_101 h rfl hl.1 rfl (Nat.le_of_ble_eq_true rfl) (dd_at ddX10_count 68 rfl) ⟨Nat.le_of_ble_eq_true rfl, Nat.le_of_ble_eq_true rfl⟩) (fun d_105 H locs h hw => ?_)
                      refine lv_aload_n S.1 S.2.1 (dd_at ddX10_count 69 rfl) rfl (lv_at hl 0 rfl) ?_
                      obtain ⟨b_107, hb_108, ho_109, h⟩ := h
                      refine r_getR S hw 10 5 rfl inG10 (by decide) (List.mem_cons_of_mem _ wg26) (by decide) ha0 hb_108 (dd_at ddX10_count 70 rfl) ?_
                      refine r_callI hw (r_runV (As := []) (rest := []) S hw (m_X3_heldMany l D cs E d_105 H.size b_107 _) (cwV 0 S.2.2.2.2 (gV wg1525 wg1526 wg1527 wg25 wg1528) rfl rfl rfl (by decide +kernel) ⟨Nat.le_of_ble_eq_true rfl, Nat.le_of_ble_eq_true rfl⟩) (ci := 3) rfl ho_109 h rfl hl.1 rfl (Nat.le_of_ble_eq_true rfl) (dd_at ddX10_count 71 rfl) ⟨Nat.le_of_ble_eq_true rfl, Nat.le_of_ble_eq_true rfl⟩) (fun r_111 d_110 H locs h hw => ?_)
                      exact e_I S hr hlocks hw h (dd_at ddX10_count 72 rfl)
                    · skip
                      have h := h.2.2.2.2.2.2.2.2.2.2 hc_10 hc_19 hc_28 hc_32 hc_41 hc_50 hc_59 hc_68 hc_90 hc_112
                      have thc_10 := lv_neT (k := 0) (a := 0) hc_10 (by decide)
                      have thc_19 := lv_neT (k := 1) (a := 1) hc_19 (by decide)
                      have thc_28 := lv_neT (k := 2) (a := 2) hc_28 (by decide)
                      have thc_32 := lv_neT (k := 3) (a := 3) hc_32 (by decide)
                      have thc_41 := lv_neT (k := 4) (a := 4) hc_41 (by decide)
                      have thc_50 := lv_neT (k := 5) (a := 5) hc_50 (by decide)
                      have thc_59 := lv_neT (k := 6) (a := 6) hc_59 (by decide)
                      have thc_68 := lv_neT (k := 7) (a := 7) hc_68 (by decide)
                      have thc_90 := lv_neT (k := 8) (a := 8) hc_90 (by decide)
                      have thc_112 := lv_neT (k := 9) (a := 9) hc_112 (by decide)
                      refine lv_tableOut (tgt := 213) S.1 S.2.1 (dd_at ddX10_count 1 rfl) (by omega) (by decide) ?_
                      refine lv_iconst (v := -1) S.1 S.2.1 (dd_at ddX10_count 73 rfl) (by decide) ?_
                      exact e_I S hr hlocks hw h (dd_at ddX10_count 74 rfl)
