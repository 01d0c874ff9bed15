def b_X11_craned_105 (E : En) (a0 : Nat) (p1 : Int32) (p2 : Int32) (p3 : Int32) (p4 : Int32) (K : Int32 → Dy → Prop) (k6 : Int32 → Int32 → Dy → Prop) (k21 : Int32 → Int32 → Int32 → Int32 → Int32 → Dy → Prop) (v5 : Int32) (v6 : Int32) (v9 : Int32) (d : Dy) : Prop := k21 v5 v6 v9 p4 (v9 + 1) d
def b_X11_craned_76 (E : En) (a0 : Nat) (p1 : Int32) (p2 : Int32) (p3 : Int32) (p4 : Int32) (K : Int32 → Dy → Prop) (k6 : Int32 → Int32 → Dy → Prop) (k21 : Int32 → Int32 → Int32 → Int32 → Int32 → Dy → Prop) (v5 : Int32) (v6 : Int32) (v7 : Int32) (v9 : Int32) (s0 : Int32) (d : Dy) : Prop := ((s0 = 0 → k21 v5 v6 v7 p4 (v9 + 1) d) ∧ (¬ s0 = 0 → ((v7 < 0 → b_X11_craned_105 E a0 p1 p2 p3 p4 K k6 k21 v5 v6 v9 d) ∧ (¬ v7 < 0 → w_X11_ofHut E a0 v9 0 d (fun r_4 d_3 => w_X11_ofHut E a0 v7 0 d_3 (fun r_6 d_5 => ((r_4 ≤ r_6 → k21 v5 v6 v7 p4 (v9 + 1) d_5) ∧ (¬ r_4 ≤ r_6 → b_X11_craned_105 E a0 p1 p2 p3 p4 K k6 k21 v5 v6 v9 d_5))))))))
def b_X11_craned_21 (E : En) (a0 : Nat) (p1 : Int32) (p2 : Int32) (p3 : Int32) (p4 : Int32) (K : Int32 → Dy → Prop) (k6 : Int32 → Int32 → Dy → Prop) (k21 : Int32 → Int32 → Int32 → Int32 → Int32 → Dy → Prop) (v5 : Int32) (v6 : Int32) (v7 : Int32) (v8 : Int32) (v9 : Int32) (d : Dy) : Prop := w_X11_huts E a0 d (fun r_9 d_8 => ((r_9 ≤ v9 → ((0 ≤ v7 → k6 (v5 &&& (((1 : Int32) <<< (v7 &&& 31)) ^^^ (-1))) (v6 + 1) d_8) ∧ (¬ 0 ≤ v7 → k6 v5 (v6 + 1) d_8))) ∧ (¬ r_9 ≤ v9 → ((((v5 >>> (v9 &&& 31)) &&& 1) = 0 → k21 v5 v6 v7 v8 (v9 + 1) d_8) ∧ (¬ ((v5 >>> (v9 &&& 31)) &&& 1) = 0 → ((v8 = 0 → ∃ b_14 : Nat, eR E a0 1 = some b_14 ∧ okA E b_14 13 ∧ vp_in (536 + p2) (eN E b_14) ∧ w_X11_ofHut E a0 v9 0 d_8 (fun r_19 d_18 => ((12 < ((gA d_8 b_14 (536 + p2).toNatClampNeg) + r_19) → b_X11_craned_76 E a0 p1 p2 p3 p4 K k6 k21 v5 v6 v7 v9 0 d_18) ∧ (¬ 12 < ((gA d_8 b_14 (536 + p2).toNatClampNeg) + r_19) → b_X11_craned_76 E a0 p1 p2 p3 p4 K k6 k21 v5 v6 v7 v9 1 d_18)))) ∧ (¬ v8 = 0 → k21 v5 v6 v7 v8 (v9 + 1) d_8)))))))
def l_X11_craned_21 (E : En) (a0 : Nat) (p1 : Int32) (p2 : Int32) (p3 : Int32) (p4 : Int32) (K : Int32 → Dy → Prop) (k6 : Int32 → Int32 → Dy → Prop) : Nat → Int32 → Int32 → Int32 → Int32 → Int32 → Dy → Prop
  | 0 => fun _ _ _ _ _ _ => False
  | n + 1 => b_X11_craned_21 E a0 p1 p2 p3 p4 K k6 (l_X11_craned_21 E a0 p1 p2 p3 p4 K k6 n)
def b_X11_craned_6 (E : En) (a0 : Nat) (p1 : Int32) (p2 : Int32) (p3 : Int32) (p4 : Int32) (K : Int32 → Dy → Prop) (k6 : Int32 → Int32 → Dy → Prop) (v5 : Int32) (v6 : Int32) (d : Dy) : Prop := ((p3 ≤ v6 → K v5 d) ∧ (¬ p3 ≤ v6 → (∃ n_22 : Nat, l_X11_craned_21 E a0 p1 p2 p3 p4 K k6 n_22 v5 v6 (-1) 0 0 d)))
def l_X11_craned_6 (E : En) (a0 : Nat) (p1 : Int32) (p2 : Int32) (p3 : Int32) (p4 : Int32) (K : Int32 → Dy → Prop) : Nat → Int32 → Int32 → Dy → Prop
  | 0 => fun _ _ _ => False
  | n + 1 => b_X11_craned_6 E a0 p1 p2 p3 p4 K (l_X11_craned_6 E a0 p1 p2 p3 p4 K n)
def w_X11_craned (E : En) (a0 : Nat) (p1 : Int32) (p2 : Int32) (p3 : Int32) (p4 : Int32) (d : Dy) (K : Int32 → Dy → Prop) : Prop := okO E a0 11 ∧ (∃ n_23 : Nat, l_X11_craned_6 E a0 p1 p2 p3 p4 K n_23 p1 0 d)
abbrev rm_X11_craned : Room := { frames := 1, cells := 0, slots := 0, locals := 22 }
set_option maxRecDepth 100000 in
set_option maxHeartbeats 4000000 in
theorem m_X11_craned (l : Launch) (D : va_G) (cs : Nat → ClassId) (E : En) (d : Dy) (sz : Nat) (a0 : Nat) (p1 : Int32) (p2 : Int32) (p3 : Int32) (p4 : Int32) (K : Int32 → Dy → Prop) : CI l yX11_craned (.code yX11_craned cX11_craned 11 (some .int) :: wsL_law) rm_X11_craned D cs E d sz [.ref a0, .int p1, .int p2, .int p3, .int p4] (w_X11_craned E a0 p1 p2 p3 p4 d K) K := by
  refine e_of (cc := cX11_craned) (maxL := 11) (ret := (some .int)) (own := RX11) (by decide) rfl rfl (Nat.le_of_ble_eq_true rfl) ?_
  intro p e s m below meth c S hr hlocks hsz H locs hw h ls hl
  have hl : lv_has ls 11 [(0, .ref a0), (1, .int p1), (2, .int p2), (3, .int p3), (4, .int p4)] := hl
  unfold w_X11_craned at h
  obtain ⟨ha0, h⟩ := h
  have tl6 : ∀ (n : Nat) (v5 : Int32) (v6 : Int32) (d : Dy) (H : Heap) (locs : List Loc) (ls : Array Slot), l_X11_craned_6 E a0 p1 p2 p3 p4 K n v5 v6 d → Wd D cs (AW E sz) s.heap s E d H locs → lv_has ls 11 [(0, .ref a0), (2, .int p2), (3, .int p3), (4, .int p4), (5, .int v5), (6, .int v6)] → W p l e rm_X11_craned s m ([.ref a0, .int p1, .int p2, .int p3, .int p4] : List Value).toArray below meth c H locs 0 0 (MQ below (va_Qi K (OutW D cs E (AW E sz)) (AW E sz)) ([.ref a0, .int p1, .int p2, .int p3, .int p4] : List Value).toArray s rm_X11_craned.cells rm_X11_craned.slots (AW E sz)) (F0 m 6 ls []) := by
    intro n6
    induction n6 with
    | zero => intro v5 v6 d H locs ls h; exact absurd h id
    | succ n6 ih6 =>
      have tl21 : ∀ (n : Nat) (v5 : Int32) (v6 : Int32) (v7 : Int32) (v8 : Int32) (v9 : Int32) (d : Dy) (H : Heap) (locs : List Loc) (ls : Array Slot), l_X11_craned_21 E a0 p1 p2 p3 p4 K (l_X11_craned_6 E a0 p1 p2 p3 p4 K n6) n v5 v6 v7 v8 v9 d → Wd D cs (AW E sz) s.heap s E d H locs → lv_has ls 11 [(0, .ref a0), (2, .int p2), (3, .int p3), (4, .int p4), (5, .int v5), (6, .int v6), (7, .int v7), (8, .int v8), (9, .int v9)] → W p l e rm_X11_craned s m ([.ref a0, .int p1, .int p2, .int p3, .int p4] : List Value).toArray below meth c H locs 0 0 (MQ below (va_Qi K (OutW D cs E (AW E sz)) (AW E sz)) ([.ref a0, .int p1, .int p2, .int p3, .int p4] : List Value).toArray s rm_X11_craned.cells rm_X11_craned.slots (AW E sz)) (F0 m 21 ls []) := by
        intro n21
        induction n21 with
        | zero => intro v5 v6 v7 v8 v9 d H locs ls h; exact absurd h id
        | succ n21 ih21 =>
          have tb105 : ∀ (v5 : Int32) (v6 : Int32) (v9 : Int32) (d : Dy) (H : Heap) (locs : List Loc) (ls : Array Slot), b_X11_craned_105 E a0 p1 p2 p3 p4 K (l_X11_craned_6 E a0 p1 p2 p3 p4 K n6) (l_X11_craned_21 E a0 p1 p2 p3 p4 K (l_X11_craned_6 E a0 p1 p2 p3 p4 K n6) n21) v5 v6 v9 d → Wd D cs (AW E sz) s.heap s E d H locs → lv_has ls 11 [(0, .ref a0), (2, .int p2), (3, .int p3), (4, .int p4), (5, .int v5), (6, .int v6), (9, .int v9)] → W p l e rm_X11_craned s m ([.ref a0, .int p1, .int p2, .int p3, .int p4] : List Value).toArray below meth c H locs 0 0 (MQ below (va_Qi K (OutW D cs E (AW E sz)) (AW E sz)) ([.ref a0, .int p1, .int p2, .int p3, .int p4] : List Value).toArray s rm_X11_craned.cells rm_X11_craned.slots (AW E sz)) (F0 m 105 ls []) := by
            intro v5 v6 v9 d H locs ls h hw hl
            unfold b_X11_craned_105 at h
            refine lv_iload S.1 S.2.1 (dd_at ddX11_craned 56 rfl) (lv_at hl 6 rfl) ?_
            refine lv_istore (lv' := [(7, .int v9), (0, .ref a0), (2, .int p2), (3, .int p3), (4, .int p4), (5, .int v5), (6, .int v6), (9, .int v9)]) S.1 S.2.1 (dd_at ddX11_craned 57 rfl) hl (by decide) rfl (fun ls hl => ?_)
            refine lv_iload S.1 S.2.1 (dd_at ddX11_craned 58 rfl) (lv_at hl 4 rfl) ?_
            refine lv_istore (lv' := [(8, .int p4), (7, .int v9), (0, .ref a0), (2, .int p2), (3, .int p3), (4, .int p4), (5, .int v5), (6, .int v6), (9, .int v9)]) S.1 S.2.1 (dd_at ddX11_craned 59 rfl) hl (by decide) rfl (fun ls hl => ?_)
            refine lv_iinc (v := v9 + 1) (lv' := [(9, .int (v9 + 1)), (8, .int p4), (7, .int v9), (0, .ref a0), (2, .int p2), (3, .int p3), (4, .int p4), (5, .int v5), (6, .int v6)]) S.1 S.2.1 (dd_at ddX11_craned 60 rfl) hl (k := 8) rfl rfl (by decide) rfl (fun ls hl => ?_)
            refine lv_goto (tgt := 21) S.1 S.2.1 (dd_at ddX11_craned 61 rfl) (by decide) ?_
            exact ih21 v5 v6 v9 p4 (v9 + 1) d H locs ls h hw (lv_sub hl [3, 4, 5, 6, 7, 8, 2, 1, 0] rfl)
          have tb76 : ∀ (v5 : Int32) (v6 : Int32) (v7 : Int32) (v9 : Int32) (s0 : Int32) (d : Dy) (H : Heap) (locs : List Loc) (ls : Array Slot), b_X11_craned_76 E a0 p1 p2 p3 p4 K (l_X11_craned_6 E a0 p1 p2 p3 p4 K n6) (l_X11_craned_21 E a0 p1 p2 p3 p4 K (l_X11_craned_6 E a0 p1 p2 p3 p4 K n6) n21) v5 v6 v7 v9 s0 d → Wd D cs (AW E sz) s.heap s E d H locs → lv_has ls 11 [(0, .ref a0), (2, .int p2), (3, .int p3), (4, .int p4), (5, .int v5), (6, .int v6), (7, .int v7), (9, .int v9)] → W p l e rm_X11_craned s m ([.ref a0, .int p1, .int p2, .int p3, .int p4] : List Value).toArray below meth c H locs 0 0 (MQ below (va_Qi K (OutW D cs E (AW E sz)) (AW E sz)) ([.ref a0, .int p1, .int p2, .int p3, .int p4] : List Value).toArray s rm_X11_craned.cells rm_X11_craned.slots (AW E sz)) (F0 m 76 ls [.int s0]) := by
            intro v5 v6 v7 v9 s0 d H locs ls h hw hl
            unfold b_X11_craned_76 at h
            refine lv_istore (lv' := [(10, .int s0), (0, .ref a0), (2, .int p2), (3, .int p3), (4, .int p4), (5, .int v5), (6, .int v6), (7, .int v7), (9, .int v9)]) S.1 S.2.1 (dd_at ddX11_craned 42 rfl) hl (by decide) rfl (fun ls hl => ?_)
            refine lv_iload S.1 S.2.1 (dd_at ddX11_craned 43 rfl) (lv_at hl 0 rfl) ?_
            refine lv_if_eq (tgt := 109) S.1 S.2.1 (dd_at ddX11_craned 44 rfl) (by decide) (fun hc_1 => ?_) (fun hc_1 => ?_)
            · have h := h.1 hc_1
              refine lv_iload S.1 S.2.1 (dd_at ddX11_craned 58 rfl) (lv_at hl 4 rfl) ?_
              refine lv_istore (lv' := [(8, .int p4), (10, .int s0), (0, .ref a0), (2, .int p2), (3, .int p3), (4, .int p4), (5, .int v5), (6, .int v6), (7, .int v7), (9, .int v9)]) S.1 S.2.1 (dd_at ddX11_craned 59 rfl) hl (by decide) rfl (fun ls hl => ?_)
              refine lv_iinc (v := v9 + 1) (lv' := [(9, .int (v9 + 1)), (8, .int p4), (10, .int s0), (0, .ref a0), (2, .int p2), (3, .int p3), (4, .int p4), (5, .int v5), (6, .int v6), (7, .int v7)]) S.1 S.2.1 (dd_at ddX11_craned 60 rfl) hl (k := 9) rfl rfl (by decide) rfl (fun ls hl => ?_)
              refine lv_goto (tgt := 21) S.1 S.2.1 (dd_at ddX11_craned 61 rfl) (by decide) ?_
              exact ih21 v5 v6 v7 p4 (v9 + 1) d H locs ls h hw (lv_sub hl [3, 4, 5, 6, 7, 8, 9, 1, 0] rfl)
            · have h := h.2 hc_1
              refine lv_iload S.1 S.2.1 (dd_at ddX11_craned 45 rfl) (lv_at hl 7 rfl) ?_
              refine lv_if_lt (tgt := 105) S.1 S.2.1 (dd_at ddX11_craned 46 rfl) (by decide) (fun hc_2 => ?_) (fun hc_2 => ?_)
              · have h := h.1 hc_2
                exact tb105 v5 v6 v9 d H locs ls h hw (lv_sub hl [1, 2, 3, 4, 5, 6, 8] rfl)
              · have h := h.2 hc_2
                refine lv_aload_n S.1 S.2.1 (dd_at ddX11_craned 47 rfl) rfl (lv_at hl 1 rfl) ?_
                refine lv_iload S.1 S.2.1 (dd_at ddX11_craned 48 rfl) (lv_at hl 8 rfl) ?_
                refine lv_iconst (v := 0) S.1 S.2.1 (dd_at ddX11_craned 49 rfl) (by decide) ?_
                refine r_callI hw (r_runV (As := [.int v9, .int 0]) (rest := []) S hw (m_X11_ofHut l D cs E d H.size a0 v9 0 _) (cwV 2 S.2.2.2.2 (gV wg827 wg828 wg829 wg5 wg830) rfl rfl rfl (by decide +kernel) ⟨Nat.le_of_ble_eq_true rfl, Nat.le_of_ble_eq_true rfl⟩) (ci := 11) rfl ha0 h rfl hl.1 rfl (Nat.le_of_ble_eq_true rfl) (dd_at ddX11_craned 50 rfl) ⟨Nat.le_of_ble_eq_true rfl, Nat.le_of_ble_eq_true rfl⟩) (fun r_4 d_3 H locs h hw => ?_)
                refine lv_aload_n S.1 S.2.1 (dd_at ddX11_craned 51 rfl) rfl (lv_at hl 1 rfl) ?_
                refine lv_iload S.1 S.2.1 (dd_at ddX11_craned 52 rfl) (lv_at hl 7 rfl) ?_
                refine lv_iconst (v := 0) S.1 S.2.1 (dd_at ddX11_craned 53 rfl) (by decide) ?_
                refine r_callI hw (r_runV (As := [.int v7, .int 0]) (rest := [.int r_4]) S hw (m_X11_ofHut l D cs E d_3 H.size a0 v7 0 _) (cwV 2 S.2.2.2.2 (gV wg827 wg828 wg829 wg5 wg830) rfl rfl rfl (by decide +kernel) ⟨Nat.le_of_ble_eq_true rfl, Nat.le_of_ble_eq_true rfl⟩) (ci := 11) rfl ha0 h rfl hl.1 rfl (Nat.le_of_ble_eq_true rfl) (dd_at ddX11_craned 54 rfl) ⟨Nat.le_of_ble_eq_true rfl, Nat.le_of_ble_eq_true rfl⟩) (fun r_6 d_5 H locs h hw => ?_)
                refine lv_icmp_le (tgt := 109) S.1 S.2.1 (dd_at ddX11_craned 55 rfl) (by decide) (fun hc_7 => ?_) (fun hc_7 => ?_)
                · have h := h.1 hc_7
                  refine lv_iload S.1 S.2.1 (dd_at ddX11_craned 58 rfl) (lv_at hl 4 rfl) ?_
                  refine lv_istore (lv' := [(8, .int p4), (10, .int s0), (0, .ref a0), (2, .int p2), (3, .int p3), (4, .int p4), (5, .int v5), (6, .int v6), (7, .int v7), (9, .int v9)]) S.1 S.2.1 (dd_at ddX11_craned 59 rfl) hl (by decide) rfl (fun ls hl => ?_)
                  refine lv_iinc (v := v9 + 1) (lv' := [(9, .int (v9 + 1)), (8, .int p4), (10, .int s0), (0, .ref a0), (2, .int p2), (3, .int p3), (4, .int p4), (5, .int v5), (6, .int v6), (7, .int v7)]) S.1 S.2.1 (dd_at ddX11_craned 60 rfl) hl (k := 9) rfl rfl (by decide) rfl (fun ls hl => ?_)
                  refine lv_goto (tgt := 21) S.1 S.2.1 (dd_at ddX11_craned 61 rfl) (by decide) ?_
                  exact ih21 v5 v6 v7 p4 (v9 + 1) d_5 H locs ls h hw (lv_sub hl [3, 4, 5, 6, 7, 8, 9, 1, 0] rfl)
                · have h := h.2 hc_7
                  exact tb105 v5 v6 v9 d_5 H locs ls h hw (lv_sub hl [1, 2, 3, 4, 5, 6, 8] rfl)
          intro v5 v6 v7 v8 v9 d H locs ls h hw hl
          have h : b_X11_craned_21 E a0 p1 p2 p3 p4 K (l_X11_craned_6 E a0 p1 p2 p3 p4 K n6) (l_X11_craned_21 E a0 p1 p2 p3 p4 K (l_X11_craned_6 E a0 p1 p2 p3 p4 K n6) n21) v5 v6 v7 v8 v9 d := h
          unfold b_X11_craned_21 at h
          refine lv_iload S.1 S.2.1 (dd_at ddX11_craned 13 rfl) (lv_at hl 8 rfl) ?_
          refine lv_aload_n S.1 S.2.1 (dd_at ddX11_craned 14 rfl) rfl (lv_at hl 0 rfl) ?_
          refine r_callI hw (r_runV (As := []) (rest := [.int v9]) S hw (m_X11_huts l D cs E d H.size a0 _) (cwV 0 S.2.2.2.2 (gV wg596 wg597 wg598 wg5 wg599) rfl rfl rfl (by decide +kernel) ⟨Nat.le_of_ble_eq_true rfl, Nat.le_of_ble_eq_true rfl⟩) (ci := 11) rfl ha0 h rfl hl.1 rfl (Nat.le_of_ble_eq_true rfl) (dd_at ddX11_craned 15 rfl) ⟨Nat.le_of_ble_eq_true rfl, Nat.le_of_ble_eq_true rfl⟩) (fun r_9 d_8 H locs h hw => ?_)
          refine lv_icmp_ge (tgt := 119) S.1 S.2.1 (dd_at ddX11_craned 16 rfl) (by decide) (fun hc_10 => ?_) (fun hc_10 => ?_)
          · have h := h.1 hc_10
            refine lv_iload S.1 S.2.1 (dd_at ddX11_craned 62 rfl) (lv_at hl 6 rfl) ?_
            refine lv_if_ge (tgt := 129) S.1 S.2.1 (dd_at ddX11_craned 63 rfl) (by decide) (fun hc_11 => ?_) (fun hc_11 => ?_)
            · have h := h.1 hc_11
              refine lv_iload S.1 S.2.1 (dd_at ddX11_craned 66 rfl) (lv_at hl 4 rfl) ?_
              refine lv_iconst (v := 1) S.1 S.2.1 (dd_at ddX11_craned 67 rfl) (by decide) ?_
              refine lv_iload S.1 S.2.1 (dd_at ddX11_craned 68 rfl) (lv_at hl 6 rfl) ?_
              refine lv_ishl S.1 S.2.1 (dd_at ddX11_craned 69 rfl) ?_
              refine lv_iconst (v := -1) S.1 S.2.1 (dd_at ddX11_craned 70 rfl) (by decide) ?_
              refine lv_ixor S.1 S.2.1 (dd_at ddX11_craned 71 rfl) ?_
              refine lv_iand S.1 S.2.1 (dd_at ddX11_craned 72 rfl) ?_
              refine lv_istore (lv' := [(5, .int (v5 &&& (((1 : Int32) <<< (v7 &&& 31)) ^^^ (-1)))), (0, .ref a0), (2, .int p2), (3, .int p3), (4, .int p4), (6, .int v6), (7, .int v7), (8, .int v8), (9, .int v9)]) S.1 S.2.1 (dd_at ddX11_craned 73 rfl) hl (by decide) rfl (fun ls hl => ?_)
              refine lv_iinc (v := v6 + 1) (lv' := [(6, .int (v6 + 1)), (5, .int (v5 &&& (((1 : Int32) <<< (v7 &&& 31)) ^^^ (-1)))), (0, .ref a0), (2, .int p2), (3, .int p3), (4, .int p4), (7, .int v7), (8, .int v8), (9, .int v9)]) S.1 S.2.1 (dd_at ddX11_craned 74 rfl) hl (k := 5) rfl rfl (by decide) rfl (fun ls hl => ?_)
              refine lv_goto (tgt := 6) S.1 S.2.1 (dd_at ddX11_craned 75 rfl) (by decide) ?_
              exact ih6 (v5 &&& (((1 : Int32) <<< (v7 &&& 31)) ^^^ (-1))) (v6 + 1) d_8 H locs ls h hw (lv_sub hl [2, 3, 4, 5, 1, 0] rfl)
            · have h := h.2 hc_11
              refine lv_iload S.1 S.2.1 (dd_at ddX11_craned 64 rfl) (lv_at hl 4 rfl) ?_
              refine lv_goto (tgt := 138) S.1 S.2.1 (dd_at ddX11_craned 65 rfl) (by decide) ?_
              refine lv_istore (lv' := [(5, .int v5), (0, .ref a0), (2, .int p2), (3, .int p3), (4, .int p4), (6, .int v6), (7, .int v7), (8, .int v8), (9, .int v9)]) S.1 S.2.1 (dd_at ddX11_craned 73 rfl) hl (by decide) rfl (fun ls hl => ?_)
              refine lv_iinc (v := v6 + 1) (lv' := [(6, .int (v6 + 1)), (5, .int v5), (0, .ref a0), (2, .int p2), (3, .int p3), (4, .int p4), (7, .int v7), (8, .int v8), (9, .int v9)]) S.1 S.2.1 (dd_at ddX11_craned 74 rfl) hl (k := 5) rfl rfl (by decide) rfl (fun ls hl => ?_)
              refine lv_goto (tgt := 6) S.1 S.2.1 (dd_at ddX11_craned 75 rfl) (by decide) ?_
              exact ih6 v5 (v6 + 1) d_8 H locs ls h hw (lv_sub hl [2, 3, 4, 5, 1, 0] rfl)
          · have h := h.2 hc_10
            refine lv_iload S.1 S.2.1 (dd_at ddX11_craned 17 rfl) (lv_at hl 4 rfl) ?_
            refine lv_iload S.1 S.2.1 (dd_at ddX11_craned 18 rfl) (lv_at hl 8 rfl) ?_
            refine lv_ishr S.1 S.2.1 (dd_at ddX11_craned 19 rfl) ?_
            refine lv_iconst (v := 1) S.1 S.2.1 (dd_at ddX11_craned 20 rfl) (by decide) ?_
            refine lv_iand S.1 S.2.1 (dd_at ddX11_craned 21 rfl) ?_
            refine lv_if_eq (tgt := 113) S.1 S.2.1 (dd_at ddX11_craned 22 rfl) (by decide) (fun hc_12 => ?_) (fun hc_12 => ?_)
            · have h := h.1 hc_12
              refine lv_iinc (v := v9 + 1) (lv' := [(9, .int (v9 + 1)), (0, .ref a0), (2, .int p2), (3, .int p3), (4, .int p4), (5, .int v5), (6, .int v6), (7, .int v7), (8, .int v8)]) S.1 S.2.1 (dd_at ddX11_craned 60 rfl) hl (k := 8) rfl rfl (by decide) rfl (fun ls hl => ?_)
              refine lv_goto (tgt := 21) S.1 S.2.1 (dd_at ddX11_craned 61 rfl) (by decide) ?_
              exact ih21 v5 v6 v7 v8 (v9 + 1) d_8 H locs ls h hw (lv_sub hl [1, 2, 3, 4, 5, 6, 7, 8, 0] rfl)
            · have h := h.2 hc_12
              refine lv_iload S.1 S.2.1 (dd_at ddX11_craned 23 rfl) (lv_at hl 7 rfl) ?_
              refine lv_if_eq (tgt := 48) S.1 S.2.1 (dd_at ddX11_craned 24 rfl) (by decide) (fun hc_13 => ?_) (fun hc_13 => ?_)
              · have h := h.1 hc_13
                refine lv_aload_n S.1 S.2.1 (dd_at ddX11_craned 26 rfl) rfl (lv_at hl 0 rfl) ?_
                obtain ⟨b_14, hb_15, ho_16, h⟩ := h
                refine r_getR S hw 11 1 rfl inG11 (by decide) (List.mem_cons_of_mem _ wg150) (by decide) ha0 hb_15 (dd_at ddX11_craned 27 rfl) ?_
                refine lv_sipush (v := 536) S.1 S.2.1 (dd_at ddX11_craned 28 rfl) (by decide) ?_
                refine lv_iload_n S.1 S.2.1 (dd_at ddX11_craned 29 rfl) rfl (lv_at hl 1 rfl) ?_
                refine lv_iadd S.1 S.2.1 (dd_at ddX11_craned 30 rfl) ?_
                obtain ⟨hx_17, h⟩ := h
                refine r_iald S hw ho_16 hx_17 (dd_at ddX11_craned 31 rfl) ?_
                refine lv_aload_n S.1 S.2.1 (dd_at ddX11_craned 32 rfl) rfl (lv_at hl 0 rfl) ?_
                refine lv_iload S.1 S.2.1 (dd_at ddX11_craned 33 rfl) (lv_at hl 8 rfl) ?_
                refine lv_iconst (v := 0) S.1 S.2.1 (dd_at ddX11_craned 34 rfl) (by decide) ?_
                refine r_callI hw (r_runV (As := [.int v9, .int 0]) (rest := [.int (gA d_8 b_14 (536 + p2).toNatClampNeg)]) S hw (m_X11_ofHut l D cs E d_8 H.size a0 v9 0 _) (cwV 2 S.2.2.2.2 (gV wg827 wg828 wg829 wg5 wg830) rfl rfl rfl (by decide +kernel) ⟨Nat.le_of_ble_eq_true rfl, Nat.le_of_ble_eq_true rfl⟩) (ci := 11) rfl ha0 h rfl hl.1 rfl (Nat.le_of_ble_eq_true rfl) (dd_at ddX11_craned 35 rfl) ⟨Nat.le_of_ble_eq_true rfl, Nat.le_of_ble_eq_true rfl⟩) (fun r_19 d_18 H locs h hw => ?_)
                refine lv_iadd S.1 S.2.1 (dd_at ddX11_craned 36 rfl) ?_
                refine lv_bipush (v := 12) S.1 S.2.1 (dd_at ddX11_craned 37 rfl) (by decide) ?_
                refine lv_icmp_gt (tgt := 75) S.1 S.2.1 (dd_at ddX11_craned 38 rfl) (by decide) (fun hc_20 => ?_) (fun hc_20 => ?_)
                · have h := h.1 hc_20
                  refine lv_iconst (v := 0) S.1 S.2.1 (dd_at ddX11_craned 41 rfl) (by decide) ?_
                  exact tb76 v5 v6 v7 v9 0 d_18 H locs ls h hw (lv_sub hl [0, 1, 2, 3, 4, 5, 6, 8] rfl)
                · have h := h.2 hc_20
                  refine lv_iconst (v := 1) S.1 S.2.1 (dd_at ddX11_craned 39 rfl) (by decide) ?_
                  refine lv_goto (tgt := 76) S.1 S.2.1 (dd_at ddX11_craned 40 rfl) (by decide) ?_
                  exact tb76 v5 v6 v7 v9 1 d_18 H locs ls h hw (lv_sub hl [0, 1, 2, 3, 4, 5, 6, 8] rfl)
              · have h := h.2 hc_13
                refine lv_goto (tgt := 113) S.1 S.2.1 (dd_at ddX11_craned 25 rfl) (by decide) ?_
                refine lv_iinc (v := v9 + 1) (lv' := [(9, .int (v9 + 1)), (0, .ref a0), (2, .int p2), (3, .int p3), (4, .int p4), (5, .int v5), (6, .int v6), (7, .int v7), (8, .int v8)]) S.1 S.2.1 (dd_at ddX11_craned 60 rfl) hl (k := 8) rfl rfl (by decide) rfl (fun ls hl => ?_)
                refine lv_goto (tgt := 21) S.1 S.2.1 (dd_at ddX11_craned 61 rfl) (by decide) ?_
                exact ih21 v5 v6 v7 v8 (v9 + 1) d_8 H locs ls h hw (lv_sub hl [1, 2, 3, 4, 5, 6, 7, 8, 0] rfl)
      intro v5 v6 d H locs ls h hw hl
      have h : b_X11_craned_6 E a0 p1 p2 p3 p4 K (l_X11_craned_6 E a0 p1 p2 p3 p4 K n6) v5 v6 d := h
      unfold b_X11_craned_6 at h
      refine lv_iload S.1 S.2.1 (dd_at ddX11_craned 4 rfl) (lv_at hl 5 rfl) ?_
      refine lv_iload_n S.1 S.2.1 (dd_at ddX11_craned 5 rfl) rfl (lv_at hl 2 rfl) ?_
      refine lv_icmp_ge (tgt := 146) S.1 S.2.1 (dd_at ddX11_craned 6 rfl) (by decide) (fun hc_21 => ?_) (fun hc_21 => ?_)
      · have h := h.1 hc_21
        refine lv_iload S.1 S.2.1 (dd_at ddX11_craned 76 rfl) (lv_at hl 4 rfl) ?_
        exact e_I S hr hlocks hw h (dd_at ddX11_craned 77 rfl)
      · have h := h.2 hc_21
        refine lv_iconst (v := -1) S.1 S.2.1 (dd_at ddX11_craned 7 rfl) (by decide) ?_
        refine lv_istore (lv' := [(7, .int (-1)), (0, .ref a0), (2, .int p2), (3, .int p3), (4, .int p4), (5, .int v5), (6, .int v6)]) S.1 S.2.1 (dd_at ddX11_craned 8 rfl) hl (by decide) rfl (fun ls hl => ?_)
        refine lv_iconst (v := 0) S.1 S.2.1 (dd_at ddX11_craned 9 rfl) (by decide) ?_
        refine lv_istore (lv' := [(8, .int 0), (7, .int (-1)), (0, .ref a0), (2, .int p2), (3, .int p3), (4, .int p4), (5, .int v5), (6, .int v6)]) S.1 S.2.1 (dd_at ddX11_craned 10 rfl) hl (by decide) rfl (fun ls hl => ?_)
        refine lv_iconst (v := 0) S.1 S.2.1 (dd_at ddX11_craned 11 rfl) (by decide) ?_
        refine lv_istore (lv' := [(9, .int 0), (8, .int 0), (7, .int (-1)), (0, .ref a0), (2, .int p2), (3, .int p3), (4, .int p4), (5, .int v5), (6, .int v6)]) S.1 S.2.1 (dd_at ddX11_craned 12 rfl) hl (by decide) rfl (fun ls hl => ?_)
        obtain ⟨n_22, h⟩ := h
        exact tl21 n_22 v5 v6 (-1) 0 0 d H locs ls h hw (lv_sub hl [3, 4, 5, 6, 7, 8, 2, 1, 0] rfl)
  refine lv_iload_n S.1 S.2.1 (dd_at ddX11_craned 0 rfl) rfl (lv_at hl 1 rfl) ?_
  refine lv_istore (lv' := [(5, .int p1), (0, .ref a0), (1, .int p1), (2, .int p2), (3, .int p3), (4, .int p4)]) S.1 S.2.1 (dd_at ddX11_craned 1 rfl) hl (by decide) rfl (fun ls hl => ?_)
  refine lv_iconst (v := 0) S.1 S.2.1 (dd_at ddX11_craned 2 rfl) (by decide) ?_
  refine lv_istore (lv' := [(6, .int 0), (5, .int p1), (0, .ref a0), (1, .int p1), (2, .int p2), (3, .int p3), (4, .int p4)]) S.1 S.2.1 (dd_at ddX11_craned 3 rfl) hl (by decide) rfl (fun ls hl => ?_)
  obtain ⟨n_23, h⟩ := h
  exact tl6 n_23 p1 0 d H locs ls h hw (lv_sub hl [2, 4, 5, 6, 1, 0] rfl)

def b_X11_crane_64 (E : En) (a0 : Nat) (p1 : Int32) (p2 : Int32) (p3 : Int32) (p4 : Int32) (K : Int32 → Dy → Prop) (k64 : Int32 → Int32 → Dy → Prop) (v5 : Int32) (v6 : Int32) (d : Dy) : Prop := ((60 ≤ v6 → K (-1) d) ∧ (¬ 60 ≤ v6 → w_X11_craned E a0 v5 v6 p3 p4 d (fun r_3 d_2 => ((¬ r_3 = 0 → k64 r_3 (v6 + 1) d_2) ∧ (r_3 = 0 → K v6 d_2)))))
def l_X11_crane_64 (E : En) (a0 : Nat) (p1 : Int32) (p2 : Int32) (p3 : Int32) (p4 : Int32) (K : Int32 → Dy → Prop) : Nat → Int32 → Int32 → Dy → Prop
  | 0 => fun _ _ _ => False
  | n + 1 => b_X11_crane_64 E a0 p1 p2 p3 p4 K (l_X11_crane_64 E a0 p1 p2 p3 p4 K n)
def b_X11_crane_33 (E : En) (a0 : Nat) (p1 : Int32) (p2 : Int32) (p3 : Int32) (p4 : Int32) (K : Int32 → Dy → Prop) (s0 : Nat) (s1 : Int32) (d : Dy) : Prop := okO E s0 11 ∧ w_X11_throwsIf E s0 s1 2 d (fun r_6 d_5 => ((r_6 = 0 → w_X11_huts E a0 d_5 (fun r_9 d_8 => ((¬ (p1 &&& (((1 : Int32) <<< (r_9 &&& 31)) - 1)) = 0 → (∃ n_11 : Nat, l_X11_crane_64 E a0 p1 p2 p3 p4 K n_11 (p1 &&& (((1 : Int32) <<< (r_9 &&& 31)) - 1)) p2 d_8)) ∧ ((p1 &&& (((1 : Int32) <<< (r_9 &&& 31)) - 1)) = 0 → K p2 d_8)))) ∧ (¬ r_6 = 0 → K 0 d_5)))
def w_X11_crane (E : En) (a0 : Nat) (p1 : Int32) (p2 : Int32) (p3 : Int32) (p4 : Int32) (d : Dy) (K : Int32 → Dy → Prop) : Prop := okO E a0 11 ∧ w_X11_noDay E p2 (pI d a0 0 0) (fun r_13 d_12 => w_X11_throwsIf E a0 r_13 1 d_12 (fun r_15 d_14 => ((¬ r_15 = 0 → K 0 d_14) ∧ (r_15 = 0 → w_X11_in E p3 1 9 d_14 (fun r_18 d_17 => ((¬ r_18 = 0 → b_X11_crane_33 E a0 p1 p2 p3 p4 K a0 0 d_17) ∧ (r_18 = 0 → b_X11_crane_33 E a0 p1 p2 p3 p4 K a0 1 d_17)))))))
abbrev rm_X11_crane : Room := { frames := 2, cells := 0, slots := 0, locals := 52 }
set_option maxRecDepth 100000 in
set_option maxHeartbeats 4000000 in
theorem m_X11_crane (l : Launch) (D : va_G) (cs : Nat → ClassId) (E : En) (d : Dy) (sz : Nat) (a0 : Nat) (p1 : Int32) (p2 : Int32) (p3 : Int32) (p4 : Int32) (K : Int32 → Dy → Prop) : CI l yX11_crane (.code yX11_crane cX11_crane 7 (some .int) :: wsL_law) rm_X11_crane D cs E d sz [.ref a0, .int p1, .int p2, .int p3, .int p4] (w_X11_crane E a0 p1 p2 p3 p4 d K) K := by
  refine e_of (cc := cX11_crane) (maxL := 7) (ret := (some .int)) (own := RX11) (by decide) rfl rfl (Nat.le_of_ble_eq_true rfl) ?_
  intro p e s m below meth c S hr hlocks hsz H locs hw h ls hl
  have hl : lv_has ls 7 [(0, .ref a0), (1, .int p1), (2, .int p2), (3, .int p3), (4, .int p4)] := hl
  unfold w_X11_crane at h
  obtain ⟨ha0, h⟩ := h
  have tl64 : ∀ (n : Nat) (v5 : Int32) (v6 : Int32) (d : Dy) (H : Heap) (locs : List Loc) (ls : Array Slot), l_X11_crane_64 E a0 p1 p2 p3 p4 K n v5 v6 d → Wd D cs (AW E sz) s.heap s E d H locs → lv_has ls 7 [(0, .ref a0), (3, .int p3), (4, .int p4), (5, .int v5), (6, .int v6)] → W p l e rm_X11_crane s m ([.ref a0, .int p1, .int p2, .int p3, .int p4] : List Value).toArray below meth c H locs 0 0 (MQ below (va_Qi K (OutW D cs E (AW E sz)) (AW E sz)) ([.ref a0, .int p1, .int p2, .int p3, .int p4] : List Value).toArray s rm_X11_crane.cells rm_X11_crane.slots (AW E sz)) (F0 m 64 ls []) := by
    intro n64
    induction n64 with
    | zero => intro v5 v6 d H locs ls h; exact absurd h id
    | succ n64 ih64 =>
      intro v5 v6 d H locs ls h hw hl
      have h : b_X11_crane_64 E a0 p1 p2 p3 p4 K (l_X11_crane_64 E a0 p1 p2 p3 p4 K n64) v5 v6 d := h
      unfold b_X11_crane_64 at h
      refine lv_iload S.1 S.2.1 (dd_at ddX11_crane 38 rfl) (lv_at hl 4 rfl) ?_
      refine lv_bipush (v := 60) S.1 S.2.1 (dd_at ddX11_crane 39 rfl) (by decide) ?_
      refine lv_icmp_ge (tgt := 98) S.1 S.2.1 (dd_at ddX11_crane 40 rfl) (by decide) (fun hc_1 => ?_) (fun hc_1 => ?_)
      · have h := h.1 hc_1
        refine lv_iconst (v := -1) S.1 S.2.1 (dd_at ddX11_crane 54 rfl) (by decide) ?_
        exact e_I S hr hlocks hw h (dd_at ddX11_crane 55 rfl)
      · have h := h.2 hc_1
        refine lv_aload_n S.1 S.2.1 (dd_at ddX11_crane 41 rfl) rfl (lv_at hl 0 rfl) ?_
        refine lv_iload S.1 S.2.1 (dd_at ddX11_crane 42 rfl) (lv_at hl 3 rfl) ?_
        refine lv_iload S.1 S.2.1 (dd_at ddX11_crane 43 rfl) (lv_at hl 4 rfl) ?_
        refine lv_iload_n S.1 S.2.1 (dd_at ddX11_crane 44 rfl) rfl (lv_at hl 1 rfl) ?_
        refine lv_iload S.1 S.2.1 (dd_at ddX11_crane 45 rfl) (lv_at hl 2 rfl) ?_
        refine r_callI hw (r_runV (As := [.int v5, .int v6, .int p3, .int p4]) (rest := []) S hw (m_X11_craned l D cs E d H.size a0 v5 v6 p3 p4 _) (cwV 4 S.2.2.2.2 (gV wg1238 wg1239 wg1240 wg5 wg1241) rfl rfl rfl (by decide +kernel) ⟨Nat.le_of_ble_eq_true rfl, Nat.le_of_ble_eq_true rfl⟩) (ci := 11) rfl ha0 h rfl hl.1 rfl (Nat.le_of_ble_eq_true rfl) (dd_at ddX11_crane 46 rfl) ⟨Nat.le_of_ble_eq_true rfl, Nat.le_of_ble_eq_true rfl⟩) (fun r_3 d_2 H locs h hw => ?_)
        refine lv_istore (lv' := [(5, .int r_3), (0, .ref a0), (3, .int p3), (4, .int p4), (6, .int v6)]) S.1 S.2.1 (dd_at ddX11_crane 47 rfl) hl (by decide) rfl (fun ls hl => ?_)
        refine lv_iload S.1 S.2.1 (dd_at ddX11_crane 48 rfl) (lv_at hl 0 rfl) ?_
        refine lv_if_ne (tgt := 92) S.1 S.2.1 (dd_at ddX11_crane 49 rfl) (by decide) (fun hc_4 => ?_) (fun hc_4 => ?_)
        · have h := h.1 hc_4
          refine lv_iinc (v := v6 + 1) (lv' := [(6, .int (v6 + 1)), (5, .int r_3), (0, .ref a0), (3, .int p3), (4, .int p4)]) S.1 S.2.1 (dd_at ddX11_crane 52 rfl) hl (k := 4) rfl rfl (by decide) rfl (fun ls hl => ?_)
          refine lv_goto (tgt := 64) S.1 S.2.1 (dd_at ddX11_crane 53 rfl) (by decide) ?_
          exact ih64 r_3 (v6 + 1) d_2 H locs ls h hw (lv_sub hl [2, 3, 4, 1, 0] rfl)
        · have h := h.2 hc_4
          refine lv_iload S.1 S.2.1 (dd_at ddX11_crane 50 rfl) (lv_at hl 4 rfl) ?_
          exact e_I S hr hlocks hw h (dd_at ddX11_crane 51 rfl)
  have tb33 : ∀ (s0 : Nat) (s1 : Int32) (d : Dy) (H : Heap) (locs : List Loc) (ls : Array Slot), b_X11_crane_33 E a0 p1 p2 p3 p4 K s0 s1 d → Wd D cs (AW E sz) s.heap s E d H locs → lv_has ls 7 [(0, .ref a0), (1, .int p1), (2, .int p2), (3, .int p3), (4, .int p4)] → W p l e rm_X11_crane s m ([.ref a0, .int p1, .int p2, .int p3, .int p4] : List Value).toArray below meth c H locs 0 0 (MQ below (va_Qi K (OutW D cs E (AW E sz)) (AW E sz)) ([.ref a0, .int p1, .int p2, .int p3, .int p4] : List Value).toArray s rm_X11_crane.cells rm_X11_crane.slots (AW E sz)) (F0 m 33 ls [.int s1, .ref s0]) := by
    intro s0 s1 d H locs ls h hw hl
    unfold b_X11_crane_33 at h
    obtain ⟨hos0, h⟩ := h
    refine lv_iconst (v := 2) S.1 S.2.1 (dd_at ddX11_crane 18 rfl) (by decide) ?_
    refine r_callI hw (r_runV (As := [.int s1, .int 2]) (rest := []) S hw (m_X11_throwsIf l D cs E d H.size s0 s1 2 _) (cwV 2 S.2.2.2.2 (gV wg421 wg422 wg423 wg5 wg424) rfl rfl rfl (by decide +kernel) ⟨Nat.le_of_ble_eq_true rfl, Nat.le_of_ble_eq_true rfl⟩) (ci := 11) rfl hos0 h rfl hl.1 rfl (Nat.le_of_ble_eq_true rfl) (dd_at ddX11_crane 19 rfl) ⟨Nat.le_of_ble_eq_true rfl, Nat.le_of_ble_eq_true rfl⟩) (fun r_6 d_5 H locs h hw => ?_)
    refine lv_if_eq (tgt := 42) S.1 S.2.1 (dd_at ddX11_crane 20 rfl) (by decide) (fun hc_7 => ?_) (fun hc_7 => ?_)
    · have h := h.1 hc_7
      refine lv_iload_n S.1 S.2.1 (dd_at ddX11_crane 23 rfl) rfl (lv_at hl 1 rfl) ?_
      refine lv_iconst (v := 1) S.1 S.2.1 (dd_at ddX11_crane 24 rfl) (by decide) ?_
      refine lv_aload_n S.1 S.2.1 (dd_at ddX11_crane 25 rfl) rfl (lv_at hl 0 rfl) ?_
      refine r_callI hw (r_runV (As := []) (rest := [.int 1, .int p1]) S hw (m_X11_huts l D cs E d_5 H.size a0 _) (cwV 0 S.2.2.2.2 (gV wg596 wg597 wg598 wg5 wg599) rfl rfl rfl (by decide +kernel) ⟨Nat.le_of_ble_eq_true rfl, Nat.le_of_ble_eq_true rfl⟩) (ci := 11) rfl ha0 h rfl hl.1 rfl (Nat.le_of_ble_eq_true rfl) (dd_at ddX11_crane 26 rfl) ⟨Nat.le_of_ble_eq_true rfl, Nat.le_of_ble_eq_true rfl⟩) (fun r_9 d_8 H locs h hw => ?_)
      refine lv_ishl S.1 S.2.1 (dd_at ddX11_crane 27 rfl) ?_
      refine lv_iconst (v := 1) S.1 S.2.1 (dd_at ddX11_crane 28 rfl) (by decide) ?_
      refine lv_isub S.1 S.2.1 (dd_at ddX11_crane 29 rfl) ?_
      refine lv_iand S.1 S.2.1 (dd_at ddX11_crane 30 rfl) ?_
      refine lv_istore (lv' := [(5, .int (p1 &&& (((1 : Int32) <<< (r_9 &&& 31)) - 1))), (0, .ref a0), (1, .int p1), (2, .int p2), (3, .int p3), (4, .int p4)]) S.1 S.2.1 (dd_at ddX11_crane 31 rfl) hl (by decide) rfl (fun ls hl => ?_)
      refine lv_iload S.1 S.2.1 (dd_at ddX11_crane 32 rfl) (lv_at hl 0 rfl) ?_
      refine lv_if_ne (tgt := 61) S.1 S.2.1 (dd_at ddX11_crane 33 rfl) (by decide) (fun hc_10 => ?_) (fun hc_10 => ?_)
      · have h := h.1 hc_10
        refine lv_iload_n S.1 S.2.1 (dd_at ddX11_crane 36 rfl) rfl (lv_at hl 3 rfl) ?_
        refine lv_istore (lv' := [(6, .int p2), (5, .int (p1 &&& (((1 : Int32) <<< (r_9 &&& 31)) - 1))), (0, .ref a0), (1, .int p1), (2, .int p2), (3, .int p3), (4, .int p4)]) S.1 S.2.1 (dd_at ddX11_crane 37 rfl) hl (by decide) rfl (fun ls hl => ?_)
        obtain ⟨n_11, h⟩ := h
        exact tl64 n_11 (p1 &&& (((1 : Int32) <<< (r_9 &&& 31)) - 1)) p2 d_8 H locs ls h hw (lv_sub hl [2, 5, 6, 1, 0] rfl)
      · have h := h.2 hc_10
        refine lv_iload_n S.1 S.2.1 (dd_at ddX11_crane 34 rfl) rfl (lv_at hl 3 rfl) ?_
        exact e_I S hr hlocks hw h (dd_at ddX11_crane 35 rfl)
    · have h := h.2 hc_7
      refine lv_iconst (v := 0) S.1 S.2.1 (dd_at ddX11_crane 21 rfl) (by decide) ?_
      exact e_I S hr hlocks hw h (dd_at ddX11_crane 22 rfl)
  refine lv_aload_n S.1 S.2.1 (dd_at ddX11_crane 0 rfl) rfl (lv_at hl 0 rfl) ?_
  refine lv_iconst (v := 0) S.1 S.2.1 (dd_at ddX11_crane 1 rfl) (by decide) ?_
  refine r_putI S hw 11 0 (ty := .int) (v := 0) rfl inG11 tyX11 tyX11_ok nmX11 (by decide) (List.mem_cons_of_mem _ wg201) (by decide) rfl (by decide +kernel) rfl rfl ha0 (dd_at ddX11_crane 2 rfl) (fun H locs hw => ?_)
  refine lv_aload_n S.1 S.2.1 (dd_at ddX11_crane 3 rfl) rfl (lv_at hl 0 rfl) ?_
  refine lv_iload_n S.1 S.2.1 (dd_at ddX11_crane 4 rfl) rfl (lv_at hl 2 rfl) ?_
  refine r_callI hw (r_runS (As := [.int p2]) (rest := [.ref a0]) S hw (m_X11_noDay l D cs E (pI d a0 0 0) H.size p2 _) (va_cwS 1 S.2.2.2.2 (gS wg1215 wg1216 wg5 wg1217) rfl rfl rfl (by decide +kernel) ⟨Nat.le_of_ble_eq_true rfl, Nat.le_of_ble_eq_true rfl⟩) h rfl hl.1 rfl (Nat.le_of_ble_eq_true rfl) (dd_at ddX11_crane 5 rfl) ⟨Nat.le_of_ble_eq_true rfl, Nat.le_of_ble_eq_true rfl⟩) (fun r_13 d_12 H locs h hw => ?_)
  refine lv_iconst (v := 1) S.1 S.2.1 (dd_at ddX11_crane 6 rfl) (by decide) ?_
  refine r_callI hw (r_runV (As := [.int r_13, .int 1]) (rest := []) S hw (m_X11_throwsIf l D cs E d_12 H.size a0 r_13 1 _) (cwV 2 S.2.2.2.2 (gV wg421 wg422 wg423 wg5 wg424) rfl rfl rfl (by decide +kernel) ⟨Nat.le_of_ble_eq_true rfl, Nat.le_of_ble_eq_true rfl⟩) (ci := 11) rfl ha0 h rfl hl.1 rfl (Nat.le_of_ble_eq_true rfl) (dd_at ddX11_crane 7 rfl) ⟨Nat.le_of_ble_eq_true rfl, Nat.le_of_ble_eq_true rfl⟩) (fun r_15 d_14 H locs h hw => ?_)
  refine lv_if_ne (tgt := 40) S.1 S.2.1 (dd_at ddX11_crane 8 rfl) (by decide) (fun hc_16 => ?_) (fun hc_16 => ?_)
  · have h := h.1 hc_16
    refine lv_iconst (v := 0) S.1 S.2.1 (dd_at ddX11_crane 21 rfl) (by decide) ?_
    exact e_I S hr hlocks hw h (dd_at ddX11_crane 22 rfl)
  · have h := h.2 hc_16
    refine lv_aload_n S.1 S.2.1 (dd_at ddX11_crane 9 rfl) rfl (lv_at hl 0 rfl) ?_
    refine lv_iload_n S.1 S.2.1 (dd_at ddX11_crane 10 rfl) rfl (lv_at hl 3 rfl) ?_
    refine lv_iconst (v := 1) S.1 S.2.1 (dd_at ddX11_crane 11 rfl) (by decide) ?_
    refine lv_bipush (v := 9) S.1 S.2.1 (dd_at ddX11_crane 12 rfl) (by decide) ?_
    refine r_callI hw (r_runS (As := [.int p3, .int 1, .int 9]) (rest := [.ref a0]) S hw (m_X11_in l D cs E d_14 H.size p3 1 9 _) (va_cwS 3 S.2.2.2.2 (gS wg418 wg419 wg5 wg420) rfl rfl rfl (by decide +kernel) ⟨Nat.le_of_ble_eq_true rfl, Nat.le_of_ble_eq_true rfl⟩) h rfl hl.1 rfl (Nat.le_of_ble_eq_true rfl) (dd_at ddX11_crane 13 rfl) ⟨Nat.le_of_ble_eq_true rfl, Nat.le_of_ble_eq_true rfl⟩) (fun r_18 d_17 H locs h hw => ?_)
    refine lv_if_ne (tgt := 32) S.1 S.2.1 (dd_at ddX11_crane 14 rfl) (by decide) (fun hc_19 => ?_) (fun hc_19 => ?_)
    · have h := h.1 hc_19
      refine lv_iconst (v := 0) S.1 S.2.1 (dd_at ddX11_crane 17 rfl) (by decide) ?_
      exact tb33 a0 0 d_17 H locs ls h hw (lv_sub hl [0, 1, 2, 3, 4] rfl)
    · have h := h.2 hc_19
      refine lv_iconst (v := 1) S.1 S.2.1 (dd_at ddX11_crane 15 rfl) (by decide) ?_
      refine lv_goto (tgt := 33) S.1 S.2.1 (dd_at ddX11_crane 16 rfl) (by decide) ?_
      exact tb33 a0 1 d_17 H locs ls h hw (lv_sub hl [0, 1, 2, 3, 4] rfl)

def b_X11_line_39 (E : En) (a0 : Nat) (p1 : Int32) (p2 : Int32) (p3 : Int32) (K : Dy → Prop) (s0 : Nat) (s1 : Int32) (d : Dy) : Prop := okO E s0 11 ∧ w_X11_throwsIf E s0 s1 2 d (fun r_2 d_1 => ((r_2 = 0 → ∃ b_4 : Nat, eR E a0 1 = some b_4 ∧ okA E b_4 13 ∧ vp_in ((50 + (7 * p1)) + 3) (eN E b_4) ∧ ∃ b_8 : Nat, eR E a0 1 = some b_8 ∧ okA E b_8 13 ∧ vp_in ((50 + (7 * p1)) + 4) (eN E b_8) ∧ K (pA (pA d_1 b_4 ((50 + (7 * p1)) + 3).toNatClampNeg p2) b_8 ((50 + (7 * p1)) + 4).toNatClampNeg p3)) ∧ (¬ r_2 = 0 → K d_1)))
def b_X11_line_34 (E : En) (a0 : Nat) (p1 : Int32) (p2 : Int32) (p3 : Int32) (K : Dy → Prop) (s0 : Nat) (d : Dy) : Prop := okO E s0 11 ∧ b_X11_line_39 E a0 p1 p2 p3 K s0 1 d
def w_X11_line (E : En) (a0 : Nat) (p1 : Int32) (p2 : Int32) (p3 : Int32) (d : Dy) (K : Dy → Prop) : Prop := okO E a0 11 ∧ w_X11_noHut E a0 p1 (pI d a0 0 0) (fun r_13 d_12 => w_X11_throwsIf E a0 r_13 1 d_12 (fun r_15 d_14 => ((¬ r_15 = 0 → K d_14) ∧ (r_15 = 0 → w_X11_in E p2 0 p3 d_14 (fun r_18 d_17 => ((r_18 = 0 → b_X11_line_34 E a0 p1 p2 p3 K a0 d_17) ∧ (¬ r_18 = 0 → ((p3 ≤ 99 → b_X11_line_39 E a0 p1 p2 p3 K a0 0 d_17) ∧ (¬ p3 ≤ 99 → b_X11_line_34 E a0 p1 p2 p3 K a0 d_17)))))))))
abbrev rm_X11_line : Room := { frames := 3, cells := 0, slots := 0, locals := 65 }
set_option maxRecDepth 100000 in
set_option maxHeartbeats 4000000 in
theorem m_X11_line (l : Launch) (D : va_G) (cs : Nat → ClassId) (E : En) (d : Dy) (sz : Nat) (a0 : Nat) (p1 : Int32) (p2 : Int32) (p3 : Int32) (K : Dy → Prop) : CV l yX11_line (.code yX11_line cX11_line 4 none :: wsL_law) rm_X11_line D cs E d sz [.ref a0, .int p1, .int p2, .int p3] (w_X11_line E a0 p1 p2 p3 d K) K := by
  refine e_of (cc := cX11_line) (maxL := 4) (ret := none) (own := RX11) (by decide) rfl rfl (Nat.le_of_ble_eq_true rfl) ?_
  intro p e s m below meth c S hr hlocks hsz H locs hw h ls hl
  have hl : lv_has ls 4 [(0, .ref a0), (1, .int p1), (2, .int p2), (3, .int p3)] := hl
  unfold w_X11_line at h
  obtain ⟨ha0, h⟩ := h
  have tb39 : ∀ (s0 : Nat) (s1 : Int32) (d : Dy) (H : Heap) (locs : List Loc) (ls : Array Slot), b_X11_line_39 E a0 p1 p2 p3 K s0 s1 d → Wd D cs (AW E sz) s.heap s E d H locs → lv_has ls 4 [(0, .ref a0), (1, .int p1), (2, .int p2), (3, .int p3)] → W p l e rm_X11_line s m ([.ref a0, .int p1, .int p2, .int p3] : List Value).toArray below meth c H locs 0 0 (MQ below (va_Qv K (OutW D cs E (AW E sz)) (AW E sz)) ([.ref a0, .int p1, .int p2, .int p3] : List Value).toArray s rm_X11_line.cells rm_X11_line.slots (AW E sz)) (F0 m 39 ls [.int s1, .ref s0]) := by
    intro s0 s1 d H locs ls h hw hl
    unfold b_X11_line_39 at h
    obtain ⟨hos0, h⟩ := h
    refine lv_iconst (v := 2) S.1 S.2.1 (dd_at ddX11_line 22 rfl) (by decide) ?_
    refine r_callI hw (r_runV (As := [.int s1, .int 2]) (rest := []) S hw (m_X11_throwsIf l D cs E d H.size s0 s1 2 _) (cwV 2 S.2.2.2.2 (gV wg421 wg422 wg423 wg5 wg424) rfl rfl rfl (by decide +kernel) ⟨Nat.le_of_ble_eq_true rfl, Nat.le_of_ble_eq_true rfl⟩) (ci := 11) rfl hos0 h rfl hl.1 rfl (Nat.le_of_ble_eq_true rfl) (dd_at ddX11_line 23 rfl) ⟨Nat.le_of_ble_eq_true rfl, Nat.le_of_ble_eq_true rfl⟩) (fun r_2 d_1 H locs h hw => ?_)
    refine lv_if_eq (tgt := 47) S.1 S.2.1 (dd_at ddX11_line 24 rfl) (by decide) (fun hc_3 => ?_) (fun hc_3 => ?_)
    · have h := h.1 hc_3
      refine lv_aload_n S.1 S.2.1 (dd_at ddX11_line 26 rfl) rfl (lv_at hl 0 rfl) ?_
      obtain ⟨b_4, hb_5, ho_6, h⟩ := h
      refine r_getR S hw 11 1 rfl inG11 (by decide) (List.mem_cons_of_mem _ wg150) (by decide) ha0 hb_5 (dd_at ddX11_line 27 rfl) ?_
      refine lv_bipush (v := 50) S.1 S.2.1 (dd_at ddX11_line 28 rfl) (by decide) ?_
      refine lv_bipush (v := 7) S.1 S.2.1 (dd_at ddX11_line 29 rfl) (by decide) ?_
      refine lv_iload_n S.1 S.2.1 (dd_at ddX11_line 30 rfl) rfl (lv_at hl 1 rfl) ?_
      refine lv_imul S.1 S.2.1 (dd_at ddX11_line 31 rfl) ?_
      refine lv_iadd S.1 S.2.1 (dd_at ddX11_line 32 rfl) ?_
      refine lv_iconst (v := 3) S.1 S.2.1 (dd_at ddX11_line 33 rfl) (by decide) ?_
      refine lv_iadd S.1 S.2.1 (dd_at ddX11_line 34 rfl) ?_
      refine lv_iload_n S.1 S.2.1 (dd_at ddX11_line 35 rfl) rfl (lv_at hl 2 rfl) ?_
      obtain ⟨hx_7, h⟩ := h
      refine r_iast S hw ho_6 hx_7 (dd_at ddX11_line 36 rfl) (fun H locs hw => ?_)
      refine lv_aload_n S.1 S.2.1 (dd_at ddX11_line 37 rfl) rfl (lv_at hl 0 rfl) ?_
      obtain ⟨b_8, hb_9, ho_10, h⟩ := h
      refine r_getR S hw 11 1 rfl inG11 (by decide) (List.mem_cons_of_mem _ wg150) (by decide) ha0 hb_9 (dd_at ddX11_line 38 rfl) ?_
      refine lv_bipush (v := 50) S.1 S.2.1 (dd_at ddX11_line 39 rfl) (by decide) ?_
      refine lv_bipush (v := 7) S.1 S.2.1 (dd_at ddX11_line 40 rfl) (by decide) ?_
      refine lv_iload_n S.1 S.2.1 (dd_at ddX11_line 41 rfl) rfl (lv_at hl 1 rfl) ?_
      refine lv_imul S.1 S.2.1 (dd_at ddX11_line 42 rfl) ?_
      refine lv_iadd S.1 S.2.1 (dd_at ddX11_line 43 rfl) ?_
      refine lv_iconst (v := 4) S.1 S.2.1 (dd_at ddX11_line 44 rfl) (by decide) ?_
      refine lv_iadd S.1 S.2.1 (dd_at ddX11_line 45 rfl) ?_
      refine lv_iload_n S.1 S.2.1 (dd_at ddX11_line 46 rfl) rfl (lv_at hl 3 rfl) ?_
      obtain ⟨hx_11, h⟩ := h
      refine r_iast S hw ho_10 hx_11 (dd_at ddX11_line 47 rfl) (fun H locs hw => ?_)
      exact e_V S hr hlocks hw h (dd_at ddX11_line 48 rfl)
    · have h := h.2 hc_3
      exact e_V S hr hlocks hw h (dd_at ddX11_line 25 rfl)
  have tb34 : ∀ (s0 : Nat) (d : Dy) (H : Heap) (locs : List Loc) (ls : Array Slot), b_X11_line_34 E a0 p1 p2 p3 K s0 d → Wd D cs (AW E sz) s.heap s E d H locs → lv_has ls 4 [(0, .ref a0), (1, .int p1), (2, .int p2), (3, .int p3)] → W p l e rm_X11_line s m ([.ref a0, .int p1, .int p2, .int p3] : List Value).toArray below meth c H locs 0 0 (MQ below (va_Qv K (OutW D cs E (AW E sz)) (AW E sz)) ([.ref a0, .int p1, .int p2, .int p3] : List Value).toArray s rm_X11_line.cells rm_X11_line.slots (AW E sz)) (F0 m 34 ls [.ref s0]) := by
    intro s0 d H locs ls h hw hl
    unfold b_X11_line_34 at h
    obtain ⟨hos0, h⟩ := h
    refine lv_iconst (v := 1) S.1 S.2.1 (dd_at ddX11_line 19 rfl) (by decide) ?_
    refine lv_goto (tgt := 39) S.1 S.2.1 (dd_at ddX11_line 20 rfl) (by decide) ?_
    exact tb39 s0 1 d H locs ls h hw (lv_sub hl [0, 1, 2, 3] rfl)
  refine lv_aload_n S.1 S.2.1 (dd_at ddX11_line 0 rfl) rfl (lv_at hl 0 rfl) ?_
  refine lv_iconst (v := 0) S.1 S.2.1 (dd_at ddX11_line 1 rfl) (by decide) ?_
  refine r_putI S hw 11 0 (ty := .int) (v := 0) rfl inG11 tyX11 tyX11_ok nmX11 (by decide) (List.mem_cons_of_mem _ wg201) (by decide) rfl (by decide +kernel) rfl rfl ha0 (dd_at ddX11_line 2 rfl) (fun H locs hw => ?_)
  refine lv_aload_n S.1 S.2.1 (dd_at ddX11_line 3 rfl) rfl (lv_at hl 0 rfl) ?_
  refine lv_aload_n S.1 S.2.1 (dd_at ddX11_line 4 rfl) rfl (lv_at hl 0 rfl) ?_
  refine lv_iload_n S.1 S.2.1 (dd_at ddX11_line 5 rfl) rfl (lv_at hl 1 rfl) ?_
  refine r_callI hw (r_runV (As := [.int p1]) (rest := [.ref a0]) S hw (m_X11_noHut l D cs E (pI d a0 0 0) H.size a0 p1 _) (cwV 1 S.2.2.2.2 (gV wg631 wg632 wg633 wg5 wg634) rfl rfl rfl (by decide +kernel) ⟨Nat.le_of_ble_eq_true rfl, Nat.le_of_ble_eq_true rfl⟩) (ci := 11) rfl ha0 h rfl hl.1 rfl (Nat.le_of_ble_eq_true rfl) (dd_at ddX11_line 6 rfl) ⟨Nat.le_of_ble_eq_true rfl, Nat.le_of_ble_eq_true rfl⟩) (fun r_13 d_12 H locs h hw => ?_)
  refine lv_iconst (v := 1) S.1 S.2.1 (dd_at ddX11_line 7 rfl) (by decide) ?_
  refine r_callI hw (r_runV (As := [.int r_13, .int 1]) (rest := []) S hw (m_X11_throwsIf l D cs E d_12 H.size a0 r_13 1 _) (cwV 2 S.2.2.2.2 (gV wg421 wg422 wg423 wg5 wg424) rfl rfl rfl (by decide +kernel) ⟨Nat.le_of_ble_eq_true rfl, Nat.le_of_ble_eq_true rfl⟩) (ci := 11) rfl ha0 h rfl hl.1 rfl (Nat.le_of_ble_eq_true rfl) (dd_at ddX11_line 8 rfl) ⟨Nat.le_of_ble_eq_true rfl, Nat.le_of_ble_eq_true rfl⟩) (fun r_15 d_14 H locs h hw => ?_)
  refine lv_if_ne (tgt := 46) S.1 S.2.1 (dd_at ddX11_line 9 rfl) (by decide) (fun hc_16 => ?_) (fun hc_16 => ?_)
  · have h := h.1 hc_16
    exact e_V S hr hlocks hw h (dd_at ddX11_line 25 rfl)
  · have h := h.2 hc_16
    refine lv_aload_n S.1 S.2.1 (dd_at ddX11_line 10 rfl) rfl (lv_at hl 0 rfl) ?_
    refine lv_iload_n S.1 S.2.1 (dd_at ddX11_line 11 rfl) rfl (lv_at hl 2 rfl) ?_
    refine lv_iconst (v := 0) S.1 S.2.1 (dd_at ddX11_line 12 rfl) (by decide) ?_
    refine lv_iload_n S.1 S.2.1 (dd_at ddX11_line 13 rfl) rfl (lv_at hl 3 rfl) ?_
    refine r_callI hw (r_runS (As := [.int p2, .int 0, .int p3]) (rest := [.ref a0]) S hw (m_X11_in l D cs E d_14 H.size p2 0 p3 _) (va_cwS 3 S.2.2.2.2 (gS wg418 wg419 wg5 wg420) rfl rfl rfl (by decide +kernel) ⟨Nat.le_of_ble_eq_true rfl, Nat.le_of_ble_eq_true rfl⟩) h rfl hl.1 rfl (Nat.le_of_ble_eq_true rfl) (dd_at ddX11_line 14 rfl) ⟨Nat.le_of_ble_eq_true rfl, Nat.le_of_ble_eq_true rfl⟩) (fun r_18 d_17 H locs h hw => ?_)
    refine lv_if_eq (tgt := 34) S.1 S.2.1 (dd_at ddX11_line 15 rfl) (by decide) (fun hc_19 => ?_) (fun hc_19 => ?_)
    · have h := h.1 hc_19
      exact tb34 a0 d_17 H locs ls h hw (lv_sub hl [0, 1, 2, 3] rfl)
    · have h := h.2 hc_19
      refine lv_iload_n S.1 S.2.1 (dd_at ddX11_line 16 rfl) rfl (lv_at hl 3 rfl) ?_
      refine lv_bipush (v := 99) S.1 S.2.1 (dd_at ddX11_line 17 rfl) (by decide) ?_
      refine lv_icmp_le (tgt := 38) S.1 S.2.1 (dd_at ddX11_line 18 rfl) (by decide) (fun hc_20 => ?_) (fun hc_20 => ?_)
      · have h := h.1 hc_20
        refine lv_iconst (v := 0) S.1 S.2.1 (dd_at ddX11_line 21 rfl) (by decide) ?_
        exact tb39 a0 0 d_17 H locs ls h hw (lv_sub hl [0, 1, 2, 3] rfl)
      · have h := h.2 hc_20
        exact tb34 a0 d_17 H locs ls h hw (lv_sub hl [0, 1, 2, 3] rfl)

def b_X11_storm_62 (E : En) (a0 : Nat) (p1 : Int32) (p2 : Int32) (K : Int32 → Dy → Prop) (s0 : Nat) (s1 : Int32) (d : Dy) : Prop := okO E s0 11 ∧ w_X11_throwsIf E s0 s1 3 d (fun r_2 d_1 => ((r_2 = 0 → ∃ b_4 : Nat, eR E a0 1 = some b_4 ∧ okA E b_4 13 ∧ vp_in 3 (eN E b_4) ∧ w_X11_puts E a0 5 390 p1 p2 (gA d_1 b_4 ((3 : Int32)).toNatClampNeg) d_1 (fun r_9 d_8 => K (r_9 - 1) d_8)) ∧ (¬ r_2 = 0 → K 0 d_1)))
def b_X11_storm_38 (E : En) (a0 : Nat) (p1 : Int32) (p2 : Int32) (K : Int32 → Dy → Prop) (s0 : Nat) (s1 : Int32) (d : Dy) : Prop := okO E s0 11 ∧ w_X11_throwsIf E s0 s1 2 d (fun r_11 d_10 => ((¬ r_11 = 0 → K 0 d_10) ∧ (r_11 = 0 → ∃ b_13 : Nat, eR E a0 1 = some b_13 ∧ okA E b_13 13 ∧ vp_in 5 (eN E b_13) ∧ ((¬ (gA d_10 b_13 ((5 : Int32)).toNatClampNeg) = 10 → b_X11_storm_62 E a0 p1 p2 K a0 0 d_10) ∧ ((gA d_10 b_13 ((5 : Int32)).toNatClampNeg) = 10 → b_X11_storm_62 E a0 p1 p2 K a0 1 d_10)))))
def w_X11_storm (E : En) (a0 : Nat) (p1 : Int32) (p2 : Int32) (d : Dy) (K : Int32 → Dy → Prop) : Prop := okO E a0 11 ∧ w_X11_noYear E p1 (pI d a0 0 0) (fun r_19 d_18 => w_X11_throwsIf E a0 r_19 1 d_18 (fun r_21 d_20 => ((¬ r_21 = 0 → K 0 d_20) ∧ (r_21 = 0 → w_X11_huts E a0 d_20 (fun r_24 d_23 => (((p2 &&& ((((1 : Int32) <<< (r_24 &&& 31)) - 1) ^^^ (-1))) = 0 → b_X11_storm_38 E a0 p1 p2 K a0 0 d_23) ∧ (¬ (p2 &&& ((((1 : Int32) <<< (r_24 &&& 31)) - 1) ^^^ (-1))) = 0 → b_X11_storm_38 E a0 p1 p2 K a0 1 d_23)))))))
abbrev rm_X11_storm : Room := { frames := 2, cells := 0, slots := 0, locals := 42 }
set_option maxRecDepth 100000 in
set_option maxHeartbeats 4000000 in
theorem m_X11_storm (l : Launch) (D : va_G) (cs : Nat → ClassId) (E : En) (d : Dy) (sz : Nat) (a0 : Nat) (p1 : Int32) (p2 : Int32) (K : Int32 → Dy → Prop) : CI l yX11_storm (.code yX11_storm cX11_storm 3 (some .int) :: wsL_law) rm_X11_storm D cs E d sz [.ref a0, .int p1, .int p2] (w_X11_storm E a0 p1 p2 d K) K := by
  refine e_of (cc := cX11_storm) (maxL := 3) (ret := (some .int)) (own := RX11) (by decide) rfl rfl (Nat.le_of_ble_eq_true rfl) ?_
  intro p e s m below meth c S hr hlocks hsz H locs hw h ls hl
  have hl : lv_has ls 3 [(0, .ref a0), (1, .int p1), (2, .int p2)] := hl
  unfold w_X11_storm at h
  obtain ⟨ha0, h⟩ := h
  have tb62 : ∀ (s0 : Nat) (s1 : Int32) (d : Dy) (H : Heap) (locs : List Loc) (ls : Array Slot), b_X11_storm_62 E a0 p1 p2 K s0 s1 d → Wd D cs (AW E sz) s.heap s E d H locs → lv_has ls 3 [(0, .ref a0), (1, .int p1), (2, .int p2)] → W p l e rm_X11_storm s m ([.ref a0, .int p1, .int p2] : List Value).toArray below meth c H locs 0 0 (MQ below (va_Qi K (OutW D cs E (AW E sz)) (AW E sz)) ([.ref a0, .int p1, .int p2] : List Value).toArray s rm_X11_storm.cells rm_X11_storm.slots (AW E sz)) (F0 m 62 ls [.int s1, .ref s0]) := by
    intro s0 s1 d H locs ls h hw hl
    unfold b_X11_storm_62 at h
    obtain ⟨hos0, h⟩ := h
    refine lv_iconst (v := 3) S.1 S.2.1 (dd_at ddX11_storm 37 rfl) (by decide) ?_
    refine r_callI hw (r_runV (As := [.int s1, .int 3]) (rest := []) S hw (m_X11_throwsIf l D cs E d H.size s0 s1 3 _) (cwV 2 S.2.2.2.2 (gV wg421 wg422 wg423 wg5 wg424) rfl rfl rfl (by decide +kernel) ⟨Nat.le_of_ble_eq_true rfl, Nat.le_of_ble_eq_true rfl⟩) (ci := 11) rfl hos0 h rfl hl.1 rfl (Nat.le_of_ble_eq_true rfl) (dd_at ddX11_storm 38 rfl) ⟨Nat.le_of_ble_eq_true rfl, Nat.le_of_ble_eq_true rfl⟩) (fun r_2 d_1 H locs h hw => ?_)
    refine lv_if_eq (tgt := 71) S.1 S.2.1 (dd_at ddX11_storm 39 rfl) (by decide) (fun hc_3 => ?_) (fun hc_3 => ?_)
    · have h := h.1 hc_3
      refine lv_aload_n S.1 S.2.1 (dd_at ddX11_storm 42 rfl) rfl (lv_at hl 0 rfl) ?_
      refine lv_iconst (v := 5) S.1 S.2.1 (dd_at ddX11_storm 43 rfl) (by decide) ?_
      refine lv_sipush (v := 390) S.1 S.2.1 (dd_at ddX11_storm 44 rfl) (by decide) ?_
      refine lv_iload_n S.1 S.2.1 (dd_at ddX11_storm 45 rfl) rfl (lv_at hl 1 rfl) ?_
      refine lv_iload_n S.1 S.2.1 (dd_at ddX11_storm 46 rfl) rfl (lv_at hl 2 rfl) ?_
      refine lv_aload_n S.1 S.2.1 (dd_at ddX11_storm 47 rfl) rfl (lv_at hl 0 rfl) ?_
      obtain ⟨b_4, hb_5, ho_6, h⟩ := h
      refine r_getR S hw 11 1 rfl inG11 (by decide) (List.mem_cons_of_mem _ wg150) (by decide) ha0 hb_5 (dd_at ddX11_storm 48 rfl) ?_
      refine lv_iconst (v := 3) S.1 S.2.1 (dd_at ddX11_storm 49 rfl) (by decide) ?_
      obtain ⟨hx_7, h⟩ := h
      refine r_iald S hw ho_6 hx_7 (dd_at ddX11_storm 50 rfl) ?_
      refine r_callI hw (r_runV (As := [.int 5, .int 390, .int p1, .int p2, .int (gA d_1 b_4 ((3 : Int32)).toNatClampNeg)]) (rest := []) S hw (m_X11_puts l D cs E d_1 H.size a0 5 390 p1 p2 (gA d_1 b_4 ((3 : Int32)).toNatClampNeg) _) (cwV 5 S.2.2.2.2 (gV wg562 wg563 wg564 wg5 wg565) rfl rfl rfl (by decide +kernel) ⟨Nat.le_of_ble_eq_true rfl, Nat.le_of_ble_eq_true rfl⟩) (ci := 11) rfl ha0 h rfl hl.1 rfl (Nat.le_of_ble_eq_true rfl) (dd_at ddX11_storm 51 rfl) ⟨Nat.le_of_ble_eq_true rfl, Nat.le_of_ble_eq_true rfl⟩) (fun r_9 d_8 H locs h hw => ?_)
      refine lv_iconst (v := 1) S.1 S.2.1 (dd_at ddX11_storm 52 rfl) (by decide) ?_
      refine lv_isub S.1 S.2.1 (dd_at ddX11_storm 53 rfl) ?_
      exact e_I S hr hlocks hw h (dd_at ddX11_storm 54 rfl)
    · have h := h.2 hc_3
      refine lv_iconst (v := 0) S.1 S.2.1 (dd_at ddX11_storm 40 rfl) (by decide) ?_
      exact e_I S hr hlocks hw h (dd_at ddX11_storm 41 rfl)
  have tb38 : ∀ (s0 : Nat) (s1 : Int32) (d : Dy) (H : Heap) (locs : List Loc) (ls : Array Slot), b_X11_storm_38 E a0 p1 p2 K s0 s1 d → Wd D cs (AW E sz) s.heap s E d H locs → lv_has ls 3 [(0, .ref a0), (1, .int p1), (2, .int p2)] → W p l e rm_X11_storm s m ([.ref a0, .int p1, .int p2] : List Value).toArray below meth c H locs 0 0 (MQ below (va_Qi K (OutW D cs E (AW E sz)) (AW E sz)) ([.ref a0, .int p1, .int p2] : List Value).toArray s rm_X11_storm.cells rm_X11_storm.slots (AW E sz)) (F0 m 38 ls [.int s1, .ref s0]) := by
    intro s0 s1 d H locs ls h hw hl
    unfold b_X11_storm_38 at h
    obtain ⟨hos0, h⟩ := h
    refine lv_iconst (v := 2) S.1 S.2.1 (dd_at ddX11_storm 24 rfl) (by decide) ?_
    refine r_callI hw (r_runV (As := [.int s1, .int 2]) (rest := []) S hw (m_X11_throwsIf l D cs E d H.size s0 s1 2 _) (cwV 2 S.2.2.2.2 (gV wg421 wg422 wg423 wg5 wg424) rfl rfl rfl (by decide +kernel) ⟨Nat.le_of_ble_eq_true rfl, Nat.le_of_ble_eq_true rfl⟩) (ci := 11) rfl hos0 h rfl hl.1 rfl (Nat.le_of_ble_eq_true rfl) (dd_at ddX11_storm 25 rfl) ⟨Nat.le_of_ble_eq_true rfl, Nat.le_of_ble_eq_true rfl⟩) (fun r_11 d_10 H locs h hw => ?_)
    refine lv_if_ne (tgt := 69) S.1 S.2.1 (dd_at ddX11_storm 26 rfl) (by decide) (fun hc_12 => ?_) (fun hc_12 => ?_)
    · have h := h.1 hc_12
      refine lv_iconst (v := 0) S.1 S.2.1 (dd_at ddX11_storm 40 rfl) (by decide) ?_
      exact e_I S hr hlocks hw h (dd_at ddX11_storm 41 rfl)
    · have h := h.2 hc_12
      refine lv_aload_n S.1 S.2.1 (dd_at ddX11_storm 27 rfl) rfl (lv_at hl 0 rfl) ?_
      refine lv_aload_n S.1 S.2.1 (dd_at ddX11_storm 28 rfl) rfl (lv_at hl 0 rfl) ?_
      obtain ⟨b_13, hb_14, ho_15, h⟩ := h
      refine r_getR S hw 11 1 rfl inG11 (by decide) (List.mem_cons_of_mem _ wg150) (by decide) ha0 hb_14 (dd_at ddX11_storm 29 rfl) ?_
      refine lv_iconst (v := 5) S.1 S.2.1 (dd_at ddX11_storm 30 rfl) (by decide) ?_
      obtain ⟨hx_16, h⟩ := h
      refine r_iald S hw ho_15 hx_16 (dd_at ddX11_storm 31 rfl) ?_
      refine lv_bipush (v := 10) S.1 S.2.1 (dd_at ddX11_storm 32 rfl) (by decide) ?_
      refine lv_icmp_ne (tgt := 61) S.1 S.2.1 (dd_at ddX11_storm 33 rfl) (by decide) (fun hc_17 => ?_) (fun hc_17 => ?_)
      · have h := h.1 hc_17
        refine lv_iconst (v := 0) S.1 S.2.1 (dd_at ddX11_storm 36 rfl) (by decide) ?_
        exact tb62 a0 0 d_10 H locs ls h hw (lv_sub hl [0, 1, 2] rfl)
      · have h := h.2 hc_17
        refine lv_iconst (v := 1) S.1 S.2.1 (dd_at ddX11_storm 34 rfl) (by decide) ?_
        refine lv_goto (tgt := 62) S.1 S.2.1 (dd_at ddX11_storm 35 rfl) (by decide) ?_
        exact tb62 a0 1 d_10 H locs ls h hw (lv_sub hl [0, 1, 2] rfl)
  refine lv_aload_n S.1 S.2.1 (dd_at ddX11_storm 0 rfl) rfl (lv_at hl 0 rfl) ?_
  refine lv_iconst (v := 0) S.1 S.2.1 (dd_at ddX11_storm 1 rfl) (by decide) ?_
  refine r_putI S hw 11 0 (ty := .int) (v := 0) rfl inG11 tyX11 tyX11_ok nmX11 (by decide) (List.mem_cons_of_mem _ wg201) (by decide) rfl (by decide +kernel) rfl rfl ha0 (dd_at ddX11_storm 2 rfl) (fun H locs hw => ?_)
  refine lv_aload_n S.1 S.2.1 (dd_at ddX11_storm 3 rfl) rfl (lv_at hl 0 rfl) ?_
  refine lv_iload_n S.1 S.2.1 (dd_at ddX11_storm 4 rfl) rfl (lv_at hl 1 rfl) ?_
  refine r_callI hw (r_runS (As := [.int p1]) (rest := [.ref a0]) S hw (m_X11_noYear l D cs E (pI d a0 0 0) H.size p1 _) (va_cwS 1 S.2.2.2.2 (gS wg555 wg556 wg5 wg557) rfl rfl rfl (by decide +kernel) ⟨Nat.le_of_ble_eq_true rfl, Nat.le_of_ble_eq_true rfl⟩) h rfl hl.1 rfl (Nat.le_of_ble_eq_true rfl) (dd_at ddX11_storm 5 rfl) ⟨Nat.le_of_ble_eq_true rfl, Nat.le_of_ble_eq_true rfl⟩) (fun r_19 d_18 H locs h hw => ?_)
  refine lv_iconst (v := 1) S.1 S.2.1 (dd_at ddX11_storm 6 rfl) (by decide) ?_
  refine r_callI hw (r_runV (As := [.int r_19, .int 1]) (rest := []) S hw (m_X11_throwsIf l D cs E d_18 H.size a0 r_19 1 _) (cwV 2 S.2.2.2.2 (gV wg421 wg422 wg423 wg5 wg424) rfl rfl rfl (by decide +kernel) ⟨Nat.le_of_ble_eq_true rfl, Nat.le_of_ble_eq_true rfl⟩) (ci := 11) rfl ha0 h rfl hl.1 rfl (Nat.le_of_ble_eq_true rfl) (dd_at ddX11_storm 7 rfl) ⟨Nat.le_of_ble_eq_true rfl, Nat.le_of_ble_eq_true rfl⟩) (fun r_21 d_20 H locs h hw => ?_)
  refine lv_if_ne (tgt := 69) S.1 S.2.1 (dd_at ddX11_storm 8 rfl) (by decide) (fun hc_22 => ?_) (fun hc_22 => ?_)
  · have h := h.1 hc_22
    refine lv_iconst (v := 0) S.1 S.2.1 (dd_at ddX11_storm 40 rfl) (by decide) ?_
    exact e_I S hr hlocks hw h (dd_at ddX11_storm 41 rfl)
  · have h := h.2 hc_22
    refine lv_aload_n S.1 S.2.1 (dd_at ddX11_storm 9 rfl) rfl (lv_at hl 0 rfl) ?_
    refine lv_iload_n S.1 S.2.1 (dd_at ddX11_storm 10 rfl) rfl (lv_at hl 2 rfl) ?_
    refine lv_iconst (v := 1) S.1 S.2.1 (dd_at ddX11_storm 11 rfl) (by decide) ?_
    refine lv_aload_n S.1 S.2.1 (dd_at ddX11_storm 12 rfl) rfl (lv_at hl 0 rfl) ?_
    refine r_callI hw (r_runV (As := []) (rest := [.int 1, .int p2, .ref a0]) S hw (m_X11_huts l D cs E d_20 H.size a0 _) (cwV 0 S.2.2.2.2 (gV wg596 wg597 wg598 wg5 wg599) rfl rfl rfl (by decide +kernel) ⟨Nat.le_of_ble_eq_true rfl, Nat.le_of_ble_eq_true rfl⟩) (ci := 11) rfl ha0 h rfl hl.1 rfl (Nat.le_of_ble_eq_true rfl) (dd_at ddX11_storm 13 rfl) ⟨Nat.le_of_ble_eq_true rfl, Nat.le_of_ble_eq_true rfl⟩) (fun r_24 d_23 H locs h hw => ?_)
    refine lv_ishl S.1 S.2.1 (dd_at ddX11_storm 14 rfl) ?_
    refine lv_iconst (v := 1) S.1 S.2.1 (dd_at ddX11_storm 15 rfl) (by decide) ?_
    refine lv_isub S.1 S.2.1 (dd_at ddX11_storm 16 rfl) ?_
    refine lv_iconst (v := -1) S.1 S.2.1 (dd_at ddX11_storm 17 rfl) (by decide) ?_
    refine lv_ixor S.1 S.2.1 (dd_at ddX11_storm 18 rfl) ?_
    refine lv_iand S.1 S.2.1 (dd_at ddX11_storm 19 rfl) ?_
    refine lv_if_eq (tgt := 37) S.1 S.2.1 (dd_at ddX11_storm 20 rfl) (by decide) (fun hc_25 => ?_) (fun hc_25 => ?_)
    · have h := h.1 hc_25
      refine lv_iconst (v := 0) S.1 S.2.1 (dd_at ddX11_storm 23 rfl) (by decide) ?_
      exact tb38 a0 0 d_23 H locs ls h hw (lv_sub hl [0, 1, 2] rfl)
    · have h := h.2 hc_25
      refine lv_iconst (v := 1) S.1 S.2.1 (dd_at ddX11_storm 21 rfl) (by decide) ?_
      refine lv_goto (tgt := 38) S.1 S.2.1 (dd_at ddX11_storm 22 rfl) (by decide) ?_
      exact tb38 a0 1 d_23 H locs ls h hw (lv_sub hl [0, 1, 2] rfl)

def b_X11_narrows_374 (E : En) (a0 : Nat) (p1 : Int32) (K : Int32 → Dy → Prop) (k80 : Int32 → Int32 → Int32 → Dy → Prop) (k101 : Int32 → Int32 → Int32 → Int32 → Dy → Prop) (k137 : Int32 → Int32 → Int32 → Int32 → Int32 → Dy → Prop) (v2 : Int32) (v4 : Int32) (v5 : Int32) (v6 : Int32) (v8 : Int32) (v9 : Int32) (v10 : Int32) (v11 : Int32) (s0 : Int32) (d : Dy) : Prop := ∃ b_1 : Nat, eR E a0 36 = some b_1 ∧ okA E b_1 13 ∧ vp_in v5 (eN E b_1) ∧ ∃ b_5 : Nat, eR E a0 37 = some b_5 ∧ okA E b_5 13 ∧ vp_in v5 (eN E b_5) ∧ ∃ b_9 : Nat, eR E a0 34 = some b_9 ∧ okA E b_9 13 ∧ vp_in v6 (eN E b_9) ∧ ∃ b_13 : Nat, eR E a0 35 = some b_13 ∧ okA E b_13 13 ∧ vp_in v6 (eN E b_13) ∧ ((v2 = 0 → k137 0 s0 v4 v5 (v6 + 1) (pA (pA (pA (pA d b_1 (v5).toNatClampNeg v8) b_5 (v5).toNatClampNeg v9) b_9 (v6).toNatClampNeg v10) b_13 (v6).toNatClampNeg v11)) ∧ (¬ v2 = 0 → ((v9 < v8 → k137 0 s0 v4 v5 (v6 + 1) (pA (pA (pA (pA d b_1 (v5).toNatClampNeg v8) b_5 (v5).toNatClampNeg v9) b_9 (v6).toNatClampNeg v10) b_13 (v6).toNatClampNeg v11)) ∧ (¬ v9 < v8 → ((v11 < v10 → k137 0 s0 v4 v5 (v6 + 1) (pA (pA (pA (pA d b_1 (v5).toNatClampNeg v8) b_5 (v5).toNatClampNeg v9) b_9 (v6).toNatClampNeg v10) b_13 (v6).toNatClampNeg v11)) ∧ (¬ v11 < v10 → k137 1 s0 v4 v5 (v6 + 1) (pA (pA (pA (pA d b_1 (v5).toNatClampNeg v8) b_5 (v5).toNatClampNeg v9) b_9 (v6).toNatClampNeg v10) b_13 (v6).toNatClampNeg v11)))))))
def b_X11_narrows_369 (E : En) (a0 : Nat) (p1 : Int32) (K : Int32 → Dy → Prop) (k80 : Int32 → Int32 → Int32 → Dy → Prop) (k101 : Int32 → Int32 → Int32 → Int32 → Dy → Prop) (k137 : Int32 → Int32 → Int32 → Int32 → Int32 → Dy → Prop) (v2 : Int32) (v4 : Int32) (v5 : Int32) (v6 : Int32) (v8 : Int32) (v9 : Int32) (v10 : Int32) (v11 : Int32) (d : Dy) : Prop := b_X11_narrows_374 E a0 p1 K k80 k101 k137 v2 v4 v5 v6 v8 v9 v10 v11 1 d
def b_X11_narrows_315 (E : En) (a0 : Nat) (p1 : Int32) (K : Int32 → Dy → Prop) (k80 : Int32 → Int32 → Int32 → Dy → Prop) (k101 : Int32 → Int32 → Int32 → Int32 → Dy → Prop) (k137 : Int32 → Int32 → Int32 → Int32 → Int32 → Dy → Prop) (v2 : Int32) (v3 : Int32) (v4 : Int32) (v5 : Int32) (v6 : Int32) (v8 : Int32) (v9 : Int32) (v10 : Int32) (s0 : Int32) (d : Dy) : Prop := ((¬ v3 = 0 → b_X11_narrows_369 E a0 p1 K k80 k101 k137 v2 v4 v5 v6 v8 v9 v10 s0 d) ∧ (v3 = 0 → ∃ b_21 : Nat, eR E a0 36 = some b_21 ∧ okA E b_21 13 ∧ vp_in v5 (eN E b_21) ∧ ((¬ v8 = (gA d b_21 (v5).toNatClampNeg) → b_X11_narrows_369 E a0 p1 K k80 k101 k137 v2 v4 v5 v6 v8 v9 v10 s0 d) ∧ (v8 = (gA d b_21 (v5).toNatClampNeg) → ∃ b_26 : Nat, eR E a0 37 = some b_26 ∧ okA E b_26 13 ∧ vp_in v5 (eN E b_26) ∧ ((¬ v9 = (gA d b_26 (v5).toNatClampNeg) → b_X11_narrows_369 E a0 p1 K k80 k101 k137 v2 v4 v5 v6 v8 v9 v10 s0 d) ∧ (v9 = (gA d b_26 (v5).toNatClampNeg) → ∃ b_31 : Nat, eR E a0 34 = some b_31 ∧ okA E b_31 13 ∧ vp_in v6 (eN E b_31) ∧ ((¬ v10 = (gA d b_31 (v6).toNatClampNeg) → b_X11_narrows_369 E a0 p1 K k80 k101 k137 v2 v4 v5 v6 v8 v9 v10 s0 d) ∧ (v10 = (gA d b_31 (v6).toNatClampNeg) → ∃ b_36 : Nat, eR E a0 35 = some b_36 ∧ okA E b_36 13 ∧ vp_in v6 (eN E b_36) ∧ ((s0 = (gA d b_36 (v6).toNatClampNeg) → b_X11_narrows_374 E a0 p1 K k80 k101 k137 v2 v4 v5 v6 v8 v9 v10 s0 0 d) ∧ (¬ s0 = (gA d b_36 (v6).toNatClampNeg) → b_X11_narrows_369 E a0 p1 K k80 k101 k137 v2 v4 v5 v6 v8 v9 v10 s0 d))))))))))
def b_X11_narrows_279 (E : En) (a0 : Nat) (p1 : Int32) (K : Int32 → Dy → Prop) (k80 : Int32 → Int32 → Int32 → Dy → Prop) (k101 : Int32 → Int32 → Int32 → Int32 → Dy → Prop) (k137 : Int32 → Int32 → Int32 → Int32 → Int32 → Dy → Prop) (v2 : Int32) (v3 : Int32) (v4 : Int32) (v5 : Int32) (v6 : Int32) (v7 : Int32) (v8 : Int32) (v9 : Int32) (s0 : Int32) (d : Dy) : Prop := ((v7 = 0 → ∃ b_42 : Nat, eR E a0 35 = some b_42 ∧ okA E b_42 13 ∧ vp_in v6 (eN E b_42) ∧ b_X11_narrows_315 E a0 p1 K k80 k101 k137 v2 v3 v4 v5 v6 v8 v9 s0 (gA d b_42 (v6).toNatClampNeg) d) ∧ (¬ v7 = 0 → ∃ b_46 : Nat, eR E a0 35 = some b_46 ∧ okA E b_46 13 ∧ vp_in v6 (eN E b_46) ∧ ∃ b_50 : Nat, eR E a0 37 = some b_50 ∧ okA E b_50 13 ∧ vp_in v5 (eN E b_50) ∧ b_X11_narrows_315 E a0 p1 K k80 k101 k137 v2 v3 v4 v5 v6 v8 v9 s0 (if ((gA d b_50 (v5).toNatClampNeg) - 1) < (gA d b_46 (v6).toNatClampNeg) then ((gA d b_50 (v5).toNatClampNeg) - 1) else (gA d b_46 (v6).toNatClampNeg)) d))
def b_X11_narrows_245 (E : En) (a0 : Nat) (p1 : Int32) (K : Int32 → Dy → Prop) (k80 : Int32 → Int32 → Int32 → Dy → Prop) (k101 : Int32 → Int32 → Int32 → Int32 → Dy → Prop) (k137 : Int32 → Int32 → Int32 → Int32 → Int32 → Dy → Prop) (v2 : Int32) (v3 : Int32) (v4 : Int32) (v5 : Int32) (v6 : Int32) (v7 : Int32) (v8 : Int32) (s0 : Int32) (d : Dy) : Prop := ((v7 = 0 → ∃ b_55 : Nat, eR E a0 34 = some b_55 ∧ okA E b_55 13 ∧ vp_in v6 (eN E b_55) ∧ ∃ b_59 : Nat, eR E a0 36 = some b_59 ∧ okA E b_59 13 ∧ vp_in v5 (eN E b_59) ∧ b_X11_narrows_279 E a0 p1 K k80 k101 k137 v2 v3 v4 v5 v6 v7 v8 s0 (if (gA d b_55 (v6).toNatClampNeg) < (gA d b_59 (v5).toNatClampNeg) then (gA d b_59 (v5).toNatClampNeg) else (gA d b_55 (v6).toNatClampNeg)) d) ∧ (¬ v7 = 0 → ∃ b_63 : Nat, eR E a0 34 = some b_63 ∧ okA E b_63 13 ∧ vp_in v6 (eN E b_63) ∧ b_X11_narrows_279 E a0 p1 K k80 k101 k137 v2 v3 v4 v5 v6 v7 v8 s0 (gA d b_63 (v6).toNatClampNeg) d))
def b_X11_narrows_211 (E : En) (a0 : Nat) (p1 : Int32) (K : Int32 → Dy → Prop) (k80 : Int32 → Int32 → Int32 → Dy → Prop) (k101 : Int32 → Int32 → Int32 → Int32 → Dy → Prop) (k137 : Int32 → Int32 → Int32 → Int32 → Int32 → Dy → Prop) (v2 : Int32) (v3 : Int32) (v4 : Int32) (v5 : Int32) (v6 : Int32) (v7 : Int32) (s0 : Int32) (d : Dy) : Prop := ((v7 = 0 → ∃ b_68 : Nat, eR E a0 37 = some b_68 ∧ okA E b_68 13 ∧ vp_in v5 (eN E b_68) ∧ ∃ b_72 : Nat, eR E a0 35 = some b_72 ∧ okA E b_72 13 ∧ vp_in v6 (eN E b_72) ∧ b_X11_narrows_245 E a0 p1 K k80 k101 k137 v2 v3 v4 v5 v6 v7 s0 (if (gA d b_72 (v6).toNatClampNeg) < (gA d b_68 (v5).toNatClampNeg) then (gA d b_72 (v6).toNatClampNeg) else (gA d b_68 (v5).toNatClampNeg)) d) ∧ (¬ v7 = 0 → ∃ b_76 : Nat, eR E a0 37 = some b_76 ∧ okA E b_76 13 ∧ vp_in v5 (eN E b_76) ∧ b_X11_narrows_245 E a0 p1 K k80 k101 k137 v2 v3 v4 v5 v6 v7 s0 (gA d b_76 (v5).toNatClampNeg) d))
def b_X11_narrows_175 (E : En) (a0 : Nat) (p1 : Int32) (K : Int32 → Dy → Prop) (k80 : Int32 → Int32 → Int32 → Dy → Prop) (k101 : Int32 → Int32 → Int32 → Int32 → Dy → Prop) (k137 : Int32 → Int32 → Int32 → Int32 → Int32 → Dy → Prop) (v2 : Int32) (v3 : Int32) (v4 : Int32) (v5 : Int32) (v6 : Int32) (s0 : Int32) (d : Dy) : Prop := ((s0 = 0 → ∃ b_81 : Nat, eR E a0 36 = some b_81 ∧ okA E b_81 13 ∧ vp_in v5 (eN E b_81) ∧ b_X11_narrows_211 E a0 p1 K k80 k101 k137 v2 v3 v4 v5 v6 s0 (gA d b_81 (v5).toNatClampNeg) d) ∧ (¬ s0 = 0 → ∃ b_85 : Nat, eR E a0 36 = some b_85 ∧ okA E b_85 13 ∧ vp_in v5 (eN E b_85) ∧ ∃ b_89 : Nat, eR E a0 34 = some b_89 ∧ okA E b_89 13 ∧ vp_in v6 (eN E b_89) ∧ b_X11_narrows_211 E a0 p1 K k80 k101 k137 v2 v3 v4 v5 v6 s0 (if (gA d b_85 (v5).toNatClampNeg) < ((gA d b_89 (v6).toNatClampNeg) + 1) then ((gA d b_89 (v6).toNatClampNeg) + 1) else (gA d b_85 (v5).toNatClampNeg)) d))
def b_X11_narrows_137 (E : En) (a0 : Nat) (p1 : Int32) (K : Int32 → Dy → Prop) (k80 : Int32 → Int32 → Int32 → Dy → Prop) (k101 : Int32 → Int32 → Int32 → Int32 → Dy → Prop) (k137 : Int32 → Int32 → Int32 → Int32 → Int32 → Dy → Prop) (v2 : Int32) (v3 : Int32) (v4 : Int32) (v5 : Int32) (v6 : Int32) (d : Dy) : Prop := w_X11_huts E a0 d (fun r_94 d_93 => ((r_94 ≤ v6 → k101 v2 v3 v4 (v5 + 1) d_93) ∧ (¬ r_94 ≤ v6 → ∃ b_96 : Nat, eR E a0 1 = some b_96 ∧ okA E b_96 13 ∧ vp_in ((390 + (3 * v5)) + 1) (eN E b_96) ∧ ((¬ (((gA d_93 b_96 ((390 + (3 * v5)) + 1).toNatClampNeg) >>> (v6 &&& 31)) &&& 1) = 1 → b_X11_narrows_175 E a0 p1 K k80 k101 k137 v2 v3 v4 v5 v6 0 d_93) ∧ ((((gA d_93 b_96 ((390 + (3 * v5)) + 1).toNatClampNeg) >>> (v6 &&& 31)) &&& 1) = 1 → b_X11_narrows_175 E a0 p1 K k80 k101 k137 v2 v3 v4 v5 v6 1 d_93)))))
def l_X11_narrows_137 (E : En) (a0 : Nat) (p1 : Int32) (K : Int32 → Dy → Prop) (k80 : Int32 → Int32 → Int32 → Dy → Prop) (k101 : Int32 → Int32 → Int32 → Int32 → Dy → Prop) : Nat → Int32 → Int32 → Int32 → Int32 → Int32 → Dy → Prop
  | 0 => fun _ _ _ _ _ _ => False
  | n + 1 => b_X11_narrows_137 E a0 p1 K k80 k101 (l_X11_narrows_137 E a0 p1 K k80 k101 n)
def b_X11_narrows_101 (E : En) (a0 : Nat) (p1 : Int32) (K : Int32 → Dy → Prop) (k80 : Int32 → Int32 → Int32 → Dy → Prop) (k101 : Int32 → Int32 → Int32 → Int32 → Dy → Prop) (v2 : Int32) (v3 : Int32) (v4 : Int32) (v5 : Int32) (d : Dy) : Prop := ∃ b_101 : Nat, eR E a0 1 = some b_101 ∧ okA E b_101 13 ∧ vp_in 5 (eN E b_101) ∧ (((gA d b_101 ((5 : Int32)).toNatClampNeg) ≤ v5 → k80 v2 v3 (v4 + 1) d) ∧ (¬ (gA d b_101 ((5 : Int32)).toNatClampNeg) ≤ v5 → ∃ b_106 : Nat, eR E a0 1 = some b_106 ∧ okA E b_106 13 ∧ vp_in ((390 + (3 * v5)) + 2) (eN E b_106) ∧ (((gA d b_106 ((390 + (3 * v5)) + 2).toNatClampNeg) ≤ p1 → (∃ n_111 : Nat, l_X11_narrows_137 E a0 p1 K k80 k101 n_111 v2 v3 v4 v5 0 d)) ∧ (¬ (gA d b_106 ((390 + (3 * v5)) + 2).toNatClampNeg) ≤ p1 → k101 v2 v3 v4 (v5 + 1) d))))
def l_X11_narrows_101 (E : En) (a0 : Nat) (p1 : Int32) (K : Int32 → Dy → Prop) (k80 : Int32 → Int32 → Int32 → Dy → Prop) : Nat → Int32 → Int32 → Int32 → Int32 → Dy → Prop
  | 0 => fun _ _ _ _ _ => False
  | n + 1 => b_X11_narrows_101 E a0 p1 K k80 (l_X11_narrows_101 E a0 p1 K k80 n)
def b_X11_narrows_80 (E : En) (a0 : Nat) (p1 : Int32) (K : Int32 → Dy → Prop) (k80 : Int32 → Int32 → Int32 → Dy → Prop) (v2 : Int32) (v3 : Int32) (v4 : Int32) (d : Dy) : Prop := ((v3 = 0 → (v2 = 0 ∨ v2 = 1) ∧ K v2 d) ∧ (¬ v3 = 0 → ((v2 = 0 → (v2 = 0 ∨ v2 = 1) ∧ K v2 d) ∧ (¬ v2 = 0 → ((5000 ≤ v4 → (v2 = 0 ∨ v2 = 1) ∧ K v2 d) ∧ (¬ 5000 ≤ v4 → (∃ n_115 : Nat, l_X11_narrows_101 E a0 p1 K k80 n_115 v2 0 v4 0 d)))))))
def l_X11_narrows_80 (E : En) (a0 : Nat) (p1 : Int32) (K : Int32 → Dy → Prop) : Nat → Int32 → Int32 → Int32 → Dy → Prop
  | 0 => fun _ _ _ _ => False
  | n + 1 => b_X11_narrows_80 E a0 p1 K (l_X11_narrows_80 E a0 p1 K n)
def b_X11_narrows_42 (E : En) (a0 : Nat) (p1 : Int32) (K : Int32 → Dy → Prop) (k42 : Int32 → Dy → Prop) (v2 : Int32) (d : Dy) : Prop := ∃ b_116 : Nat, eR E a0 1 = some b_116 ∧ okA E b_116 13 ∧ vp_in 5 (eN E b_116) ∧ (((gA d b_116 ((5 : Int32)).toNatClampNeg) ≤ v2 → (∃ n_121 : Nat, l_X11_narrows_80 E a0 p1 K n_121 1 1 0 d)) ∧ (¬ (gA d b_116 ((5 : Int32)).toNatClampNeg) ≤ v2 → ∃ b_122 : Nat, eR E a0 36 = some b_122 ∧ okA E b_122 13 ∧ vp_in v2 (eN E b_122) ∧ ∃ b_126 : Nat, eR E a0 37 = some b_126 ∧ okA E b_126 13 ∧ vp_in v2 (eN E b_126) ∧ k42 (v2 + 1) (pA (pA d b_122 (v2).toNatClampNeg 0) b_126 (v2).toNatClampNeg 100)))
def l_X11_narrows_42 (E : En) (a0 : Nat) (p1 : Int32) (K : Int32 → Dy → Prop) : Nat → Int32 → Dy → Prop
  | 0 => fun _ _ => False
  | n + 1 => b_X11_narrows_42 E a0 p1 K (l_X11_narrows_42 E a0 p1 K n)
def b_X11_narrows_2 (E : En) (a0 : Nat) (p1 : Int32) (K : Int32 → Dy → Prop) (k2 : Int32 → Dy → Prop) (v2 : Int32) (d : Dy) : Prop := w_X11_huts E a0 d (fun r_131 d_130 => ((r_131 ≤ v2 → (∃ n_133 : Nat, l_X11_narrows_42 E a0 p1 K n_133 0 d_130)) ∧ (¬ r_131 ≤ v2 → ∃ b_134 : Nat, eR E a0 34 = some b_134 ∧ okA E b_134 13 ∧ w_X11_ofHut E a0 v2 3 d_130 (fun r_138 d_137 => vp_in v2 (eN E b_134) ∧ ∃ b_140 : Nat, eR E a0 35 = some b_140 ∧ okA E b_140 13 ∧ w_X11_ofHut E a0 v2 4 (pA d_137 b_134 (v2).toNatClampNeg r_138) (fun r_144 d_143 => vp_in v2 (eN E b_140) ∧ k2 (v2 + 1) (pA d_143 b_140 (v2).toNatClampNeg r_144))))))
def l_X11_narrows_2 (E : En) (a0 : Nat) (p1 : Int32) (K : Int32 → Dy → Prop) : Nat → Int32 → Dy → Prop
  | 0 => fun _ _ => False
  | n + 1 => b_X11_narrows_2 E a0 p1 K (l_X11_narrows_2 E a0 p1 K n)
def w_X11_narrows (E : En) (a0 : Nat) (p1 : Int32) (d : Dy) (K : Int32 → Dy → Prop) : Prop := okO E a0 11 ∧ (∃ n_146 : Nat, l_X11_narrows_2 E a0 p1 K n_146 0 d)
abbrev rm_X11_narrows : Room := { frames := 1, cells := 0, slots := 0, locals := 40 }
set_option maxRecDepth 100000 in
set_option maxHeartbeats 4000000 in
theorem m_X11_narrows (l : Launch) (D : va_G) (cs : Nat → ClassId) (E : En) (d : Dy) (sz : Nat) (a0 : Nat) (p1 : Int32) (K : Int32 → Dy → Prop) : CI l yX11_narrows (.code yX11_narrows cX11_narrows 12 (some .boolean) :: wsL_law) rm_X11_narrows D cs E d sz [.ref a0, .int p1] (w_X11_narrows E a0 p1 d K) K := by
  refine e_of (cc := cX11_narrows) (maxL := 12) (ret := (some .boolean)) (own := RX11) (by decide) rfl rfl (Nat.le_of_ble_eq_true rfl) ?_
  intro p e s m below meth c S hr hlocks hsz H locs hw h ls hl
  have hl : lv_has ls 12 [(0, .ref a0), (1, .int p1)] := hl
  unfold w_X11_narrows at h
  obtain ⟨ha0, h⟩ := h
  have tl80 : ∀ (n : Nat) (v2 : Int32) (v3 : Int32) (v4 : Int32) (d : Dy) (H : Heap) (locs : List Loc) (ls : Array Slot), l_X11_narrows_80 E a0 p1 K n v2 v3 v4 d → Wd D cs (AW E sz) s.heap s E d H locs → lv_has ls 12 [(0, .ref a0), (1, .int p1), (2, .int v2), (3, .int v3), (4, .int v4)] → W p l e rm_X11_narrows s m ([.ref a0, .int p1] : List Value).toArray below meth c H locs 0 0 (MQ below (va_Qi K (OutW D cs E (AW E sz)) (AW E sz)) ([.ref a0, .int p1] : List Value).toArray s rm_X11_narrows.cells rm_X11_narrows.slots (AW E sz)) (F0 m 80 ls []) := by
    intro n80
    induction n80 with
    | zero => intro v2 v3 v4 d H locs ls h; exact absurd h id
    | succ n80 ih80 =>
      have tl101 : ∀ (n : Nat) (v2 : Int32) (v3 : Int32) (v4 : Int32) (v5 : Int32) (d : Dy) (H : Heap) (locs : List Loc) (ls : Array Slot), l_X11_narrows_101 E a0 p1 K (l_X11_narrows_80 E a0 p1 K n80) n v2 v3 v4 v5 d → Wd D cs (AW E sz) s.heap s E d H locs → lv_has ls 12 [(0, .ref a0), (1, .int p1), (2, .int v2), (3, .int v3), (4, .int v4), (5, .int v5)] → W p l e rm_X11_narrows s m ([.ref a0, .int p1] : List Value).toArray below meth c H locs 0 0 (MQ below (va_Qi K (OutW D cs E (AW E sz)) (AW E sz)) ([.ref a0, .int p1] : List Value).toArray s rm_X11_narrows.cells rm_X11_narrows.slots (AW E sz)) (F0 m 101 ls []) := by
        intro n101
        induction n101 with
        | zero => intro v2 v3 v4 v5 d H locs ls h; exact absurd h id
        | succ n101 ih101 =>
          have tl137 : ∀ (n : Nat) (v2 : Int32) (v3 : Int32) (v4 : Int32) (v5 : Int32) (v6 : Int32) (d : Dy) (H : Heap) (locs : List Loc) (ls : Array Slot), l_X11_narrows_137 E a0 p1 K (l_X11_narrows_80 E a0 p1 K n80) (l_X11_narrows_101 E a0 p1 K (l_X11_narrows_80 E a0 p1 K n80) n101) n v2 v3 v4 v5 v6 d → Wd D cs (AW E sz) s.heap s E d H locs → lv_has ls 12 [(0, .ref a0), (1, .int p1), (2, .int v2), (3, .int v3), (4, .int v4), (5, .int v5), (6, .int v6)] → W p l e rm_X11_narrows s m ([.ref a0, .int p1] : List Value).toArray below meth c H locs 0 0 (MQ below (va_Qi K (OutW D cs E (AW E sz)) (AW E sz)) ([.ref a0, .int p1] : List Value).toArray s rm_X11_narrows.cells rm_X11_narrows.slots (AW E sz)) (F0 m 137 ls []) := by
            intro n137
            induction n137 with
            | zero => intro v2 v3 v4 v5 v6 d H locs ls h; exact absurd h id
            | succ n137 ih137 =>
              have tb374 : ∀ (v2 : Int32) (v4 : Int32) (v5 : Int32) (v6 : Int32) (v8 : Int32) (v9 : Int32) (v10 : Int32) (v11 : Int32) (s0 : Int32) (d : Dy) (H : Heap) (locs : List Loc) (ls : Array Slot), b_X11_narrows_374 E a0 p1 K (l_X11_narrows_80 E a0 p1 K n80) (l_X11_narrows_101 E a0 p1 K (l_X11_narrows_80 E a0 p1 K n80) n101) (l_X11_narrows_137 E a0 p1 K (l_X11_narrows_80 E a0 p1 K n80) (l_X11_narrows_101 E a0 p1 K (l_X11_narrows_80 E a0 p1 K n80) n101) n137) v2 v4 v5 v6 v8 v9 v10 v11 s0 d → Wd D cs (AW E sz) s.heap s E d H locs → lv_has ls 12 [(0, .ref a0), (1, .int p1), (2, .int v2), (4, .int v4), (5, .int v5), (6, .int v6), (8, .int v8), (9, .int v9), (10, .int v10), (11, .int v11)] → W p l e rm_X11_narrows s m ([.ref a0, .int p1] : List Value).toArray below meth c H locs 0 0 (MQ below (va_Qi K (OutW D cs E (AW E sz)) (AW E sz)) ([.ref a0, .int p1] : List Value).toArray s rm_X11_narrows.cells rm_X11_narrows.slots (AW E sz)) (F0 m 374 ls [.int s0]) := by
                intro v2 v4 v5 v6 v8 v9 v10 v11 s0 d H locs ls h hw hl
                unfold b_X11_narrows_374 at h
                refine lv_istore_n (lv' := [(3, .int s0), (0, .ref a0), (1, .int p1), (2, .int v2), (4, .int v4), (5, .int v5), (6, .int v6), (8, .int v8), (9, .int v9), (10, .int v10), (11, .int v11)]) S.1 S.2.1 (dd_at ddX11_narrows 207 rfl) rfl hl (by decide) rfl (fun ls hl => ?_)
                refine lv_aload_n S.1 S.2.1 (dd_at ddX11_narrows 208 rfl) rfl (lv_at hl 1 rfl) ?_
                obtain ⟨b_1, hb_2, ho_3, h⟩ := h
                refine r_getR S hw 11 36 rfl inG11 (by decide) (List.mem_cons_of_mem _ wg176) (by decide) ha0 hb_2 (dd_at ddX11_narrows 209 rfl) ?_
                refine lv_iload S.1 S.2.1 (dd_at ddX11_narrows 210 rfl) (lv_at hl 5 rfl) ?_
                refine lv_iload S.1 S.2.1 (dd_at ddX11_narrows 211 rfl) (lv_at hl 7 rfl) ?_
                obtain ⟨hx_4, h⟩ := h
                refine r_iast S hw ho_3 hx_4 (dd_at ddX11_narrows 212 rfl) (fun H locs hw => ?_)
                refine lv_aload_n S.1 S.2.1 (dd_at ddX11_narrows 213 rfl) rfl (lv_at hl 1 rfl) ?_
                obtain ⟨b_5, hb_6, ho_7, h⟩ := h
                refine r_getR S hw 11 37 rfl inG11 (by decide) (List.mem_cons_of_mem _ wg177) (by decide) ha0 hb_6 (dd_at ddX11_narrows 214 rfl) ?_
                refine lv_iload S.1 S.2.1 (dd_at ddX11_narrows 215 rfl) (lv_at hl 5 rfl) ?_
                refine lv_iload S.1 S.2.1 (dd_at ddX11_narrows 216 rfl) (lv_at hl 8 rfl) ?_
                obtain ⟨hx_8, h⟩ := h
                refine r_iast S hw ho_7 hx_8 (dd_at ddX11_narrows 217 rfl) (fun H locs hw => ?_)
                refine lv_aload_n S.1 S.2.1 (dd_at ddX11_narrows 218 rfl) rfl (lv_at hl 1 rfl) ?_
                obtain ⟨b_9, hb_10, ho_11, h⟩ := h
                refine r_getR S hw 11 34 rfl inG11 (by decide) (List.mem_cons_of_mem _ wg174) (by decide) ha0 hb_10 (dd_at ddX11_narrows 219 rfl) ?_
                refine lv_iload S.1 S.2.1 (dd_at ddX11_narrows 220 rfl) (lv_at hl 6 rfl) ?_
                refine lv_iload S.1 S.2.1 (dd_at ddX11_narrows 221 rfl) (lv_at hl 9 rfl) ?_
                obtain ⟨hx_12, h⟩ := h
                refine r_iast S hw ho_11 hx_12 (dd_at ddX11_narrows 222 rfl) (fun H locs hw => ?_)
                refine lv_aload_n S.1 S.2.1 (dd_at ddX11_narrows 223 rfl) rfl (lv_at hl 1 rfl) ?_
                obtain ⟨b_13, hb_14, ho_15, h⟩ := h
                refine r_getR S hw 11 35 rfl inG11 (by decide) (List.mem_cons_of_mem _ wg175) (by decide) ha0 hb_14 (dd_at ddX11_narrows 224 rfl) ?_
                refine lv_iload S.1 S.2.1 (dd_at ddX11_narrows 225 rfl) (lv_at hl 6 rfl) ?_
                refine lv_iload S.1 S.2.1 (dd_at ddX11_narrows 226 rfl) (lv_at hl 10 rfl) ?_
                obtain ⟨hx_16, h⟩ := h
                refine r_iast S hw ho_15 hx_16 (dd_at ddX11_narrows 227 rfl) (fun H locs hw => ?_)
                refine lv_iload_n S.1 S.2.1 (dd_at ddX11_narrows 228 rfl) rfl (lv_at hl 3 rfl) ?_
                refine lv_if_eq (tgt := 433) S.1 S.2.1 (dd_at ddX11_narrows 229 rfl) (by decide) (fun hc_17 => ?_) (fun hc_17 => ?_)
                · have h := h.1 hc_17
                  refine lv_iconst (v := 0) S.1 S.2.1 (dd_at ddX11_narrows 238 rfl) (by decide) ?_
                  refine lv_istore_n (lv' := [(2, .int 0), (3, .int s0), (0, .ref a0), (1, .int p1), (4, .int v4), (5, .int v5), (6, .int v6), (8, .int v8), (9, .int v9), (10, .int v10), (11, .int v11)]) S.1 S.2.1 (dd_at ddX11_narrows 239 rfl) rfl hl (by decide) rfl (fun ls hl => ?_)
                  refine lv_iinc (v := v6 + 1) (lv' := [(6, .int (v6 + 1)), (2, .int 0), (3, .int s0), (0, .ref a0), (1, .int p1), (4, .int v4), (5, .int v5), (8, .int v8), (9, .int v9), (10, .int v10), (11, .int v11)]) S.1 S.2.1 (dd_at ddX11_narrows 240 rfl) hl (k := 6) rfl rfl (by decide) rfl (fun ls hl => ?_)
                  refine lv_goto (tgt := 137) S.1 S.2.1 (dd_at ddX11_narrows 241 rfl) (by decide) ?_
                  exact ih137 0 s0 v4 v5 (v6 + 1) (pA (pA (pA (pA d b_1 (v5).toNatClampNeg v8) b_5 (v5).toNatClampNeg v9) b_9 (v6).toNatClampNeg v10) b_13 (v6).toNatClampNeg v11) H locs ls h hw (lv_sub hl [3, 4, 1, 2, 5, 6, 0] rfl)
                · have h := h.2 hc_17
                  refine lv_iload S.1 S.2.1 (dd_at ddX11_narrows 230 rfl) (lv_at hl 7 rfl) ?_
                  refine lv_iload S.1 S.2.1 (dd_at ddX11_narrows 231 rfl) (lv_at hl 8 rfl) ?_
                  refine lv_icmp_gt (tgt := 433) S.1 S.2.1 (dd_at ddX11_narrows 232 rfl) (by decide) (fun hc_18 => ?_) (fun hc_18 => ?_)
                  · have h := h.1 hc_18
                    refine lv_iconst (v := 0) S.1 S.2.1 (dd_at ddX11_narrows 238 rfl) (by decide) ?_
                    refine lv_istore_n (lv' := [(2, .int 0), (3, .int s0), (0, .ref a0), (1, .int p1), (4, .int v4), (5, .int v5), (6, .int v6), (8, .int v8), (9, .int v9), (10, .int v10), (11, .int v11)]) S.1 S.2.1 (dd_at ddX11_narrows 239 rfl) rfl hl (by decide) rfl (fun ls hl => ?_)
                    refine lv_iinc (v := v6 + 1) (lv' := [(6, .int (v6 + 1)), (2, .int 0), (3, .int s0), (0, .ref a0), (1, .int p1), (4, .int v4), (5, .int v5), (8, .int v8), (9, .int v9), (10, .int v10), (11, .int v11)]) S.1 S.2.1 (dd_at ddX11_narrows 240 rfl) hl (k := 6) rfl rfl (by decide) rfl (fun ls hl => ?_)
                    refine lv_goto (tgt := 137) S.1 S.2.1 (dd_at ddX11_narrows 241 rfl) (by decide) ?_
                    exact ih137 0 s0 v4 v5 (v6 + 1) (pA (pA (pA (pA d b_1 (v5).toNatClampNeg v8) b_5 (v5).toNatClampNeg v9) b_9 (v6).toNatClampNeg v10) b_13 (v6).toNatClampNeg v11) H locs ls h hw (lv_sub hl [3, 4, 1, 2, 5, 6, 0] rfl)
                  · have h := h.2 hc_18
                    refine lv_iload S.1 S.2.1 (dd_at ddX11_narrows 233 rfl) (lv_at hl 9 rfl) ?_
                    refine lv_iload S.1 S.2.1 (dd_at ddX11_narrows 234 rfl) (lv_at hl 10 rfl) ?_
                    refine lv_icmp_gt (tgt := 433) S.1 S.2.1 (dd_at ddX11_narrows 235 rfl) (by decide) (fun hc_19 => ?_) (fun hc_19 => ?_)
                    · have h := h.1 hc_19
                      refine lv_iconst (v := 0) S.1 S.2.1 (dd_at ddX11_narrows 238 rfl) (by decide) ?_
                      refine lv_istore_n (lv' := [(2, .int 0), (3, .int s0), (0, .ref a0), (1, .int p1), (4, .int v4), (5, .int v5), (6, .int v6), (8, .int v8), (9, .int v9), (10, .int v10), (11, .int v11)]) S.1 S.2.1 (dd_at ddX11_narrows 239 rfl) rfl hl (by decide) rfl (fun ls hl => ?_)
                      refine lv_iinc (v := v6 + 1) (lv' := [(6, .int (v6 + 1)), (2, .int 0), (3, .int s0), (0, .ref a0), (1, .int p1), (4, .int v4), (5, .int v5), (8, .int v8), (9, .int v9), (10, .int v10), (11, .int v11)]) S.1 S.2.1 (dd_at ddX11_narrows 240 rfl) hl (k := 6) rfl rfl (by decide) rfl (fun ls hl => ?_)
                      refine lv_goto (tgt := 137) S.1 S.2.1 (dd_at ddX11_narrows 241 rfl) (by decide) ?_
                      exact ih137 0 s0 v4 v5 (v6 + 1) (pA (pA (pA (pA d b_1 (v5).toNatClampNeg v8) b_5 (v5).toNatClampNeg v9) b_9 (v6).toNatClampNeg v10) b_13 (v6).toNatClampNeg v11) H locs ls h hw (lv_sub hl [3, 4, 1, 2, 5, 6, 0] rfl)
                    · have h := h.2 hc_19
                      refine lv_iconst (v := 1) S.1 S.2.1 (dd_at ddX11_narrows 236 rfl) (by decide) ?_
                      refine lv_goto (tgt := 434) S.1 S.2.1 (dd_at ddX11_narrows 237 rfl) (by decide) ?_
                      refine lv_istore_n (lv' := [(2, .int 1), (3, .int s0), (0, .ref a0), (1, .int p1), (4, .int v4), (5, .int v5), (6, .int v6), (8, .int v8), (9, .int v9), (10, .int v10), (11, .int v11)]) S.1 S.2.1 (dd_at ddX11_narrows 239 rfl) rfl hl (by decide) rfl (fun ls hl => ?_)
                      refine lv_iinc (v := v6 + 1) (lv' := [(6, .int (v6 + 1)), (2, .int 1), (3, .int s0), (0, .ref a0), (1, .int p1), (4, .int v4), (5, .int v5), (8, .int v8), (9, .int v9), (10, .int v10), (11, .int v11)]) S.1 S.2.1 (dd_at ddX11_narrows 240 rfl) hl (k := 6) rfl rfl (by decide) rfl (fun ls hl => ?_)
                      refine lv_goto (tgt := 137) S.1 S.2.1 (dd_at ddX11_narrows 241 rfl) (by decide) ?_
                      exact ih137 1 s0 v4 v5 (v6 + 1) (pA (pA (pA (pA d b_1 (v5).toNatClampNeg v8) b_5 (v5).toNatClampNeg v9) b_9 (v6).toNatClampNeg v10) b_13 (v6).toNatClampNeg v11) H locs ls h hw (lv_sub hl [3, 4, 1, 2, 5, 6, 0] rfl)
              have tb369 : ∀ (v2 : Int32) (v4 : Int32) (v5 : Int32) (v6 : Int32) (v8 : Int32) (v9 : Int32) (v10 : Int32) (v11 : Int32) (d : Dy) (H : Heap) (locs : List Loc) (ls : Array Slot), b_X11_narrows_369 E a0 p1 K (l_X11_narrows_80 E a0 p1 K n80) (l_X11_narrows_101 E a0 p1 K (l_X11_narrows_80 E a0 p1 K n80) n101) (l_X11_narrows_137 E a0 p1 K (l_X11_narrows_80 E a0 p1 K n80) (l_X11_narrows_101 E a0 p1 K (l_X11_narrows_80 E a0 p1 K n80) n101) n137) v2 v4 v5 v6 v8 v9 v10 v11 d → Wd D cs (AW E sz) s.heap s E d H locs → lv_has ls 12 [(0, .ref a0), (1, .int p1), (2, .int v2), (4, .int v4), (5, .int v5), (6, .int v6), (8, .int v8), (9, .int v9), (10, .int v10), (11, .int v11)] → W p l e rm_X11_narrows s m ([.ref a0, .int p1] : List Value).toArray below meth c H locs 0 0 (MQ below (va_Qi K (OutW D cs E (AW E sz)) (AW E sz)) ([.ref a0, .int p1] : List Value).toArray s rm_X11_narrows.cells rm_X11_narrows.slots (AW E sz)) (F0 m 369 ls []) := by
                intro v2 v4 v5 v6 v8 v9 v10 v11 d H locs ls h hw hl
                unfold b_X11_narrows_369 at h
                refine lv_iconst (v := 1) S.1 S.2.1 (dd_at ddX11_narrows 204 rfl) (by decide) ?_
                refine lv_goto (tgt := 374) S.1 S.2.1 (dd_at ddX11_narrows 205 rfl) (by decide) ?_
                exact tb374 v2 v4 v5 v6 v8 v9 v10 v11 1 d H locs ls h hw (lv_sub hl [0, 1, 2, 3, 4, 5, 6, 7, 8, 9] rfl)
              have tb315 : ∀ (v2 : Int32) (v3 : Int32) (v4 : Int32) (v5 : Int32) (v6 : Int32) (v8 : Int32) (v9 : Int32) (v10 : Int32) (s0 : Int32) (d : Dy) (H : Heap) (locs : List Loc) (ls : Array Slot), b_X11_narrows_315 E a0 p1 K (l_X11_narrows_80 E a0 p1 K n80) (l_X11_narrows_101 E a0 p1 K (l_X11_narrows_80 E a0 p1 K n80) n101) (l_X11_narrows_137 E a0 p1 K (l_X11_narrows_80 E a0 p1 K n80) (l_X11_narrows_101 E a0 p1 K (l_X11_narrows_80 E a0 p1 K n80) n101) n137) v2 v3 v4 v5 v6 v8 v9 v10 s0 d → Wd D cs (AW E sz) s.heap s E d H locs → lv_has ls 12 [(0, .ref a0), (1, .int p1), (2, .int v2), (3, .int v3), (4, .int v4), (5, .int v5), (6, .int v6), (8, .int v8), (9, .int v9), (10, .int v10)] → W p l e rm_X11_narrows s m ([.ref a0, .int p1] : List Value).toArray below meth c H locs 0 0 (MQ below (va_Qi K (OutW D cs E (AW E sz)) (AW E sz)) ([.ref a0, .int p1] : List Value).toArray s rm_X11_narrows.cells rm_X11_narrows.slots (AW E sz)) (F0 m 315 ls [.int s0]) := by
                intro v2 v3 v4 v5 v6 v8 v9 v10 s0 d H locs ls h hw hl
                unfold b_X11_narrows_315 at h
                refine lv_istore (lv' := [(11, .int s0), (0, .ref a0), (1, .int p1), (2, .int v2), (3, .int v3), (4, .int v4), (5, .int v5), (6, .int v6), (8, .int v8), (9, .int v9), (10, .int v10)]) S.1 S.2.1 (dd_at ddX11_narrows 177 rfl) hl (by decide) rfl (fun ls hl => ?_)
                refine lv_iload_n S.1 S.2.1 (dd_at ddX11_narrows 178 rfl) rfl (lv_at hl 4 rfl) ?_
                refine lv_if_ne (tgt := 369) S.1 S.2.1 (dd_at ddX11_narrows 179 rfl) (by decide) (fun hc_20 => ?_) (fun hc_20 => ?_)
                · have h := h.1 hc_20
                  exact tb369 v2 v4 v5 v6 v8 v9 v10 s0 d H locs ls h hw (lv_sub hl [1, 2, 3, 5, 6, 7, 8, 9, 10, 0] rfl)
                · have h := h.2 hc_20
                  refine lv_iload S.1 S.2.1 (dd_at ddX11_narrows 180 rfl) (lv_at hl 8 rfl) ?_
                  refine lv_aload_n S.1 S.2.1 (dd_at ddX11_narrows 181 rfl) rfl (lv_at hl 1 rfl) ?_
                  obtain ⟨b_21, hb_22, ho_23, h⟩ := h
                  refine r_getR S hw 11 36 rfl inG11 (by decide) (List.mem_cons_of_mem _ wg176) (by decide) ha0 hb_22 (dd_at ddX11_narrows 182 rfl) ?_
                  refine lv_iload S.1 S.2.1 (dd_at ddX11_narrows 183 rfl) (lv_at hl 6 rfl) ?_
                  obtain ⟨hx_24, h⟩ := h
                  refine r_iald S hw ho_23 hx_24 (dd_at ddX11_narrows 184 rfl) ?_
                  refine lv_icmp_ne (tgt := 369) S.1 S.2.1 (dd_at ddX11_narrows 185 rfl) (by decide) (fun hc_25 => ?_) (fun hc_25 => ?_)
                  · have h := h.1 hc_25
                    exact tb369 v2 v4 v5 v6 v8 v9 v10 s0 d H locs ls h hw (lv_sub hl [1, 2, 3, 5, 6, 7, 8, 9, 10, 0] rfl)
                  · have h := h.2 hc_25
                    refine lv_iload S.1 S.2.1 (dd_at ddX11_narrows 186 rfl) (lv_at hl 9 rfl) ?_
                    refine lv_aload_n S.1 S.2.1 (dd_at ddX11_narrows 187 rfl) rfl (lv_at hl 1 rfl) ?_
                    obtain ⟨b_26, hb_27, ho_28, h⟩ := h
                    refine r_getR S hw 11 37 rfl inG11 (by decide) (List.mem_cons_of_mem _ wg177) (by decide) ha0 hb_27 (dd_at ddX11_narrows 188 rfl) ?_
                    refine lv_iload S.1 S.2.1 (dd_at ddX11_narrows 189 rfl) (lv_at hl 6 rfl) ?_
                    obtain ⟨hx_29, h⟩ := h
                    refine r_iald S hw ho_28 hx_29 (dd_at ddX11_narrows 190 rfl) ?_
                    refine lv_icmp_ne (tgt := 369) S.1 S.2.1 (dd_at ddX11_narrows 191 rfl) (by decide) (fun hc_30 => ?_) (fun hc_30 => ?_)
                    · have h := h.1 hc_30
                      exact tb369 v2 v4 v5 v6 v8 v9 v10 s0 d H locs ls h hw (lv_sub hl [1, 2, 3, 5, 6, 7, 8, 9, 10, 0] rfl)
                    · have h := h.2 hc_30
                      refine lv_iload S.1 S.2.1 (dd_at ddX11_narrows 192 rfl) (lv_at hl 10 rfl) ?_
                      refine lv_aload_n S.1 S.2.1 (dd_at ddX11_narrows 193 rfl) rfl (lv_at hl 1 rfl) ?_
                      obtain ⟨b_31, hb_32, ho_33, h⟩ := h
                      refine r_getR S hw 11 34 rfl inG11 (by decide) (List.mem_cons_of_mem _ wg174) (by decide) ha0 hb_32 (dd_at ddX11_narrows 194 rfl) ?_
                      refine lv_iload S.1 S.2.1 (dd_at ddX11_narrows 195 rfl) (lv_at hl 7 rfl) ?_
                      obtain ⟨hx_34, h⟩ := h
                      refine r_iald S hw ho_33 hx_34 (dd_at ddX11_narrows 196 rfl) ?_
                      refine lv_icmp_ne (tgt := 369) S.1 S.2.1 (dd_at ddX11_narrows 197 rfl) (by decide) (fun hc_35 => ?_) (fun hc_35 => ?_)
                      · have h := h.1 hc_35
                        exact tb369 v2 v4 v5 v6 v8 v9 v10 s0 d H locs ls h hw (lv_sub hl [1, 2, 3, 5, 6, 7, 8, 9, 10, 0] rfl)
                      · have h := h.2 hc_35
                        refine lv_iload S.1 S.2.1 (dd_at ddX11_narrows 198 rfl) (lv_at hl 0 rfl) ?_
                        refine lv_aload_n S.1 S.2.1 (dd_at ddX11_narrows 199 rfl) rfl (lv_at hl 1 rfl) ?_
                        obtain ⟨b_36, hb_37, ho_38, h⟩ := h
                        refine r_getR S hw 11 35 rfl inG11 (by decide) (List.mem_cons_of_mem _ wg175) (by decide) ha0 hb_37 (dd_at ddX11_narrows 200 rfl) ?_
                        refine lv_iload S.1 S.2.1 (dd_at ddX11_narrows 201 rfl) (lv_at hl 7 rfl) ?_
                        obtain ⟨hx_39, h⟩ := h
                        refine r_iald S hw ho_38 hx_39 (dd_at ddX11_narrows 202 rfl) ?_
                        refine lv_icmp_eq (tgt := 373) S.1 S.2.1 (dd_at ddX11_narrows 203 rfl) (by decide) (fun hc_40 => ?_) (fun hc_40 => ?_)
                        · have h := h.1 hc_40
                          refine lv_iconst (v := 0) S.1 S.2.1 (dd_at ddX11_narrows 206 rfl) (by decide) ?_
                          exact tb374 v2 v4 v5 v6 v8 v9 v10 s0 0 d H locs ls h hw (lv_sub hl [1, 2, 3, 5, 6, 7, 8, 9, 10, 0] rfl)
                        · have h := h.2 hc_40
                          exact tb369 v2 v4 v5 v6 v8 v9 v10 s0 d H locs ls h hw (lv_sub hl [1, 2, 3, 5, 6, 7, 8, 9, 10, 0] rfl)
              have tb279 : ∀ (v2 : Int32) (v3 : Int32) (v4 : Int32) (v5 : Int32) (v6 : Int32) (v7 : Int32) (v8 : Int32) (v9 : Int32) (s0 : Int32) (d : Dy) (H : Heap) (locs : List Loc) (ls : Array Slot), b_X11_narrows_279 E a0 p1 K (l_X11_narrows_80 E a0 p1 K n80) (l_X11_narrows_101 E a0 p1 K (l_X11_narrows_80 E a0 p1 K n80) n101) (l_X11_narrows_137 E a0 p1 K (l_X11_narrows_80 E a0 p1 K n80) (l_X11_narrows_101 E a0 p1 K (l_X11_narrows_80 E a0 p1 K n80) n101) n137) v2 v3 v4 v5 v6 v7 v8 v9 s0 d → Wd D cs (AW E sz) s.heap s E d H locs → lv_has ls 12 [(0, .ref a0), (1, .int p1), (2, .int v2), (3, .int v3), (4, .int v4), (5, .int v5), (6, .int v6), (7, .int v7), (8, .int v8), (9, .int v9)] → W p l e rm_X11_narrows s m ([.ref a0, .int p1] : List Value).toArray below meth c H locs 0 0 (MQ below (va_Qi K (OutW D cs E (AW E sz)) (AW E sz)) ([.ref a0, .int p1] : List Value).toArray s rm_X11_narrows.cells rm_X11_narrows.slots (AW E sz)) (F0 m 279 ls [.int s0]) := by
                intro v2 v3 v4 v5 v6 v7 v8 v9 s0 d H locs ls h hw hl
                unfold b_X11_narrows_279 at h
                refine lv_istore (lv' := [(10, .int s0), (0, .ref a0), (1, .int p1), (2, .int v2), (3, .int v3), (4, .int v4), (5, .int v5), (6, .int v6), (7, .int v7), (8, .int v8), (9, .int v9)]) S.1 S.2.1 (dd_at ddX11_narrows 158 rfl) hl (by decide) rfl (fun ls hl => ?_)
                refine lv_iload S.1 S.2.1 (dd_at ddX11_narrows 159 rfl) (lv_at hl 8 rfl) ?_
                refine lv_if_eq (tgt := 308) S.1 S.2.1 (dd_at ddX11_narrows 160 rfl) (by decide) (fun hc_41 => ?_) (fun hc_41 => ?_)
                · have h := h.1 hc_41
                  refine lv_aload_n S.1 S.2.1 (dd_at ddX11_narrows 173 rfl) rfl (lv_at hl 1 rfl) ?_
                  obtain ⟨b_42, hb_43, ho_44, h⟩ := h
                  refine r_getR S hw 11 35 rfl inG11 (by decide) (List.mem_cons_of_mem _ wg175) (by decide) ha0 hb_43 (dd_at ddX11_narrows 174 rfl) ?_
                  refine lv_iload S.1 S.2.1 (dd_at ddX11_narrows 175 rfl) (lv_at hl 7 rfl) ?_
                  obtain ⟨hx_45, h⟩ := h
                  refine r_iald S hw ho_44 hx_45 (dd_at ddX11_narrows 176 rfl) ?_
                  exact tb315 v2 v3 v4 v5 v6 v8 v9 s0 (gA d b_42 (v6).toNatClampNeg) d H locs ls h hw (lv_sub hl [1, 2, 3, 4, 5, 6, 7, 9, 10, 0] rfl)
                · have h := h.2 hc_41
                  refine lv_aload_n S.1 S.2.1 (dd_at ddX11_narrows 161 rfl) rfl (lv_at hl 1 rfl) ?_
                  obtain ⟨b_46, hb_47, ho_48, h⟩ := h
                  refine r_getR S hw 11 35 rfl inG11 (by decide) (List.mem_cons_of_mem _ wg175) (by decide) ha0 hb_47 (dd_at ddX11_narrows 162 rfl) ?_
                  refine lv_iload S.1 S.2.1 (dd_at ddX11_narrows 163 rfl) (lv_at hl 7 rfl) ?_
                  obtain ⟨hx_49, h⟩ := h
                  refine r_iald S hw ho_48 hx_49 (dd_at ddX11_narrows 164 rfl) ?_
                  refine lv_aload_n S.1 S.2.1 (dd_at ddX11_narrows 165 rfl) rfl (lv_at hl 1 rfl) ?_
                  obtain ⟨b_50, hb_51, ho_52, h⟩ := h
                  refine r_getR S hw 11 37 rfl inG11 (by decide) (List.mem_cons_of_mem _ wg177) (by decide) ha0 hb_51 (dd_at ddX11_narrows 166 rfl) ?_
                  refine lv_iload S.1 S.2.1 (dd_at ddX11_narrows 167 rfl) (lv_at hl 6 rfl) ?_
                  obtain ⟨hx_53, h⟩ := h
                  refine r_iald S hw ho_52 hx_53 (dd_at ddX11_narrows 168 rfl) ?_
                  refine lv_iconst (v := 1) S.1 S.2.1 (dd_at ddX11_narrows 169 rfl) (by decide) ?_
                  refine lv_isub S.1 S.2.1 (dd_at ddX11_narrows 170 rfl) ?_
                  refine va_mmin S.1 S.2.1 (by rw [hl.1]; exact S.2.2.1) S.2.2.2.1 (S.2.2.2.2 _ (List.mem_cons_of_mem _ wg1105)) (S.2.2.2.2 _ (List.mem_cons_of_mem _ wg212)) (S.2.2.2.2 _ (List.mem_cons_of_mem _ wg70)) (S.2.2.2.2 _ (List.mem_cons_of_mem _ wg213)) (Nat.le_of_ble_eq_true rfl) (Nat.le_of_ble_eq_true rfl) (Nat.le_of_ble_eq_true rfl) (Nat.le_of_ble_eq_true rfl) (dd_at ddX11_narrows 171 rfl) ?_
                  refine lv_goto (tgt := 315) S.1 S.2.1 (dd_at ddX11_narrows 172 rfl) (by decide) ?_
                  exact tb315 v2 v3 v4 v5 v6 v8 v9 s0 (if ((gA d b_50 (v5).toNatClampNeg) - 1) < (gA d b_46 (v6).toNatClampNeg) then ((gA d b_50 (v5).toNatClampNeg) - 1) else (gA d b_46 (v6).toNatClampNeg)) d H locs ls h hw (lv_sub hl [1, 2, 3, 4, 5, 6, 7, 9, 10, 0] rfl)
              have tb245 : ∀ (v2 : Int32) (v3 : Int32) (v4 : Int32) (v5 : Int32) (v6 : Int32) (v7 : Int32) (v8 : Int32) (s0 : Int32) (d : Dy) (H : Heap) (locs : List Loc) (ls : Array Slot), b_X11_narrows_245 E a0 p1 K (l_X11_narrows_80 E a0 p1 K n80) (l_X11_narrows_101 E a0 p1 K (l_X11_narrows_80 E a0 p1 K n80) n101) (l_X11_narrows_137 E a0 p1 K (l_X11_narrows_80 E a0 p1 K n80) (l_X11_narrows_101 E a0 p1 K (l_X11_narrows_80 E a0 p1 K n80) n101) n137) v2 v3 v4 v5 v6 v7 v8 s0 d → Wd D cs (AW E sz) s.heap s E d H locs → lv_has ls 12 [(0, .ref a0), (1, .int p1), (2, .int v2), (3, .int v3), (4, .int v4), (5, .int v5), (6, .int v6), (7, .int v7), (8, .int v8)] → W p l e rm_X11_narrows s m ([.ref a0, .int p1] : List Value).toArray below meth c H locs 0 0 (MQ below (va_Qi K (OutW D cs E (AW E sz)) (AW E sz)) ([.ref a0, .int p1] : List Value).toArray s rm_X11_narrows.cells rm_X11_narrows.slots (AW E sz)) (F0 m 245 ls [.int s0]) := by
                intro v2 v3 v4 v5 v6 v7 v8 s0 d H locs ls h hw hl
                unfold b_X11_narrows_245 at h
                refine lv_istore (lv' := [(9, .int s0), (0, .ref a0), (1, .int p1), (2, .int v2), (3, .int v3), (4, .int v4), (5, .int v5), (6, .int v6), (7, .int v7), (8, .int v8)]) S.1 S.2.1 (dd_at ddX11_narrows 141 rfl) hl (by decide) rfl (fun ls hl => ?_)
                refine lv_iload S.1 S.2.1 (dd_at ddX11_narrows 142 rfl) (lv_at hl 8 rfl) ?_
                refine lv_if_eq (tgt := 262) S.1 S.2.1 (dd_at ddX11_narrows 143 rfl) (by decide) (fun hc_54 => ?_) (fun hc_54 => ?_)
                · have h := h.1 hc_54
                  refine lv_aload_n S.1 S.2.1 (dd_at ddX11_narrows 149 rfl) rfl (lv_at hl 1 rfl) ?_
                  obtain ⟨b_55, hb_56, ho_57, h⟩ := h
                  refine r_getR S hw 11 34 rfl inG11 (by decide) (List.mem_cons_of_mem _ wg174) (by decide) ha0 hb_56 (dd_at ddX11_narrows 150 rfl) ?_
                  refine lv_iload S.1 S.2.1 (dd_at ddX11_narrows 151 rfl) (lv_at hl 7 rfl) ?_
                  obtain ⟨hx_58, h⟩ := h
                  refine r_iald S hw ho_57 hx_58 (dd_at ddX11_narrows 152 rfl) ?_
                  refine lv_aload_n S.1 S.2.1 (dd_at ddX11_narrows 153 rfl) rfl (lv_at hl 1 rfl) ?_
                  obtain ⟨b_59, hb_60, ho_61, h⟩ := h
                  refine r_getR S hw 11 36 rfl inG11 (by decide) (List.mem_cons_of_mem _ wg176) (by decide) ha0 hb_60 (dd_at ddX11_narrows 154 rfl) ?_
                  refine lv_iload S.1 S.2.1 (dd_at ddX11_narrows 155 rfl) (lv_at hl 6 rfl) ?_
                  obtain ⟨hx_62, h⟩ := h
                  refine r_iald S hw ho_61 hx_62 (dd_at ddX11_narrows 156 rfl) ?_
                  refine va_mmax S.1 S.2.1 (by rw [hl.1]; exact S.2.2.1) S.2.2.2.1 (S.2.2.2.2 _ (List.mem_cons_of_mem _ wg847)) (S.2.2.2.2 _ (List.mem_cons_of_mem _ wg69)) (S.2.2.2.2 _ (List.mem_cons_of_mem _ wg70)) (S.2.2.2.2 _ (List.mem_cons_of_mem _ wg71)) (Nat.le_of_ble_eq_true rfl) (Nat.le_of_ble_eq_true rfl) (Nat.le_of_ble_eq_true rfl) (Nat.le_of_ble_eq_true rfl) (dd_at ddX11_narrows 157 rfl) ?_
                  exact tb279 v2 v3 v4 v5 v6 v7 v8 s0 (if (gA d b_55 (v6).toNatClampNeg) < (gA d b_59 (v5).toNatClampNeg) then (gA d b_59 (v5).toNatClampNeg) else (gA d b_55 (v6).toNatClampNeg)) d H locs ls h hw (lv_sub hl [1, 2, 3, 4, 5, 6, 7, 8, 9, 0] rfl)
                · have h := h.2 hc_54
                  refine lv_aload_n S.1 S.2.1 (dd_at ddX11_narrows 144 rfl) rfl (lv_at hl 1 rfl) ?_
                  obtain ⟨b_63, hb_64, ho_65, h⟩ := h
                  refine r_getR S hw 11 34 rfl inG11 (by decide) (List.mem_cons_of_mem _ wg174) (by decide) ha0 hb_64 (dd_at ddX11_narrows 145 rfl) ?_
                  refine lv_iload S.1 S.2.1 (dd_at ddX11_narrows 146 rfl) (lv_at hl 7 rfl) ?_
                  obtain ⟨hx_66, h⟩ := h
                  refine r_iald S hw ho_65 hx_66 (dd_at ddX11_narrows 147 rfl) ?_
                  refine lv_goto (tgt := 279) S.1 S.2.1 (dd_at ddX11_narrows 148 rfl) (by decide) ?_
                  exact tb279 v2 v3 v4 v5 v6 v7 v8 s0 (gA d b_63 (v6).toNatClampNeg) d H locs ls h hw (lv_sub hl [1, 2, 3, 4, 5, 6, 7, 8, 9, 0] rfl)
              have tb211 : ∀ (v2 : Int32) (v3 : Int32) (v4 : Int32) (v5 : Int32) (v6 : Int32) (v7 : Int32) (s0 : Int32) (d : Dy) (H : Heap) (locs : List Loc) (ls : Array Slot), b_X11_narrows_211 E a0 p1 K (l_X11_narrows_80 E a0 p1 K n80) (l_X11_narrows_101 E a0 p1 K (l_X11_narrows_80 E a0 p1 K n80) n101) (l_X11_narrows_137 E a0 p1 K (l_X11_narrows_80 E a0 p1 K n80) (l_X11_narrows_101 E a0 p1 K (l_X11_narrows_80 E a0 p1 K n80) n101) n137) v2 v3 v4 v5 v6 v7 s0 d → Wd D cs (AW E sz) s.heap s E d H locs → lv_has ls 12 [(0, .ref a0), (1, .int p1), (2, .int v2), (3, .int v3), (4, .int v4), (5, .int v5), (6, .int v6), (7, .int v7)] → W p l e rm_X11_narrows s m ([.ref a0, .int p1] : List Value).toArray below meth c H locs 0 0 (MQ below (va_Qi K (OutW D cs E (AW E sz)) (AW E sz)) ([.ref a0, .int p1] : List Value).toArray s rm_X11_narrows.cells rm_X11_narrows.slots (AW E sz)) (F0 m 211 ls [.int s0]) := by
                intro v2 v3 v4 v5 v6 v7 s0 d H locs ls h hw hl
                unfold b_X11_narrows_211 at h
                refine lv_istore (lv' := [(8, .int s0), (0, .ref a0), (1, .int p1), (2, .int v2), (3, .int v3), (4, .int v4), (5, .int v5), (6, .int v6), (7, .int v7)]) S.1 S.2.1 (dd_at ddX11_narrows 124 rfl) hl (by decide) rfl (fun ls hl => ?_)
                refine lv_iload S.1 S.2.1 (dd_at ddX11_narrows 125 rfl) (lv_at hl 8 rfl) ?_
                refine lv_if_eq (tgt := 228) S.1 S.2.1 (dd_at ddX11_narrows 126 rfl) (by decide) (fun hc_67 => ?_) (fun hc_67 => ?_)
                · have h := h.1 hc_67
                  refine lv_aload_n S.1 S.2.1 (dd_at ddX11_narrows 132 rfl) rfl (lv_at hl 1 rfl) ?_
                  obtain ⟨b_68, hb_69, ho_70, h⟩ := h
                  refine r_getR S hw 11 37 rfl inG11 (by decide) (List.mem_cons_of_mem _ wg177) (by decide) ha0 hb_69 (dd_at ddX11_narrows 133 rfl) ?_
                  refine lv_iload S.1 S.2.1 (dd_at ddX11_narrows 134 rfl) (lv_at hl 6 rfl) ?_
                  obtain ⟨hx_71, h⟩ := h
                  refine r_iald S hw ho_70 hx_71 (dd_at ddX11_narrows 135 rfl) ?_
                  refine lv_aload_n S.1 S.2.1 (dd_at ddX11_narrows 136 rfl) rfl (lv_at hl 1 rfl) ?_
                  obtain ⟨b_72, hb_73, ho_74, h⟩ := h
                  refine r_getR S hw 11 35 rfl inG11 (by decide) (List.mem_cons_of_mem _ wg175) (by decide) ha0 hb_73 (dd_at ddX11_narrows 137 rfl) ?_
                  refine lv_iload S.1 S.2.1 (dd_at ddX11_narrows 138 rfl) (lv_at hl 7 rfl) ?_
                  obtain ⟨hx_75, h⟩ := h
                  refine r_iald S hw ho_74 hx_75 (dd_at ddX11_narrows 139 rfl) ?_
                  refine va_mmin S.1 S.2.1 (by rw [hl.1]; exact S.2.2.1) S.2.2.2.1 (S.2.2.2.2 _ (List.mem_cons_of_mem _ wg1105)) (S.2.2.2.2 _ (List.mem_cons_of_mem _ wg212)) (S.2.2.2.2 _ (List.mem_cons_of_mem _ wg70)) (S.2.2.2.2 _ (List.mem_cons_of_mem _ wg213)) (Nat.le_of_ble_eq_true rfl) (Nat.le_of_ble_eq_true rfl) (Nat.le_of_ble_eq_true rfl) (Nat.le_of_ble_eq_true rfl) (dd_at ddX11_narrows 140 rfl) ?_
                  exact tb245 v2 v3 v4 v5 v6 v7 s0 (if (gA d b_72 (v6).toNatClampNeg) < (gA d b_68 (v5).toNatClampNeg) then (gA d b_72 (v6).toNatClampNeg) else (gA d b_68 (v5).toNatClampNeg)) d H locs ls h hw (lv_sub hl [1, 2, 3, 4, 5, 6, 7, 8, 0] rfl)
                · have h := h.2 hc_67
                  refine lv_aload_n S.1 S.2.1 (dd_at ddX11_narrows 127 rfl) rfl (lv_at hl 1 rfl) ?_
                  obtain ⟨b_76, hb_77, ho_78, h⟩ := h
                  refine r_getR S hw 11 37 rfl inG11 (by decide) (List.mem_cons_of_mem _ wg177) (by decide) ha0 hb_77 (dd_at ddX11_narrows 128 rfl) ?_
                  refine lv_iload S.1 S.2.1 (dd_at ddX11_narrows 129 rfl) (lv_at hl 6 rfl) ?_
                  obtain ⟨hx_79, h⟩ := h
                  refine r_iald S hw ho_78 hx_79 (dd_at ddX11_narrows 130 rfl) ?_
                  refine lv_goto (tgt := 245) S.1 S.2.1 (dd_at ddX11_narrows 131 rfl) (by decide) ?_
                  exact tb245 v2 v3 v4 v5 v6 v7 s0 (gA d b_76 (v5).toNatClampNeg) d H locs ls h hw (lv_sub hl [1, 2, 3, 4, 5, 6, 7, 8, 0] rfl)
              have tb175 : ∀ (v2 : Int32) (v3 : Int32) (v4 : Int32) (v5 : Int32) (v6 : Int32) (s0 : Int32) (d : Dy) (H : Heap) (locs : List Loc) (ls : Array Slot), b_X11_narrows_175 E a0 p1 K (l_X11_narrows_80 E a0 p1 K n80) (l_X11_narrows_101 E a0 p1 K (l_X11_narrows_80 E a0 p1 K n80) n101) (l_X11_narrows_137 E a0 p1 K (l_X11_narrows_80 E a0 p1 K n80) (l_X11_narrows_101 E a0 p1 K (l_X11_narrows_80 E a0 p1 K n80) n101) n137) v2 v3 v4 v5 v6 s0 d → Wd D cs (AW E sz) s.heap s E d H locs → lv_has ls 12 [(0, .ref a0), (1, .int p1), (2, .int v2), (3, .int v3), (4, .int v4), (5, .int v5), (6, .int v6)] → W p l e rm_X11_narrows s m ([.ref a0, .int p1] : List Value).toArray below meth c H locs 0 0 (MQ below (va_Qi K (OutW D cs E (AW E sz)) (AW E sz)) ([.ref a0, .int p1] : List Value).toArray s rm_X11_narrows.cells rm_X11_narrows.slots (AW E sz)) (F0 m 175 ls [.int s0]) := by
                intro v2 v3 v4 v5 v6 s0 d H locs ls h hw hl
                unfold b_X11_narrows_175 at h
                refine lv_istore (lv' := [(7, .int s0), (0, .ref a0), (1, .int p1), (2, .int v2), (3, .int v3), (4, .int v4), (5, .int v5), (6, .int v6)]) S.1 S.2.1 (dd_at ddX11_narrows 105 rfl) hl (by decide) rfl (fun ls hl => ?_)
                refine lv_iload S.1 S.2.1 (dd_at ddX11_narrows 106 rfl) (lv_at hl 0 rfl) ?_
                refine lv_if_eq (tgt := 204) S.1 S.2.1 (dd_at ddX11_narrows 107 rfl) (by decide) (fun hc_80 => ?_) (fun hc_80 => ?_)
                · have h := h.1 hc_80
                  refine lv_aload_n S.1 S.2.1 (dd_at ddX11_narrows 120 rfl) rfl (lv_at hl 1 rfl) ?_
                  obtain ⟨b_81, hb_82, ho_83, h⟩ := h
                  refine r_getR S hw 11 36 rfl inG11 (by decide) (List.mem_cons_of_mem _ wg176) (by decide) ha0 hb_82 (dd_at ddX11_narrows 121 rfl) ?_
                  refine lv_iload S.1 S.2.1 (dd_at ddX11_narrows 122 rfl) (lv_at hl 6 rfl) ?_
                  obtain ⟨hx_84, h⟩ := h
                  refine r_iald S hw ho_83 hx_84 (dd_at ddX11_narrows 123 rfl) ?_
                  exact tb211 v2 v3 v4 v5 v6 s0 (gA d b_81 (v5).toNatClampNeg) d H locs ls h hw (lv_sub hl [1, 2, 3, 4, 5, 6, 7, 0] rfl)
                · have h := h.2 hc_80
                  refine lv_aload_n S.1 S.2.1 (dd_at ddX11_narrows 108 rfl) rfl (lv_at hl 1 rfl) ?_
                  obtain ⟨b_85, hb_86, ho_87, h⟩ := h
                  refine r_getR S hw 11 36 rfl inG11 (by decide) (List.mem_cons_of_mem _ wg176) (by decide) ha0 hb_86 (dd_at ddX11_narrows 109 rfl) ?_
                  refine lv_iload S.1 S.2.1 (dd_at ddX11_narrows 110 rfl) (lv_at hl 6 rfl) ?_
                  obtain ⟨hx_88, h⟩ := h
                  refine r_iald S hw ho_87 hx_88 (dd_at ddX11_narrows 111 rfl) ?_
                  refine lv_aload_n S.1 S.2.1 (dd_at ddX11_narrows 112 rfl) rfl (lv_at hl 1 rfl) ?_
                  obtain ⟨b_89, hb_90, ho_91, h⟩ := h
                  refine r_getR S hw 11 34 rfl inG11 (by decide) (List.mem_cons_of_mem _ wg174) (by decide) ha0 hb_90 (dd_at ddX11_narrows 113 rfl) ?_
                  refine lv_iload S.1 S.2.1 (dd_at ddX11_narrows 114 rfl) (lv_at hl 7 rfl) ?_
                  obtain ⟨hx_92, h⟩ := h
                  refine r_iald S hw ho_91 hx_92 (dd_at ddX11_narrows 115 rfl) ?_
                  refine lv_iconst (v := 1) S.1 S.2.1 (dd_at ddX11_narrows 116 rfl) (by decide) ?_
                  refine lv_iadd S.1 S.2.1 (dd_at ddX11_narrows 117 rfl) ?_
                  refine va_mmax S.1 S.2.1 (by rw [hl.1]; exact S.2.2.1) S.2.2.2.1 (S.2.2.2.2 _ (List.mem_cons_of_mem _ wg847)) (S.2.2.2.2 _ (List.mem_cons_of_mem _ wg69)) (S.2.2.2.2 _ (List.mem_cons_of_mem _ wg70)) (S.2.2.2.2 _ (List.mem_cons_of_mem _ wg71)) (Nat.le_of_ble_eq_true rfl) (Nat.le_of_ble_eq_true rfl) (Nat.le_of_ble_eq_true rfl) (Nat.le_of_ble_eq_true rfl) (dd_at ddX11_narrows 118 rfl) ?_
                  refine lv_goto (tgt := 211) S.1 S.2.1 (dd_at ddX11_narrows 119 rfl) (by decide) ?_
                  exact tb211 v2 v3 v4 v5 v6 s0 (if (gA d b_85 (v5).toNatClampNeg) < ((gA d b_89 (v6).toNatClampNeg) + 1) then ((gA d b_89 (v6).toNatClampNeg) + 1) else (gA d b_85 (v5).toNatClampNeg)) d H locs ls h hw (lv_sub hl [1, 2, 3, 4, 5, 6, 7, 0] rfl)
              intro v2 v3 v4 v5 v6 d H locs ls h hw hl
              have h : b_X11_narrows_137 E a0 p1 K (l_X11_narrows_80 E a0 p1 K n80) (l_X11_narrows_101 E a0 p1 K (l_X11_narrows_80 E a0 p1 K n80) n101) (l_X11_narrows_137 E a0 p1 K (l_X11_narrows_80 E a0 p1 K n80) (l_X11_narrows_101 E a0 p1 K (l_X11_narrows_80 E a0 p1 K n80) n101) n137) v2 v3 v4 v5 v6 d := h
              unfold b_X11_narrows_137 at h
              refine lv_iload S.1 S.2.1 (dd_at ddX11_narrows 82 rfl) (lv_at hl 6 rfl) ?_
              refine lv_aload_n S.1 S.2.1 (dd_at ddX11_narrows 83 rfl) rfl (lv_at hl 0 rfl) ?_
              refine r_callI hw (r_runV (As := []) (rest := [.int v6]) S hw (m_X11_huts l D cs E d H.size a0 _) (cwV 0 S.2.2.2.2 (gV wg596 wg597 wg598 wg5 wg599) rfl rfl rfl (by decide +kernel) ⟨Nat.le_of_ble_eq_true rfl, Nat.le_of_ble_eq_true rfl⟩) (ci := 11) rfl ha0 h rfl hl.1 rfl (Nat.le_of_ble_eq_true rfl) (dd_at ddX11_narrows 84 rfl) ⟨Nat.le_of_ble_eq_true rfl, Nat.le_of_ble_eq_true rfl⟩) (fun r_94 d_93 H locs h hw => ?_)
              refine lv_icmp_ge (tgt := 441) S.1 S.2.1 (dd_at ddX11_narrows 85 rfl) (by decide) (fun hc_95 => ?_) (fun hc_95 => ?_)
              · have h := h.1 hc_95
                refine lv_iinc (v := v5 + 1) (lv' := [(5, .int (v5 + 1)), (0, .ref a0), (1, .int p1), (2, .int v2), (3, .int v3), (4, .int v4), (6, .int v6)]) S.1 S.2.1 (dd_at ddX11_narrows 242 rfl) hl (k := 5) rfl rfl (by decide) rfl (fun ls hl => ?_)
                refine lv_goto (tgt := 101) S.1 S.2.1 (dd_at ddX11_narrows 243 rfl) (by decide) ?_
                exact ih101 v2 v3 v4 (v5 + 1) d_93 H locs ls h hw (lv_sub hl [1, 2, 3, 4, 5, 0] rfl)
              · have h := h.2 hc_95
                refine lv_aload_n S.1 S.2.1 (dd_at ddX11_narrows 86 rfl) rfl (lv_at hl 0 rfl) ?_
                obtain ⟨b_96, hb_97, ho_98, h⟩ := h
                refine r_getR S hw 11 1 rfl inG11 (by decide) (List.mem_cons_of_mem _ wg150) (by decide) ha0 hb_97 (dd_at ddX11_narrows 87 rfl) ?_
                refine lv_sipush (v := 390) S.1 S.2.1 (dd_at ddX11_narrows 88 rfl) (by decide) ?_
                refine lv_iconst (v := 3) S.1 S.2.1 (dd_at ddX11_narrows 89 rfl) (by decide) ?_
                refine lv_iload S.1 S.2.1 (dd_at ddX11_narrows 90 rfl) (lv_at hl 5 rfl) ?_
                refine lv_imul S.1 S.2.1 (dd_at ddX11_narrows 91 rfl) ?_
                refine lv_iadd S.1 S.2.1 (dd_at ddX11_narrows 92 rfl) ?_
                refine lv_iconst (v := 1) S.1 S.2.1 (dd_at ddX11_narrows 93 rfl) (by decide) ?_
                refine lv_iadd S.1 S.2.1 (dd_at ddX11_narrows 94 rfl) ?_
                obtain ⟨hx_99, h⟩ := h
                refine r_iald S hw ho_98 hx_99 (dd_at ddX11_narrows 95 rfl) ?_
                refine lv_iload S.1 S.2.1 (dd_at ddX11_narrows 96 rfl) (lv_at hl 6 rfl) ?_
                refine lv_ishr S.1 S.2.1 (dd_at ddX11_narrows 97 rfl) ?_
                refine lv_iconst (v := 1) S.1 S.2.1 (dd_at ddX11_narrows 98 rfl) (by decide) ?_
                refine lv_iand S.1 S.2.1 (dd_at ddX11_narrows 99 rfl) ?_
                refine lv_iconst (v := 1) S.1 S.2.1 (dd_at ddX11_narrows 100 rfl) (by decide) ?_
                refine lv_icmp_ne (tgt := 174) S.1 S.2.1 (dd_at ddX11_narrows 101 rfl) (by decide) (fun hc_100 => ?_) (fun hc_100 => ?_)
                · have h := h.1 hc_100
                  refine lv_iconst (v := 0) S.1 S.2.1 (dd_at ddX11_narrows 104 rfl) (by decide) ?_
                  exact tb175 v2 v3 v4 v5 v6 0 d_93 H locs ls h hw (lv_sub hl [0, 1, 2, 3, 4, 5, 6] rfl)
                · have h := h.2 hc_100
                  refine lv_iconst (v := 1) S.1 S.2.1 (dd_at ddX11_narrows 102 rfl) (by decide) ?_
                  refine lv_goto (tgt := 175) S.1 S.2.1 (dd_at ddX11_narrows 103 rfl) (by decide) ?_
                  exact tb175 v2 v3 v4 v5 v6 1 d_93 H locs ls h hw (lv_sub hl [0, 1, 2, 3, 4, 5, 6] rfl)
          intro v2 v3 v4 v5 d H locs ls h hw hl
          have h : b_X11_narrows_101 E a0 p1 K (l_X11_narrows_80 E a0 p1 K n80) (l_X11_narrows_101 E a0 p1 K (l_X11_narrows_80 E a0 p1 K n80) n101) v2 v3 v4 v5 d := h
          unfold b_X11_narrows_101 at h
          refine lv_iload S.1 S.2.1 (dd_at ddX11_narrows 61 rfl) (lv_at hl 5 rfl) ?_
          refine lv_aload_n S.1 S.2.1 (dd_at ddX11_narrows 62 rfl) rfl (lv_at hl 0 rfl) ?_
          obtain ⟨b_101, hb_102, ho_103, h⟩ := h
          refine r_getR S hw 11 1 rfl inG11 (by decide) (List.mem_cons_of_mem _ wg150) (by decide) ha0 hb_102 (dd_at ddX11_narrows 63 rfl) ?_
          refine lv_iconst (v := 5) S.1 S.2.1 (dd_at ddX11_narrows 64 rfl) (by decide) ?_
          obtain ⟨hx_104, h⟩ := h
          refine r_iald S hw ho_103 hx_104 (dd_at ddX11_narrows 65 rfl) ?_
          refine lv_icmp_ge (tgt := 447) S.1 S.2.1 (dd_at ddX11_narrows 66 rfl) (by decide) (fun hc_105 => ?_) (fun hc_105 => ?_)
          · have h := h.1 hc_105
            refine lv_iinc (v := v4 + 1) (lv' := [(4, .int (v4 + 1)), (0, .ref a0), (1, .int p1), (2, .int v2), (3, .int v3), (5, .int v5)]) S.1 S.2.1 (dd_at ddX11_narrows 244 rfl) hl (k := 4) rfl rfl (by decide) rfl (fun ls hl => ?_)
            refine lv_goto (tgt := 80) S.1 S.2.1 (dd_at ddX11_narrows 245 rfl) (by decide) ?_
            exact ih80 v2 v3 (v4 + 1) d H locs ls h hw (lv_sub hl [1, 2, 3, 4, 0] rfl)
          · have h := h.2 hc_105
            refine lv_aload_n S.1 S.2.1 (dd_at ddX11_narrows 67 rfl) rfl (lv_at hl 0 rfl) ?_
            obtain ⟨b_106, hb_107, ho_108, h⟩ := h
            refine r_getR S hw 11 1 rfl inG11 (by decide) (List.mem_cons_of_mem _ wg150) (by decide) ha0 hb_107 (dd_at ddX11_narrows 68 rfl) ?_
            refine lv_sipush (v := 390) S.1 S.2.1 (dd_at ddX11_narrows 69 rfl) (by decide) ?_
            refine lv_iconst (v := 3) S.1 S.2.1 (dd_at ddX11_narrows 70 rfl) (by decide) ?_
            refine lv_iload S.1 S.2.1 (dd_at ddX11_narrows 71 rfl) (lv_at hl 5 rfl) ?_
            refine lv_imul S.1 S.2.1 (dd_at ddX11_narrows 72 rfl) ?_
            refine lv_iadd S.1 S.2.1 (dd_at ddX11_narrows 73 rfl) ?_
            refine lv_iconst (v := 2) S.1 S.2.1 (dd_at ddX11_narrows 74 rfl) (by decide) ?_
            refine lv_iadd S.1 S.2.1 (dd_at ddX11_narrows 75 rfl) ?_
            obtain ⟨hx_109, h⟩ := h
            refine r_iald S hw ho_108 hx_109 (dd_at ddX11_narrows 76 rfl) ?_
            refine lv_iload_n S.1 S.2.1 (dd_at ddX11_narrows 77 rfl) rfl (lv_at hl 1 rfl) ?_
            refine lv_icmp_le (tgt := 134) S.1 S.2.1 (dd_at ddX11_narrows 78 rfl) (by decide) (fun hc_110 => ?_) (fun hc_110 => ?_)
            · have h := h.1 hc_110
              refine lv_iconst (v := 0) S.1 S.2.1 (dd_at ddX11_narrows 80 rfl) (by decide) ?_
              refine lv_istore (lv' := [(6, .int 0), (0, .ref a0), (1, .int p1), (2, .int v2), (3, .int v3), (4, .int v4), (5, .int v5)]) S.1 S.2.1 (dd_at ddX11_narrows 81 rfl) hl (by decide) rfl (fun ls hl => ?_)
              obtain ⟨n_111, h⟩ := h
              exact tl137 n_111 v2 v3 v4 v5 0 d H locs ls h hw (lv_sub hl [1, 2, 3, 4, 5, 6, 0] rfl)
            · have h := h.2 hc_110
              refine lv_goto (tgt := 441) S.1 S.2.1 (dd_at ddX11_narrows 79 rfl) (by decide) ?_
              refine lv_iinc (v := v5 + 1) (lv' := [(5, .int (v5 + 1)), (0, .ref a0), (1, .int p1), (2, .int v2), (3, .int v3), (4, .int v4)]) S.1 S.2.1 (dd_at ddX11_narrows 242 rfl) hl (k := 5) rfl rfl (by decide) rfl (fun ls hl => ?_)
              refine lv_goto (tgt := 101) S.1 S.2.1 (dd_at ddX11_narrows 243 rfl) (by decide) ?_
              exact ih101 v2 v3 v4 (v5 + 1) d H locs ls h hw (lv_sub hl [1, 2, 3, 4, 5, 0] rfl)
      intro v2 v3 v4 d H locs ls h hw hl
      have h : b_X11_narrows_80 E a0 p1 K (l_X11_narrows_80 E a0 p1 K n80) v2 v3 v4 d := h
      unfold b_X11_narrows_80 at h
      refine lv_iload_n S.1 S.2.1 (dd_at ddX11_narrows 50 rfl) rfl (lv_at hl 3 rfl) ?_
      refine lv_if_eq (tgt := 453) S.1 S.2.1 (dd_at ddX11_narrows 51 rfl) (by decide) (fun hc_112 => ?_) (fun hc_112 => ?_)
      · have h := h.1 hc_112
        refine lv_iload_n S.1 S.2.1 (dd_at ddX11_narrows 246 rfl) rfl (lv_at hl 2 rfl) ?_
        exact e_Z S hr hlocks hw h.1 h.2 (dd_at ddX11_narrows 247 rfl)
      · have h := h.2 hc_112
        refine lv_iload_n S.1 S.2.1 (dd_at ddX11_narrows 52 rfl) rfl (lv_at hl 2 rfl) ?_
        refine lv_if_eq (tgt := 453) S.1 S.2.1 (dd_at ddX11_narrows 53 rfl) (by decide) (fun hc_113 => ?_) (fun hc_113 => ?_)
        · have h := h.1 hc_113
          refine lv_iload_n S.1 S.2.1 (dd_at ddX11_narrows 246 rfl) rfl (lv_at hl 2 rfl) ?_
          exact e_Z S hr hlocks hw h.1 h.2 (dd_at ddX11_narrows 247 rfl)
        · have h := h.2 hc_113
          refine lv_iload S.1 S.2.1 (dd_at ddX11_narrows 54 rfl) (lv_at hl 4 rfl) ?_
          refine lv_sipush (v := 5000) S.1 S.2.1 (dd_at ddX11_narrows 55 rfl) (by decide) ?_
          refine lv_icmp_ge (tgt := 453) S.1 S.2.1 (dd_at ddX11_narrows 56 rfl) (by decide) (fun hc_114 => ?_) (fun hc_114 => ?_)
          · have h := h.1 hc_114
            refine lv_iload_n S.1 S.2.1 (dd_at ddX11_narrows 246 rfl) rfl (lv_at hl 2 rfl) ?_
            exact e_Z S hr hlocks hw h.1 h.2 (dd_at ddX11_narrows 247 rfl)
          · have h := h.2 hc_114
            refine lv_iconst (v := 0) S.1 S.2.1 (dd_at ddX11_narrows 57 rfl) (by decide) ?_
            refine lv_istore_n (lv' := [(3, .int 0), (0, .ref a0), (1, .int p1), (2, .int v2), (4, .int v4)]) S.1 S.2.1 (dd_at ddX11_narrows 58 rfl) rfl hl (by decide) rfl (fun ls hl => ?_)
            refine lv_iconst (v := 0) S.1 S.2.1 (dd_at ddX11_narrows 59 rfl) (by decide) ?_
            refine lv_istore (lv' := [(5, .int 0), (3, .int 0), (0, .ref a0), (1, .int p1), (2, .int v2), (4, .int v4)]) S.1 S.2.1 (dd_at ddX11_narrows 60 rfl) hl (by decide) rfl (fun ls hl => ?_)
            obtain ⟨n_115, h⟩ := h
            exact tl101 n_115 v2 0 v4 0 d H locs ls h hw (lv_sub hl [2, 3, 4, 1, 5, 0] rfl)
  have tl42 : ∀ (n : Nat) (v2 : Int32) (d : Dy) (H : Heap) (locs : List Loc) (ls : Array Slot), l_X11_narrows_42 E a0 p1 K n v2 d → Wd D cs (AW E sz) s.heap s E d H locs → lv_has ls 12 [(0, .ref a0), (1, .int p1), (2, .int v2)] → W p l e rm_X11_narrows s m ([.ref a0, .int p1] : List Value).toArray below meth c H locs 0 0 (MQ below (va_Qi K (OutW D cs E (AW E sz)) (AW E sz)) ([.ref a0, .int p1] : List Value).toArray s rm_X11_narrows.cells rm_X11_narrows.slots (AW E sz)) (F0 m 42 ls []) := by
    intro n42
    induction n42 with
    | zero => intro v2 d H locs ls h; exact absurd h id
    | succ n42 ih42 =>
      intro v2 d H locs ls h hw hl
      have h : b_X11_narrows_42 E a0 p1 K (l_X11_narrows_42 E a0 p1 K n42) v2 d := h
      unfold b_X11_narrows_42 at h
      refine lv_iload_n S.1 S.2.1 (dd_at ddX11_narrows 26 rfl) rfl (lv_at hl 2 rfl) ?_
      refine lv_aload_n S.1 S.2.1 (dd_at ddX11_narrows 27 rfl) rfl (lv_at hl 0 rfl) ?_
      obtain ⟨b_116, hb_117, ho_118, h⟩ := h
      refine r_getR S hw 11 1 rfl inG11 (by decide) (List.mem_cons_of_mem _ wg150) (by decide) ha0 hb_117 (dd_at ddX11_narrows 28 rfl) ?_
      refine lv_iconst (v := 5) S.1 S.2.1 (dd_at ddX11_narrows 29 rfl) (by decide) ?_
      obtain ⟨hx_119, h⟩ := h
      refine r_iald S hw ho_118 hx_119 (dd_at ddX11_narrows 30 rfl) ?_
      refine lv_icmp_ge (tgt := 73) S.1 S.2.1 (dd_at ddX11_narrows 31 rfl) (by decide) (fun hc_120 => ?_) (fun hc_120 => ?_)
      · have h := h.1 hc_120
        refine lv_iconst (v := 1) S.1 S.2.1 (dd_at ddX11_narrows 44 rfl) (by decide) ?_
        refine lv_istore_n (lv' := [(2, .int 1), (0, .ref a0), (1, .int p1)]) S.1 S.2.1 (dd_at ddX11_narrows 45 rfl) rfl hl (by decide) rfl (fun ls hl => ?_)
        refine lv_iconst (v := 1) S.1 S.2.1 (dd_at ddX11_narrows 46 rfl) (by decide) ?_
        refine lv_istore_n (lv' := [(3, .int 1), (2, .int 1), (0, .ref a0), (1, .int p1)]) S.1 S.2.1 (dd_at ddX11_narrows 47 rfl) rfl hl (by decide) rfl (fun ls hl => ?_)
        refine lv_iconst (v := 0) S.1 S.2.1 (dd_at ddX11_narrows 48 rfl) (by decide) ?_
        refine lv_istore (lv' := [(4, .int 0), (3, .int 1), (2, .int 1), (0, .ref a0), (1, .int p1)]) S.1 S.2.1 (dd_at ddX11_narrows 49 rfl) hl (by decide) rfl (fun ls hl => ?_)
        obtain ⟨n_121, h⟩ := h
        exact tl80 n_121 1 1 0 d H locs ls h hw (lv_sub hl [3, 4, 2, 1, 0] rfl)
      · have h := h.2 hc_120
        refine lv_aload_n S.1 S.2.1 (dd_at ddX11_narrows 32 rfl) rfl (lv_at hl 0 rfl) ?_
        obtain ⟨b_122, hb_123, ho_124, h⟩ := h
        refine r_getR S hw 11 36 rfl inG11 (by decide) (List.mem_cons_of_mem _ wg176) (by decide) ha0 hb_123 (dd_at ddX11_narrows 33 rfl) ?_
        refine lv_iload_n S.1 S.2.1 (dd_at ddX11_narrows 34 rfl) rfl (lv_at hl 2 rfl) ?_
        refine lv_iconst (v := 0) S.1 S.2.1 (dd_at ddX11_narrows 35 rfl) (by decide) ?_
        obtain ⟨hx_125, h⟩ := h
        refine r_iast S hw ho_124 hx_125 (dd_at ddX11_narrows 36 rfl) (fun H locs hw => ?_)
        refine lv_aload_n S.1 S.2.1 (dd_at ddX11_narrows 37 rfl) rfl (lv_at hl 0 rfl) ?_
        obtain ⟨b_126, hb_127, ho_128, h⟩ := h
        refine r_getR S hw 11 37 rfl inG11 (by decide) (List.mem_cons_of_mem _ wg177) (by decide) ha0 hb_127 (dd_at ddX11_narrows 38 rfl) ?_
        refine lv_iload_n S.1 S.2.1 (dd_at ddX11_narrows 39 rfl) rfl (lv_at hl 2 rfl) ?_
        refine lv_bipush (v := 100) S.1 S.2.1 (dd_at ddX11_narrows 40 rfl) (by decide) ?_
        obtain ⟨hx_129, h⟩ := h
        refine r_iast S hw ho_128 hx_129 (dd_at ddX11_narrows 41 rfl) (fun H locs hw => ?_)
        refine lv_iinc (v := v2 + 1) (lv' := [(2, .int (v2 + 1)), (0, .ref a0), (1, .int p1)]) S.1 S.2.1 (dd_at ddX11_narrows 42 rfl) hl (k := 2) rfl rfl (by decide) rfl (fun ls hl => ?_)
        refine lv_goto (tgt := 42) S.1 S.2.1 (dd_at ddX11_narrows 43 rfl) (by decide) ?_
        exact ih42 (v2 + 1) (pA (pA d b_122 (v2).toNatClampNeg 0) b_126 (v2).toNatClampNeg 100) H locs ls h hw (lv_sub hl [1, 2, 0] rfl)
  have tl2 : ∀ (n : Nat) (v2 : Int32) (d : Dy) (H : Heap) (locs : List Loc) (ls : Array Slot), l_X11_narrows_2 E a0 p1 K n v2 d → Wd D cs (AW E sz) s.heap s E d H locs → lv_has ls 12 [(0, .ref a0), (1, .int p1), (2, .int v2)] → W p l e rm_X11_narrows s m ([.ref a0, .int p1] : List Value).toArray below meth c H locs 0 0 (MQ below (va_Qi K (OutW D cs E (AW E sz)) (AW E sz)) ([.ref a0, .int p1] : List Value).toArray s rm_X11_narrows.cells rm_X11_narrows.slots (AW E sz)) (F0 m 2 ls []) := by
    intro n2
    induction n2 with
    | zero => intro v2 d H locs ls h; exact absurd h id
    | succ n2 ih2 =>
      intro v2 d H locs ls h hw hl
      have h : b_X11_narrows_2 E a0 p1 K (l_X11_narrows_2 E a0 p1 K n2) v2 d := h
      unfold b_X11_narrows_2 at h
      refine lv_iload_n S.1 S.2.1 (dd_at ddX11_narrows 2 rfl) rfl (lv_at hl 2 rfl) ?_
      refine lv_aload_n S.1 S.2.1 (dd_at ddX11_narrows 3 rfl) rfl (lv_at hl 0 rfl) ?_
      refine r_callI hw (r_runV (As := []) (rest := [.int v2]) S hw (m_X11_huts l D cs E d H.size a0 _) (cwV 0 S.2.2.2.2 (gV wg596 wg597 wg598 wg5 wg599) rfl rfl rfl (by decide +kernel) ⟨Nat.le_of_ble_eq_true rfl, Nat.le_of_ble_eq_true rfl⟩) (ci := 11) rfl ha0 h rfl hl.1 rfl (Nat.le_of_ble_eq_true rfl) (dd_at ddX11_narrows 4 rfl) ⟨Nat.le_of_ble_eq_true rfl, Nat.le_of_ble_eq_true rfl⟩) (fun r_131 d_130 H locs h hw => ?_)
      refine lv_icmp_ge (tgt := 40) S.1 S.2.1 (dd_at ddX11_narrows 5 rfl) (by decide) (fun hc_132 => ?_) (fun hc_132 => ?_)
      · have h := h.1 hc_132
        refine lv_iconst (v := 0) S.1 S.2.1 (dd_at ddX11_narrows 24 rfl) (by decide) ?_
        refine lv_istore_n (lv' := [(2, .int 0), (0, .ref a0), (1, .int p1)]) S.1 S.2.1 (dd_at ddX11_narrows 25 rfl) rfl hl (by decide) rfl (fun ls hl => ?_)
        obtain ⟨n_133, h⟩ := h
        exact tl42 n_133 0 d_130 H locs ls h hw (lv_sub hl [1, 2, 0] rfl)
      · have h := h.2 hc_132
        refine lv_aload_n S.1 S.2.1 (dd_at ddX11_narrows 6 rfl) rfl (lv_at hl 0 rfl) ?_
        obtain ⟨b_134, hb_135, ho_136, h⟩ := h
        refine r_getR S hw 11 34 rfl inG11 (by decide) (List.mem_cons_of_mem _ wg174) (by decide) ha0 hb_135 (dd_at ddX11_narrows 7 rfl) ?_
        refine lv_iload_n S.1 S.2.1 (dd_at ddX11_narrows 8 rfl) rfl (lv_at hl 2 rfl) ?_
        refine lv_aload_n S.1 S.2.1 (dd_at ddX11_narrows 9 rfl) rfl (lv_at hl 0 rfl) ?_
        refine lv_iload_n S.1 S.2.1 (dd_at ddX11_narrows 10 rfl) rfl (lv_at hl 2 rfl) ?_
        refine lv_iconst (v := 3) S.1 S.2.1 (dd_at ddX11_narrows 11 rfl) (by decide) ?_
        refine r_callI hw (r_runV (As := [.int v2, .int 3]) (rest := [.int v2, .ref b_134]) S hw (m_X11_ofHut l D cs E d_130 H.size a0 v2 3 _) (cwV 2 S.2.2.2.2 (gV wg827 wg828 wg829 wg5 wg830) rfl rfl rfl (by decide +kernel) ⟨Nat.le_of_ble_eq_true rfl, Nat.le_of_ble_eq_true rfl⟩) (ci := 11) rfl ha0 h rfl hl.1 rfl (Nat.le_of_ble_eq_true rfl) (dd_at ddX11_narrows 12 rfl) ⟨Nat.le_of_ble_eq_true rfl, Nat.le_of_ble_eq_true rfl⟩) (fun r_138 d_137 H locs h hw => ?_)
        obtain ⟨hx_139, h⟩ := h
        refine r_iast S hw ho_136 hx_139 (dd_at ddX11_narrows 13 rfl) (fun H locs hw => ?_)
        refine lv_aload_n S.1 S.2.1 (dd_at ddX11_narrows 14 rfl) rfl (lv_at hl 0 rfl) ?_
        obtain ⟨b_140, hb_141, ho_142, h⟩ := h
        refine r_getR S hw 11 35 rfl inG11 (by decide) (List.mem_cons_of_mem _ wg175) (by decide) ha0 hb_141 (dd_at ddX11_narrows 15 rfl) ?_
        refine lv_iload_n S.1 S.2.1 (dd_at ddX11_narrows 16 rfl) rfl (lv_at hl 2 rfl) ?_
        refine lv_aload_n S.1 S.2.1 (dd_at ddX11_narrows 17 rfl) rfl (lv_at hl 0 rfl) ?_
        refine lv_iload_n S.1 S.2.1 (dd_at ddX11_narrows 18 rfl) rfl (lv_at hl 2 rfl) ?_
        refine lv_iconst (v := 4) S.1 S.2.1 (dd_at ddX11_narrows 19 rfl) (by decide) ?_
        refine r_callI hw (r_runV (As := [.int v2, .int 4]) (rest := [.int v2, .ref b_140]) S hw (m_X11_ofHut l D cs E (pA d_137 b_134 (v2).toNatClampNeg r_138) H.size a0 v2 4 _) (cwV 2 S.2.2.2.2 (gV wg827 wg828 wg829 wg5 wg830) rfl rfl rfl (by decide +kernel) ⟨Nat.le_of_ble_eq_true rfl, Nat.le_of_ble_eq_true rfl⟩) (ci := 11) rfl ha0 h rfl hl.1 rfl (Nat.le_of_ble_eq_true rfl) (dd_at ddX11_narrows 20 rfl) ⟨Nat.le_of_ble_eq_true rfl, Nat.le_of_ble_eq_true rfl⟩) (fun r_144 d_143 H locs h hw => ?_)
        obtain ⟨hx_145, h⟩ := h
        refine r_iast S hw ho_142 hx_145 (dd_at ddX11_narrows 21 rfl) (fun H locs hw => ?_)
        refine lv_iinc (v := v2 + 1) (lv' := [(2, .int (v2 + 1)), (0, .ref a0), (1, .int p1)]) S.1 S.2.1 (dd_at ddX11_narrows 22 rfl) hl (k := 2) rfl rfl (by decide) rfl (fun ls hl => ?_)
        refine lv_goto (tgt := 2) S.1 S.2.1 (dd_at ddX11_narrows 23 rfl) (by decide) ?_
        exact ih2 (v2 + 1) (pA d_143 b_140 (v2).toNatClampNeg r_144) H locs ls h hw (lv_sub hl [1, 2, 0] rfl)
  refine lv_iconst (v := 0) S.1 S.2.1 (dd_at ddX11_narrows 0 rfl) (by decide) ?_
  refine lv_istore_n (lv' := [(2, .int 0), (0, .ref a0), (1, .int p1)]) S.1 S.2.1 (dd_at ddX11_narrows 1 rfl) rfl hl (by decide) rfl (fun ls hl => ?_)
  obtain ⟨n_146, h⟩ := h
  exact tl2 n_146 0 d H locs ls h hw (lv_sub hl [1, 2, 0] rfl)

def b_X11_sea_27 (E : En) (a0 : Nat) (p1 : Int32) (p2 : Int32) (p3 : Int32) (K : Int32 → Dy → Prop) (s0 : Nat) (s1 : Int32) (d : Dy) : Prop := okO E s0 11 ∧ w_X11_throwsIf E s0 s1 1 d (fun r_2 d_1 => ((r_2 = 0 → w_X11_narrows E a0 p2 d_1 (fun r_5 d_4 => ((¬ r_5 = 0 → ((p3 = 0 → ∃ b_8 : Nat, eR E a0 36 = some b_8 ∧ okA E b_8 13 ∧ vp_in p1 (eN E b_8) ∧ K (gA d_4 b_8 (p1).toNatClampNeg) d_4) ∧ (¬ p3 = 0 → ∃ b_12 : Nat, eR E a0 37 = some b_12 ∧ okA E b_12 13 ∧ vp_in p1 (eN E b_12) ∧ K (gA d_4 b_12 (p1).toNatClampNeg) d_4))) ∧ (r_5 = 0 → K (-1) d_4)))) ∧ (¬ r_2 = 0 → K 0 d_1)))
def b_X11_sea_22 (E : En) (a0 : Nat) (p1 : Int32) (p2 : Int32) (p3 : Int32) (K : Int32 → Dy → Prop) (s0 : Nat) (d : Dy) : Prop := okO E s0 11 ∧ b_X11_sea_27 E a0 p1 p2 p3 K s0 1 d
def w_X11_sea (E : En) (a0 : Nat) (p1 : Int32) (p2 : Int32) (p3 : Int32) (d : Dy) (K : Int32 → Dy → Prop) : Prop := okO E a0 11 ∧ w_X11_none E a0 p1 5 (pI d a0 0 0) (fun r_17 d_16 => ((¬ r_17 = 0 → b_X11_sea_22 E a0 p1 p2 p3 K a0 d_16) ∧ (r_17 = 0 → w_X11_noYear E p2 d_16 (fun r_20 d_19 => ((r_20 = 0 → b_X11_sea_27 E a0 p1 p2 p3 K a0 0 d_19) ∧ (¬ r_20 = 0 → b_X11_sea_22 E a0 p1 p2 p3 K a0 d_19))))))
abbrev rm_X11_sea : Room := { frames := 2, cells := 0, slots := 0, locals := 71 }
set_option maxRecDepth 100000 in
set_option maxHeartbeats 4000000 in
theorem m_X11_sea (l : Launch) (D : va_G) (cs : Nat → ClassId) (E : En) (d : Dy) (sz : Nat) (a0 : Nat) (p1 : Int32) (p2 : Int32) (p3 : Int32) (K : Int32 → Dy → Prop) : CI l yX11_sea (.code yX11_sea cX11_sea 4 (some .int) :: wsL_law) rm_X11_sea D cs E d sz [.ref a0, .int p1, .int p2, .int p3] (w_X11_sea E a0 p1 p2 p3 d K) K := by
  refine e_of (cc := cX11_sea) (maxL := 4) (ret := (some .int)) (own := RX11) (by decide) rfl rfl (Nat.le_of_ble_eq_true rfl) ?_
  intro p e s m below meth c S hr hlocks hsz H locs hw h ls hl
  have hl : lv_has ls 4 [(0, .ref a0), (1, .int p1), (2, .int p2), (3, .int p3)] := hl
  unfold w_X11_sea at h
  obtain ⟨ha0, h⟩ := h
  have tb27 : ∀ (s0 : Nat) (s1 : Int32) (d : Dy) (H : Heap) (locs : List Loc) (ls : Array Slot), b_X11_sea_27 E a0 p1 p2 p3 K s0 s1 d → Wd D cs (AW E sz) s.heap s E d H locs → lv_has ls 4 [(0, .ref a0), (1, .int p1), (2, .int p2), (3, .int p3)] → W p l e rm_X11_sea s m ([.ref a0, .int p1, .int p2, .int p3] : List Value).toArray below meth c H locs 0 0 (MQ below (va_Qi K (OutW D cs E (AW E sz)) (AW E sz)) ([.ref a0, .int p1, .int p2, .int p3] : List Value).toArray s rm_X11_sea.cells rm_X11_sea.slots (AW E sz)) (F0 m 27 ls [.int s1, .ref s0]) := by
    intro s0 s1 d H locs ls h hw hl
    unfold b_X11_sea_27 at h
    obtain ⟨hos0, h⟩ := h
    refine lv_iconst (v := 1) S.1 S.2.1 (dd_at ddX11_sea 15 rfl) (by decide) ?_
    refine r_callI hw (r_runV (As := [.int s1, .int 1]) (rest := []) S hw (m_X11_throwsIf l D cs E d H.size s0 s1 1 _) (cwV 2 S.2.2.2.2 (gV wg421 wg422 wg423 wg5 wg424) rfl rfl rfl (by decide +kernel) ⟨Nat.le_of_ble_eq_true rfl, Nat.le_of_ble_eq_true rfl⟩) (ci := 11) rfl hos0 h rfl hl.1 rfl (Nat.le_of_ble_eq_true rfl) (dd_at ddX11_sea 16 rfl) ⟨Nat.le_of_ble_eq_true rfl, Nat.le_of_ble_eq_true rfl⟩) (fun r_2 d_1 H locs h hw => ?_)
    refine lv_if_eq (tgt := 36) S.1 S.2.1 (dd_at ddX11_sea 17 rfl) (by decide) (fun hc_3 => ?_) (fun hc_3 => ?_)
    · have h := h.1 hc_3
      refine lv_aload_n S.1 S.2.1 (dd_at ddX11_sea 20 rfl) rfl (lv_at hl 0 rfl) ?_
      refine lv_iload_n S.1 S.2.1 (dd_at ddX11_sea 21 rfl) rfl (lv_at hl 2 rfl) ?_
      refine r_callI hw (r_runV (As := [.int p2]) (rest := []) S hw (m_X11_narrows l D cs E d_1 H.size a0 p2 _) (cwV 1 S.2.2.2.2 (gV wg1299 wg1300 wg1301 wg5 wg1302) rfl rfl rfl (by decide +kernel) ⟨Nat.le_of_ble_eq_true rfl, Nat.le_of_ble_eq_true rfl⟩) (ci := 11) rfl ha0 h rfl hl.1 rfl (Nat.le_of_ble_eq_true rfl) (dd_at ddX11_sea 22 rfl) ⟨Nat.le_of_ble_eq_true rfl, Nat.le_of_ble_eq_true rfl⟩) (fun r_5 d_4 H locs h hw => ?_)
      refine lv_if_ne (tgt := 48) S.1 S.2.1 (dd_at ddX11_sea 23 rfl) (by decide) (fun hc_6 => ?_) (fun hc_6 => ?_)
      · have h := h.1 hc_6
        refine lv_iload_n S.1 S.2.1 (dd_at ddX11_sea 26 rfl) rfl (lv_at hl 3 rfl) ?_
        refine lv_if_eq (tgt := 61) S.1 S.2.1 (dd_at ddX11_sea 27 rfl) (by decide) (fun hc_7 => ?_) (fun hc_7 => ?_)
        · have h := h.1 hc_7
          refine lv_aload_n S.1 S.2.1 (dd_at ddX11_sea 33 rfl) rfl (lv_at hl 0 rfl) ?_
          obtain ⟨b_8, hb_9, ho_10, h⟩ := h
          refine r_getR S hw 11 36 rfl inG11 (by decide) (List.mem_cons_of_mem _ wg176) (by decide) ha0 hb_9 (dd_at ddX11_sea 34 rfl) ?_
          refine lv_iload_n S.1 S.2.1 (dd_at ddX11_sea 35 rfl) rfl (lv_at hl 1 rfl) ?_
          obtain ⟨hx_11, h⟩ := h
          refine r_iald S hw ho_10 hx_11 (dd_at ddX11_sea 36 rfl) ?_
          exact e_I S hr hlocks hw h (dd_at ddX11_sea 37 rfl)
        · have h := h.2 hc_7
          refine lv_aload_n S.1 S.2.1 (dd_at ddX11_sea 28 rfl) rfl (lv_at hl 0 rfl) ?_
          obtain ⟨b_12, hb_13, ho_14, h⟩ := h
          refine r_getR S hw 11 37 rfl inG11 (by decide) (List.mem_cons_of_mem _ wg177) (by decide) ha0 hb_13 (dd_at ddX11_sea 29 rfl) ?_
          refine lv_iload_n S.1 S.2.1 (dd_at ddX11_sea 30 rfl) rfl (lv_at hl 1 rfl) ?_
          obtain ⟨hx_15, h⟩ := h
          refine r_iald S hw ho_14 hx_15 (dd_at ddX11_sea 31 rfl) ?_
          refine lv_goto (tgt := 67) S.1 S.2.1 (dd_at ddX11_sea 32 rfl) (by decide) ?_
          exact e_I S hr hlocks hw h (dd_at ddX11_sea 37 rfl)
      · have h := h.2 hc_6
        refine lv_iconst (v := -1) S.1 S.2.1 (dd_at ddX11_sea 24 rfl) (by decide) ?_
        refine lv_goto (tgt := 67) S.1 S.2.1 (dd_at ddX11_sea 25 rfl) (by decide) ?_
        exact e_I S hr hlocks hw h (dd_at ddX11_sea 37 rfl)
    · have h := h.2 hc_3
      refine lv_iconst (v := 0) S.1 S.2.1 (dd_at ddX11_sea 18 rfl) (by decide) ?_
      exact e_I S hr hlocks hw h (dd_at ddX11_sea 19 rfl)
  have tb22 : ∀ (s0 : Nat) (d : Dy) (H : Heap) (locs : List Loc) (ls : Array Slot), b_X11_sea_22 E a0 p1 p2 p3 K s0 d → Wd D cs (AW E sz) s.heap s E d H locs → lv_has ls 4 [(0, .ref a0), (1, .int p1), (2, .int p2), (3, .int p3)] → W p l e rm_X11_sea s m ([.ref a0, .int p1, .int p2, .int p3] : List Value).toArray below meth c H locs 0 0 (MQ below (va_Qi K (OutW D cs E (AW E sz)) (AW E sz)) ([.ref a0, .int p1, .int p2, .int p3] : List Value).toArray s rm_X11_sea.cells rm_X11_sea.slots (AW E sz)) (F0 m 22 ls [.ref s0]) := by
    intro s0 d H locs ls h hw hl
    unfold b_X11_sea_22 at h
    obtain ⟨hos0, h⟩ := h
    refine lv_iconst (v := 1) S.1 S.2.1 (dd_at ddX11_sea 12 rfl) (by decide) ?_
    refine lv_goto (tgt := 27) S.1 S.2.1 (dd_at ddX11_sea 13 rfl) (by decide) ?_
    exact tb27 s0 1 d H locs ls h hw (lv_sub hl [0, 1, 2, 3] rfl)
  refine lv_aload_n S.1 S.2.1 (dd_at ddX11_sea 0 rfl) rfl (lv_at hl 0 rfl) ?_
  refine lv_iconst (v := 0) S.1 S.2.1 (dd_at ddX11_sea 1 rfl) (by decide) ?_
  refine r_putI S hw 11 0 (ty := .int) (v := 0) rfl inG11 tyX11 tyX11_ok nmX11 (by decide) (List.mem_cons_of_mem _ wg201) (by decide) rfl (by decide +kernel) rfl rfl ha0 (dd_at ddX11_sea 2 rfl) (fun H locs hw => ?_)
  refine lv_aload_n S.1 S.2.1 (dd_at ddX11_sea 3 rfl) rfl (lv_at hl 0 rfl) ?_
  refine lv_aload_n S.1 S.2.1 (dd_at ddX11_sea 4 rfl) rfl (lv_at hl 0 rfl) ?_
  refine lv_iload_n S.1 S.2.1 (dd_at ddX11_sea 5 rfl) rfl (lv_at hl 1 rfl) ?_
  refine lv_iconst (v := 5) S.1 S.2.1 (dd_at ddX11_sea 6 rfl) (by decide) ?_
  refine r_callI hw (r_runV (As := [.int p1, .int 5]) (rest := [.ref a0]) S hw (m_X11_none l D cs E (pI d a0 0 0) H.size a0 p1 5 _) (cwV 2 S.2.2.2.2 (gV wg592 wg593 wg594 wg5 wg595) rfl rfl rfl (by decide +kernel) ⟨Nat.le_of_ble_eq_true rfl, Nat.le_of_ble_eq_true rfl⟩) (ci := 11) rfl ha0 h rfl hl.1 rfl (Nat.le_of_ble_eq_true rfl) (dd_at ddX11_sea 7 rfl) ⟨Nat.le_of_ble_eq_true rfl, Nat.le_of_ble_eq_true rfl⟩) (fun r_17 d_16 H locs h hw => ?_)
  refine lv_if_ne (tgt := 22) S.1 S.2.1 (dd_at ddX11_sea 8 rfl) (by decide) (fun hc_18 => ?_) (fun hc_18 => ?_)
  · have h := h.1 hc_18
    exact tb22 a0 d_16 H locs ls h hw (lv_sub hl [0, 1, 2, 3] rfl)
  · have h := h.2 hc_18
    refine lv_iload_n S.1 S.2.1 (dd_at ddX11_sea 9 rfl) rfl (lv_at hl 2 rfl) ?_
    refine r_callI hw (r_runS (As := [.int p2]) (rest := [.ref a0]) S hw (m_X11_noYear l D cs E d_16 H.size p2 _) (va_cwS 1 S.2.2.2.2 (gS wg555 wg556 wg5 wg557) rfl rfl rfl (by decide +kernel) ⟨Nat.le_of_ble_eq_true rfl, Nat.le_of_ble_eq_true rfl⟩) h rfl hl.1 rfl (Nat.le_of_ble_eq_true rfl) (dd_at ddX11_sea 10 rfl) ⟨Nat.le_of_ble_eq_true rfl, Nat.le_of_ble_eq_true rfl⟩) (fun r_20 d_19 H locs h hw => ?_)
    refine lv_if_eq (tgt := 26) S.1 S.2.1 (dd_at ddX11_sea 11 rfl) (by decide) (fun hc_21 => ?_) (fun hc_21 => ?_)
    · have h := h.1 hc_21
      refine lv_iconst (v := 0) S.1 S.2.1 (dd_at ddX11_sea 14 rfl) (by decide) ?_
      exact tb27 a0 0 d_19 H locs ls h hw (lv_sub hl [0, 1, 2, 3] rfl)
    · have h := h.2 hc_21
      exact tb22 a0 d_19 H locs ls h hw (lv_sub hl [0, 1, 2, 3] rfl)

def b_X11_level_26 (E : En) (a0 : Nat) (p1 : Int32) (p2 : Int32) (p3 : Int32) (K : Int32 → Dy → Prop) (s0 : Nat) (s1 : Int32) (d : Dy) : Prop := okO E s0 11 ∧ w_X11_throwsIf E s0 s1 1 d (fun r_2 d_1 => ((r_2 = 0 → w_X11_narrows E a0 p2 d_1 (fun r_5 d_4 => ((¬ r_5 = 0 → ((p3 = 0 → ∃ b_8 : Nat, eR E a0 34 = some b_8 ∧ okA E b_8 13 ∧ vp_in p1 (eN E b_8) ∧ K (gA d_4 b_8 (p1).toNatClampNeg) d_4) ∧ (¬ p3 = 0 → ∃ b_12 : Nat, eR E a0 35 = some b_12 ∧ okA E b_12 13 ∧ vp_in p1 (eN E b_12) ∧ K (gA d_4 b_12 (p1).toNatClampNeg) d_4))) ∧ (r_5 = 0 → K (-1) d_4)))) ∧ (¬ r_2 = 0 → K 0 d_1)))
def b_X11_level_21 (E : En) (a0 : Nat) (p1 : Int32) (p2 : Int32) (p3 : Int32) (K : Int32 → Dy → Prop) (s0 : Nat) (d : Dy) : Prop := okO E s0 11 ∧ b_X11_level_26 E a0 p1 p2 p3 K s0 1 d
def w_X11_level (E : En) (a0 : Nat) (p1 : Int32) (p2 : Int32) (p3 : Int32) (d : Dy) (K : Int32 → Dy → Prop) : Prop := okO E a0 11 ∧ w_X11_noHut E a0 p1 (pI d a0 0 0) (fun r_17 d_16 => ((¬ r_17 = 0 → b_X11_level_21 E a0 p1 p2 p3 K a0 d_16) ∧ (r_17 = 0 → w_X11_noYear E p2 d_16 (fun r_20 d_19 => ((r_20 = 0 → b_X11_level_26 E a0 p1 p2 p3 K a0 0 d_19) ∧ (¬ r_20 = 0 → b_X11_level_21 E a0 p1 p2 p3 K a0 d_19))))))
abbrev rm_X11_level : Room := { frames := 3, cells := 0, slots := 0, locals := 71 }
set_option maxRecDepth 100000 in
set_option maxHeartbeats 4000000 in
theorem m_X11_level (l : Launch) (D : va_G) (cs : Nat → ClassId) (E : En) (d : Dy) (sz : Nat) (a0 : Nat) (p1 : Int32) (p2 : Int32) (p3 : Int32) (K : Int32 → Dy → Prop) : CI l yX11_level (.code yX11_level cX11_level 4 (some .int) :: wsL_law) rm_X11_level D cs E d sz [.ref a0, .int p1, .int p2, .int p3] (w_X11_level E a0 p1 p2 p3 d K) K := by
  refine e_of (cc := cX11_level) (maxL := 4) (ret := (some .int)) (own := RX11) (by decide) rfl rfl (Nat.le_of_ble_eq_true rfl) ?_
  intro p e s m below meth c S hr hlocks hsz H locs hw h ls hl
  have hl : lv_has ls 4 [(0, .ref a0), (1, .int p1), (2, .int p2), (3, .int p3)] := hl
  unfold w_X11_level at h
  obtain ⟨ha0, h⟩ := h
  have tb26 : ∀ (s0 : Nat) (s1 : Int32) (d : Dy) (H : Heap) (locs : List Loc) (ls : Array Slot), b_X11_level_26 E a0 p1 p2 p3 K s0 s1 d → Wd D cs (AW E sz) s.heap s E d H locs → lv_has ls 4 [(0, .ref a0), (1, .int p1), (2, .int p2), (3, .int p3)] → W p l e rm_X11_level s m ([.ref a0, .int p1, .int p2, .int p3] : List Value).toArray below meth c H locs 0 0 (MQ below (va_Qi K (OutW D cs E (AW E sz)) (AW E sz)) ([.ref a0, .int p1, .int p2, .int p3] : List Value).toArray s rm_X11_level.cells rm_X11_level.slots (AW E sz)) (F0 m 26 ls [.int s1, .ref s0]) := by
    intro s0 s1 d H locs ls h hw hl
    unfold b_X11_level_26 at h
    obtain ⟨hos0, h⟩ := h
    refine lv_iconst (v := 1) S.1 S.2.1 (dd_at ddX11_level 14 rfl) (by decide) ?_
    refine r_callI hw (r_runV (As := [.int s1, .int 1]) (rest := []) S hw (m_X11_throwsIf l D cs E d H.size s0 s1 1 _) (cwV 2 S.2.2.2.2 (gV wg421 wg422 wg423 wg5 wg424) rfl rfl rfl (by decide +kernel) ⟨Nat.le_of_ble_eq_true rfl, Nat.le_of_ble_eq_true rfl⟩) (ci := 11) rfl hos0 h rfl hl.1 rfl (Nat.le_of_ble_eq_true rfl) (dd_at ddX11_level 15 rfl) ⟨Nat.le_of_ble_eq_true rfl, Nat.le_of_ble_eq_true rfl⟩) (fun r_2 d_1 H locs h hw => ?_)
    refine lv_if_eq (tgt := 35) S.1 S.2.1 (dd_at ddX11_level 16 rfl) (by decide) (fun hc_3 => ?_) (fun hc_3 => ?_)
    · have h := h.1 hc_3
      refine lv_aload_n S.1 S.2.1 (dd_at ddX11_level 19 rfl) rfl (lv_at hl 0 rfl) ?_
      refine lv_iload_n S.1 S.2.1 (dd_at ddX11_level 20 rfl) rfl (lv_at hl 2 rfl) ?_
      refine r_callI hw (r_runV (As := [.int p2]) (rest := []) S hw (m_X11_narrows l D cs E d_1 H.size a0 p2 _) (cwV 1 S.2.2.2.2 (gV wg1299 wg1300 wg1301 wg5 wg1302) rfl rfl rfl (by decide +kernel) ⟨Nat.le_of_ble_eq_true rfl, Nat.le_of_ble_eq_true rfl⟩) (ci := 11) rfl ha0 h rfl hl.1 rfl (Nat.le_of_ble_eq_true rfl) (dd_at ddX11_level 21 rfl) ⟨Nat.le_of_ble_eq_true rfl, Nat.le_of_ble_eq_true rfl⟩) (fun r_5 d_4 H locs h hw => ?_)
      refine lv_if_ne (tgt := 47) S.1 S.2.1 (dd_at ddX11_level 22 rfl) (by decide) (fun hc_6 => ?_) (fun hc_6 => ?_)
      · have h := h.1 hc_6
        refine lv_iload_n S.1 S.2.1 (dd_at ddX11_level 25 rfl) rfl (lv_at hl 3 rfl) ?_
        refine lv_if_eq (tgt := 60) S.1 S.2.1 (dd_at ddX11_level 26 rfl) (by decide) (fun hc_7 => ?_) (fun hc_7 => ?_)
        · have h := h.1 hc_7
          refine lv_aload_n S.1 S.2.1 (dd_at ddX11_level 32 rfl) rfl (lv_at hl 0 rfl) ?_
          obtain ⟨b_8, hb_9, ho_10, h⟩ := h
          refine r_getR S hw 11 34 rfl inG11 (by decide) (List.mem_cons_of_mem _ wg174) (by decide) ha0 hb_9 (dd_at ddX11_level 33 rfl) ?_
          refine lv_iload_n S.1 S.2.1 (dd_at ddX11_level 34 rfl) rfl (lv_at hl 1 rfl) ?_
          obtain ⟨hx_11, h⟩ := h
          refine r_iald S hw ho_10 hx_11 (dd_at ddX11_level 35 rfl) ?_
          exact e_I S hr hlocks hw h (dd_at ddX11_level 36 rfl)
        · have h := h.2 hc_7
          refine lv_aload_n S.1 S.2.1 (dd_at ddX11_level 27 rfl) rfl (lv_at hl 0 rfl) ?_
          obtain ⟨b_12, hb_13, ho_14, h⟩ := h
          refine r_getR S hw 11 35 rfl inG11 (by decide) (List.mem_cons_of_mem _ wg175) (by decide) ha0 hb_13 (dd_at ddX11_level 28 rfl) ?_
          refine lv_iload_n S.1 S.2.1 (dd_at ddX11_level 29 rfl) rfl (lv_at hl 1 rfl) ?_
          obtain ⟨hx_15, h⟩ := h
          refine r_iald S hw ho_14 hx_15 (dd_at ddX11_level 30 rfl) ?_
          refine lv_goto (tgt := 66) S.1 S.2.1 (dd_at ddX11_level 31 rfl) (by decide) ?_
          exact e_I S hr hlocks hw h (dd_at ddX11_level 36 rfl)
      · have h := h.2 hc_6
        refine lv_iconst (v := -1) S.1 S.2.1 (dd_at ddX11_level 23 rfl) (by decide) ?_
        refine lv_goto (tgt := 66) S.1 S.2.1 (dd_at ddX11_level 24 rfl) (by decide) ?_
        exact e_I S hr hlocks hw h (dd_at ddX11_level 36 rfl)
    · have h := h.2 hc_3
      refine lv_iconst (v := 0) S.1 S.2.1 (dd_at ddX11_level 17 rfl) (by decide) ?_
      exact e_I S hr hlocks hw h (dd_at ddX11_level 18 rfl)
  have tb21 : ∀ (s0 : Nat) (d : Dy) (H : Heap) (locs : List Loc) (ls : Array Slot), b_X11_level_21 E a0 p1 p2 p3 K s0 d → Wd D cs (AW E sz) s.heap s E d H locs → lv_has ls 4 [(0, .ref a0), (1, .int p1), (2, .int p2), (3, .int p3)] → W p l e rm_X11_level s m ([.ref a0, .int p1, .int p2, .int p3] : List Value).toArray below meth c H locs 0 0 (MQ below (va_Qi K (OutW D cs E (AW E sz)) (AW E sz)) ([.ref a0, .int p1, .int p2, .int p3] : List Value).toArray s rm_X11_level.cells rm_X11_level.slots (AW E sz)) (F0 m 21 ls [.ref s0]) := by
    intro s0 d H locs ls h hw hl
    unfold b_X11_level_21 at h
    obtain ⟨hos0, h⟩ := h
    refine lv_iconst (v := 1) S.1 S.2.1 (dd_at ddX11_level 11 rfl) (by decide) ?_
    refine lv_goto (tgt := 26) S.1 S.2.1 (dd_at ddX11_level 12 rfl) (by decide) ?_
    exact tb26 s0 1 d H locs ls h hw (lv_sub hl [0, 1, 2, 3] rfl)
  refine lv_aload_n S.1 S.2.1 (dd_at ddX11_level 0 rfl) rfl (lv_at hl 0 rfl) ?_
  refine lv_iconst (v := 0) S.1 S.2.1 (dd_at ddX11_level 1 rfl) (by decide) ?_
  refine r_putI S hw 11 0 (ty := .int) (v := 0) rfl inG11 tyX11 tyX11_ok nmX11 (by decide) (List.mem_cons_of_mem _ wg201) (by decide) rfl (by decide +kernel) rfl rfl ha0 (dd_at ddX11_level 2 rfl) (fun H locs hw => ?_)
  refine lv_aload_n S.1 S.2.1 (dd_at ddX11_level 3 rfl) rfl (lv_at hl 0 rfl) ?_
  refine lv_aload_n S.1 S.2.1 (dd_at ddX11_level 4 rfl) rfl (lv_at hl 0 rfl) ?_
  refine lv_iload_n S.1 S.2.1 (dd_at ddX11_level 5 rfl) rfl (lv_at hl 1 rfl) ?_
  refine r_callI hw (r_runV (As := [.int p1]) (rest := [.ref a0]) S hw (m_X11_noHut l D cs E (pI d a0 0 0) H.size a0 p1 _) (cwV 1 S.2.2.2.2 (gV wg631 wg632 wg633 wg5 wg634) rfl rfl rfl (by decide +kernel) ⟨Nat.le_of_ble_eq_true rfl, Nat.le_of_ble_eq_true rfl⟩) (ci := 11) rfl ha0 h rfl hl.1 rfl (Nat.le_of_ble_eq_true rfl) (dd_at ddX11_level 6 rfl) ⟨Nat.le_of_ble_eq_true rfl, Nat.le_of_ble_eq_true rfl⟩) (fun r_17 d_16 H locs h hw => ?_)
  refine lv_if_ne (tgt := 21) S.1 S.2.1 (dd_at ddX11_level 7 rfl) (by decide) (fun hc_18 => ?_) (fun hc_18 => ?_)
  · have h := h.1 hc_18
    exact tb21 a0 d_16 H locs ls h hw (lv_sub hl [0, 1, 2, 3] rfl)
  · have h := h.2 hc_18
    refine lv_iload_n S.1 S.2.1 (dd_at ddX11_level 8 rfl) rfl (lv_at hl 2 rfl) ?_
    refine r_callI hw (r_runS (As := [.int p2]) (rest := [.ref a0]) S hw (m_X11_noYear l D cs E d_16 H.size p2 _) (va_cwS 1 S.2.2.2.2 (gS wg555 wg556 wg5 wg557) rfl rfl rfl (by decide +kernel) ⟨Nat.le_of_ble_eq_true rfl, Nat.le_of_ble_eq_true rfl⟩) h rfl hl.1 rfl (Nat.le_of_ble_eq_true rfl) (dd_at ddX11_level 9 rfl) ⟨Nat.le_of_ble_eq_true rfl, Nat.le_of_ble_eq_true rfl⟩) (fun r_20 d_19 H locs h hw => ?_)
    refine lv_if_eq (tgt := 25) S.1 S.2.1 (dd_at ddX11_level 10 rfl) (by decide) (fun hc_21 => ?_) (fun hc_21 => ?_)
    · have h := h.1 hc_21
      refine lv_iconst (v := 0) S.1 S.2.1 (dd_at ddX11_level 13 rfl) (by decide) ?_
      exact tb26 a0 0 d_19 H locs ls h hw (lv_sub hl [0, 1, 2, 3] rfl)
    · have h := h.2 hc_21
      exact tb21 a0 d_19 H locs ls h hw (lv_sub hl [0, 1, 2, 3] rfl)

def b_X11_flood_91 (E : En) (a0 : Nat) (p1 : Int32) (p2 : Int32) (p3 : Int32) (K : Int32 → Dy → Prop) (k58 : Int32 → Int32 → Dy → Prop) (v5 : Int32) (s0 : Int32) (s1 : Int32) (s2 : Int32) (d : Dy) : Prop := ((s1 ≤ s2 → k58 (s0 ||| 0) (v5 + 1) d) ∧ (¬ s1 ≤ s2 → k58 (s0 ||| ((1 : Int32) <<< (v5 &&& 31))) (v5 + 1) d))
def b_X11_flood_58 (E : En) (a0 : Nat) (p1 : Int32) (p2 : Int32) (p3 : Int32) (K : Int32 → Dy → Prop) (k58 : Int32 → Int32 → Dy → Prop) (v4 : Int32) (v5 : Int32) (d : Dy) : Prop := w_X11_huts E a0 d (fun r_3 d_2 => ((r_3 ≤ v5 → K v4 d_2) ∧ (¬ r_3 ≤ v5 → ((p3 = 0 → ∃ b_6 : Nat, eR E a0 35 = some b_6 ∧ okA E b_6 13 ∧ vp_in v5 (eN E b_6) ∧ b_X11_flood_91 E a0 p1 p2 p3 K k58 v5 v4 p1 (gA d_2 b_6 (v5).toNatClampNeg) d_2) ∧ (¬ p3 = 0 → ∃ b_10 : Nat, eR E a0 34 = some b_10 ∧ okA E b_10 13 ∧ vp_in v5 (eN E b_10) ∧ b_X11_flood_91 E a0 p1 p2 p3 K k58 v5 v4 p1 (gA d_2 b_10 (v5).toNatClampNeg) d_2)))))
def l_X11_flood_58 (E : En) (a0 : Nat) (p1 : Int32) (p2 : Int32) (p3 : Int32) (K : Int32 → Dy → Prop) : Nat → Int32 → Int32 → Dy → Prop
  | 0 => fun _ _ _ => False
  | n + 1 => b_X11_flood_58 E a0 p1 p2 p3 K (l_X11_flood_58 E a0 p1 p2 p3 K n)
def b_X11_flood_33 (E : En) (a0 : Nat) (p1 : Int32) (p2 : Int32) (p3 : Int32) (K : Int32 → Dy → Prop) (s0 : Nat) (s1 : Int32) (d : Dy) : Prop := okO E s0 11 ∧ w_X11_throwsIf E s0 s1 2 d (fun r_15 d_14 => ((r_15 = 0 → w_X11_narrows E a0 p2 d_14 (fun r_18 d_17 => ((¬ r_18 = 0 → (∃ n_20 : Nat, l_X11_flood_58 E a0 p1 p2 p3 K n_20 0 0 d_17)) ∧ (r_18 = 0 → K (-1) d_17)))) ∧ (¬ r_15 = 0 → K 0 d_14)))
def w_X11_flood (E : En) (a0 : Nat) (p1 : Int32) (p2 : Int32) (p3 : Int32) (d : Dy) (K : Int32 → Dy → Prop) : Prop := okO E a0 11 ∧ w_X11_noYear E p2 (pI d a0 0 0) (fun r_22 d_21 => w_X11_throwsIf E a0 r_22 1 d_21 (fun r_24 d_23 => ((¬ r_24 = 0 → K 0 d_23) ∧ (r_24 = 0 → w_X11_in E p1 0 100 d_23 (fun r_27 d_26 => ((¬ r_27 = 0 → b_X11_flood_33 E a0 p1 p2 p3 K a0 0 d_26) ∧ (r_27 = 0 → b_X11_flood_33 E a0 p1 p2 p3 K a0 1 d_26)))))))
abbrev rm_X11_flood : Room := { frames := 2, cells := 0, slots := 0, locals := 71 }
set_option maxRecDepth 100000 in
set_option maxHeartbeats 4000000 in
theorem m_X11_flood (l : Launch) (D : va_G) (cs : Nat → ClassId) (E : En) (d : Dy) (sz : Nat) (a0 : Nat) (p1 : Int32) (p2 : Int32) (p3 : Int32) (K : Int32 → Dy → Prop) : CI l yX11_flood (.code yX11_flood cX11_flood 6 (some .int) :: wsL_law) rm_X11_flood D cs E d sz [.ref a0, .int p1, .int p2, .int p3] (w_X11_flood E a0 p1 p2 p3 d K) K := by
  refine e_of (cc := cX11_flood) (maxL := 6) (ret := (some .int)) (own := RX11) (by decide) rfl rfl (Nat.le_of_ble_eq_true rfl) ?_
  intro p e s m below meth c S hr hlocks hsz H locs hw h ls hl
  have hl : lv_has ls 6 [(0, .ref a0), (1, .int p1), (2, .int p2), (3, .int p3)] := hl
  unfold w_X11_flood at h
  obtain ⟨ha0, h⟩ := h
  have tl58 : ∀ (n : Nat) (v4 : Int32) (v5 : Int32) (d : Dy) (H : Heap) (locs : List Loc) (ls : Array Slot), l_X11_flood_58 E a0 p1 p2 p3 K n v4 v5 d → Wd D cs (AW E sz) s.heap s E d H locs → lv_has ls 6 [(0, .ref a0), (1, .int p1), (3, .int p3), (4, .int v4), (5, .int v5)] → W p l e rm_X11_flood s m ([.ref a0, .int p1, .int p2, .int p3] : List Value).toArray below meth c H locs 0 0 (MQ below (va_Qi K (OutW D cs E (AW E sz)) (AW E sz)) ([.ref a0, .int p1, .int p2, .int p3] : List Value).toArray s rm_X11_flood.cells rm_X11_flood.slots (AW E sz)) (F0 m 58 ls []) := by
    intro n58
    induction n58 with
    | zero => intro v4 v5 d H locs ls h; exact absurd h id
    | succ n58 ih58 =>
      have tb91 : ∀ (v5 : Int32) (s0 : Int32) (s1 : Int32) (s2 : Int32) (d : Dy) (H : Heap) (locs : List Loc) (ls : Array Slot), b_X11_flood_91 E a0 p1 p2 p3 K (l_X11_flood_58 E a0 p1 p2 p3 K n58) v5 s0 s1 s2 d → Wd D cs (AW E sz) s.heap s E d H locs → lv_has ls 6 [(0, .ref a0), (1, .int p1), (3, .int p3), (5, .int v5)] → W p l e rm_X11_flood s m ([.ref a0, .int p1, .int p2, .int p3] : List Value).toArray below meth c H locs 0 0 (MQ below (va_Qi K (OutW D cs E (AW E sz)) (AW E sz)) ([.ref a0, .int p1, .int p2, .int p3] : List Value).toArray s rm_X11_flood.cells rm_X11_flood.slots (AW E sz)) (F0 m 91 ls [.int s2, .int s1, .int s0]) := by
        intro v5 s0 s1 s2 d H locs ls h hw hl
        unfold b_X11_flood_91 at h
        refine lv_icmp_le (tgt := 101) S.1 S.2.1 (dd_at ddX11_flood 50 rfl) (by decide) (fun hc_1 => ?_) (fun hc_1 => ?_)
        · have h := h.1 hc_1
          refine lv_iconst (v := 0) S.1 S.2.1 (dd_at ddX11_flood 55 rfl) (by decide) ?_
          refine lv_ior S.1 S.2.1 (dd_at ddX11_flood 56 rfl) ?_
          refine lv_istore (lv' := [(4, .int (s0 ||| 0)), (0, .ref a0), (1, .int p1), (3, .int p3), (5, .int v5)]) S.1 S.2.1 (dd_at ddX11_flood 57 rfl) hl (by decide) rfl (fun ls hl => ?_)
          refine lv_iinc (v := v5 + 1) (lv' := [(5, .int (v5 + 1)), (4, .int (s0 ||| 0)), (0, .ref a0), (1, .int p1), (3, .int p3)]) S.1 S.2.1 (dd_at ddX11_flood 58 rfl) hl (k := 4) rfl rfl (by decide) rfl (fun ls hl => ?_)
          refine lv_goto (tgt := 58) S.1 S.2.1 (dd_at ddX11_flood 59 rfl) (by decide) ?_
          exact ih58 (s0 ||| 0) (v5 + 1) d H locs ls h hw (lv_sub hl [2, 3, 4, 1, 0] rfl)
        · have h := h.2 hc_1
          refine lv_iconst (v := 1) S.1 S.2.1 (dd_at ddX11_flood 51 rfl) (by decide) ?_
          refine lv_iload S.1 S.2.1 (dd_at ddX11_flood 52 rfl) (lv_at hl 3 rfl) ?_
          refine lv_ishl S.1 S.2.1 (dd_at ddX11_flood 53 rfl) ?_
          refine lv_goto (tgt := 102) S.1 S.2.1 (dd_at ddX11_flood 54 rfl) (by decide) ?_
          refine lv_ior S.1 S.2.1 (dd_at ddX11_flood 56 rfl) ?_
          refine lv_istore (lv' := [(4, .int (s0 ||| ((1 : Int32) <<< (v5 &&& 31)))), (0, .ref a0), (1, .int p1), (3, .int p3), (5, .int v5)]) S.1 S.2.1 (dd_at ddX11_flood 57 rfl) hl (by decide) rfl (fun ls hl => ?_)
          refine lv_iinc (v := v5 + 1) (lv' := [(5, .int (v5 + 1)), (4, .int (s0 ||| ((1 : Int32) <<< (v5 &&& 31)))), (0, .ref a0), (1, .int p1), (3, .int p3)]) S.1 S.2.1 (dd_at ddX11_flood 58 rfl) hl (k := 4) rfl rfl (by decide) rfl (fun ls hl => ?_)
          refine lv_goto (tgt := 58) S.1 S.2.1 (dd_at ddX11_flood 59 rfl) (by decide) ?_
          exact ih58 (s0 ||| ((1 : Int32) <<< (v5 &&& 31))) (v5 + 1) d H locs ls h hw (lv_sub hl [2, 3, 4, 1, 0] rfl)
      intro v4 v5 d H locs ls h hw hl
      have h : b_X11_flood_58 E a0 p1 p2 p3 K (l_X11_flood_58 E a0 p1 p2 p3 K n58) v4 v5 d := h
      unfold b_X11_flood_58 at h
      refine lv_iload S.1 S.2.1 (dd_at ddX11_flood 33 rfl) (lv_at hl 4 rfl) ?_
      refine lv_aload_n S.1 S.2.1 (dd_at ddX11_flood 34 rfl) rfl (lv_at hl 0 rfl) ?_
      refine r_callI hw (r_runV (As := []) (rest := [.int v5]) S hw (m_X11_huts l D cs E d H.size a0 _) (cwV 0 S.2.2.2.2 (gV wg596 wg597 wg598 wg5 wg599) rfl rfl rfl (by decide +kernel) ⟨Nat.le_of_ble_eq_true rfl, Nat.le_of_ble_eq_true rfl⟩) (ci := 11) rfl ha0 h rfl hl.1 rfl (Nat.le_of_ble_eq_true rfl) (dd_at ddX11_flood 35 rfl) ⟨Nat.le_of_ble_eq_true rfl, Nat.le_of_ble_eq_true rfl⟩) (fun r_3 d_2 H locs h hw => ?_)
      refine lv_icmp_ge (tgt := 111) S.1 S.2.1 (dd_at ddX11_flood 36 rfl) (by decide) (fun hc_4 => ?_) (fun hc_4 => ?_)
      · have h := h.1 hc_4
        refine lv_iload S.1 S.2.1 (dd_at ddX11_flood 60 rfl) (lv_at hl 3 rfl) ?_
        exact e_I S hr hlocks hw h (dd_at ddX11_flood 61 rfl)
      · have h := h.2 hc_4
        refine lv_iload S.1 S.2.1 (dd_at ddX11_flood 37 rfl) (lv_at hl 3 rfl) ?_
        refine lv_iload_n S.1 S.2.1 (dd_at ddX11_flood 38 rfl) rfl (lv_at hl 1 rfl) ?_
        refine lv_iload_n S.1 S.2.1 (dd_at ddX11_flood 39 rfl) rfl (lv_at hl 2 rfl) ?_
        refine lv_if_eq (tgt := 84) S.1 S.2.1 (dd_at ddX11_flood 40 rfl) (by decide) (fun hc_5 => ?_) (fun hc_5 => ?_)
        · have h := h.1 hc_5
          refine lv_aload_n S.1 S.2.1 (dd_at ddX11_flood 46 rfl) rfl (lv_at hl 0 rfl) ?_
          obtain ⟨b_6, hb_7, ho_8, h⟩ := h
          refine r_getR S hw 11 35 rfl inG11 (by decide) (List.mem_cons_of_mem _ wg175) (by decide) ha0 hb_7 (dd_at ddX11_flood 47 rfl) ?_
          refine lv_iload S.1 S.2.1 (dd_at ddX11_flood 48 rfl) (lv_at hl 4 rfl) ?_
          obtain ⟨hx_9, h⟩ := h
          refine r_iald S hw ho_8 hx_9 (dd_at ddX11_flood 49 rfl) ?_
          exact tb91 v5 v4 p1 (gA d_2 b_6 (v5).toNatClampNeg) d_2 H locs ls h hw (lv_sub hl [0, 1, 2, 4] rfl)
        · have h := h.2 hc_5
          refine lv_aload_n S.1 S.2.1 (dd_at ddX11_flood 41 rfl) rfl (lv_at hl 0 rfl) ?_
          obtain ⟨b_10, hb_11, ho_12, h⟩ := h
          refine r_getR S hw 11 34 rfl inG11 (by decide) (List.mem_cons_of_mem _ wg174) (by decide) ha0 hb_11 (dd_at ddX11_flood 42 rfl) ?_
          refine lv_iload S.1 S.2.1 (dd_at ddX11_flood 43 rfl) (lv_at hl 4 rfl) ?_
          obtain ⟨hx_13, h⟩ := h
          refine r_iald S hw ho_12 hx_13 (dd_at ddX11_flood 44 rfl) ?_
          refine lv_goto (tgt := 91) S.1 S.2.1 (dd_at ddX11_flood 45 rfl) (by decide) ?_
          exact tb91 v5 v4 p1 (gA d_2 b_10 (v5).toNatClampNeg) d_2 H locs ls h hw (lv_sub hl [0, 1, 2, 4] rfl)
  have tb33 : ∀ (s0 : Nat) (s1 : Int32) (d : Dy) (H : Heap) (locs : List Loc) (ls : Array Slot), b_X11_flood_33 E a0 p1 p2 p3 K s0 s1 d → Wd D cs (AW E sz) s.heap s E d H locs → lv_has ls 6 [(0, .ref a0), (1, .int p1), (2, .int p2), (3, .int p3)] → W p l e rm_X11_flood s m ([.ref a0, .int p1, .int p2, .int p3] : List Value).toArray below meth c H locs 0 0 (MQ below (va_Qi K (OutW D cs E (AW E sz)) (AW E sz)) ([.ref a0, .int p1, .int p2, .int p3] : List Value).toArray s rm_X11_flood.cells rm_X11_flood.slots (AW E sz)) (F0 m 33 ls [.int s1, .ref s0]) := by
    intro s0 s1 d H locs ls h hw hl
    unfold b_X11_flood_33 at h
    obtain ⟨hos0, h⟩ := h
    refine lv_iconst (v := 2) S.1 S.2.1 (dd_at ddX11_flood 18 rfl) (by decide) ?_
    refine r_callI hw (r_runV (As := [.int s1, .int 2]) (rest := []) S hw (m_X11_throwsIf l D cs E d H.size s0 s1 2 _) (cwV 2 S.2.2.2.2 (gV wg421 wg422 wg423 wg5 wg424) rfl rfl rfl (by decide +kernel) ⟨Nat.le_of_ble_eq_true rfl, Nat.le_of_ble_eq_true rfl⟩) (ci := 11) rfl hos0 h rfl hl.1 rfl (Nat.le_of_ble_eq_true rfl) (dd_at ddX11_flood 19 rfl) ⟨Nat.le_of_ble_eq_true rfl, Nat.le_of_ble_eq_true rfl⟩) (fun r_15 d_14 H locs h hw => ?_)
    refine lv_if_eq (tgt := 42) S.1 S.2.1 (dd_at ddX11_flood 20 rfl) (by decide) (fun hc_16 => ?_) (fun hc_16 => ?_)
    · have h := h.1 hc_16
      refine lv_aload_n S.1 S.2.1 (dd_at ddX11_flood 23 rfl) rfl (lv_at hl 0 rfl) ?_
      refine lv_iload_n S.1 S.2.1 (dd_at ddX11_flood 24 rfl) rfl (lv_at hl 2 rfl) ?_
      refine r_callI hw (r_runV (As := [.int p2]) (rest := []) S hw (m_X11_narrows l D cs E d_14 H.size a0 p2 _) (cwV 1 S.2.2.2.2 (gV wg1299 wg1300 wg1301 wg5 wg1302) rfl rfl rfl (by decide +kernel) ⟨Nat.le_of_ble_eq_true rfl, Nat.le_of_ble_eq_true rfl⟩) (ci := 11) rfl ha0 h rfl hl.1 rfl (Nat.le_of_ble_eq_true rfl) (dd_at ddX11_flood 25 rfl) ⟨Nat.le_of_ble_eq_true rfl, Nat.le_of_ble_eq_true rfl⟩) (fun r_18 d_17 H locs h hw => ?_)
      refine lv_if_ne (tgt := 52) S.1 S.2.1 (dd_at ddX11_flood 26 rfl) (by decide) (fun hc_19 => ?_) (fun hc_19 => ?_)
      · have h := h.1 hc_19
        refine lv_iconst (v := 0) S.1 S.2.1 (dd_at ddX11_flood 29 rfl) (by decide) ?_
        refine lv_istore (lv' := [(4, .int 0), (0, .ref a0), (1, .int p1), (2, .int p2), (3, .int p3)]) S.1 S.2.1 (dd_at ddX11_flood 30 rfl) hl (by decide) rfl (fun ls hl => ?_)
        refine lv_iconst (v := 0) S.1 S.2.1 (dd_at ddX11_flood 31 rfl) (by decide) ?_
        refine lv_istore (lv' := [(5, .int 0), (4, .int 0), (0, .ref a0), (1, .int p1), (2, .int p2), (3, .int p3)]) S.1 S.2.1 (dd_at ddX11_flood 32 rfl) hl (by decide) rfl (fun ls hl => ?_)
        obtain ⟨n_20, h⟩ := h
        exact tl58 n_20 0 0 d_17 H locs ls h hw (lv_sub hl [2, 3, 5, 1, 0] rfl)
      · have h := h.2 hc_19
        refine lv_iconst (v := -1) S.1 S.2.1 (dd_at ddX11_flood 27 rfl) (by decide) ?_
        exact e_I S hr hlocks hw h (dd_at ddX11_flood 28 rfl)
    · have h := h.2 hc_16
      refine lv_iconst (v := 0) S.1 S.2.1 (dd_at ddX11_flood 21 rfl) (by decide) ?_
      exact e_I S hr hlocks hw h (dd_at ddX11_flood 22 rfl)
  refine lv_aload_n S.1 S.2.1 (dd_at ddX11_flood 0 rfl) rfl (lv_at hl 0 rfl) ?_
  refine lv_iconst (v := 0) S.1 S.2.1 (dd_at ddX11_flood 1 rfl) (by decide) ?_
  refine r_putI S hw 11 0 (ty := .int) (v := 0) rfl inG11 tyX11 tyX11_ok nmX11 (by decide) (List.mem_cons_of_mem _ wg201) (by decide) rfl (by decide +kernel) rfl rfl ha0 (dd_at ddX11_flood 2 rfl) (fun H locs hw => ?_)
  refine lv_aload_n S.1 S.2.1 (dd_at ddX11_flood 3 rfl) rfl (lv_at hl 0 rfl) ?_
  refine lv_iload_n S.1 S.2.1 (dd_at ddX11_flood 4 rfl) rfl (lv_at hl 2 rfl) ?_
  refine r_callI hw (r_runS (As := [.int p2]) (rest := [.ref a0]) S hw (m_X11_noYear l D cs E (pI d a0 0 0) H.size p2 _) (va_cwS 1 S.2.2.2.2 (gS wg555 wg556 wg5 wg557) rfl rfl rfl (by decide +kernel) ⟨Nat.le_of_ble_eq_true rfl, Nat.le_of_ble_eq_true rfl⟩) h rfl hl.1 rfl (Nat.le_of_ble_eq_true rfl) (dd_at ddX11_flood 5 rfl) ⟨Nat.le_of_ble_eq_true rfl, Nat.le_of_ble_eq_true rfl⟩) (fun r_22 d_21 H locs h hw => ?_)
  refine lv_iconst (v := 1) S.1 S.2.1 (dd_at ddX11_flood 6 rfl) (by decide) ?_
  refine r_callI hw (r_runV (As := [.int r_22, .int 1]) (rest := []) S hw (m_X11_throwsIf l D cs E d_21 H.size a0 r_22 1 _) (cwV 2 S.2.2.2.2 (gV wg421 wg422 wg423 wg5 wg424) rfl rfl rfl (by decide +kernel) ⟨Nat.le_of_ble_eq_true rfl, Nat.le_of_ble_eq_true rfl⟩) (ci := 11) rfl ha0 h rfl hl.1 rfl (Nat.le_of_ble_eq_true rfl) (dd_at ddX11_flood 7 rfl) ⟨Nat.le_of_ble_eq_true rfl, Nat.le_of_ble_eq_true rfl⟩) (fun r_24 d_23 H locs h hw => ?_)
  refine lv_if_ne (tgt := 40) S.1 S.2.1 (dd_at ddX11_flood 8 rfl) (by decide) (fun hc_25 => ?_) (fun hc_25 => ?_)
  · have h := h.1 hc_25
    refine lv_iconst (v := 0) S.1 S.2.1 (dd_at ddX11_flood 21 rfl) (by decide) ?_
    exact e_I S hr hlocks hw h (dd_at ddX11_flood 22 rfl)
  · have h := h.2 hc_25
    refine lv_aload_n S.1 S.2.1 (dd_at ddX11_flood 9 rfl) rfl (lv_at hl 0 rfl) ?_
    refine lv_iload_n S.1 S.2.1 (dd_at ddX11_flood 10 rfl) rfl (lv_at hl 1 rfl) ?_
    refine lv_iconst (v := 0) S.1 S.2.1 (dd_at ddX11_flood 11 rfl) (by decide) ?_
    refine lv_bipush (v := 100) S.1 S.2.1 (dd_at ddX11_flood 12 rfl) (by decide) ?_
    refine r_callI hw (r_runS (As := [.int p1, .int 0, .int 100]) (rest := [.ref a0]) S hw (m_X11_in l D cs E d_23 H.size p1 0 100 _) (va_cwS 3 S.2.2.2.2 (gS wg418 wg419 wg5 wg420) rfl rfl rfl (by decide +kernel) ⟨Nat.le_of_ble_eq_true rfl, Nat.le_of_ble_eq_true rfl⟩) h rfl hl.1 rfl (Nat.le_of_ble_eq_true rfl) (dd_at ddX11_flood 13 rfl) ⟨Nat.le_of_ble_eq_true rfl, Nat.le_of_ble_eq_true rfl⟩) (fun r_27 d_26 H locs h hw => ?_)
    refine lv_if_ne (tgt := 32) S.1 S.2.1 (dd_at ddX11_flood 14 rfl) (by decide) (fun hc_28 => ?_) (fun hc_28 => ?_)
    · have h := h.1 hc_28
      refine lv_iconst (v := 0) S.1 S.2.1 (dd_at ddX11_flood 17 rfl) (by decide) ?_
      exact tb33 a0 0 d_26 H locs ls h hw (lv_sub hl [0, 1, 2, 3] rfl)
    · have h := h.2 hc_28
      refine lv_iconst (v := 1) S.1 S.2.1 (dd_at ddX11_flood 15 rfl) (by decide) ?_
      refine lv_goto (tgt := 33) S.1 S.2.1 (dd_at ddX11_flood 16 rfl) (by decide) ?_
      exact tb33 a0 1 d_26 H locs ls h hw (lv_sub hl [0, 1, 2, 3] rfl)

def b_X11_lost_43 (E : En) (a0 : Nat) (p1 : Int32) (p2 : Int32) (p3 : Int32) (K : Dy → Prop) (s0 : Nat) (s1 : Int32) (d : Dy) : Prop := okO E s0 11 ∧ w_X11_throwsIf E s0 s1 2 d (fun r_2 d_1 => ((r_2 = 0 → ∃ b_4 : Nat, eR E a0 1 = some b_4 ∧ okA E b_4 13 ∧ vp_in ((50 + (7 * p1)) + 5) (eN E b_4) ∧ ∃ b_8 : Nat, eR E a0 1 = some b_8 ∧ okA E b_8 13 ∧ vp_in ((50 + (7 * p1)) + 6) (eN E b_8) ∧ K (pA (pA d_1 b_4 ((50 + (7 * p1)) + 5).toNatClampNeg p2) b_8 ((50 + (7 * p1)) + 6).toNatClampNeg p3)) ∧ (¬ r_2 = 0 → K d_1)))
def b_X11_lost_38 (E : En) (a0 : Nat) (p1 : Int32) (p2 : Int32) (p3 : Int32) (K : Dy → Prop) (s0 : Nat) (d : Dy) : Prop := okO E s0 11 ∧ b_X11_lost_43 E a0 p1 p2 p3 K s0 1 d
def w_X11_lost (E : En) (a0 : Nat) (p1 : Int32) (p2 : Int32) (p3 : Int32) (d : Dy) (K : Dy → Prop) : Prop := okO E a0 11 ∧ w_X11_noHut E a0 p1 (pI d a0 0 0) (fun r_13 d_12 => w_X11_throwsIf E a0 r_13 1 d_12 (fun r_15 d_14 => ((¬ r_15 = 0 → K d_14) ∧ (r_15 = 0 → w_X11_in E p2 0 4 d_14 (fun r_18 d_17 => ((r_18 = 0 → b_X11_lost_38 E a0 p1 p2 p3 K a0 d_17) ∧ (¬ r_18 = 0 → w_X11_in E p3 0 7 d_17 (fun r_21 d_20 => ((¬ r_21 = 0 → b_X11_lost_43 E a0 p1 p2 p3 K a0 0 d_20) ∧ (r_21 = 0 → b_X11_lost_38 E a0 p1 p2 p3 K a0 d_20))))))))))
abbrev rm_X11_lost : Room := { frames := 3, cells := 0, slots := 0, locals := 65 }
set_option maxRecDepth 100000 in
set_option maxHeartbeats 4000000 in
theorem m_X11_lost (l : Launch) (D : va_G) (cs : Nat → ClassId) (E : En) (d : Dy) (sz : Nat) (a0 : Nat) (p1 : Int32) (p2 : Int32) (p3 : Int32) (K : Dy → Prop) : CV l yX11_lost (.code yX11_lost cX11_lost 4 none :: wsL_law) rm_X11_lost D cs E d sz [.ref a0, .int p1, .int p2, .int p3] (w_X11_lost E a0 p1 p2 p3 d K) K := by
  refine e_of (cc := cX11_lost) (maxL := 4) (ret := none) (own := RX11) (by decide) rfl rfl (Nat.le_of_ble_eq_true rfl) ?_
  intro p e s m below meth c S hr hlocks hsz H locs hw h ls hl
  have hl : lv_has ls 4 [(0, .ref a0), (1, .int p1), (2, .int p2), (3, .int p3)] := hl
  unfold w_X11_lost at h
  obtain ⟨ha0, h⟩ := h
  have tb43 : ∀ (s0 : Nat) (s1 : Int32) (d : Dy) (H : Heap) (locs : List Loc) (ls : Array Slot), b_X11_lost_43 E a0 p1 p2 p3 K s0 s1 d → Wd D cs (AW E sz) s.heap s E d H locs → lv_has ls 4 [(0, .ref a0), (1, .int p1), (2, .int p2), (3, .int p3)] → W p l e rm_X11_lost s m ([.ref a0, .int p1, .int p2, .int p3] : List Value).toArray below meth c H locs 0 0 (MQ below (va_Qv K (OutW D cs E (AW E sz)) (AW E sz)) ([.ref a0, .int p1, .int p2, .int p3] : List Value).toArray s rm_X11_lost.cells rm_X11_lost.slots (AW E sz)) (F0 m 43 ls [.int s1, .ref s0]) := by
    intro s0 s1 d H locs ls h hw hl
    unfold b_X11_lost_43 at h
    obtain ⟨hos0, h⟩ := h
    refine lv_iconst (v := 2) S.1 S.2.1 (dd_at ddX11_lost 24 rfl) (by decide) ?_
    refine r_callI hw (r_runV (As := [.int s1, .int 2]) (rest := []) S hw (m_X11_throwsIf l D cs E d H.size s0 s1 2 _) (cwV 2 S.2.2.2.2 (gV wg421 wg422 wg423 wg5 wg424) rfl rfl rfl (by decide +kernel) ⟨Nat.le_of_ble_eq_true rfl, Nat.le_of_ble_eq_true rfl⟩) (ci := 11) rfl hos0 h rfl hl.1 rfl (Nat.le_of_ble_eq_true rfl) (dd_at ddX11_lost 25 rfl) ⟨Nat.le_of_ble_eq_true rfl, Nat.le_of_ble_eq_true rfl⟩) (fun r_2 d_1 H locs h hw => ?_)
    refine lv_if_eq (tgt := 51) S.1 S.2.1 (dd_at ddX11_lost 26 rfl) (by decide) (fun hc_3 => ?_) (fun hc_3 => ?_)
    · have h := h.1 hc_3
      refine lv_aload_n S.1 S.2.1 (dd_at ddX11_lost 28 rfl) rfl (lv_at hl 0 rfl) ?_
      obtain ⟨b_4, hb_5, ho_6, h⟩ := h
      refine r_getR S hw 11 1 rfl inG11 (by decide) (List.mem_cons_of_mem _ wg150) (by decide) ha0 hb_5 (dd_at ddX11_lost 29 rfl) ?_
      refine lv_bipush (v := 50) S.1 S.2.1 (dd_at ddX11_lost 30 rfl) (by decide) ?_
      refine lv_bipush (v := 7) S.1 S.2.1 (dd_at ddX11_lost 31 rfl) (by decide) ?_
      refine lv_iload_n S.1 S.2.1 (dd_at ddX11_lost 32 rfl) rfl (lv_at hl 1 rfl) ?_
      refine lv_imul S.1 S.2.1 (dd_at ddX11_lost 33 rfl) ?_
      refine lv_iadd S.1 S.2.1 (dd_at ddX11_lost 34 rfl) ?_
      refine lv_iconst (v := 5) S.1 S.2.1 (dd_at ddX11_lost 35 rfl) (by decide) ?_
      refine lv_iadd S.1 S.2.1 (dd_at ddX11_lost 36 rfl) ?_
      refine lv_iload_n S.1 S.2.1 (dd_at ddX11_lost 37 rfl) rfl (lv_at hl 2 rfl) ?_
      obtain ⟨hx_7, h⟩ := h
      refine r_iast S hw ho_6 hx_7 (dd_at ddX11_lost 38 rfl) (fun H locs hw => ?_)
      refine lv_aload_n S.1 S.2.1 (dd_at ddX11_lost 39 rfl) rfl (lv_at hl 0 rfl) ?_
      obtain ⟨b_8, hb_9, ho_10, h⟩ := h
      refine r_getR S hw 11 1 rfl inG11 (by decide) (List.mem_cons_of_mem _ wg150) (by decide) ha0 hb_9 (dd_at ddX11_lost 40 rfl) ?_
      refine lv_bipush (v := 50) S.1 S.2.1 (dd_at ddX11_lost 41 rfl) (by decide) ?_
      refine lv_bipush (v := 7) S.1 S.2.1 (dd_at ddX11_lost 42 rfl) (by decide) ?_
      refine lv_iload_n S.1 S.2.1 (dd_at ddX11_lost 43 rfl) rfl (lv_at hl 1 rfl) ?_
      refine lv_imul S.1 S.2.1 (dd_at ddX11_lost 44 rfl) ?_
      refine lv_iadd S.1 S.2.1 (dd_at ddX11_lost 45 rfl) ?_
      refine lv_bipush (v := 6) S.1 S.2.1 (dd_at ddX11_lost 46 rfl) (by decide) ?_
      refine lv_iadd S.1 S.2.1 (dd_at ddX11_lost 47 rfl) ?_
      refine lv_iload_n S.1 S.2.1 (dd_at ddX11_lost 48 rfl) rfl (lv_at hl 3 rfl) ?_
      obtain ⟨hx_11, h⟩ := h
      refine r_iast S hw ho_10 hx_11 (dd_at ddX11_lost 49 rfl) (fun H locs hw => ?_)
      exact e_V S hr hlocks hw h (dd_at ddX11_lost 50 rfl)
    · have h := h.2 hc_3
      exact e_V S hr hlocks hw h (dd_at ddX11_lost 27 rfl)
  have tb38 : ∀ (s0 : Nat) (d : Dy) (H : Heap) (locs : List Loc) (ls : Array Slot), b_X11_lost_38 E a0 p1 p2 p3 K s0 d → Wd D cs (AW E sz) s.heap s E d H locs → lv_has ls 4 [(0, .ref a0), (1, .int p1), (2, .int p2), (3, .int p3)] → W p l e rm_X11_lost s m ([.ref a0, .int p1, .int p2, .int p3] : List Value).toArray below meth c H locs 0 0 (MQ below (va_Qv K (OutW D cs E (AW E sz)) (AW E sz)) ([.ref a0, .int p1, .int p2, .int p3] : List Value).toArray s rm_X11_lost.cells rm_X11_lost.slots (AW E sz)) (F0 m 38 ls [.ref s0]) := by
    intro s0 d H locs ls h hw hl
    unfold b_X11_lost_38 at h
    obtain ⟨hos0, h⟩ := h
    refine lv_iconst (v := 1) S.1 S.2.1 (dd_at ddX11_lost 21 rfl) (by decide) ?_
    refine lv_goto (tgt := 43) S.1 S.2.1 (dd_at ddX11_lost 22 rfl) (by decide) ?_
    exact tb43 s0 1 d H locs ls h hw (lv_sub hl [0, 1, 2, 3] rfl)
  refine lv_aload_n S.1 S.2.1 (dd_at ddX11_lost 0 rfl) rfl (lv_at hl 0 rfl) ?_
  refine lv_iconst (v := 0) S.1 S.2.1 (dd_at ddX11_lost 1 rfl) (by decide) ?_
  refine r_putI S hw 11 0 (ty := .int) (v := 0) rfl inG11 tyX11 tyX11_ok nmX11 (by decide) (List.mem_cons_of_mem _ wg201) (by decide) rfl (by decide +kernel) rfl rfl ha0 (dd_at ddX11_lost 2 rfl) (fun H locs hw => ?_)
  refine lv_aload_n S.1 S.2.1 (dd_at ddX11_lost 3 rfl) rfl (lv_at hl 0 rfl) ?_
  refine lv_aload_n S.1 S.2.1 (dd_at ddX11_lost 4 rfl) rfl (lv_at hl 0 rfl) ?_
  refine lv_iload_n S.1 S.2.1 (dd_at ddX11_lost 5 rfl) rfl (lv_at hl 1 rfl) ?_
  refine r_callI hw (r_runV (As := [.int p1]) (rest := [.ref a0]) S hw (m_X11_noHut l D cs E (pI d a0 0 0) H.size a0 p1 _) (cwV 1 S.2.2.2.2 (gV wg631 wg632 wg633 wg5 wg634) rfl rfl rfl (by decide +kernel) ⟨Nat.le_of_ble_eq_true rfl, Nat.le_of_ble_eq_true rfl⟩) (ci := 11) rfl ha0 h rfl hl.1 rfl (Nat.le_of_ble_eq_true rfl) (dd_at ddX11_lost 6 rfl) ⟨Nat.le_of_ble_eq_true rfl, Nat.le_of_ble_eq_true rfl⟩) (fun r_13 d_12 H locs h hw => ?_)
  refine lv_iconst (v := 1) S.1 S.2.1 (dd_at ddX11_lost 7 rfl) (by decide) ?_
  refine r_callI hw (r_runV (As := [.int r_13, .int 1]) (rest := []) S hw (m_X11_throwsIf l D cs E d_12 H.size a0 r_13 1 _) (cwV 2 S.2.2.2.2 (gV wg421 wg422 wg423 wg5 wg424) rfl rfl rfl (by decide +kernel) ⟨Nat.le_of_ble_eq_true rfl, Nat.le_of_ble_eq_true rfl⟩) (ci := 11) rfl ha0 h rfl hl.1 rfl (Nat.le_of_ble_eq_true rfl) (dd_at ddX11_lost 8 rfl) ⟨Nat.le_of_ble_eq_true rfl, Nat.le_of_ble_eq_true rfl⟩) (fun r_15 d_14 H locs h hw => ?_)
  refine lv_if_ne (tgt := 50) S.1 S.2.1 (dd_at ddX11_lost 9 rfl) (by decide) (fun hc_16 => ?_) (fun hc_16 => ?_)
  · have h := h.1 hc_16
    exact e_V S hr hlocks hw h (dd_at ddX11_lost 27 rfl)
  · have h := h.2 hc_16
    refine lv_aload_n S.1 S.2.1 (dd_at ddX11_lost 10 rfl) rfl (lv_at hl 0 rfl) ?_
    refine lv_iload_n S.1 S.2.1 (dd_at ddX11_lost 11 rfl) rfl (lv_at hl 2 rfl) ?_
    refine lv_iconst (v := 0) S.1 S.2.1 (dd_at ddX11_lost 12 rfl) (by decide) ?_
    refine lv_iconst (v := 4) S.1 S.2.1 (dd_at ddX11_lost 13 rfl) (by decide) ?_
    refine r_callI hw (r_runS (As := [.int p2, .int 0, .int 4]) (rest := [.ref a0]) S hw (m_X11_in l D cs E d_14 H.size p2 0 4 _) (va_cwS 3 S.2.2.2.2 (gS wg418 wg419 wg5 wg420) rfl rfl rfl (by decide +kernel) ⟨Nat.le_of_ble_eq_true rfl, Nat.le_of_ble_eq_true rfl⟩) h rfl hl.1 rfl (Nat.le_of_ble_eq_true rfl) (dd_at ddX11_lost 14 rfl) ⟨Nat.le_of_ble_eq_true rfl, Nat.le_of_ble_eq_true rfl⟩) (fun r_18 d_17 H locs h hw => ?_)
    refine lv_if_eq (tgt := 38) S.1 S.2.1 (dd_at ddX11_lost 15 rfl) (by decide) (fun hc_19 => ?_) (fun hc_19 => ?_)
    · have h := h.1 hc_19
      exact tb38 a0 d_17 H locs ls h hw (lv_sub hl [0, 1, 2, 3] rfl)
    · have h := h.2 hc_19
      refine lv_iload_n S.1 S.2.1 (dd_at ddX11_lost 16 rfl) rfl (lv_at hl 3 rfl) ?_
      refine lv_iconst (v := 0) S.1 S.2.1 (dd_at ddX11_lost 17 rfl) (by decide) ?_
      refine lv_bipush (v := 7) S.1 S.2.1 (dd_at ddX11_lost 18 rfl) (by decide) ?_
      refine r_callI hw (r_runS (As := [.int p3, .int 0, .int 7]) (rest := [.ref a0]) S hw (m_X11_in l D cs E d_17 H.size p3 0 7 _) (va_cwS 3 S.2.2.2.2 (gS wg418 wg419 wg5 wg420) rfl rfl rfl (by decide +kernel) ⟨Nat.le_of_ble_eq_true rfl, Nat.le_of_ble_eq_true rfl⟩) h rfl hl.1 rfl (Nat.le_of_ble_eq_true rfl) (dd_at ddX11_lost 19 rfl) ⟨Nat.le_of_ble_eq_true rfl, Nat.le_of_ble_eq_true rfl⟩) (fun r_21 d_20 H locs h hw => ?_)
      refine lv_if_ne (tgt := 42) S.1 S.2.1 (dd_at ddX11_lost 20 rfl) (by decide) (fun hc_22 => ?_) (fun hc_22 => ?_)
      · have h := h.1 hc_22
        refine lv_iconst (v := 0) S.1 S.2.1 (dd_at ddX11_lost 23 rfl) (by decide) ?_
        exact tb43 a0 0 d_20 H locs ls h hw (lv_sub hl [0, 1, 2, 3] rfl)
      · have h := h.2 hc_22
        exact tb38 a0 d_20 H locs ls h hw (lv_sub hl [0, 1, 2, 3] rfl)
