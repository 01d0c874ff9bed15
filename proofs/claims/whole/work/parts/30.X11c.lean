def b_X11_holdsLine_238 (E : En) (a0 : Nat) (p1 : Int32) (p2 : Int32) (K : Int32 → Dy → Prop) (k20 : Int32 → Int32 → Int32 → Dy → Prop) (v3 : Int32) (v4 : Int32) (v5 : Int32) (v6 : Int32) (v7 : Int32) (v8 : Int32) (s0 : Int32) (d : Dy) : Prop := ∃ b_1 : Nat, eR E a0 15 = some b_1 ∧ okA E b_1 13 ∧ ((¬ v6 = 10 → ((s0 = 0 → vp_in (v3 - 1) (eN E b_1) ∧ k20 v3 v4 (v5 + 1) (pA d b_1 (v3 - 1).toNatClampNeg 0)) ∧ (¬ s0 = 0 → vp_in (v3 - 1) (eN E b_1) ∧ k20 v3 v4 (v5 + 1) (pA d b_1 (v3 - 1).toNatClampNeg 1)))) ∧ (v6 = 10 → vp_in (v3 - 1) (eN E b_1) ∧ k20 v3 v4 (v5 + 1) (pA d b_1 (v3 - 1).toNatClampNeg (v7 + v8))))
def b_X11_holdsLine_20 (E : En) (a0 : Nat) (p1 : Int32) (p2 : Int32) (K : Int32 → Dy → Prop) (k20 : Int32 → Int32 → Int32 → Dy → Prop) (v3 : Int32) (v4 : Int32) (v5 : Int32) (d : Dy) : Prop := ∃ b_9 : Nat, eR E a0 1 = some b_9 ∧ okA E b_9 13 ∧ vp_in (v4 + 4) (eN E b_9) ∧ (((gA d b_9 (v4 + 4).toNatClampNeg) ≤ v5 → ((v3 = 0 → K 1 d) ∧ (¬ v3 = 0 → ∃ b_15 : Nat, eR E a0 15 = some b_15 ∧ okA E b_15 13 ∧ vp_in 0 (eN E b_15) ∧ ((¬ (gA d b_15 ((0 : Int32)).toNatClampNeg) = 1 → K 0 d) ∧ ((gA d b_15 ((0 : Int32)).toNatClampNeg) = 1 → K 1 d))))) ∧ (¬ (gA d b_9 (v4 + 4).toNatClampNeg) ≤ v5 → ∃ b_20 : Nat, eR E a0 1 = some b_20 ∧ okA E b_20 13 ∧ w_X11_textAt E p1 d (fun r_24 d_23 => vp_in ((r_24 + 51) + (2 * v5)) (eN E b_20) ∧ ((9 < (gA d_23 b_20 ((r_24 + 51) + (2 * v5)).toNatClampNeg) → ((¬ (gA d_23 b_20 ((r_24 + 51) + (2 * v5)).toNatClampNeg) = 13 → ∃ b_28 : Nat, eR E a0 15 = some b_28 ∧ okA E b_28 13 ∧ vp_in ((v3 + (-1)) - 1) (eN E b_28) ∧ ∃ b_32 : Nat, eR E a0 15 = some b_32 ∧ okA E b_32 13 ∧ vp_in (v3 + (-1)) (eN E b_32) ∧ ((¬ (gA d_23 b_20 ((r_24 + 51) + (2 * v5)).toNatClampNeg) = 11 → ((¬ (gA d_23 b_20 ((r_24 + 51) + (2 * v5)).toNatClampNeg) = 12 → ((¬ (gA d_23 b_20 ((r_24 + 51) + (2 * v5)).toNatClampNeg) = 14 → ((((gA d_23 b_28 ((v3 + (-1)) - 1).toNatClampNeg) + (gA d_23 b_32 (v3 + (-1)).toNatClampNeg)) ≤ 0 → b_X11_holdsLine_238 E a0 p1 p2 K k20 (v3 + (-1)) v4 v5 (gA d_23 b_20 ((r_24 + 51) + (2 * v5)).toNatClampNeg) (gA d_23 b_28 ((v3 + (-1)) - 1).toNatClampNeg) (gA d_23 b_32 (v3 + (-1)).toNatClampNeg) 0 d_23) ∧ (¬ ((gA d_23 b_28 ((v3 + (-1)) - 1).toNatClampNeg) + (gA d_23 b_32 (v3 + (-1)).toNatClampNeg)) ≤ 0 → b_X11_holdsLine_238 E a0 p1 p2 K k20 (v3 + (-1)) v4 v5 (gA d_23 b_20 ((r_24 + 51) + (2 * v5)).toNatClampNeg) (gA d_23 b_28 ((v3 + (-1)) - 1).toNatClampNeg) (gA d_23 b_32 (v3 + (-1)).toNatClampNeg) 1 d_23))) ∧ ((gA d_23 b_20 ((r_24 + 51) + (2 * v5)).toNatClampNeg) = 14 → ((¬ ((gA d_23 b_28 ((v3 + (-1)) - 1).toNatClampNeg) + (gA d_23 b_32 (v3 + (-1)).toNatClampNeg)) = 2 → b_X11_holdsLine_238 E a0 p1 p2 K k20 (v3 + (-1)) v4 v5 (gA d_23 b_20 ((r_24 + 51) + (2 * v5)).toNatClampNeg) (gA d_23 b_28 ((v3 + (-1)) - 1).toNatClampNeg) (gA d_23 b_32 (v3 + (-1)).toNatClampNeg) 0 d_23) ∧ (((gA d_23 b_28 ((v3 + (-1)) - 1).toNatClampNeg) + (gA d_23 b_32 (v3 + (-1)).toNatClampNeg)) = 2 → b_X11_holdsLine_238 E a0 p1 p2 K k20 (v3 + (-1)) v4 v5 (gA d_23 b_20 ((r_24 + 51) + (2 * v5)).toNatClampNeg) (gA d_23 b_28 ((v3 + (-1)) - 1).toNatClampNeg) (gA d_23 b_32 (v3 + (-1)).toNatClampNeg) 1 d_23))))) ∧ ((gA d_23 b_20 ((r_24 + 51) + (2 * v5)).toNatClampNeg) = 12 → (((gA d_23 b_28 ((v3 + (-1)) - 1).toNatClampNeg) ≤ (gA d_23 b_32 (v3 + (-1)).toNatClampNeg) → b_X11_holdsLine_238 E a0 p1 p2 K k20 (v3 + (-1)) v4 v5 (gA d_23 b_20 ((r_24 + 51) + (2 * v5)).toNatClampNeg) (gA d_23 b_28 ((v3 + (-1)) - 1).toNatClampNeg) (gA d_23 b_32 (v3 + (-1)).toNatClampNeg) 0 d_23) ∧ (¬ (gA d_23 b_28 ((v3 + (-1)) - 1).toNatClampNeg) ≤ (gA d_23 b_32 (v3 + (-1)).toNatClampNeg) → b_X11_holdsLine_238 E a0 p1 p2 K k20 (v3 + (-1)) v4 v5 (gA d_23 b_20 ((r_24 + 51) + (2 * v5)).toNatClampNeg) (gA d_23 b_28 ((v3 + (-1)) - 1).toNatClampNeg) (gA d_23 b_32 (v3 + (-1)).toNatClampNeg) 1 d_23))))) ∧ ((gA d_23 b_20 ((r_24 + 51) + (2 * v5)).toNatClampNeg) = 11 → (((gA d_23 b_32 (v3 + (-1)).toNatClampNeg) ≤ (gA d_23 b_28 ((v3 + (-1)) - 1).toNatClampNeg) → b_X11_holdsLine_238 E a0 p1 p2 K k20 (v3 + (-1)) v4 v5 (gA d_23 b_20 ((r_24 + 51) + (2 * v5)).toNatClampNeg) (gA d_23 b_28 ((v3 + (-1)) - 1).toNatClampNeg) (gA d_23 b_32 (v3 + (-1)).toNatClampNeg) 0 d_23) ∧ (¬ (gA d_23 b_32 (v3 + (-1)).toNatClampNeg) ≤ (gA d_23 b_28 ((v3 + (-1)) - 1).toNatClampNeg) → b_X11_holdsLine_238 E a0 p1 p2 K k20 (v3 + (-1)) v4 v5 (gA d_23 b_20 ((r_24 + 51) + (2 * v5)).toNatClampNeg) (gA d_23 b_28 ((v3 + (-1)) - 1).toNatClampNeg) (gA d_23 b_32 (v3 + (-1)).toNatClampNeg) 1 d_23))))) ∧ ((gA d_23 b_20 ((r_24 + 51) + (2 * v5)).toNatClampNeg) = 13 → ∃ b_43 : Nat, eR E a0 15 = some b_43 ∧ okA E b_43 13 ∧ ∃ b_46 : Nat, eR E a0 15 = some b_46 ∧ okA E b_46 13 ∧ vp_in (v3 - 1) (eN E b_46) ∧ vp_in (v3 - 1) (eN E b_43) ∧ k20 v3 v4 (v5 + 1) (pA d_23 b_43 (v3 - 1).toNatClampNeg (1 - (gA d_23 b_46 (v3 - 1).toNatClampNeg)))))) ∧ (¬ 9 < (gA d_23 b_20 ((r_24 + 51) + (2 * v5)).toNatClampNeg) → ∃ b_51 : Nat, eR E a0 15 = some b_51 ∧ okA E b_51 13 ∧ ((¬ (gA d_23 b_20 ((r_24 + 51) + (2 * v5)).toNatClampNeg) = 9 → ∃ b_55 : Nat, eR E a0 14 = some b_55 ∧ okA E b_55 13 ∧ vp_in (gA d_23 b_20 ((r_24 + 51) + (2 * v5)).toNatClampNeg) (eN E b_55) ∧ vp_in v3 (eN E b_51) ∧ k20 (v3 + 1) v4 (v5 + 1) (pA d_23 b_51 (v3).toNatClampNeg (gA d_23 b_55 (gA d_23 b_20 ((r_24 + 51) + (2 * v5)).toNatClampNeg).toNatClampNeg))) ∧ ((gA d_23 b_20 ((r_24 + 51) + (2 * v5)).toNatClampNeg) = 9 → ∃ b_60 : Nat, eR E a0 1 = some b_60 ∧ okA E b_60 13 ∧ w_X11_textAt E p1 d_23 (fun r_64 d_63 => vp_in (((r_64 + 51) + (2 * v5)) + 1) (eN E b_60) ∧ vp_in v3 (eN E b_51) ∧ k20 (v3 + 1) v4 (v5 + 1) (pA d_63 b_51 (v3).toNatClampNeg (gA d_63 b_60 (((r_64 + 51) + (2 * v5)) + 1).toNatClampNeg))))))))))
def l_X11_holdsLine_20 (E : En) (a0 : Nat) (p1 : Int32) (p2 : Int32) (K : Int32 → Dy → Prop) : Nat → Int32 → Int32 → Int32 → Dy → Prop
  | 0 => fun _ _ _ _ => False
  | n + 1 => b_X11_holdsLine_20 E a0 p1 p2 K (l_X11_holdsLine_20 E a0 p1 p2 K n)
def w_X11_holdsLine (E : En) (a0 : Nat) (p1 : Int32) (p2 : Int32) (d : Dy) (K : Int32 → Dy → Prop) : Prop := okO E a0 11 ∧ w_X11_lineAt E p1 p2 d (fun r_68 d_67 => ∃ b_69 : Nat, eR E a0 1 = some b_69 ∧ okA E b_69 13 ∧ vp_in (r_68 + 3) (eN E b_69) ∧ (∃ n_73 : Nat, l_X11_holdsLine_20 E a0 p1 p2 K n_73 0 r_68 (gA d_67 b_69 (r_68 + 3).toNatClampNeg) d_67))
abbrev rm_X11_holdsLine : Room := { frames := 2, cells := 0, slots := 0, locals := 41 }
set_option maxRecDepth 100000 in
set_option maxHeartbeats 4000000 in
theorem m_X11_holdsLine (l : Launch) (D : va_G) (cs : Nat → ClassId) (E : En) (d : Dy) (sz : Nat) (a0 : Nat) (p1 : Int32) (p2 : Int32) (K : Int32 → Dy → Prop) : CI l yX11_holdsLine (.code yX11_holdsLine cX11_holdsLine 10 (some .boolean) :: wsL_law) rm_X11_holdsLine D cs E d sz [.ref a0, .int p1, .int p2] (w_X11_holdsLine E a0 p1 p2 d K) K := by
  refine e_of (cc := cX11_holdsLine) (maxL := 10) (ret := (some .boolean)) (own := RX11) (by decide) rfl rfl (Nat.le_of_ble_eq_true rfl) ?_
  intro p e s m below meth c S hr hlocks hsz H locs hw h ls hl
  have hl : lv_has ls 10 [(0, .ref a0), (1, .int p1), (2, .int p2)] := hl
  unfold w_X11_holdsLine at h
  obtain ⟨ha0, h⟩ := h
  have tl20 : ∀ (n : Nat) (v3 : Int32) (v4 : Int32) (v5 : Int32) (d : Dy) (H : Heap) (locs : List Loc) (ls : Array Slot), l_X11_holdsLine_20 E a0 p1 p2 K n v3 v4 v5 d → Wd D cs (AW E sz) s.heap s E d H locs → lv_has ls 10 [(0, .ref a0), (1, .int p1), (3, .int v3), (4, .int v4), (5, .int v5)] → W p l e rm_X11_holdsLine s m ([.ref a0, .int p1, .int p2] : List Value).toArray below meth c H locs 0 0 (MQ below (va_Qi K (OutW D cs E (AW E sz)) (AW E sz)) ([.ref a0, .int p1, .int p2] : List Value).toArray s rm_X11_holdsLine.cells rm_X11_holdsLine.slots (AW E sz)) (F0 m 20 ls []) := by
    intro n20
    induction n20 with
    | zero => intro v3 v4 v5 d H locs ls h; exact absurd h id
    | succ n20 ih20 =>
      have tb238 : ∀ (v3 : Int32) (v4 : Int32) (v5 : Int32) (v6 : Int32) (v7 : Int32) (v8 : Int32) (s0 : Int32) (d : Dy) (H : Heap) (locs : List Loc) (ls : Array Slot), b_X11_holdsLine_238 E a0 p1 p2 K (l_X11_holdsLine_20 E a0 p1 p2 K n20) v3 v4 v5 v6 v7 v8 s0 d → Wd D cs (AW E sz) s.heap s E d H locs → lv_has ls 10 [(0, .ref a0), (1, .int p1), (3, .int v3), (4, .int v4), (5, .int v5), (6, .int v6), (7, .int v7), (8, .int v8)] → W p l e rm_X11_holdsLine s m ([.ref a0, .int p1, .int p2] : List Value).toArray below meth c H locs 0 0 (MQ below (va_Qi K (OutW D cs E (AW E sz)) (AW E sz)) ([.ref a0, .int p1, .int p2] : List Value).toArray s rm_X11_holdsLine.cells rm_X11_holdsLine.slots (AW E sz)) (F0 m 238 ls [.int s0]) := by
        intro v3 v4 v5 v6 v7 v8 s0 d H locs ls h hw hl
        unfold b_X11_holdsLine_238 at h
        refine lv_istore (lv' := [(9, .int s0), (0, .ref a0), (1, .int p1), (3, .int v3), (4, .int v4), (5, .int v5), (6, .int v6), (7, .int v7), (8, .int v8)]) S.1 S.2.1 (dd_at ddX11_holdsLine 133 rfl) hl (by decide) rfl (fun ls hl => ?_)
        refine lv_aload_n S.1 S.2.1 (dd_at ddX11_holdsLine 134 rfl) rfl (lv_at hl 1 rfl) ?_
        obtain ⟨b_1, hb_2, ho_3, h⟩ := h
        refine r_getR S hw 11 15 rfl inG11 (by decide) (List.mem_cons_of_mem _ wg157) (by decide) ha0 hb_2 (dd_at ddX11_holdsLine 135 rfl) ?_
        refine lv_iload_n S.1 S.2.1 (dd_at ddX11_holdsLine 136 rfl) rfl (lv_at hl 3 rfl) ?_
        refine lv_iconst (v := 1) S.1 S.2.1 (dd_at ddX11_holdsLine 137 rfl) (by decide) ?_
        refine lv_isub S.1 S.2.1 (dd_at ddX11_holdsLine 138 rfl) ?_
        refine lv_iload S.1 S.2.1 (dd_at ddX11_holdsLine 139 rfl) (lv_at hl 6 rfl) ?_
        refine lv_bipush (v := 10) S.1 S.2.1 (dd_at ddX11_holdsLine 140 rfl) (by decide) ?_
        refine lv_icmp_ne (tgt := 262) S.1 S.2.1 (dd_at ddX11_holdsLine 141 rfl) (by decide) (fun hc_4 => ?_) (fun hc_4 => ?_)
        · have h := h.1 hc_4
          refine lv_iload S.1 S.2.1 (dd_at ddX11_holdsLine 146 rfl) (lv_at hl 0 rfl) ?_
          refine lv_if_eq (tgt := 271) S.1 S.2.1 (dd_at ddX11_holdsLine 147 rfl) (by decide) (fun hc_5 => ?_) (fun hc_5 => ?_)
          · have h := h.1 hc_5
            refine lv_iconst (v := 0) S.1 S.2.1 (dd_at ddX11_holdsLine 150 rfl) (by decide) ?_
            obtain ⟨hx_6, h⟩ := h
            refine r_iast S hw ho_3 hx_6 (dd_at ddX11_holdsLine 151 rfl) (fun H locs hw => ?_)
            refine lv_iinc (v := v5 + 1) (lv' := [(5, .int (v5 + 1)), (9, .int s0), (0, .ref a0), (1, .int p1), (3, .int v3), (4, .int v4), (6, .int v6), (7, .int v7), (8, .int v8)]) S.1 S.2.1 (dd_at ddX11_holdsLine 152 rfl) hl (k := 5) rfl rfl (by decide) rfl (fun ls hl => ?_)
            refine lv_goto (tgt := 20) S.1 S.2.1 (dd_at ddX11_holdsLine 153 rfl) (by decide) ?_
            exact ih20 v3 v4 (v5 + 1) (pA d b_1 (v3 - 1).toNatClampNeg 0) H locs ls h hw (lv_sub hl [2, 3, 4, 5, 0] rfl)
          · have h := h.2 hc_5
            refine lv_iconst (v := 1) S.1 S.2.1 (dd_at ddX11_holdsLine 148 rfl) (by decide) ?_
            refine lv_goto (tgt := 272) S.1 S.2.1 (dd_at ddX11_holdsLine 149 rfl) (by decide) ?_
            obtain ⟨hx_7, h⟩ := h
            refine r_iast S hw ho_3 hx_7 (dd_at ddX11_holdsLine 151 rfl) (fun H locs hw => ?_)
            refine lv_iinc (v := v5 + 1) (lv' := [(5, .int (v5 + 1)), (9, .int s0), (0, .ref a0), (1, .int p1), (3, .int v3), (4, .int v4), (6, .int v6), (7, .int v7), (8, .int v8)]) S.1 S.2.1 (dd_at ddX11_holdsLine 152 rfl) hl (k := 5) rfl rfl (by decide) rfl (fun ls hl => ?_)
            refine lv_goto (tgt := 20) S.1 S.2.1 (dd_at ddX11_holdsLine 153 rfl) (by decide) ?_
            exact ih20 v3 v4 (v5 + 1) (pA d b_1 (v3 - 1).toNatClampNeg 1) H locs ls h hw (lv_sub hl [2, 3, 4, 5, 0] rfl)
        · have h := h.2 hc_4
          refine lv_iload S.1 S.2.1 (dd_at ddX11_holdsLine 142 rfl) (lv_at hl 7 rfl) ?_
          refine lv_iload S.1 S.2.1 (dd_at ddX11_holdsLine 143 rfl) (lv_at hl 8 rfl) ?_
          refine lv_iadd S.1 S.2.1 (dd_at ddX11_holdsLine 144 rfl) ?_
          refine lv_goto (tgt := 272) S.1 S.2.1 (dd_at ddX11_holdsLine 145 rfl) (by decide) ?_
          obtain ⟨hx_8, h⟩ := h
          refine r_iast S hw ho_3 hx_8 (dd_at ddX11_holdsLine 151 rfl) (fun H locs hw => ?_)
          refine lv_iinc (v := v5 + 1) (lv' := [(5, .int (v5 + 1)), (9, .int s0), (0, .ref a0), (1, .int p1), (3, .int v3), (4, .int v4), (6, .int v6), (7, .int v7), (8, .int v8)]) S.1 S.2.1 (dd_at ddX11_holdsLine 152 rfl) hl (k := 5) rfl rfl (by decide) rfl (fun ls hl => ?_)
          refine lv_goto (tgt := 20) S.1 S.2.1 (dd_at ddX11_holdsLine 153 rfl) (by decide) ?_
          exact ih20 v3 v4 (v5 + 1) (pA d b_1 (v3 - 1).toNatClampNeg (v7 + v8)) H locs ls h hw (lv_sub hl [2, 3, 4, 5, 0] rfl)
      intro v3 v4 v5 d H locs ls h hw hl
      have h : b_X11_holdsLine_20 E a0 p1 p2 K (l_X11_holdsLine_20 E a0 p1 p2 K n20) v3 v4 v5 d := h
      unfold b_X11_holdsLine_20 at h
      refine lv_iload S.1 S.2.1 (dd_at ddX11_holdsLine 13 rfl) (lv_at hl 4 rfl) ?_
      refine lv_aload_n S.1 S.2.1 (dd_at ddX11_holdsLine 14 rfl) rfl (lv_at hl 0 rfl) ?_
      obtain ⟨b_9, hb_10, ho_11, h⟩ := h
      refine r_getR S hw 11 1 rfl inG11 (by decide) (List.mem_cons_of_mem _ wg150) (by decide) ha0 hb_10 (dd_at ddX11_holdsLine 15 rfl) ?_
      refine lv_iload S.1 S.2.1 (dd_at ddX11_holdsLine 16 rfl) (lv_at hl 3 rfl) ?_
      refine lv_iconst (v := 4) S.1 S.2.1 (dd_at ddX11_holdsLine 17 rfl) (by decide) ?_
      refine lv_iadd S.1 S.2.1 (dd_at ddX11_holdsLine 18 rfl) ?_
      obtain ⟨hx_12, h⟩ := h
      refine r_iald S hw ho_11 hx_12 (dd_at ddX11_holdsLine 19 rfl) ?_
      refine lv_icmp_ge (tgt := 279) S.1 S.2.1 (dd_at ddX11_holdsLine 20 rfl) (by decide) (fun hc_13 => ?_) (fun hc_13 => ?_)
      · have h := h.1 hc_13
        refine lv_iload_n S.1 S.2.1 (dd_at ddX11_holdsLine 154 rfl) rfl (lv_at hl 2 rfl) ?_
        refine lv_if_eq (tgt := 293) S.1 S.2.1 (dd_at ddX11_holdsLine 155 rfl) (by decide) (fun hc_14 => ?_) (fun hc_14 => ?_)
        · have h := h.1 hc_14
          refine lv_iconst (v := 1) S.1 S.2.1 (dd_at ddX11_holdsLine 162 rfl) (by decide) ?_
          refine lv_goto (tgt := 298) S.1 S.2.1 (dd_at ddX11_holdsLine 163 rfl) (by decide) ?_
          exact e_Z S hr hlocks hw (Or.inr rfl) h (dd_at ddX11_holdsLine 165 rfl)
        · have h := h.2 hc_14
          refine lv_aload_n S.1 S.2.1 (dd_at ddX11_holdsLine 156 rfl) rfl (lv_at hl 0 rfl) ?_
          obtain ⟨b_15, hb_16, ho_17, h⟩ := h
          refine r_getR S hw 11 15 rfl inG11 (by decide) (List.mem_cons_of_mem _ wg157) (by decide) ha0 hb_16 (dd_at ddX11_holdsLine 157 rfl) ?_
          refine lv_iconst (v := 0) S.1 S.2.1 (dd_at ddX11_holdsLine 158 rfl) (by decide) ?_
          obtain ⟨hx_18, h⟩ := h
          refine r_iald S hw ho_17 hx_18 (dd_at ddX11_holdsLine 159 rfl) ?_
          refine lv_iconst (v := 1) S.1 S.2.1 (dd_at ddX11_holdsLine 160 rfl) (by decide) ?_
          refine lv_icmp_ne (tgt := 297) S.1 S.2.1 (dd_at ddX11_holdsLine 161 rfl) (by decide) (fun hc_19 => ?_) (fun hc_19 => ?_)
          · have h := h.1 hc_19
            refine lv_iconst (v := 0) S.1 S.2.1 (dd_at ddX11_holdsLine 164 rfl) (by decide) ?_
            exact e_Z S hr hlocks hw (Or.inl rfl) h (dd_at ddX11_holdsLine 165 rfl)
          · have h := h.2 hc_19
            refine lv_iconst (v := 1) S.1 S.2.1 (dd_at ddX11_holdsLine 162 rfl) (by decide) ?_
            refine lv_goto (tgt := 298) S.1 S.2.1 (dd_at ddX11_holdsLine 163 rfl) (by decide) ?_
            exact e_Z S hr hlocks hw (Or.inr rfl) h (dd_at ddX11_holdsLine 165 rfl)
      · have h := h.2 hc_13
        refine lv_aload_n S.1 S.2.1 (dd_at ddX11_holdsLine 21 rfl) rfl (lv_at hl 0 rfl) ?_
        obtain ⟨b_20, hb_21, ho_22, h⟩ := h
        refine r_getR S hw 11 1 rfl inG11 (by decide) (List.mem_cons_of_mem _ wg150) (by decide) ha0 hb_21 (dd_at ddX11_holdsLine 22 rfl) ?_
        refine lv_iload_n S.1 S.2.1 (dd_at ddX11_holdsLine 23 rfl) rfl (lv_at hl 1 rfl) ?_
        refine r_callI hw (r_runS (As := [.int p1]) (rest := [.ref b_20]) S hw (m_X11_textAt l D cs E d H.size p1 _) (va_cwS 1 S.2.2.2.2 (gS wg449 wg450 wg5 wg451) rfl rfl rfl (by decide +kernel) ⟨Nat.le_of_ble_eq_true rfl, Nat.le_of_ble_eq_true rfl⟩) h rfl hl.1 rfl (Nat.le_of_ble_eq_true rfl) (dd_at ddX11_holdsLine 24 rfl) ⟨Nat.le_of_ble_eq_true rfl, Nat.le_of_ble_eq_true rfl⟩) (fun r_24 d_23 H locs h hw => ?_)
        refine lv_bipush (v := 51) S.1 S.2.1 (dd_at ddX11_holdsLine 25 rfl) (by decide) ?_
        refine lv_iadd S.1 S.2.1 (dd_at ddX11_holdsLine 26 rfl) ?_
        refine lv_iconst (v := 2) S.1 S.2.1 (dd_at ddX11_holdsLine 27 rfl) (by decide) ?_
        refine lv_iload S.1 S.2.1 (dd_at ddX11_holdsLine 28 rfl) (lv_at hl 4 rfl) ?_
        refine lv_imul S.1 S.2.1 (dd_at ddX11_holdsLine 29 rfl) ?_
        refine lv_iadd S.1 S.2.1 (dd_at ddX11_holdsLine 30 rfl) ?_
        obtain ⟨hx_25, h⟩ := h
        refine r_iald S hw ho_22 hx_25 (dd_at ddX11_holdsLine 31 rfl) ?_
        refine lv_istore (lv' := [(6, .int (gA d_23 b_20 ((r_24 + 51) + (2 * v5)).toNatClampNeg)), (0, .ref a0), (1, .int p1), (3, .int v3), (4, .int v4), (5, .int v5)]) S.1 S.2.1 (dd_at ddX11_holdsLine 32 rfl) hl (by decide) rfl (fun ls hl => ?_)
        refine lv_iload S.1 S.2.1 (dd_at ddX11_holdsLine 33 rfl) (lv_at hl 0 rfl) ?_
        refine lv_bipush (v := 9) S.1 S.2.1 (dd_at ddX11_holdsLine 34 rfl) (by decide) ?_
        refine lv_icmp_gt (tgt := 108) S.1 S.2.1 (dd_at ddX11_holdsLine 35 rfl) (by decide) (fun hc_26 => ?_) (fun hc_26 => ?_)
        · have h := h.1 hc_26
          refine lv_iload S.1 S.2.1 (dd_at ddX11_holdsLine 63 rfl) (lv_at hl 0 rfl) ?_
          refine lv_bipush (v := 13) S.1 S.2.1 (dd_at ddX11_holdsLine 64 rfl) (by decide) ?_
          refine lv_icmp_ne (tgt := 136) S.1 S.2.1 (dd_at ddX11_holdsLine 65 rfl) (by decide) (fun hc_27 => ?_) (fun hc_27 => ?_)
          · have h := h.1 hc_27
            refine lv_iinc (v := v3 + (-1)) (lv' := [(3, .int (v3 + (-1))), (6, .int (gA d_23 b_20 ((r_24 + 51) + (2 * v5)).toNatClampNeg)), (0, .ref a0), (1, .int p1), (4, .int v4), (5, .int v5)]) S.1 S.2.1 (dd_at ddX11_holdsLine 81 rfl) hl (k := 3) rfl rfl (by decide) rfl (fun ls hl => ?_)
            refine lv_aload_n S.1 S.2.1 (dd_at ddX11_holdsLine 82 rfl) rfl (lv_at hl 2 rfl) ?_
            obtain ⟨b_28, hb_29, ho_30, h⟩ := h
            refine r_getR S hw 11 15 rfl inG11 (by decide) (List.mem_cons_of_mem _ wg157) (by decide) ha0 hb_29 (dd_at ddX11_holdsLine 83 rfl) ?_
            refine lv_iload_n S.1 S.2.1 (dd_at ddX11_holdsLine 84 rfl) rfl (lv_at hl 0 rfl) ?_
            refine lv_iconst (v := 1) S.1 S.2.1 (dd_at ddX11_holdsLine 85 rfl) (by decide) ?_
            refine lv_isub S.1 S.2.1 (dd_at ddX11_holdsLine 86 rfl) ?_
            obtain ⟨hx_31, h⟩ := h
            refine r_iald S hw ho_30 hx_31 (dd_at ddX11_holdsLine 87 rfl) ?_
            refine lv_istore (lv' := [(7, .int (gA d_23 b_28 ((v3 + (-1)) - 1).toNatClampNeg)), (3, .int (v3 + (-1))), (6, .int (gA d_23 b_20 ((r_24 + 51) + (2 * v5)).toNatClampNeg)), (0, .ref a0), (1, .int p1), (4, .int v4), (5, .int v5)]) S.1 S.2.1 (dd_at ddX11_holdsLine 88 rfl) hl (by decide) rfl (fun ls hl => ?_)
            refine lv_aload_n S.1 S.2.1 (dd_at ddX11_holdsLine 89 rfl) rfl (lv_at hl 3 rfl) ?_
            obtain ⟨b_32, hb_33, ho_34, h⟩ := h
            refine r_getR S hw 11 15 rfl inG11 (by decide) (List.mem_cons_of_mem _ wg157) (by decide) ha0 hb_33 (dd_at ddX11_holdsLine 90 rfl) ?_
            refine lv_iload_n S.1 S.2.1 (dd_at ddX11_holdsLine 91 rfl) rfl (lv_at hl 1 rfl) ?_
            obtain ⟨hx_35, h⟩ := h
            refine r_iald S hw ho_34 hx_35 (dd_at ddX11_holdsLine 92 rfl) ?_
            refine lv_istore (lv' := [(8, .int (gA d_23 b_32 (v3 + (-1)).toNatClampNeg)), (7, .int (gA d_23 b_28 ((v3 + (-1)) - 1).toNatClampNeg)), (3, .int (v3 + (-1))), (6, .int (gA d_23 b_20 ((r_24 + 51) + (2 * v5)).toNatClampNeg)), (0, .ref a0), (1, .int p1), (4, .int v4), (5, .int v5)]) S.1 S.2.1 (dd_at ddX11_holdsLine 93 rfl) hl (by decide) rfl (fun ls hl => ?_)
            refine lv_iload S.1 S.2.1 (dd_at ddX11_holdsLine 94 rfl) (lv_at hl 3 rfl) ?_
            refine lv_bipush (v := 11) S.1 S.2.1 (dd_at ddX11_holdsLine 95 rfl) (by decide) ?_
            refine lv_icmp_ne (tgt := 179) S.1 S.2.1 (dd_at ddX11_holdsLine 96 rfl) (by decide) (fun hc_36 => ?_) (fun hc_36 => ?_)
            · have h := h.1 hc_36
              refine lv_iload S.1 S.2.1 (dd_at ddX11_holdsLine 104 rfl) (lv_at hl 3 rfl) ?_
              refine lv_bipush (v := 12) S.1 S.2.1 (dd_at ddX11_holdsLine 105 rfl) (by decide) ?_
              refine lv_icmp_ne (tgt := 201) S.1 S.2.1 (dd_at ddX11_holdsLine 106 rfl) (by decide) (fun hc_37 => ?_) (fun hc_37 => ?_)
              · have h := h.1 hc_37
                refine lv_iload S.1 S.2.1 (dd_at ddX11_holdsLine 114 rfl) (lv_at hl 3 rfl) ?_
                refine lv_bipush (v := 14) S.1 S.2.1 (dd_at ddX11_holdsLine 115 rfl) (by decide) ?_
                refine lv_icmp_ne (tgt := 225) S.1 S.2.1 (dd_at ddX11_holdsLine 116 rfl) (by decide) (fun hc_38 => ?_) (fun hc_38 => ?_)
                · have h := h.1 hc_38
                  refine lv_iload S.1 S.2.1 (dd_at ddX11_holdsLine 126 rfl) (lv_at hl 1 rfl) ?_
                  refine lv_iload S.1 S.2.1 (dd_at ddX11_holdsLine 127 rfl) (lv_at hl 0 rfl) ?_
                  refine lv_iadd S.1 S.2.1 (dd_at ddX11_holdsLine 128 rfl) ?_
                  refine lv_if_le (tgt := 237) S.1 S.2.1 (dd_at ddX11_holdsLine 129 rfl) (by decide) (fun hc_39 => ?_) (fun hc_39 => ?_)
                  · have h := h.1 hc_39
                    refine lv_iconst (v := 0) S.1 S.2.1 (dd_at ddX11_holdsLine 132 rfl) (by decide) ?_
                    exact tb238 (v3 + (-1)) v4 v5 (gA d_23 b_20 ((r_24 + 51) + (2 * v5)).toNatClampNeg) (gA d_23 b_28 ((v3 + (-1)) - 1).toNatClampNeg) (gA d_23 b_32 (v3 + (-1)).toNatClampNeg) 0 d_23 H locs ls h hw (lv_sub hl [4, 5, 2, 6, 7, 3, 1, 0] rfl)
                  · have h := h.2 hc_39
                    refine lv_iconst (v := 1) S.1 S.2.1 (dd_at ddX11_holdsLine 130 rfl) (by decide) ?_
                    refine lv_goto (tgt := 238) S.1 S.2.1 (dd_at ddX11_holdsLine 131 rfl) (by decide) ?_
                    exact tb238 (v3 + (-1)) v4 v5 (gA d_23 b_20 ((r_24 + 51) + (2 * v5)).toNatClampNeg) (gA d_23 b_28 ((v3 + (-1)) - 1).toNatClampNeg) (gA d_23 b_32 (v3 + (-1)).toNatClampNeg) 1 d_23 H locs ls h hw (lv_sub hl [4, 5, 2, 6, 7, 3, 1, 0] rfl)
                · have h := h.2 hc_38
                  refine lv_iload S.1 S.2.1 (dd_at ddX11_holdsLine 117 rfl) (lv_at hl 1 rfl) ?_
                  refine lv_iload S.1 S.2.1 (dd_at ddX11_holdsLine 118 rfl) (lv_at hl 0 rfl) ?_
                  refine lv_iadd S.1 S.2.1 (dd_at ddX11_holdsLine 119 rfl) ?_
                  refine lv_iconst (v := 2) S.1 S.2.1 (dd_at ddX11_holdsLine 120 rfl) (by decide) ?_
                  refine lv_icmp_ne (tgt := 221) S.1 S.2.1 (dd_at ddX11_holdsLine 121 rfl) (by decide) (fun hc_40 => ?_) (fun hc_40 => ?_)
                  · have h := h.1 hc_40
                    refine lv_iconst (v := 0) S.1 S.2.1 (dd_at ddX11_holdsLine 124 rfl) (by decide) ?_
                    refine lv_goto (tgt := 238) S.1 S.2.1 (dd_at ddX11_holdsLine 125 rfl) (by decide) ?_
                    exact tb238 (v3 + (-1)) v4 v5 (gA d_23 b_20 ((r_24 + 51) + (2 * v5)).toNatClampNeg) (gA d_23 b_28 ((v3 + (-1)) - 1).toNatClampNeg) (gA d_23 b_32 (v3 + (-1)).toNatClampNeg) 0 d_23 H locs ls h hw (lv_sub hl [4, 5, 2, 6, 7, 3, 1, 0] rfl)
                  · have h := h.2 hc_40
                    refine lv_iconst (v := 1) S.1 S.2.1 (dd_at ddX11_holdsLine 122 rfl) (by decide) ?_
                    refine lv_goto (tgt := 238) S.1 S.2.1 (dd_at ddX11_holdsLine 123 rfl) (by decide) ?_
                    exact tb238 (v3 + (-1)) v4 v5 (gA d_23 b_20 ((r_24 + 51) + (2 * v5)).toNatClampNeg) (gA d_23 b_28 ((v3 + (-1)) - 1).toNatClampNeg) (gA d_23 b_32 (v3 + (-1)).toNatClampNeg) 1 d_23 H locs ls h hw (lv_sub hl [4, 5, 2, 6, 7, 3, 1, 0] rfl)
              · have h := h.2 hc_37
                refine lv_iload S.1 S.2.1 (dd_at ddX11_holdsLine 107 rfl) (lv_at hl 1 rfl) ?_
                refine lv_iload S.1 S.2.1 (dd_at ddX11_holdsLine 108 rfl) (lv_at hl 0 rfl) ?_
                refine lv_icmp_le (tgt := 197) S.1 S.2.1 (dd_at ddX11_holdsLine 109 rfl) (by decide) (fun hc_41 => ?_) (fun hc_41 => ?_)
                · have h := h.1 hc_41
                  refine lv_iconst (v := 0) S.1 S.2.1 (dd_at ddX11_holdsLine 112 rfl) (by decide) ?_
                  refine lv_goto (tgt := 238) S.1 S.2.1 (dd_at ddX11_holdsLine 113 rfl) (by decide) ?_
                  exact tb238 (v3 + (-1)) v4 v5 (gA d_23 b_20 ((r_24 + 51) + (2 * v5)).toNatClampNeg) (gA d_23 b_28 ((v3 + (-1)) - 1).toNatClampNeg) (gA d_23 b_32 (v3 + (-1)).toNatClampNeg) 0 d_23 H locs ls h hw (lv_sub hl [4, 5, 2, 6, 7, 3, 1, 0] rfl)
                · have h := h.2 hc_41
                  refine lv_iconst (v := 1) S.1 S.2.1 (dd_at ddX11_holdsLine 110 rfl) (by decide) ?_
                  refine lv_goto (tgt := 238) S.1 S.2.1 (dd_at ddX11_holdsLine 111 rfl) (by decide) ?_
                  exact tb238 (v3 + (-1)) v4 v5 (gA d_23 b_20 ((r_24 + 51) + (2 * v5)).toNatClampNeg) (gA d_23 b_28 ((v3 + (-1)) - 1).toNatClampNeg) (gA d_23 b_32 (v3 + (-1)).toNatClampNeg) 1 d_23 H locs ls h hw (lv_sub hl [4, 5, 2, 6, 7, 3, 1, 0] rfl)
            · have h := h.2 hc_36
              refine lv_iload S.1 S.2.1 (dd_at ddX11_holdsLine 97 rfl) (lv_at hl 1 rfl) ?_
              refine lv_iload S.1 S.2.1 (dd_at ddX11_holdsLine 98 rfl) (lv_at hl 0 rfl) ?_
              refine lv_icmp_ge (tgt := 175) S.1 S.2.1 (dd_at ddX11_holdsLine 99 rfl) (by decide) (fun hc_42 => ?_) (fun hc_42 => ?_)
              · have h := h.1 hc_42
                refine lv_iconst (v := 0) S.1 S.2.1 (dd_at ddX11_holdsLine 102 rfl) (by decide) ?_
                refine lv_goto (tgt := 238) S.1 S.2.1 (dd_at ddX11_holdsLine 103 rfl) (by decide) ?_
                exact tb238 (v3 + (-1)) v4 v5 (gA d_23 b_20 ((r_24 + 51) + (2 * v5)).toNatClampNeg) (gA d_23 b_28 ((v3 + (-1)) - 1).toNatClampNeg) (gA d_23 b_32 (v3 + (-1)).toNatClampNeg) 0 d_23 H locs ls h hw (lv_sub hl [4, 5, 2, 6, 7, 3, 1, 0] rfl)
              · have h := h.2 hc_42
                refine lv_iconst (v := 1) S.1 S.2.1 (dd_at ddX11_holdsLine 100 rfl) (by decide) ?_
                refine lv_goto (tgt := 238) S.1 S.2.1 (dd_at ddX11_holdsLine 101 rfl) (by decide) ?_
                exact tb238 (v3 + (-1)) v4 v5 (gA d_23 b_20 ((r_24 + 51) + (2 * v5)).toNatClampNeg) (gA d_23 b_28 ((v3 + (-1)) - 1).toNatClampNeg) (gA d_23 b_32 (v3 + (-1)).toNatClampNeg) 1 d_23 H locs ls h hw (lv_sub hl [4, 5, 2, 6, 7, 3, 1, 0] rfl)
          · have h := h.2 hc_27
            refine lv_aload_n S.1 S.2.1 (dd_at ddX11_holdsLine 66 rfl) rfl (lv_at hl 1 rfl) ?_
            obtain ⟨b_43, hb_44, ho_45, h⟩ := h
            refine r_getR S hw 11 15 rfl inG11 (by decide) (List.mem_cons_of_mem _ wg157) (by decide) ha0 hb_44 (dd_at ddX11_holdsLine 67 rfl) ?_
            refine lv_iload_n S.1 S.2.1 (dd_at ddX11_holdsLine 68 rfl) rfl (lv_at hl 3 rfl) ?_
            refine lv_iconst (v := 1) S.1 S.2.1 (dd_at ddX11_holdsLine 69 rfl) (by decide) ?_
            refine lv_isub S.1 S.2.1 (dd_at ddX11_holdsLine 70 rfl) ?_
            refine lv_iconst (v := 1) S.1 S.2.1 (dd_at ddX11_holdsLine 71 rfl) (by decide) ?_
            refine lv_aload_n S.1 S.2.1 (dd_at ddX11_holdsLine 72 rfl) rfl (lv_at hl 1 rfl) ?_
            obtain ⟨b_46, hb_47, ho_48, h⟩ := h
            refine r_getR S hw 11 15 rfl inG11 (by decide) (List.mem_cons_of_mem _ wg157) (by decide) ha0 hb_47 (dd_at ddX11_holdsLine 73 rfl) ?_
            refine lv_iload_n S.1 S.2.1 (dd_at ddX11_holdsLine 74 rfl) rfl (lv_at hl 3 rfl) ?_
            refine lv_iconst (v := 1) S.1 S.2.1 (dd_at ddX11_holdsLine 75 rfl) (by decide) ?_
            refine lv_isub S.1 S.2.1 (dd_at ddX11_holdsLine 76 rfl) ?_
            obtain ⟨hx_49, h⟩ := h
            refine r_iald S hw ho_48 hx_49 (dd_at ddX11_holdsLine 77 rfl) ?_
            refine lv_isub S.1 S.2.1 (dd_at ddX11_holdsLine 78 rfl) ?_
            obtain ⟨hx_50, h⟩ := h
            refine r_iast S hw ho_45 hx_50 (dd_at ddX11_holdsLine 79 rfl) (fun H locs hw => ?_)
            refine lv_goto (tgt := 273) S.1 S.2.1 (dd_at ddX11_holdsLine 80 rfl) (by decide) ?_
            refine lv_iinc (v := v5 + 1) (lv' := [(5, .int (v5 + 1)), (6, .int (gA d_23 b_20 ((r_24 + 51) + (2 * v5)).toNatClampNeg)), (0, .ref a0), (1, .int p1), (3, .int v3), (4, .int v4)]) S.1 S.2.1 (dd_at ddX11_holdsLine 152 rfl) hl (k := 5) rfl rfl (by decide) rfl (fun ls hl => ?_)
            refine lv_goto (tgt := 20) S.1 S.2.1 (dd_at ddX11_holdsLine 153 rfl) (by decide) ?_
            exact ih20 v3 v4 (v5 + 1) (pA d_23 b_43 (v3 - 1).toNatClampNeg (1 - (gA d_23 b_46 (v3 - 1).toNatClampNeg))) H locs ls h hw (lv_sub hl [2, 3, 4, 5, 0] rfl)
        · have h := h.2 hc_26
          refine lv_aload_n S.1 S.2.1 (dd_at ddX11_holdsLine 36 rfl) rfl (lv_at hl 1 rfl) ?_
          obtain ⟨b_51, hb_52, ho_53, h⟩ := h
          refine r_getR S hw 11 15 rfl inG11 (by decide) (List.mem_cons_of_mem _ wg157) (by decide) ha0 hb_52 (dd_at ddX11_holdsLine 37 rfl) ?_
          refine lv_iload_n S.1 S.2.1 (dd_at ddX11_holdsLine 38 rfl) rfl (lv_at hl 3 rfl) ?_
          refine lv_iload S.1 S.2.1 (dd_at ddX11_holdsLine 39 rfl) (lv_at hl 0 rfl) ?_
          refine lv_bipush (v := 9) S.1 S.2.1 (dd_at ddX11_holdsLine 40 rfl) (by decide) ?_
          refine lv_icmp_ne (tgt := 94) S.1 S.2.1 (dd_at ddX11_holdsLine 41 rfl) (by decide) (fun hc_54 => ?_) (fun hc_54 => ?_)
          · have h := h.1 hc_54
            refine lv_aload_n S.1 S.2.1 (dd_at ddX11_holdsLine 56 rfl) rfl (lv_at hl 1 rfl) ?_
            obtain ⟨b_55, hb_56, ho_57, h⟩ := h
            refine r_getR S hw 11 14 rfl inG11 (by decide) (List.mem_cons_of_mem _ wg156) (by decide) ha0 hb_56 (dd_at ddX11_holdsLine 57 rfl) ?_
            refine lv_iload S.1 S.2.1 (dd_at ddX11_holdsLine 58 rfl) (lv_at hl 0 rfl) ?_
            obtain ⟨hx_58, h⟩ := h
            refine r_iald S hw ho_57 hx_58 (dd_at ddX11_holdsLine 59 rfl) ?_
            obtain ⟨hx_59, h⟩ := h
            refine r_iast S hw ho_53 hx_59 (dd_at ddX11_holdsLine 60 rfl) (fun H locs hw => ?_)
            refine lv_iinc (v := v3 + 1) (lv' := [(3, .int (v3 + 1)), (6, .int (gA d_23 b_20 ((r_24 + 51) + (2 * v5)).toNatClampNeg)), (0, .ref a0), (1, .int p1), (4, .int v4), (5, .int v5)]) S.1 S.2.1 (dd_at ddX11_holdsLine 61 rfl) hl (k := 3) rfl rfl (by decide) rfl (fun ls hl => ?_)
            refine lv_goto (tgt := 273) S.1 S.2.1 (dd_at ddX11_holdsLine 62 rfl) (by decide) ?_
            refine lv_iinc (v := v5 + 1) (lv' := [(5, .int (v5 + 1)), (3, .int (v3 + 1)), (6, .int (gA d_23 b_20 ((r_24 + 51) + (2 * v5)).toNatClampNeg)), (0, .ref a0), (1, .int p1), (4, .int v4)]) S.1 S.2.1 (dd_at ddX11_holdsLine 152 rfl) hl (k := 5) rfl rfl (by decide) rfl (fun ls hl => ?_)
            refine lv_goto (tgt := 20) S.1 S.2.1 (dd_at ddX11_holdsLine 153 rfl) (by decide) ?_
            exact ih20 (v3 + 1) v4 (v5 + 1) (pA d_23 b_51 (v3).toNatClampNeg (gA d_23 b_55 (gA d_23 b_20 ((r_24 + 51) + (2 * v5)).toNatClampNeg).toNatClampNeg)) H locs ls h hw (lv_sub hl [3, 4, 1, 5, 0] rfl)
          · have h := h.2 hc_54
            refine lv_aload_n S.1 S.2.1 (dd_at ddX11_holdsLine 42 rfl) rfl (lv_at hl 1 rfl) ?_
            obtain ⟨b_60, hb_61, ho_62, h⟩ := h
            refine r_getR S hw 11 1 rfl inG11 (by decide) (List.mem_cons_of_mem _ wg150) (by decide) ha0 hb_61 (dd_at ddX11_holdsLine 43 rfl) ?_
            refine lv_iload_n S.1 S.2.1 (dd_at ddX11_holdsLine 44 rfl) rfl (lv_at hl 2 rfl) ?_
            refine r_callI hw (r_runS (As := [.int p1]) (rest := [.ref b_60, .int v3, .ref b_51]) S hw (m_X11_textAt l D cs E d_23 H.size p1 _) (va_cwS 1 S.2.2.2.2 (gS wg449 wg450 wg5 wg451) rfl rfl rfl (by decide +kernel) ⟨Nat.le_of_ble_eq_true rfl, Nat.le_of_ble_eq_true rfl⟩) h rfl hl.1 rfl (Nat.le_of_ble_eq_true rfl) (dd_at ddX11_holdsLine 45 rfl) ⟨Nat.le_of_ble_eq_true rfl, Nat.le_of_ble_eq_true rfl⟩) (fun r_64 d_63 H locs h hw => ?_)
            refine lv_bipush (v := 51) S.1 S.2.1 (dd_at ddX11_holdsLine 46 rfl) (by decide) ?_
            refine lv_iadd S.1 S.2.1 (dd_at ddX11_holdsLine 47 rfl) ?_
            refine lv_iconst (v := 2) S.1 S.2.1 (dd_at ddX11_holdsLine 48 rfl) (by decide) ?_
            refine lv_iload S.1 S.2.1 (dd_at ddX11_holdsLine 49 rfl) (lv_at hl 5 rfl) ?_
            refine lv_imul S.1 S.2.1 (dd_at ddX11_holdsLine 50 rfl) ?_
            refine lv_iadd S.1 S.2.1 (dd_at ddX11_holdsLine 51 rfl) ?_
            refine lv_iconst (v := 1) S.1 S.2.1 (dd_at ddX11_holdsLine 52 rfl) (by decide) ?_
            refine lv_iadd S.1 S.2.1 (dd_at ddX11_holdsLine 53 rfl) ?_
            obtain ⟨hx_65, h⟩ := h
            refine r_iald S hw ho_62 hx_65 (dd_at ddX11_holdsLine 54 rfl) ?_
            refine lv_goto (tgt := 101) S.1 S.2.1 (dd_at ddX11_holdsLine 55 rfl) (by decide) ?_
            obtain ⟨hx_66, h⟩ := h
            refine r_iast S hw ho_53 hx_66 (dd_at ddX11_holdsLine 60 rfl) (fun H locs hw => ?_)
            refine lv_iinc (v := v3 + 1) (lv' := [(3, .int (v3 + 1)), (6, .int (gA d_23 b_20 ((r_24 + 51) + (2 * v5)).toNatClampNeg)), (0, .ref a0), (1, .int p1), (4, .int v4), (5, .int v5)]) S.1 S.2.1 (dd_at ddX11_holdsLine 61 rfl) hl (k := 3) rfl rfl (by decide) rfl (fun ls hl => ?_)
            refine lv_goto (tgt := 273) S.1 S.2.1 (dd_at ddX11_holdsLine 62 rfl) (by decide) ?_
            refine lv_iinc (v := v5 + 1) (lv' := [(5, .int (v5 + 1)), (3, .int (v3 + 1)), (6, .int (gA d_23 b_20 ((r_24 + 51) + (2 * v5)).toNatClampNeg)), (0, .ref a0), (1, .int p1), (4, .int v4)]) S.1 S.2.1 (dd_at ddX11_holdsLine 152 rfl) hl (k := 5) rfl rfl (by decide) rfl (fun ls hl => ?_)
            refine lv_goto (tgt := 20) S.1 S.2.1 (dd_at ddX11_holdsLine 153 rfl) (by decide) ?_
            exact ih20 (v3 + 1) v4 (v5 + 1) (pA d_63 b_51 (v3).toNatClampNeg (gA d_63 b_60 (((r_64 + 51) + (2 * v5)) + 1).toNatClampNeg)) H locs ls h hw (lv_sub hl [3, 4, 1, 5, 0] rfl)
  refine lv_iconst (v := 0) S.1 S.2.1 (dd_at ddX11_holdsLine 0 rfl) (by decide) ?_
  refine lv_istore_n (lv' := [(3, .int 0), (0, .ref a0), (1, .int p1), (2, .int p2)]) S.1 S.2.1 (dd_at ddX11_holdsLine 1 rfl) rfl hl (by decide) rfl (fun ls hl => ?_)
  refine lv_iload_n S.1 S.2.1 (dd_at ddX11_holdsLine 2 rfl) rfl (lv_at hl 2 rfl) ?_
  refine lv_iload_n S.1 S.2.1 (dd_at ddX11_holdsLine 3 rfl) rfl (lv_at hl 3 rfl) ?_
  refine r_callI hw (r_runS (As := [.int p1, .int p2]) (rest := []) S hw (m_X11_lineAt l D cs E d H.size p1 p2 _) (va_cwS 2 S.2.2.2.2 (gS wg446 wg447 wg5 wg448) rfl rfl rfl (by decide +kernel) ⟨Nat.le_of_ble_eq_true rfl, Nat.le_of_ble_eq_true rfl⟩) h rfl hl.1 rfl (Nat.le_of_ble_eq_true rfl) (dd_at ddX11_holdsLine 4 rfl) ⟨Nat.le_of_ble_eq_true rfl, Nat.le_of_ble_eq_true rfl⟩) (fun r_68 d_67 H locs h hw => ?_)
  refine lv_istore (lv' := [(4, .int r_68), (3, .int 0), (0, .ref a0), (1, .int p1), (2, .int p2)]) S.1 S.2.1 (dd_at ddX11_holdsLine 5 rfl) hl (by decide) rfl (fun ls hl => ?_)
  refine lv_aload_n S.1 S.2.1 (dd_at ddX11_holdsLine 6 rfl) rfl (lv_at hl 2 rfl) ?_
  obtain ⟨b_69, hb_70, ho_71, h⟩ := h
  refine r_getR S hw 11 1 rfl inG11 (by decide) (List.mem_cons_of_mem _ wg150) (by decide) ha0 hb_70 (dd_at ddX11_holdsLine 7 rfl) ?_
  refine lv_iload S.1 S.2.1 (dd_at ddX11_holdsLine 8 rfl) (lv_at hl 0 rfl) ?_
  refine lv_iconst (v := 3) S.1 S.2.1 (dd_at ddX11_holdsLine 9 rfl) (by decide) ?_
  refine lv_iadd S.1 S.2.1 (dd_at ddX11_holdsLine 10 rfl) ?_
  obtain ⟨hx_72, h⟩ := h
  refine r_iald S hw ho_71 hx_72 (dd_at ddX11_holdsLine 11 rfl) ?_
  refine lv_istore (lv' := [(5, .int (gA d_67 b_69 (r_68 + 3).toNatClampNeg)), (4, .int r_68), (3, .int 0), (0, .ref a0), (1, .int p1), (2, .int p2)]) S.1 S.2.1 (dd_at ddX11_holdsLine 12 rfl) hl (by decide) rfl (fun ls hl => ?_)
  obtain ⟨n_73, h⟩ := h
  exact tl20 n_73 0 r_68 (gA d_67 b_69 (r_68 + 3).toNatClampNeg) d_67 H locs ls h hw (lv_sub hl [3, 4, 2, 1, 0] rfl)

def b_X11_summed_75 (E : En) (a0 : Nat) (p1 : Int32) (K : Int32 → Dy → Prop) (k4 : Int32 → Int32 → Dy → Prop) (v2 : Int32) (v3 : Int32) (v4 : Int32) (s0 : Int32) (s1 : Int32) (d : Dy) : Prop := ∃ b_1 : Nat, eR E a0 1 = some b_1 ∧ okA E b_1 13 ∧ vp_in v4 (eN E b_1) ∧ ((¬ (gA d b_1 (v4).toNatClampNeg) = 4 → k4 (v2 + (-(s0 * s1))) (v3 + 1) d) ∧ ((gA d b_1 (v4).toNatClampNeg) = 4 → k4 (v2 + (s0 * s1)) (v3 + 1) d))
def b_X11_summed_4 (E : En) (a0 : Nat) (p1 : Int32) (K : Int32 → Dy → Prop) (k4 : Int32 → Int32 → Dy → Prop) (v2 : Int32) (v3 : Int32) (d : Dy) : Prop := ∃ b_6 : Nat, eR E a0 1 = some b_6 ∧ okA E b_6 13 ∧ w_X11_textAt E p1 d (fun r_10 d_9 => vp_in r_10 (eN E b_6) ∧ (((gA d_9 b_6 (r_10).toNatClampNeg) ≤ v3 → K v2 d_9) ∧ (¬ (gA d_9 b_6 (r_10).toNatClampNeg) ≤ v3 → w_X11_holdsLine E a0 p1 v3 d_9 (fun r_14 d_13 => ((¬ r_14 = 0 → w_X11_lineAt E p1 v3 d_13 (fun r_17 d_16 => ∃ b_18 : Nat, eR E a0 1 = some b_18 ∧ okA E b_18 13 ∧ vp_in (r_17 + 1) (eN E b_18) ∧ ∃ b_22 : Nat, eR E a0 1 = some b_22 ∧ okA E b_22 13 ∧ vp_in (r_17 + 2) (eN E b_22) ∧ ((0 ≤ (gA d_16 b_22 (r_17 + 2).toNatClampNeg) → ∃ b_27 : Nat, eR E a0 14 = some b_27 ∧ okA E b_27 13 ∧ ∃ b_30 : Nat, eR E a0 1 = some b_30 ∧ okA E b_30 13 ∧ vp_in (r_17 + 2) (eN E b_30) ∧ vp_in (gA d_16 b_30 (r_17 + 2).toNatClampNeg) (eN E b_27) ∧ b_X11_summed_75 E a0 p1 K k4 v2 v3 r_17 (gA d_16 b_18 (r_17 + 1).toNatClampNeg) (gA d_16 b_27 (gA d_16 b_30 (r_17 + 2).toNatClampNeg).toNatClampNeg) d_16) ∧ (¬ 0 ≤ (gA d_16 b_22 (r_17 + 2).toNatClampNeg) → b_X11_summed_75 E a0 p1 K k4 v2 v3 r_17 (gA d_16 b_18 (r_17 + 1).toNatClampNeg) 1 d_16)))) ∧ (r_14 = 0 → k4 v2 (v3 + 1) d_13))))))
def l_X11_summed_4 (E : En) (a0 : Nat) (p1 : Int32) (K : Int32 → Dy → Prop) : Nat → Int32 → Int32 → Dy → Prop
  | 0 => fun _ _ _ => False
  | n + 1 => b_X11_summed_4 E a0 p1 K (l_X11_summed_4 E a0 p1 K n)
def w_X11_summed (E : En) (a0 : Nat) (p1 : Int32) (d : Dy) (K : Int32 → Dy → Prop) : Prop := okO E a0 11 ∧ (∃ n_35 : Nat, l_X11_summed_4 E a0 p1 K n_35 0 0 d)
abbrev rm_X11_summed : Room := { frames := 3, cells := 0, slots := 0, locals := 70 }
set_option maxRecDepth 100000 in
set_option maxHeartbeats 4000000 in
theorem m_X11_summed (l : Launch) (D : va_G) (cs : Nat → ClassId) (E : En) (d : Dy) (sz : Nat) (a0 : Nat) (p1 : Int32) (K : Int32 → Dy → Prop) : CI l yX11_summed (.code yX11_summed cX11_summed 6 (some .int) :: wsL_law) rm_X11_summed D cs E d sz [.ref a0, .int p1] (w_X11_summed E a0 p1 d K) K := by
  refine e_of (cc := cX11_summed) (maxL := 6) (ret := (some .int)) (own := RX11) (by decide) rfl rfl (Nat.le_of_ble_eq_true rfl) ?_
  intro p e s m below meth c S hr hlocks hsz H locs hw h ls hl
  have hl : lv_has ls 6 [(0, .ref a0), (1, .int p1)] := hl
  unfold w_X11_summed at h
  obtain ⟨ha0, h⟩ := h
  have tl4 : ∀ (n : Nat) (v2 : Int32) (v3 : Int32) (d : Dy) (H : Heap) (locs : List Loc) (ls : Array Slot), l_X11_summed_4 E a0 p1 K n v2 v3 d → Wd D cs (AW E sz) s.heap s E d H locs → lv_has ls 6 [(0, .ref a0), (1, .int p1), (2, .int v2), (3, .int v3)] → W p l e rm_X11_summed s m ([.ref a0, .int p1] : List Value).toArray below meth c H locs 0 0 (MQ below (va_Qi K (OutW D cs E (AW E sz)) (AW E sz)) ([.ref a0, .int p1] : List Value).toArray s rm_X11_summed.cells rm_X11_summed.slots (AW E sz)) (F0 m 4 ls []) := by
    intro n4
    induction n4 with
    | zero => intro v2 v3 d H locs ls h; exact absurd h id
    | succ n4 ih4 =>
      have tb75 : ∀ (v2 : Int32) (v3 : Int32) (v4 : Int32) (s0 : Int32) (s1 : Int32) (d : Dy) (H : Heap) (locs : List Loc) (ls : Array Slot), b_X11_summed_75 E a0 p1 K (l_X11_summed_4 E a0 p1 K n4) v2 v3 v4 s0 s1 d → Wd D cs (AW E sz) s.heap s E d H locs → lv_has ls 6 [(0, .ref a0), (1, .int p1), (2, .int v2), (3, .int v3), (4, .int v4)] → W p l e rm_X11_summed s m ([.ref a0, .int p1] : List Value).toArray below meth c H locs 0 0 (MQ below (va_Qi K (OutW D cs E (AW E sz)) (AW E sz)) ([.ref a0, .int p1] : List Value).toArray s rm_X11_summed.cells rm_X11_summed.slots (AW E sz)) (F0 m 75 ls [.int s1, .int s0]) := by
        intro v2 v3 v4 s0 s1 d H locs ls h hw hl
        unfold b_X11_summed_75 at h
        refine lv_imul S.1 S.2.1 (dd_at ddX11_summed 45 rfl) ?_
        refine lv_istore (lv' := [(5, .int (s0 * s1)), (0, .ref a0), (1, .int p1), (2, .int v2), (3, .int v3), (4, .int v4)]) S.1 S.2.1 (dd_at ddX11_summed 46 rfl) hl (by decide) rfl (fun ls hl => ?_)
        refine lv_iload_n S.1 S.2.1 (dd_at ddX11_summed 47 rfl) rfl (lv_at hl 3 rfl) ?_
        refine lv_aload_n S.1 S.2.1 (dd_at ddX11_summed 48 rfl) rfl (lv_at hl 1 rfl) ?_
        obtain ⟨b_1, hb_2, ho_3, h⟩ := h
        refine r_getR S hw 11 1 rfl inG11 (by decide) (List.mem_cons_of_mem _ wg150) (by decide) ha0 hb_2 (dd_at ddX11_summed 49 rfl) ?_
        refine lv_iload S.1 S.2.1 (dd_at ddX11_summed 50 rfl) (lv_at hl 5 rfl) ?_
        obtain ⟨hx_4, h⟩ := h
        refine r_iald S hw ho_3 hx_4 (dd_at ddX11_summed 51 rfl) ?_
        refine lv_iconst (v := 4) S.1 S.2.1 (dd_at ddX11_summed 52 rfl) (by decide) ?_
        refine lv_icmp_ne (tgt := 95) S.1 S.2.1 (dd_at ddX11_summed 53 rfl) (by decide) (fun hc_5 => ?_) (fun hc_5 => ?_)
        · have h := h.1 hc_5
          refine lv_iload S.1 S.2.1 (dd_at ddX11_summed 56 rfl) (lv_at hl 0 rfl) ?_
          refine lv_ineg S.1 S.2.1 (dd_at ddX11_summed 57 rfl) ?_
          refine lv_iadd S.1 S.2.1 (dd_at ddX11_summed 58 rfl) ?_
          refine lv_istore_n (lv' := [(2, .int (v2 + (-(s0 * s1)))), (5, .int (s0 * s1)), (0, .ref a0), (1, .int p1), (3, .int v3), (4, .int v4)]) S.1 S.2.1 (dd_at ddX11_summed 59 rfl) rfl hl (by decide) rfl (fun ls hl => ?_)
          refine lv_iinc (v := v3 + 1) (lv' := [(3, .int (v3 + 1)), (2, .int (v2 + (-(s0 * s1)))), (5, .int (s0 * s1)), (0, .ref a0), (1, .int p1), (4, .int v4)]) S.1 S.2.1 (dd_at ddX11_summed 60 rfl) hl (k := 4) rfl rfl (by decide) rfl (fun ls hl => ?_)
          refine lv_goto (tgt := 4) S.1 S.2.1 (dd_at ddX11_summed 61 rfl) (by decide) ?_
          exact ih4 (v2 + (-(s0 * s1))) (v3 + 1) d H locs ls h hw (lv_sub hl [3, 4, 1, 0] rfl)
        · have h := h.2 hc_5
          refine lv_iload S.1 S.2.1 (dd_at ddX11_summed 54 rfl) (lv_at hl 0 rfl) ?_
          refine lv_goto (tgt := 98) S.1 S.2.1 (dd_at ddX11_summed 55 rfl) (by decide) ?_
          refine lv_iadd S.1 S.2.1 (dd_at ddX11_summed 58 rfl) ?_
          refine lv_istore_n (lv' := [(2, .int (v2 + (s0 * s1))), (5, .int (s0 * s1)), (0, .ref a0), (1, .int p1), (3, .int v3), (4, .int v4)]) S.1 S.2.1 (dd_at ddX11_summed 59 rfl) rfl hl (by decide) rfl (fun ls hl => ?_)
          refine lv_iinc (v := v3 + 1) (lv' := [(3, .int (v3 + 1)), (2, .int (v2 + (s0 * s1))), (5, .int (s0 * s1)), (0, .ref a0), (1, .int p1), (4, .int v4)]) S.1 S.2.1 (dd_at ddX11_summed 60 rfl) hl (k := 4) rfl rfl (by decide) rfl (fun ls hl => ?_)
          refine lv_goto (tgt := 4) S.1 S.2.1 (dd_at ddX11_summed 61 rfl) (by decide) ?_
          exact ih4 (v2 + (s0 * s1)) (v3 + 1) d H locs ls h hw (lv_sub hl [3, 4, 1, 0] rfl)
      intro v2 v3 d H locs ls h hw hl
      have h : b_X11_summed_4 E a0 p1 K (l_X11_summed_4 E a0 p1 K n4) v2 v3 d := h
      unfold b_X11_summed_4 at h
      refine lv_iload_n S.1 S.2.1 (dd_at ddX11_summed 4 rfl) rfl (lv_at hl 3 rfl) ?_
      refine lv_aload_n S.1 S.2.1 (dd_at ddX11_summed 5 rfl) rfl (lv_at hl 0 rfl) ?_
      obtain ⟨b_6, hb_7, ho_8, h⟩ := h
      refine r_getR S hw 11 1 rfl inG11 (by decide) (List.mem_cons_of_mem _ wg150) (by decide) ha0 hb_7 (dd_at ddX11_summed 6 rfl) ?_
      refine lv_iload_n S.1 S.2.1 (dd_at ddX11_summed 7 rfl) rfl (lv_at hl 1 rfl) ?_
      refine r_callI hw (r_runS (As := [.int p1]) (rest := [.ref b_6, .int v3]) S hw (m_X11_textAt l D cs E d H.size p1 _) (va_cwS 1 S.2.2.2.2 (gS wg449 wg450 wg5 wg451) rfl rfl rfl (by decide +kernel) ⟨Nat.le_of_ble_eq_true rfl, Nat.le_of_ble_eq_true rfl⟩) h rfl hl.1 rfl (Nat.le_of_ble_eq_true rfl) (dd_at ddX11_summed 8 rfl) ⟨Nat.le_of_ble_eq_true rfl, Nat.le_of_ble_eq_true rfl⟩) (fun r_10 d_9 H locs h hw => ?_)
      obtain ⟨hx_11, h⟩ := h
      refine r_iald S hw ho_8 hx_11 (dd_at ddX11_summed 9 rfl) ?_
      refine lv_icmp_ge (tgt := 106) S.1 S.2.1 (dd_at ddX11_summed 10 rfl) (by decide) (fun hc_12 => ?_) (fun hc_12 => ?_)
      · have h := h.1 hc_12
        refine lv_iload_n S.1 S.2.1 (dd_at ddX11_summed 62 rfl) rfl (lv_at hl 2 rfl) ?_
        exact e_I S hr hlocks hw h (dd_at ddX11_summed 63 rfl)
      · have h := h.2 hc_12
        refine lv_aload_n S.1 S.2.1 (dd_at ddX11_summed 11 rfl) rfl (lv_at hl 0 rfl) ?_
        refine lv_iload_n S.1 S.2.1 (dd_at ddX11_summed 12 rfl) rfl (lv_at hl 1 rfl) ?_
        refine lv_iload_n S.1 S.2.1 (dd_at ddX11_summed 13 rfl) rfl (lv_at hl 3 rfl) ?_
        refine r_callI hw (r_runV (As := [.int p1, .int v3]) (rest := []) S hw (m_X11_holdsLine l D cs E d_9 H.size a0 p1 v3 _) (cwV 2 S.2.2.2.2 (gV wg860 wg861 wg862 wg5 wg863) rfl rfl rfl (by decide +kernel) ⟨Nat.le_of_ble_eq_true rfl, Nat.le_of_ble_eq_true rfl⟩) (ci := 11) rfl ha0 h rfl hl.1 rfl (Nat.le_of_ble_eq_true rfl) (dd_at ddX11_summed 14 rfl) ⟨Nat.le_of_ble_eq_true rfl, Nat.le_of_ble_eq_true rfl⟩) (fun r_14 d_13 H locs h hw => ?_)
        refine lv_if_ne (tgt := 29) S.1 S.2.1 (dd_at ddX11_summed 15 rfl) (by decide) (fun hc_15 => ?_) (fun hc_15 => ?_)
        · have h := h.1 hc_15
          refine lv_iload_n S.1 S.2.1 (dd_at ddX11_summed 17 rfl) rfl (lv_at hl 1 rfl) ?_
          refine lv_iload_n S.1 S.2.1 (dd_at ddX11_summed 18 rfl) rfl (lv_at hl 3 rfl) ?_
          refine r_callI hw (r_runS (As := [.int p1, .int v3]) (rest := []) S hw (m_X11_lineAt l D cs E d_13 H.size p1 v3 _) (va_cwS 2 S.2.2.2.2 (gS wg446 wg447 wg5 wg448) rfl rfl rfl (by decide +kernel) ⟨Nat.le_of_ble_eq_true rfl, Nat.le_of_ble_eq_true rfl⟩) h rfl hl.1 rfl (Nat.le_of_ble_eq_true rfl) (dd_at ddX11_summed 19 rfl) ⟨Nat.le_of_ble_eq_true rfl, Nat.le_of_ble_eq_true rfl⟩) (fun r_17 d_16 H locs h hw => ?_)
          refine lv_istore (lv' := [(4, .int r_17), (0, .ref a0), (1, .int p1), (2, .int v2), (3, .int v3)]) S.1 S.2.1 (dd_at ddX11_summed 20 rfl) hl (by decide) rfl (fun ls hl => ?_)
          refine lv_aload_n S.1 S.2.1 (dd_at ddX11_summed 21 rfl) rfl (lv_at hl 1 rfl) ?_
          obtain ⟨b_18, hb_19, ho_20, h⟩ := h
          refine r_getR S hw 11 1 rfl inG11 (by decide) (List.mem_cons_of_mem _ wg150) (by decide) ha0 hb_19 (dd_at ddX11_summed 22 rfl) ?_
          refine lv_iload S.1 S.2.1 (dd_at ddX11_summed 23 rfl) (lv_at hl 0 rfl) ?_
          refine lv_iconst (v := 1) S.1 S.2.1 (dd_at ddX11_summed 24 rfl) (by decide) ?_
          refine lv_iadd S.1 S.2.1 (dd_at ddX11_summed 25 rfl) ?_
          obtain ⟨hx_21, h⟩ := h
          refine r_iald S hw ho_20 hx_21 (dd_at ddX11_summed 26 rfl) ?_
          refine lv_aload_n S.1 S.2.1 (dd_at ddX11_summed 27 rfl) rfl (lv_at hl 1 rfl) ?_
          obtain ⟨b_22, hb_23, ho_24, h⟩ := h
          refine r_getR S hw 11 1 rfl inG11 (by decide) (List.mem_cons_of_mem _ wg150) (by decide) ha0 hb_23 (dd_at ddX11_summed 28 rfl) ?_
          refine lv_iload S.1 S.2.1 (dd_at ddX11_summed 29 rfl) (lv_at hl 0 rfl) ?_
          refine lv_iconst (v := 2) S.1 S.2.1 (dd_at ddX11_summed 30 rfl) (by decide) ?_
          refine lv_iadd S.1 S.2.1 (dd_at ddX11_summed 31 rfl) ?_
          obtain ⟨hx_25, h⟩ := h
          refine r_iald S hw ho_24 hx_25 (dd_at ddX11_summed 32 rfl) ?_
          refine lv_if_ge (tgt := 61) S.1 S.2.1 (dd_at ddX11_summed 33 rfl) (by decide) (fun hc_26 => ?_) (fun hc_26 => ?_)
          · have h := h.1 hc_26
            refine lv_aload_n S.1 S.2.1 (dd_at ddX11_summed 36 rfl) rfl (lv_at hl 1 rfl) ?_
            obtain ⟨b_27, hb_28, ho_29, h⟩ := h
            refine r_getR S hw 11 14 rfl inG11 (by decide) (List.mem_cons_of_mem _ wg156) (by decide) ha0 hb_28 (dd_at ddX11_summed 37 rfl) ?_
            refine lv_aload_n S.1 S.2.1 (dd_at ddX11_summed 38 rfl) rfl (lv_at hl 1 rfl) ?_
            obtain ⟨b_30, hb_31, ho_32, h⟩ := h
            refine r_getR S hw 11 1 rfl inG11 (by decide) (List.mem_cons_of_mem _ wg150) (by decide) ha0 hb_31 (dd_at ddX11_summed 39 rfl) ?_
            refine lv_iload S.1 S.2.1 (dd_at ddX11_summed 40 rfl) (lv_at hl 0 rfl) ?_
            refine lv_iconst (v := 2) S.1 S.2.1 (dd_at ddX11_summed 41 rfl) (by decide) ?_
            refine lv_iadd S.1 S.2.1 (dd_at ddX11_summed 42 rfl) ?_
            obtain ⟨hx_33, h⟩ := h
            refine r_iald S hw ho_32 hx_33 (dd_at ddX11_summed 43 rfl) ?_
            obtain ⟨hx_34, h⟩ := h
            refine r_iald S hw ho_29 hx_34 (dd_at ddX11_summed 44 rfl) ?_
            exact tb75 v2 v3 r_17 (gA d_16 b_18 (r_17 + 1).toNatClampNeg) (gA d_16 b_27 (gA d_16 b_30 (r_17 + 2).toNatClampNeg).toNatClampNeg) d_16 H locs ls h hw (lv_sub hl [1, 2, 3, 4, 0] rfl)
          · have h := h.2 hc_26
            refine lv_iconst (v := 1) S.1 S.2.1 (dd_at ddX11_summed 34 rfl) (by decide) ?_
            refine lv_goto (tgt := 75) S.1 S.2.1 (dd_at ddX11_summed 35 rfl) (by decide) ?_
            exact tb75 v2 v3 r_17 (gA d_16 b_18 (r_17 + 1).toNatClampNeg) 1 d_16 H locs ls h hw (lv_sub hl [1, 2, 3, 4, 0] rfl)
        · have h := h.2 hc_15
          refine lv_goto (tgt := 100) S.1 S.2.1 (dd_at ddX11_summed 16 rfl) (by decide) ?_
          refine lv_iinc (v := v3 + 1) (lv' := [(3, .int (v3 + 1)), (0, .ref a0), (1, .int p1), (2, .int v2)]) S.1 S.2.1 (dd_at ddX11_summed 60 rfl) hl (k := 3) rfl rfl (by decide) rfl (fun ls hl => ?_)
          refine lv_goto (tgt := 4) S.1 S.2.1 (dd_at ddX11_summed 61 rfl) (by decide) ?_
          exact ih4 v2 (v3 + 1) d_13 H locs ls h hw (lv_sub hl [1, 2, 3, 0] rfl)
  refine lv_iconst (v := 0) S.1 S.2.1 (dd_at ddX11_summed 0 rfl) (by decide) ?_
  refine lv_istore_n (lv' := [(2, .int 0), (0, .ref a0), (1, .int p1)]) S.1 S.2.1 (dd_at ddX11_summed 1 rfl) rfl hl (by decide) rfl (fun ls hl => ?_)
  refine lv_iconst (v := 0) S.1 S.2.1 (dd_at ddX11_summed 2 rfl) (by decide) ?_
  refine lv_istore_n (lv' := [(3, .int 0), (2, .int 0), (0, .ref a0), (1, .int p1)]) S.1 S.2.1 (dd_at ddX11_summed 3 rfl) rfl hl (by decide) rfl (fun ls hl => ?_)
  obtain ⟨n_35, h⟩ := h
  exact tl4 n_35 0 0 d H locs ls h hw (lv_sub hl [2, 3, 1, 0] rfl)

def b_X11_sorts_17 (E : En) (a0 : Nat) (p1 : Int32) (p2 : Int32) (K : Dy → Prop) (k9 : Int32 → Dy → Prop) (k17 : Int32 → Int32 → Dy → Prop) (v3 : Int32) (v4 : Int32) (d : Dy) : Prop := ∃ b_1 : Nat, eR E a0 1 = some b_1 ∧ okA E b_1 13 ∧ vp_in 2 (eN E b_1) ∧ (((gA d b_1 ((2 : Int32)).toNatClampNeg) ≤ v4 → k9 (v3 + 1) d) ∧ (¬ (gA d b_1 ((2 : Int32)).toNatClampNeg) ≤ v4 → w_X11_ofEvent E a0 v4 0 d (fun r_7 d_6 => ((¬ r_7 = v3 → k17 v3 (v4 + 1) d_6) ∧ (r_7 = v3 → w_X11_ofEvent E a0 v4 5 d_6 (fun r_10 d_9 => ((r_10 ≤ p2 → ∃ b_12 : Nat, eR E a0 16 = some b_12 ∧ okA E b_12 13 ∧ vp_in (gI d_9 a0 17) (eN E b_12) ∧ k17 v3 (v4 + 1) (pI (pA d_9 b_12 (gI d_9 a0 17).toNatClampNeg v4) a0 17 ((gI (pA d_9 b_12 (gI d_9 a0 17).toNatClampNeg v4) a0 17) + 1))) ∧ (¬ r_10 ≤ p2 → k17 v3 (v4 + 1) d_9))))))))
def l_X11_sorts_17 (E : En) (a0 : Nat) (p1 : Int32) (p2 : Int32) (K : Dy → Prop) (k9 : Int32 → Dy → Prop) : Nat → Int32 → Int32 → Dy → Prop
  | 0 => fun _ _ _ => False
  | n + 1 => b_X11_sorts_17 E a0 p1 p2 K k9 (l_X11_sorts_17 E a0 p1 p2 K k9 n)
def b_X11_sorts_9 (E : En) (a0 : Nat) (p1 : Int32) (p2 : Int32) (K : Dy → Prop) (k9 : Int32 → Dy → Prop) (v3 : Int32) (d : Dy) : Prop := ((p1 < v3 → K d) ∧ (¬ p1 < v3 → (∃ n_17 : Nat, l_X11_sorts_17 E a0 p1 p2 K k9 n_17 v3 0 d)))
def l_X11_sorts_9 (E : En) (a0 : Nat) (p1 : Int32) (p2 : Int32) (K : Dy → Prop) : Nat → Int32 → Dy → Prop
  | 0 => fun _ _ => False
  | n + 1 => b_X11_sorts_9 E a0 p1 p2 K (l_X11_sorts_9 E a0 p1 p2 K n)
def w_X11_sorts (E : En) (a0 : Nat) (p1 : Int32) (p2 : Int32) (d : Dy) (K : Dy → Prop) : Prop := okO E a0 11 ∧ (∃ n_18 : Nat, l_X11_sorts_9 E a0 p1 p2 K n_18 1900 (pI d a0 17 0))
abbrev rm_X11_sorts : Room := { frames := 1, cells := 0, slots := 0, locals := 22 }
set_option maxRecDepth 100000 in
set_option maxHeartbeats 4000000 in
theorem m_X11_sorts (l : Launch) (D : va_G) (cs : Nat → ClassId) (E : En) (d : Dy) (sz : Nat) (a0 : Nat) (p1 : Int32) (p2 : Int32) (K : Dy → Prop) : CV l yX11_sorts (.code yX11_sorts cX11_sorts 5 none :: wsL_law) rm_X11_sorts D cs E d sz [.ref a0, .int p1, .int p2] (w_X11_sorts E a0 p1 p2 d K) K := by
  refine e_of (cc := cX11_sorts) (maxL := 5) (ret := none) (own := RX11) (by decide) rfl rfl (Nat.le_of_ble_eq_true rfl) ?_
  intro p e s m below meth c S hr hlocks hsz H locs hw h ls hl
  have hl : lv_has ls 5 [(0, .ref a0), (1, .int p1), (2, .int p2)] := hl
  unfold w_X11_sorts at h
  obtain ⟨ha0, h⟩ := h
  have tl9 : ∀ (n : Nat) (v3 : Int32) (d : Dy) (H : Heap) (locs : List Loc) (ls : Array Slot), l_X11_sorts_9 E a0 p1 p2 K n v3 d → Wd D cs (AW E sz) s.heap s E d H locs → lv_has ls 5 [(0, .ref a0), (1, .int p1), (2, .int p2), (3, .int v3)] → W p l e rm_X11_sorts s m ([.ref a0, .int p1, .int p2] : List Value).toArray below meth c H locs 0 0 (MQ below (va_Qv K (OutW D cs E (AW E sz)) (AW E sz)) ([.ref a0, .int p1, .int p2] : List Value).toArray s rm_X11_sorts.cells rm_X11_sorts.slots (AW E sz)) (F0 m 9 ls []) := by
    intro n9
    induction n9 with
    | zero => intro v3 d H locs ls h; exact absurd h id
    | succ n9 ih9 =>
      have tl17 : ∀ (n : Nat) (v3 : Int32) (v4 : Int32) (d : Dy) (H : Heap) (locs : List Loc) (ls : Array Slot), l_X11_sorts_17 E a0 p1 p2 K (l_X11_sorts_9 E a0 p1 p2 K n9) n v3 v4 d → Wd D cs (AW E sz) s.heap s E d H locs → lv_has ls 5 [(0, .ref a0), (1, .int p1), (2, .int p2), (3, .int v3), (4, .int v4)] → W p l e rm_X11_sorts s m ([.ref a0, .int p1, .int p2] : List Value).toArray below meth c H locs 0 0 (MQ below (va_Qv K (OutW D cs E (AW E sz)) (AW E sz)) ([.ref a0, .int p1, .int p2] : List Value).toArray s rm_X11_sorts.cells rm_X11_sorts.slots (AW E sz)) (F0 m 17 ls []) := by
        intro n17
        induction n17 with
        | zero => intro v3 v4 d H locs ls h; exact absurd h id
        | succ n17 ih17 =>
          intro v3 v4 d H locs ls h hw hl
          have h : b_X11_sorts_17 E a0 p1 p2 K (l_X11_sorts_9 E a0 p1 p2 K n9) (l_X11_sorts_17 E a0 p1 p2 K (l_X11_sorts_9 E a0 p1 p2 K n9) n17) v3 v4 d := h
          unfold b_X11_sorts_17 at h
          refine lv_iload S.1 S.2.1 (dd_at ddX11_sorts 10 rfl) (lv_at hl 4 rfl) ?_
          refine lv_aload_n S.1 S.2.1 (dd_at ddX11_sorts 11 rfl) rfl (lv_at hl 0 rfl) ?_
          obtain ⟨b_1, hb_2, ho_3, h⟩ := h
          refine r_getR S hw 11 1 rfl inG11 (by decide) (List.mem_cons_of_mem _ wg150) (by decide) ha0 hb_2 (dd_at ddX11_sorts 12 rfl) ?_
          refine lv_iconst (v := 2) S.1 S.2.1 (dd_at ddX11_sorts 13 rfl) (by decide) ?_
          obtain ⟨hx_4, h⟩ := h
          refine r_iald S hw ho_3 hx_4 (dd_at ddX11_sorts 14 rfl) ?_
          refine lv_icmp_ge (tgt := 80) S.1 S.2.1 (dd_at ddX11_sorts 15 rfl) (by decide) (fun hc_5 => ?_) (fun hc_5 => ?_)
          · have h := h.1 hc_5
            refine lv_iinc (v := v3 + 1) (lv' := [(3, .int (v3 + 1)), (0, .ref a0), (1, .int p1), (2, .int p2), (4, .int v4)]) S.1 S.2.1 (dd_at ddX11_sorts 43 rfl) hl (k := 3) rfl rfl (by decide) rfl (fun ls hl => ?_)
            refine lv_goto (tgt := 9) S.1 S.2.1 (dd_at ddX11_sorts 44 rfl) (by decide) ?_
            exact ih9 (v3 + 1) d H locs ls h hw (lv_sub hl [1, 2, 3, 0] rfl)
          · have h := h.2 hc_5
            refine lv_aload_n S.1 S.2.1 (dd_at ddX11_sorts 16 rfl) rfl (lv_at hl 0 rfl) ?_
            refine lv_iload S.1 S.2.1 (dd_at ddX11_sorts 17 rfl) (lv_at hl 4 rfl) ?_
            refine lv_iconst (v := 0) S.1 S.2.1 (dd_at ddX11_sorts 18 rfl) (by decide) ?_
            refine r_callI hw (r_runV (As := [.int v4, .int 0]) (rest := []) S hw (m_X11_ofEvent l D cs E d H.size a0 v4 0 _) (cwV 2 S.2.2.2.2 (gV wg823 wg824 wg825 wg5 wg826) rfl rfl rfl (by decide +kernel) ⟨Nat.le_of_ble_eq_true rfl, Nat.le_of_ble_eq_true rfl⟩) (ci := 11) rfl ha0 h rfl hl.1 rfl (Nat.le_of_ble_eq_true rfl) (dd_at ddX11_sorts 19 rfl) ⟨Nat.le_of_ble_eq_true rfl, Nat.le_of_ble_eq_true rfl⟩) (fun r_7 d_6 H locs h hw => ?_)
            refine lv_iload_n S.1 S.2.1 (dd_at ddX11_sorts 20 rfl) rfl (lv_at hl 3 rfl) ?_
            refine lv_icmp_ne (tgt := 74) S.1 S.2.1 (dd_at ddX11_sorts 21 rfl) (by decide) (fun hc_8 => ?_) (fun hc_8 => ?_)
            · have h := h.1 hc_8
              refine lv_iinc (v := v4 + 1) (lv' := [(4, .int (v4 + 1)), (0, .ref a0), (1, .int p1), (2, .int p2), (3, .int v3)]) S.1 S.2.1 (dd_at ddX11_sorts 41 rfl) hl (k := 4) rfl rfl (by decide) rfl (fun ls hl => ?_)
              refine lv_goto (tgt := 17) S.1 S.2.1 (dd_at ddX11_sorts 42 rfl) (by decide) ?_
              exact ih17 v3 (v4 + 1) d_6 H locs ls h hw (lv_sub hl [1, 2, 3, 4, 0] rfl)
            · have h := h.2 hc_8
              refine lv_aload_n S.1 S.2.1 (dd_at ddX11_sorts 22 rfl) rfl (lv_at hl 0 rfl) ?_
              refine lv_iload S.1 S.2.1 (dd_at ddX11_sorts 23 rfl) (lv_at hl 4 rfl) ?_
              refine lv_iconst (v := 5) S.1 S.2.1 (dd_at ddX11_sorts 24 rfl) (by decide) ?_
              refine r_callI hw (r_runV (As := [.int v4, .int 5]) (rest := []) S hw (m_X11_ofEvent l D cs E d_6 H.size a0 v4 5 _) (cwV 2 S.2.2.2.2 (gV wg823 wg824 wg825 wg5 wg826) rfl rfl rfl (by decide +kernel) ⟨Nat.le_of_ble_eq_true rfl, Nat.le_of_ble_eq_true rfl⟩) (ci := 11) rfl ha0 h rfl hl.1 rfl (Nat.le_of_ble_eq_true rfl) (dd_at ddX11_sorts 25 rfl) ⟨Nat.le_of_ble_eq_true rfl, Nat.le_of_ble_eq_true rfl⟩) (fun r_10 d_9 H locs h hw => ?_)
              refine lv_iload_n S.1 S.2.1 (dd_at ddX11_sorts 26 rfl) rfl (lv_at hl 2 rfl) ?_
              refine lv_icmp_le (tgt := 53) S.1 S.2.1 (dd_at ddX11_sorts 27 rfl) (by decide) (fun hc_11 => ?_) (fun hc_11 => ?_)
              · have h := h.1 hc_11
                refine lv_aload_n S.1 S.2.1 (dd_at ddX11_sorts 29 rfl) rfl (lv_at hl 0 rfl) ?_
                obtain ⟨b_12, hb_13, ho_14, h⟩ := h
                refine r_getR S hw 11 16 rfl inG11 (by decide) (List.mem_cons_of_mem _ wg158) (by decide) ha0 hb_13 (dd_at ddX11_sorts 30 rfl) ?_
                refine lv_aload_n S.1 S.2.1 (dd_at ddX11_sorts 31 rfl) rfl (lv_at hl 0 rfl) ?_
                refine r_getI S hw 11 17 rfl inG11 (by decide) (List.mem_cons_of_mem _ wg818) (by decide) ha0 (dd_at ddX11_sorts 32 rfl) ?_
                refine lv_iload S.1 S.2.1 (dd_at ddX11_sorts 33 rfl) (lv_at hl 4 rfl) ?_
                obtain ⟨hx_15, h⟩ := h
                refine r_iast S hw ho_14 hx_15 (dd_at ddX11_sorts 34 rfl) (fun H locs hw => ?_)
                refine lv_aload_n S.1 S.2.1 (dd_at ddX11_sorts 35 rfl) rfl (lv_at hl 0 rfl) ?_
                refine lv_dup S.1 S.2.1 (dd_at ddX11_sorts 36 rfl) rfl ?_
                refine r_getI S hw 11 17 rfl inG11 (by decide) (List.mem_cons_of_mem _ wg818) (by decide) ha0 (dd_at ddX11_sorts 37 rfl) ?_
                refine lv_iconst (v := 1) S.1 S.2.1 (dd_at ddX11_sorts 38 rfl) (by decide) ?_
                refine lv_iadd S.1 S.2.1 (dd_at ddX11_sorts 39 rfl) ?_
                refine r_putI S hw 11 17 (ty := .int) (v := (gI (pA d_9 b_12 (gI d_9 a0 17).toNatClampNeg v4) a0 17) + 1) rfl inG11 tyX11 tyX11_ok nmX11 (by decide) (List.mem_cons_of_mem _ wg818) (by decide) rfl (by decide +kernel) rfl rfl ha0 (dd_at ddX11_sorts 40 rfl) (fun H locs hw => ?_)
                refine lv_iinc (v := v4 + 1) (lv' := [(4, .int (v4 + 1)), (0, .ref a0), (1, .int p1), (2, .int p2), (3, .int v3)]) S.1 S.2.1 (dd_at ddX11_sorts 41 rfl) hl (k := 4) rfl rfl (by decide) rfl (fun ls hl => ?_)
                refine lv_goto (tgt := 17) S.1 S.2.1 (dd_at ddX11_sorts 42 rfl) (by decide) ?_
                exact ih17 v3 (v4 + 1) (pI (pA d_9 b_12 (gI d_9 a0 17).toNatClampNeg v4) a0 17 ((gI (pA d_9 b_12 (gI d_9 a0 17).toNatClampNeg v4) a0 17) + 1)) H locs ls h hw (lv_sub hl [1, 2, 3, 4, 0] rfl)
              · have h := h.2 hc_11
                refine lv_goto (tgt := 74) S.1 S.2.1 (dd_at ddX11_sorts 28 rfl) (by decide) ?_
                refine lv_iinc (v := v4 + 1) (lv' := [(4, .int (v4 + 1)), (0, .ref a0), (1, .int p1), (2, .int p2), (3, .int v3)]) S.1 S.2.1 (dd_at ddX11_sorts 41 rfl) hl (k := 4) rfl rfl (by decide) rfl (fun ls hl => ?_)
                refine lv_goto (tgt := 17) S.1 S.2.1 (dd_at ddX11_sorts 42 rfl) (by decide) ?_
                exact ih17 v3 (v4 + 1) d_9 H locs ls h hw (lv_sub hl [1, 2, 3, 4, 0] rfl)
      intro v3 d H locs ls h hw hl
      have h : b_X11_sorts_9 E a0 p1 p2 K (l_X11_sorts_9 E a0 p1 p2 K n9) v3 d := h
      unfold b_X11_sorts_9 at h
      refine lv_iload_n S.1 S.2.1 (dd_at ddX11_sorts 5 rfl) rfl (lv_at hl 3 rfl) ?_
      refine lv_iload_n S.1 S.2.1 (dd_at ddX11_sorts 6 rfl) rfl (lv_at hl 1 rfl) ?_
      refine lv_icmp_gt (tgt := 86) S.1 S.2.1 (dd_at ddX11_sorts 7 rfl) (by decide) (fun hc_16 => ?_) (fun hc_16 => ?_)
      · have h := h.1 hc_16
        exact e_V S hr hlocks hw h (dd_at ddX11_sorts 45 rfl)
      · have h := h.2 hc_16
        refine lv_iconst (v := 0) S.1 S.2.1 (dd_at ddX11_sorts 8 rfl) (by decide) ?_
        refine lv_istore (lv' := [(4, .int 0), (0, .ref a0), (1, .int p1), (2, .int p2), (3, .int v3)]) S.1 S.2.1 (dd_at ddX11_sorts 9 rfl) hl (by decide) rfl (fun ls hl => ?_)
        obtain ⟨n_17, h⟩ := h
        exact tl17 n_17 v3 0 d H locs ls h hw (lv_sub hl [1, 2, 3, 4, 0] rfl)
  refine lv_aload_n S.1 S.2.1 (dd_at ddX11_sorts 0 rfl) rfl (lv_at hl 0 rfl) ?_
  refine lv_iconst (v := 0) S.1 S.2.1 (dd_at ddX11_sorts 1 rfl) (by decide) ?_
  refine r_putI S hw 11 17 (ty := .int) (v := 0) rfl inG11 tyX11 tyX11_ok nmX11 (by decide) (List.mem_cons_of_mem _ wg818) (by decide) rfl (by decide +kernel) rfl rfl ha0 (dd_at ddX11_sorts 2 rfl) (fun H locs hw => ?_)
  refine lv_sipush (v := 1900) S.1 S.2.1 (dd_at ddX11_sorts 3 rfl) (by decide) ?_
  refine lv_istore_n (lv' := [(3, .int 1900), (0, .ref a0), (1, .int p1), (2, .int p2)]) S.1 S.2.1 (dd_at ddX11_sorts 4 rfl) rfl hl (by decide) rfl (fun ls hl => ?_)
  obtain ⟨n_18, h⟩ := h
  exact tl9 n_18 1900 (pI d a0 17 0) H locs ls h hw (lv_sub hl [1, 2, 3, 0] rfl)

def w_X11_ageOf (E : En) (a0 : Nat) (p1 : Int32) (p2 : Int32) (d : Dy) (K : Int32 → Dy → Prop) : Prop := okO E a0 11 ∧ w_X11_ofPerson E a0 p1 0 d (fun r_2 d_1 => K (if 0 < (p2 - r_2) then (p2 - r_2) else 0) d_1)
abbrev rm_X11_ageOf : Room := { frames := 1, cells := 0, slots := 0, locals := 40 }
set_option maxRecDepth 100000 in
set_option maxHeartbeats 4000000 in
theorem m_X11_ageOf (l : Launch) (D : va_G) (cs : Nat → ClassId) (E : En) (d : Dy) (sz : Nat) (a0 : Nat) (p1 : Int32) (p2 : Int32) (K : Int32 → Dy → Prop) : CI l yX11_ageOf (.code yX11_ageOf cX11_ageOf 3 (some .int) :: wsL_law) rm_X11_ageOf D cs E d sz [.ref a0, .int p1, .int p2] (w_X11_ageOf E a0 p1 p2 d K) K := by
  refine e_of (cc := cX11_ageOf) (maxL := 3) (ret := (some .int)) (own := RX11) (by decide) rfl rfl (Nat.le_of_ble_eq_true rfl) ?_
  intro p e s m below meth c S hr hlocks hsz H locs hw h ls hl
  have hl : lv_has ls 3 [(0, .ref a0), (1, .int p1), (2, .int p2)] := hl
  unfold w_X11_ageOf at h
  obtain ⟨ha0, h⟩ := h
  refine lv_iconst (v := 0) S.1 S.2.1 (dd_at ddX11_ageOf 0 rfl) (by decide) ?_
  refine lv_iload_n S.1 S.2.1 (dd_at ddX11_ageOf 1 rfl) rfl (lv_at hl 2 rfl) ?_
  refine lv_aload_n S.1 S.2.1 (dd_at ddX11_ageOf 2 rfl) rfl (lv_at hl 0 rfl) ?_
  refine lv_iload_n S.1 S.2.1 (dd_at ddX11_ageOf 3 rfl) rfl (lv_at hl 1 rfl) ?_
  refine lv_iconst (v := 0) S.1 S.2.1 (dd_at ddX11_ageOf 4 rfl) (by decide) ?_
  refine r_callI hw (r_runV (As := [.int p1, .int 0]) (rest := [.int p2, .int 0]) S hw (m_X11_ofPerson l D cs E d H.size a0 p1 0 _) (cwV 2 S.2.2.2.2 (gV wg848 wg849 wg850 wg5 wg851) rfl rfl rfl (by decide +kernel) ⟨Nat.le_of_ble_eq_true rfl, Nat.le_of_ble_eq_true rfl⟩) (ci := 11) rfl ha0 h rfl hl.1 rfl (Nat.le_of_ble_eq_true rfl) (dd_at ddX11_ageOf 5 rfl) ⟨Nat.le_of_ble_eq_true rfl, Nat.le_of_ble_eq_true rfl⟩) (fun r_2 d_1 H locs h hw => ?_)
  refine lv_isub S.1 S.2.1 (dd_at ddX11_ageOf 6 rfl) ?_
  refine va_mmax S.1 S.2.1 (by rw [hl.1]; exact S.2.2.1) S.2.2.2.1 (S.2.2.2.2 _ (List.mem_cons_of_mem _ wg847)) (S.2.2.2.2 _ (List.mem_cons_of_mem _ wg69)) (S.2.2.2.2 _ (List.mem_cons_of_mem _ wg70)) (S.2.2.2.2 _ (List.mem_cons_of_mem _ wg71)) (Nat.le_of_ble_eq_true rfl) (Nat.le_of_ble_eq_true rfl) (Nat.le_of_ble_eq_true rfl) (Nat.le_of_ble_eq_true rfl) (dd_at ddX11_ageOf 7 rfl) ?_
  exact e_I S hr hlocks hw h (dd_at ddX11_ageOf 8 rfl)

def w_X11_isChild (E : En) (a0 : Nat) (p1 : Int32) (p2 : Int32) (d : Dy) (K : Int32 → Dy → Prop) : Prop := okO E a0 11 ∧ ∃ b_1 : Nat, eR E a0 20 = some b_1 ∧ okA E b_1 15 ∧ vp_in ((12 * p1) + p2) (eN E b_1) ∧ (((gA d b_1 ((12 * p1) + p2).toNatClampNeg) = 0 → K 0 d) ∧ (¬ (gA d b_1 ((12 * p1) + p2).toNatClampNeg) = 0 → ∃ b_6 : Nat, eR E a0 18 = some b_6 ∧ okA E b_6 15 ∧ vp_in p2 (eN E b_6) ∧ (((gA d b_6 (p2).toNatClampNeg) = 0 → K 0 d) ∧ (¬ (gA d b_6 (p2).toNatClampNeg) = 0 → K 1 d))))
abbrev rm_X11_isChild : Room := { frames := 0, cells := 0, slots := 0, locals := 0 }
set_option maxRecDepth 100000 in
set_option maxHeartbeats 4000000 in
theorem m_X11_isChild (l : Launch) (D : va_G) (cs : Nat → ClassId) (E : En) (d : Dy) (sz : Nat) (a0 : Nat) (p1 : Int32) (p2 : Int32) (K : Int32 → Dy → Prop) : CI l yX11_isChild (.code yX11_isChild cX11_isChild 3 (some .boolean) :: wsL_law) rm_X11_isChild D cs E d sz [.ref a0, .int p1, .int p2] (w_X11_isChild E a0 p1 p2 d K) K := by
  refine e_of (cc := cX11_isChild) (maxL := 3) (ret := (some .boolean)) (own := RX11) (by decide) rfl rfl (Nat.le_of_ble_eq_true rfl) ?_
  intro p e s m below meth c S hr hlocks hsz H locs hw h ls hl
  have hl : lv_has ls 3 [(0, .ref a0), (1, .int p1), (2, .int p2)] := hl
  unfold w_X11_isChild at h
  obtain ⟨ha0, h⟩ := h
  refine lv_aload_n S.1 S.2.1 (dd_at ddX11_isChild 0 rfl) rfl (lv_at hl 0 rfl) ?_
  obtain ⟨b_1, hb_2, ho_3, h⟩ := h
  refine r_getR S hw 11 20 rfl inG11 (by decide) (List.mem_cons_of_mem _ wg162) (by decide) ha0 hb_2 (dd_at ddX11_isChild 1 rfl) ?_
  refine lv_bipush (v := 12) S.1 S.2.1 (dd_at ddX11_isChild 2 rfl) (by decide) ?_
  refine lv_iload_n S.1 S.2.1 (dd_at ddX11_isChild 3 rfl) rfl (lv_at hl 1 rfl) ?_
  refine lv_imul S.1 S.2.1 (dd_at ddX11_isChild 4 rfl) ?_
  refine lv_iload_n S.1 S.2.1 (dd_at ddX11_isChild 5 rfl) rfl (lv_at hl 2 rfl) ?_
  refine lv_iadd S.1 S.2.1 (dd_at ddX11_isChild 6 rfl) ?_
  obtain ⟨hx_4, h⟩ := h
  refine r_zald S hw ho_3 hx_4 (dd_at ddX11_isChild 7 rfl) ?_
  refine lv_if_eq (tgt := 27) S.1 S.2.1 (dd_at ddX11_isChild 8 rfl) (by decide) (fun hc_5 => ?_) (fun hc_5 => ?_)
  · have h := h.1 hc_5
    refine lv_iconst (v := 0) S.1 S.2.1 (dd_at ddX11_isChild 16 rfl) (by decide) ?_
    exact e_Z S hr hlocks hw (Or.inl rfl) h (dd_at ddX11_isChild 17 rfl)
  · have h := h.2 hc_5
    refine lv_aload_n S.1 S.2.1 (dd_at ddX11_isChild 9 rfl) rfl (lv_at hl 0 rfl) ?_
    obtain ⟨b_6, hb_7, ho_8, h⟩ := h
    refine r_getR S hw 11 18 rfl inG11 (by decide) (List.mem_cons_of_mem _ wg160) (by decide) ha0 hb_7 (dd_at ddX11_isChild 10 rfl) ?_
    refine lv_iload_n S.1 S.2.1 (dd_at ddX11_isChild 11 rfl) rfl (lv_at hl 2 rfl) ?_
    obtain ⟨hx_9, h⟩ := h
    refine r_zald S hw ho_8 hx_9 (dd_at ddX11_isChild 12 rfl) ?_
    refine lv_if_eq (tgt := 27) S.1 S.2.1 (dd_at ddX11_isChild 13 rfl) (by decide) (fun hc_10 => ?_) (fun hc_10 => ?_)
    · have h := h.1 hc_10
      refine lv_iconst (v := 0) S.1 S.2.1 (dd_at ddX11_isChild 16 rfl) (by decide) ?_
      exact e_Z S hr hlocks hw (Or.inl rfl) h (dd_at ddX11_isChild 17 rfl)
    · have h := h.2 hc_10
      refine lv_iconst (v := 1) S.1 S.2.1 (dd_at ddX11_isChild 14 rfl) (by decide) ?_
      refine lv_goto (tgt := 28) S.1 S.2.1 (dd_at ddX11_isChild 15 rfl) (by decide) ?_
      exact e_Z S hr hlocks hw (Or.inr rfl) h (dd_at ddX11_isChild 17 rfl)

def b_X11_childrenOf_4 (E : En) (a0 : Nat) (p1 : Int32) (K : Int32 → Dy → Prop) (k4 : Int32 → Int32 → Dy → Prop) (v2 : Int32) (v3 : Int32) (d : Dy) : Prop := w_X11_persons E a0 d (fun r_2 d_1 => ((r_2 ≤ v3 → K v2 d_1) ∧ (¬ r_2 ≤ v3 → w_X11_isChild E a0 p1 v3 d_1 (fun r_5 d_4 => ((r_5 = 0 → k4 (v2 + 0) (v3 + 1) d_4) ∧ (¬ r_5 = 0 → k4 (v2 + 1) (v3 + 1) d_4))))))
def l_X11_childrenOf_4 (E : En) (a0 : Nat) (p1 : Int32) (K : Int32 → Dy → Prop) : Nat → Int32 → Int32 → Dy → Prop
  | 0 => fun _ _ _ => False
  | n + 1 => b_X11_childrenOf_4 E a0 p1 K (l_X11_childrenOf_4 E a0 p1 K n)
def w_X11_childrenOf (E : En) (a0 : Nat) (p1 : Int32) (d : Dy) (K : Int32 → Dy → Prop) : Prop := okO E a0 11 ∧ (∃ n_7 : Nat, l_X11_childrenOf_4 E a0 p1 K n_7 0 0 d)
abbrev rm_X11_childrenOf : Room := { frames := 1, cells := 0, slots := 0, locals := 22 }
set_option maxRecDepth 100000 in
set_option maxHeartbeats 4000000 in
theorem m_X11_childrenOf (l : Launch) (D : va_G) (cs : Nat → ClassId) (E : En) (d : Dy) (sz : Nat) (a0 : Nat) (p1 : Int32) (K : Int32 → Dy → Prop) : CI l yX11_childrenOf (.code yX11_childrenOf cX11_childrenOf 4 (some .int) :: wsL_law) rm_X11_childrenOf D cs E d sz [.ref a0, .int p1] (w_X11_childrenOf E a0 p1 d K) K := by
  refine e_of (cc := cX11_childrenOf) (maxL := 4) (ret := (some .int)) (own := RX11) (by decide) rfl rfl (Nat.le_of_ble_eq_true rfl) ?_
  intro p e s m below meth c S hr hlocks hsz H locs hw h ls hl
  have hl : lv_has ls 4 [(0, .ref a0), (1, .int p1)] := hl
  unfold w_X11_childrenOf at h
  obtain ⟨ha0, h⟩ := h
  have tl4 : ∀ (n : Nat) (v2 : Int32) (v3 : Int32) (d : Dy) (H : Heap) (locs : List Loc) (ls : Array Slot), l_X11_childrenOf_4 E a0 p1 K n v2 v3 d → Wd D cs (AW E sz) s.heap s E d H locs → lv_has ls 4 [(0, .ref a0), (1, .int p1), (2, .int v2), (3, .int v3)] → W p l e rm_X11_childrenOf s m ([.ref a0, .int p1] : List Value).toArray below meth c H locs 0 0 (MQ below (va_Qi K (OutW D cs E (AW E sz)) (AW E sz)) ([.ref a0, .int p1] : List Value).toArray s rm_X11_childrenOf.cells rm_X11_childrenOf.slots (AW E sz)) (F0 m 4 ls []) := by
    intro n4
    induction n4 with
    | zero => intro v2 v3 d H locs ls h; exact absurd h id
    | succ n4 ih4 =>
      intro v2 v3 d H locs ls h hw hl
      have h : b_X11_childrenOf_4 E a0 p1 K (l_X11_childrenOf_4 E a0 p1 K n4) v2 v3 d := h
      unfold b_X11_childrenOf_4 at h
      refine lv_iload_n S.1 S.2.1 (dd_at ddX11_childrenOf 4 rfl) rfl (lv_at hl 3 rfl) ?_
      refine lv_aload_n S.1 S.2.1 (dd_at ddX11_childrenOf 5 rfl) rfl (lv_at hl 0 rfl) ?_
      refine r_callI hw (r_runV (As := []) (rest := [.int v3]) S hw (m_X11_persons l D cs E d H.size a0 _) (cwV 0 S.2.2.2.2 (gV wg558 wg559 wg560 wg5 wg561) rfl rfl rfl (by decide +kernel) ⟨Nat.le_of_ble_eq_true rfl, Nat.le_of_ble_eq_true rfl⟩) (ci := 11) rfl ha0 h rfl hl.1 rfl (Nat.le_of_ble_eq_true rfl) (dd_at ddX11_childrenOf 6 rfl) ⟨Nat.le_of_ble_eq_true rfl, Nat.le_of_ble_eq_true rfl⟩) (fun r_2 d_1 H locs h hw => ?_)
      refine lv_icmp_ge (tgt := 35) S.1 S.2.1 (dd_at ddX11_childrenOf 7 rfl) (by decide) (fun hc_3 => ?_) (fun hc_3 => ?_)
      · have h := h.1 hc_3
        refine lv_iload_n S.1 S.2.1 (dd_at ddX11_childrenOf 21 rfl) rfl (lv_at hl 2 rfl) ?_
        exact e_I S hr hlocks hw h (dd_at ddX11_childrenOf 22 rfl)
      · have h := h.2 hc_3
        refine lv_iload_n S.1 S.2.1 (dd_at ddX11_childrenOf 8 rfl) rfl (lv_at hl 2 rfl) ?_
        refine lv_aload_n S.1 S.2.1 (dd_at ddX11_childrenOf 9 rfl) rfl (lv_at hl 0 rfl) ?_
        refine lv_iload_n S.1 S.2.1 (dd_at ddX11_childrenOf 10 rfl) rfl (lv_at hl 1 rfl) ?_
        refine lv_iload_n S.1 S.2.1 (dd_at ddX11_childrenOf 11 rfl) rfl (lv_at hl 3 rfl) ?_
        refine r_callI hw (r_runV (As := [.int p1, .int v3]) (rest := [.int v2]) S hw (m_X11_isChild l D cs E d_1 H.size a0 p1 v3 _) (cwV 2 S.2.2.2.2 (gV wg856 wg857 wg858 wg5 wg859) rfl rfl rfl (by decide +kernel) ⟨Nat.le_of_ble_eq_true rfl, Nat.le_of_ble_eq_true rfl⟩) (ci := 11) rfl ha0 h rfl hl.1 rfl (Nat.le_of_ble_eq_true rfl) (dd_at ddX11_childrenOf 12 rfl) ⟨Nat.le_of_ble_eq_true rfl, Nat.le_of_ble_eq_true rfl⟩) (fun r_5 d_4 H locs h hw => ?_)
        refine lv_if_eq (tgt := 26) S.1 S.2.1 (dd_at ddX11_childrenOf 13 rfl) (by decide) (fun hc_6 => ?_) (fun hc_6 => ?_)
        · have h := h.1 hc_6
          refine lv_iconst (v := 0) S.1 S.2.1 (dd_at ddX11_childrenOf 16 rfl) (by decide) ?_
          refine lv_iadd S.1 S.2.1 (dd_at ddX11_childrenOf 17 rfl) ?_
          refine lv_istore_n (lv' := [(2, .int (v2 + 0)), (0, .ref a0), (1, .int p1), (3, .int v3)]) S.1 S.2.1 (dd_at ddX11_childrenOf 18 rfl) rfl hl (by decide) rfl (fun ls hl => ?_)
          refine lv_iinc (v := v3 + 1) (lv' := [(3, .int (v3 + 1)), (2, .int (v2 + 0)), (0, .ref a0), (1, .int p1)]) S.1 S.2.1 (dd_at ddX11_childrenOf 19 rfl) hl (k := 3) rfl rfl (by decide) rfl (fun ls hl => ?_)
          refine lv_goto (tgt := 4) S.1 S.2.1 (dd_at ddX11_childrenOf 20 rfl) (by decide) ?_
          exact ih4 (v2 + 0) (v3 + 1) d_4 H locs ls h hw (lv_sub hl [2, 3, 1, 0] rfl)
        · have h := h.2 hc_6
          refine lv_iconst (v := 1) S.1 S.2.1 (dd_at ddX11_childrenOf 14 rfl) (by decide) ?_
          refine lv_goto (tgt := 27) S.1 S.2.1 (dd_at ddX11_childrenOf 15 rfl) (by decide) ?_
          refine lv_iadd S.1 S.2.1 (dd_at ddX11_childrenOf 17 rfl) ?_
          refine lv_istore_n (lv' := [(2, .int (v2 + 1)), (0, .ref a0), (1, .int p1), (3, .int v3)]) S.1 S.2.1 (dd_at ddX11_childrenOf 18 rfl) rfl hl (by decide) rfl (fun ls hl => ?_)
          refine lv_iinc (v := v3 + 1) (lv' := [(3, .int (v3 + 1)), (2, .int (v2 + 1)), (0, .ref a0), (1, .int p1)]) S.1 S.2.1 (dd_at ddX11_childrenOf 19 rfl) hl (k := 3) rfl rfl (by decide) rfl (fun ls hl => ?_)
          refine lv_goto (tgt := 4) S.1 S.2.1 (dd_at ddX11_childrenOf 20 rfl) (by decide) ?_
          exact ih4 (v2 + 1) (v3 + 1) d_4 H locs ls h hw (lv_sub hl [2, 3, 1, 0] rfl)
  refine lv_iconst (v := 0) S.1 S.2.1 (dd_at ddX11_childrenOf 0 rfl) (by decide) ?_
  refine lv_istore_n (lv' := [(2, .int 0), (0, .ref a0), (1, .int p1)]) S.1 S.2.1 (dd_at ddX11_childrenOf 1 rfl) rfl hl (by decide) rfl (fun ls hl => ?_)
  refine lv_iconst (v := 0) S.1 S.2.1 (dd_at ddX11_childrenOf 2 rfl) (by decide) ?_
  refine lv_istore_n (lv' := [(3, .int 0), (2, .int 0), (0, .ref a0), (1, .int p1)]) S.1 S.2.1 (dd_at ddX11_childrenOf 3 rfl) rfl hl (by decide) rfl (fun ls hl => ?_)
  obtain ⟨n_7, h⟩ := h
  exact tl4 n_7 0 0 d H locs ls h hw (lv_sub hl [2, 3, 1, 0] rfl)

def w_X11_spouseOf (E : En) (a0 : Nat) (p1 : Int32) (d : Dy) (K : Int32 → Dy → Prop) : Prop := okO E a0 11 ∧ ∃ b_1 : Nat, eR E a0 19 = some b_1 ∧ okA E b_1 13 ∧ vp_in p1 (eN E b_1) ∧ (((gA d b_1 (p1).toNatClampNeg) < 0 → K (-1) d) ∧ (¬ (gA d b_1 (p1).toNatClampNeg) < 0 → ∃ b_6 : Nat, eR E a0 18 = some b_6 ∧ okA E b_6 15 ∧ ∃ b_9 : Nat, eR E a0 19 = some b_9 ∧ okA E b_9 13 ∧ vp_in p1 (eN E b_9) ∧ vp_in (gA d b_9 (p1).toNatClampNeg) (eN E b_6) ∧ (((gA d b_6 (gA d b_9 (p1).toNatClampNeg).toNatClampNeg) = 0 → K (-1) d) ∧ (¬ (gA d b_6 (gA d b_9 (p1).toNatClampNeg).toNatClampNeg) = 0 → ∃ b_15 : Nat, eR E a0 19 = some b_15 ∧ okA E b_15 13 ∧ vp_in p1 (eN E b_15) ∧ K (gA d b_15 (p1).toNatClampNeg) d))))
abbrev rm_X11_spouseOf : Room := { frames := 0, cells := 0, slots := 0, locals := 0 }
set_option maxRecDepth 100000 in
set_option maxHeartbeats 4000000 in
theorem m_X11_spouseOf (l : Launch) (D : va_G) (cs : Nat → ClassId) (E : En) (d : Dy) (sz : Nat) (a0 : Nat) (p1 : Int32) (K : Int32 → Dy → Prop) : CI l yX11_spouseOf (.code yX11_spouseOf cX11_spouseOf 2 (some .int) :: wsL_law) rm_X11_spouseOf D cs E d sz [.ref a0, .int p1] (w_X11_spouseOf E a0 p1 d K) K := by
  refine e_of (cc := cX11_spouseOf) (maxL := 2) (ret := (some .int)) (own := RX11) (by decide) rfl rfl (Nat.le_of_ble_eq_true rfl) ?_
  intro p e s m below meth c S hr hlocks hsz H locs hw h ls hl
  have hl : lv_has ls 2 [(0, .ref a0), (1, .int p1)] := hl
  unfold w_X11_spouseOf at h
  obtain ⟨ha0, h⟩ := h
  refine lv_aload_n S.1 S.2.1 (dd_at ddX11_spouseOf 0 rfl) rfl (lv_at hl 0 rfl) ?_
  obtain ⟨b_1, hb_2, ho_3, h⟩ := h
  refine r_getR S hw 11 19 rfl inG11 (by decide) (List.mem_cons_of_mem _ wg161) (by decide) ha0 hb_2 (dd_at ddX11_spouseOf 1 rfl) ?_
  refine lv_iload_n S.1 S.2.1 (dd_at ddX11_spouseOf 2 rfl) rfl (lv_at hl 1 rfl) ?_
  obtain ⟨hx_4, h⟩ := h
  refine r_iald S hw ho_3 hx_4 (dd_at ddX11_spouseOf 3 rfl) ?_
  refine lv_if_lt (tgt := 32) S.1 S.2.1 (dd_at ddX11_spouseOf 4 rfl) (by decide) (fun hc_5 => ?_) (fun hc_5 => ?_)
  · have h := h.1 hc_5
    refine lv_iconst (v := -1) S.1 S.2.1 (dd_at ddX11_spouseOf 18 rfl) (by decide) ?_
    exact e_I S hr hlocks hw h (dd_at ddX11_spouseOf 19 rfl)
  · have h := h.2 hc_5
    refine lv_aload_n S.1 S.2.1 (dd_at ddX11_spouseOf 5 rfl) rfl (lv_at hl 0 rfl) ?_
    obtain ⟨b_6, hb_7, ho_8, h⟩ := h
    refine r_getR S hw 11 18 rfl inG11 (by decide) (List.mem_cons_of_mem _ wg160) (by decide) ha0 hb_7 (dd_at ddX11_spouseOf 6 rfl) ?_
    refine lv_aload_n S.1 S.2.1 (dd_at ddX11_spouseOf 7 rfl) rfl (lv_at hl 0 rfl) ?_
    obtain ⟨b_9, hb_10, ho_11, h⟩ := h
    refine r_getR S hw 11 19 rfl inG11 (by decide) (List.mem_cons_of_mem _ wg161) (by decide) ha0 hb_10 (dd_at ddX11_spouseOf 8 rfl) ?_
    refine lv_iload_n S.1 S.2.1 (dd_at ddX11_spouseOf 9 rfl) rfl (lv_at hl 1 rfl) ?_
    obtain ⟨hx_12, h⟩ := h
    refine r_iald S hw ho_11 hx_12 (dd_at ddX11_spouseOf 10 rfl) ?_
    obtain ⟨hx_13, h⟩ := h
    refine r_zald S hw ho_8 hx_13 (dd_at ddX11_spouseOf 11 rfl) ?_
    refine lv_if_eq (tgt := 32) S.1 S.2.1 (dd_at ddX11_spouseOf 12 rfl) (by decide) (fun hc_14 => ?_) (fun hc_14 => ?_)
    · have h := h.1 hc_14
      refine lv_iconst (v := -1) S.1 S.2.1 (dd_at ddX11_spouseOf 18 rfl) (by decide) ?_
      exact e_I S hr hlocks hw h (dd_at ddX11_spouseOf 19 rfl)
    · have h := h.2 hc_14
      refine lv_aload_n S.1 S.2.1 (dd_at ddX11_spouseOf 13 rfl) rfl (lv_at hl 0 rfl) ?_
      obtain ⟨b_15, hb_16, ho_17, h⟩ := h
      refine r_getR S hw 11 19 rfl inG11 (by decide) (List.mem_cons_of_mem _ wg161) (by decide) ha0 hb_16 (dd_at ddX11_spouseOf 14 rfl) ?_
      refine lv_iload_n S.1 S.2.1 (dd_at ddX11_spouseOf 15 rfl) rfl (lv_at hl 1 rfl) ?_
      obtain ⟨hx_18, h⟩ := h
      refine r_iald S hw ho_17 hx_18 (dd_at ddX11_spouseOf 16 rfl) ?_
      refine lv_goto (tgt := 33) S.1 S.2.1 (dd_at ddX11_spouseOf 17 rfl) (by decide) ?_
      exact e_I S hr hlocks hw h (dd_at ddX11_spouseOf 19 rfl)

def w_X11_elder (E : En) (a0 : Nat) (p1 : Int32) (p2 : Int32) (d : Dy) (K : Int32 → Dy → Prop) : Prop := okO E a0 11 ∧ ((p1 < 0 → K p2 d) ∧ (¬ p1 < 0 → w_X11_ofPerson E a0 p2 0 d (fun r_3 d_2 => w_X11_ofPerson E a0 p1 0 d_2 (fun r_5 d_4 => ((r_5 ≤ r_3 → K p1 d_4) ∧ (¬ r_5 ≤ r_3 → K p2 d_4))))))
abbrev rm_X11_elder : Room := { frames := 1, cells := 0, slots := 0, locals := 22 }
set_option maxRecDepth 100000 in
set_option maxHeartbeats 4000000 in
theorem m_X11_elder (l : Launch) (D : va_G) (cs : Nat → ClassId) (E : En) (d : Dy) (sz : Nat) (a0 : Nat) (p1 : Int32) (p2 : Int32) (K : Int32 → Dy → Prop) : CI l yX11_elder (.code yX11_elder cX11_elder 3 (some .int) :: wsL_law) rm_X11_elder D cs E d sz [.ref a0, .int p1, .int p2] (w_X11_elder E a0 p1 p2 d K) K := by
  refine e_of (cc := cX11_elder) (maxL := 3) (ret := (some .int)) (own := RX11) (by decide) rfl rfl (Nat.le_of_ble_eq_true rfl) ?_
  intro p e s m below meth c S hr hlocks hsz H locs hw h ls hl
  have hl : lv_has ls 3 [(0, .ref a0), (1, .int p1), (2, .int p2)] := hl
  unfold w_X11_elder at h
  obtain ⟨ha0, h⟩ := h
  refine lv_iload_n S.1 S.2.1 (dd_at ddX11_elder 0 rfl) rfl (lv_at hl 1 rfl) ?_
  refine lv_if_lt (tgt := 19) S.1 S.2.1 (dd_at ddX11_elder 1 rfl) (by decide) (fun hc_1 => ?_) (fun hc_1 => ?_)
  · have h := h.1 hc_1
    refine lv_iload_n S.1 S.2.1 (dd_at ddX11_elder 11 rfl) rfl (lv_at hl 2 rfl) ?_
    refine lv_goto (tgt := 24) S.1 S.2.1 (dd_at ddX11_elder 12 rfl) (by decide) ?_
    exact e_I S hr hlocks hw h (dd_at ddX11_elder 14 rfl)
  · have h := h.2 hc_1
    refine lv_aload_n S.1 S.2.1 (dd_at ddX11_elder 2 rfl) rfl (lv_at hl 0 rfl) ?_
    refine lv_iload_n S.1 S.2.1 (dd_at ddX11_elder 3 rfl) rfl (lv_at hl 2 rfl) ?_
    refine lv_iconst (v := 0) S.1 S.2.1 (dd_at ddX11_elder 4 rfl) (by decide) ?_
    refine r_callI hw (r_runV (As := [.int p2, .int 0]) (rest := []) S hw (m_X11_ofPerson l D cs E d H.size a0 p2 0 _) (cwV 2 S.2.2.2.2 (gV wg848 wg849 wg850 wg5 wg851) rfl rfl rfl (by decide +kernel) ⟨Nat.le_of_ble_eq_true rfl, Nat.le_of_ble_eq_true rfl⟩) (ci := 11) rfl ha0 h rfl hl.1 rfl (Nat.le_of_ble_eq_true rfl) (dd_at ddX11_elder 5 rfl) ⟨Nat.le_of_ble_eq_true rfl, Nat.le_of_ble_eq_true rfl⟩) (fun r_3 d_2 H locs h hw => ?_)
    refine lv_aload_n S.1 S.2.1 (dd_at ddX11_elder 6 rfl) rfl (lv_at hl 0 rfl) ?_
    refine lv_iload_n S.1 S.2.1 (dd_at ddX11_elder 7 rfl) rfl (lv_at hl 1 rfl) ?_
    refine lv_iconst (v := 0) S.1 S.2.1 (dd_at ddX11_elder 8 rfl) (by decide) ?_
    refine r_callI hw (r_runV (As := [.int p1, .int 0]) (rest := [.int r_3]) S hw (m_X11_ofPerson l D cs E d_2 H.size a0 p1 0 _) (cwV 2 S.2.2.2.2 (gV wg848 wg849 wg850 wg5 wg851) rfl rfl rfl (by decide +kernel) ⟨Nat.le_of_ble_eq_true rfl, Nat.le_of_ble_eq_true rfl⟩) (ci := 11) rfl ha0 h rfl hl.1 rfl (Nat.le_of_ble_eq_true rfl) (dd_at ddX11_elder 9 rfl) ⟨Nat.le_of_ble_eq_true rfl, Nat.le_of_ble_eq_true rfl⟩) (fun r_5 d_4 H locs h hw => ?_)
    refine lv_icmp_ge (tgt := 23) S.1 S.2.1 (dd_at ddX11_elder 10 rfl) (by decide) (fun hc_6 => ?_) (fun hc_6 => ?_)
    · have h := h.1 hc_6
      refine lv_iload_n S.1 S.2.1 (dd_at ddX11_elder 13 rfl) rfl (lv_at hl 1 rfl) ?_
      exact e_I S hr hlocks hw h (dd_at ddX11_elder 14 rfl)
    · have h := h.2 hc_6
      refine lv_iload_n S.1 S.2.1 (dd_at ddX11_elder 11 rfl) rfl (lv_at hl 2 rfl) ?_
      refine lv_goto (tgt := 24) S.1 S.2.1 (dd_at ddX11_elder 12 rfl) (by decide) ?_
      exact e_I S hr hlocks hw h (dd_at ddX11_elder 14 rfl)

def b_X11_eldestOf_4 (E : En) (a0 : Nat) (p1 : Int32) (K : Int32 → Dy → Prop) (k4 : Int32 → Int32 → Dy → Prop) (v2 : Int32) (v3 : Int32) (d : Dy) : Prop := w_X11_persons E a0 d (fun r_2 d_1 => ((r_2 ≤ v3 → K v2 d_1) ∧ (¬ r_2 ≤ v3 → w_X11_isChild E a0 p1 v3 d_1 (fun r_5 d_4 => ((r_5 = 0 → k4 v2 (v3 + 1) d_4) ∧ (¬ r_5 = 0 → w_X11_elder E a0 v2 v3 d_4 (fun r_8 d_7 => k4 r_8 (v3 + 1) d_7)))))))
def l_X11_eldestOf_4 (E : En) (a0 : Nat) (p1 : Int32) (K : Int32 → Dy → Prop) : Nat → Int32 → Int32 → Dy → Prop
  | 0 => fun _ _ _ => False
  | n + 1 => b_X11_eldestOf_4 E a0 p1 K (l_X11_eldestOf_4 E a0 p1 K n)
def w_X11_eldestOf (E : En) (a0 : Nat) (p1 : Int32) (d : Dy) (K : Int32 → Dy → Prop) : Prop := okO E a0 11 ∧ (∃ n_9 : Nat, l_X11_eldestOf_4 E a0 p1 K n_9 (-1) 0 d)
abbrev rm_X11_eldestOf : Room := { frames := 2, cells := 0, slots := 0, locals := 44 }
set_option maxRecDepth 100000 in
set_option maxHeartbeats 4000000 in
theorem m_X11_eldestOf (l : Launch) (D : va_G) (cs : Nat → ClassId) (E : En) (d : Dy) (sz : Nat) (a0 : Nat) (p1 : Int32) (K : Int32 → Dy → Prop) : CI l yX11_eldestOf (.code yX11_eldestOf cX11_eldestOf 4 (some .int) :: wsL_law) rm_X11_eldestOf D cs E d sz [.ref a0, .int p1] (w_X11_eldestOf E a0 p1 d K) K := by
  refine e_of (cc := cX11_eldestOf) (maxL := 4) (ret := (some .int)) (own := RX11) (by decide) rfl rfl (Nat.le_of_ble_eq_true rfl) ?_
  intro p e s m below meth c S hr hlocks hsz H locs hw h ls hl
  have hl : lv_has ls 4 [(0, .ref a0), (1, .int p1)] := hl
  unfold w_X11_eldestOf at h
  obtain ⟨ha0, h⟩ := h
  have tl4 : ∀ (n : Nat) (v2 : Int32) (v3 : Int32) (d : Dy) (H : Heap) (locs : List Loc) (ls : Array Slot), l_X11_eldestOf_4 E a0 p1 K n v2 v3 d → Wd D cs (AW E sz) s.heap s E d H locs → lv_has ls 4 [(0, .ref a0), (1, .int p1), (2, .int v2), (3, .int v3)] → W p l e rm_X11_eldestOf s m ([.ref a0, .int p1] : List Value).toArray below meth c H locs 0 0 (MQ below (va_Qi K (OutW D cs E (AW E sz)) (AW E sz)) ([.ref a0, .int p1] : List Value).toArray s rm_X11_eldestOf.cells rm_X11_eldestOf.slots (AW E sz)) (F0 m 4 ls []) := by
    intro n4
    induction n4 with
    | zero => intro v2 v3 d H locs ls h; exact absurd h id
    | succ n4 ih4 =>
      intro v2 v3 d H locs ls h hw hl
      have h : b_X11_eldestOf_4 E a0 p1 K (l_X11_eldestOf_4 E a0 p1 K n4) v2 v3 d := h
      unfold b_X11_eldestOf_4 at h
      refine lv_iload_n S.1 S.2.1 (dd_at ddX11_eldestOf 4 rfl) rfl (lv_at hl 3 rfl) ?_
      refine lv_aload_n S.1 S.2.1 (dd_at ddX11_eldestOf 5 rfl) rfl (lv_at hl 0 rfl) ?_
      refine r_callI hw (r_runV (As := []) (rest := [.int v3]) S hw (m_X11_persons l D cs E d H.size a0 _) (cwV 0 S.2.2.2.2 (gV wg558 wg559 wg560 wg5 wg561) rfl rfl rfl (by decide +kernel) ⟨Nat.le_of_ble_eq_true rfl, Nat.le_of_ble_eq_true rfl⟩) (ci := 11) rfl ha0 h rfl hl.1 rfl (Nat.le_of_ble_eq_true rfl) (dd_at ddX11_eldestOf 6 rfl) ⟨Nat.le_of_ble_eq_true rfl, Nat.le_of_ble_eq_true rfl⟩) (fun r_2 d_1 H locs h hw => ?_)
      refine lv_icmp_ge (tgt := 34) S.1 S.2.1 (dd_at ddX11_eldestOf 7 rfl) (by decide) (fun hc_3 => ?_) (fun hc_3 => ?_)
      · have h := h.1 hc_3
        refine lv_iload_n S.1 S.2.1 (dd_at ddX11_eldestOf 20 rfl) rfl (lv_at hl 2 rfl) ?_
        exact e_I S hr hlocks hw h (dd_at ddX11_eldestOf 21 rfl)
      · have h := h.2 hc_3
        refine lv_aload_n S.1 S.2.1 (dd_at ddX11_eldestOf 8 rfl) rfl (lv_at hl 0 rfl) ?_
        refine lv_iload_n S.1 S.2.1 (dd_at ddX11_eldestOf 9 rfl) rfl (lv_at hl 1 rfl) ?_
        refine lv_iload_n S.1 S.2.1 (dd_at ddX11_eldestOf 10 rfl) rfl (lv_at hl 3 rfl) ?_
        refine r_callI hw (r_runV (As := [.int p1, .int v3]) (rest := []) S hw (m_X11_isChild l D cs E d_1 H.size a0 p1 v3 _) (cwV 2 S.2.2.2.2 (gV wg856 wg857 wg858 wg5 wg859) rfl rfl rfl (by decide +kernel) ⟨Nat.le_of_ble_eq_true rfl, Nat.le_of_ble_eq_true rfl⟩) (ci := 11) rfl ha0 h rfl hl.1 rfl (Nat.le_of_ble_eq_true rfl) (dd_at ddX11_eldestOf 11 rfl) ⟨Nat.le_of_ble_eq_true rfl, Nat.le_of_ble_eq_true rfl⟩) (fun r_5 d_4 H locs h hw => ?_)
        refine lv_if_eq (tgt := 28) S.1 S.2.1 (dd_at ddX11_eldestOf 12 rfl) (by decide) (fun hc_6 => ?_) (fun hc_6 => ?_)
        · have h := h.1 hc_6
          refine lv_iinc (v := v3 + 1) (lv' := [(3, .int (v3 + 1)), (0, .ref a0), (1, .int p1), (2, .int v2)]) S.1 S.2.1 (dd_at ddX11_eldestOf 18 rfl) hl (k := 3) rfl rfl (by decide) rfl (fun ls hl => ?_)
          refine lv_goto (tgt := 4) S.1 S.2.1 (dd_at ddX11_eldestOf 19 rfl) (by decide) ?_
          exact ih4 v2 (v3 + 1) d_4 H locs ls h hw (lv_sub hl [1, 2, 3, 0] rfl)
        · have h := h.2 hc_6
          refine lv_aload_n S.1 S.2.1 (dd_at ddX11_eldestOf 13 rfl) rfl (lv_at hl 0 rfl) ?_
          refine lv_iload_n S.1 S.2.1 (dd_at ddX11_eldestOf 14 rfl) rfl (lv_at hl 2 rfl) ?_
          refine lv_iload_n S.1 S.2.1 (dd_at ddX11_eldestOf 15 rfl) rfl (lv_at hl 3 rfl) ?_
          refine r_callI hw (r_runV (As := [.int v2, .int v3]) (rest := []) S hw (m_X11_elder l D cs E d_4 H.size a0 v2 v3 _) (cwV 2 S.2.2.2.2 (gV wg872 wg873 wg874 wg5 wg875) rfl rfl rfl (by decide +kernel) ⟨Nat.le_of_ble_eq_true rfl, Nat.le_of_ble_eq_true rfl⟩) (ci := 11) rfl ha0 h rfl hl.1 rfl (Nat.le_of_ble_eq_true rfl) (dd_at ddX11_eldestOf 16 rfl) ⟨Nat.le_of_ble_eq_true rfl, Nat.le_of_ble_eq_true rfl⟩) (fun r_8 d_7 H locs h hw => ?_)
          refine lv_istore_n (lv' := [(2, .int r_8), (0, .ref a0), (1, .int p1), (3, .int v3)]) S.1 S.2.1 (dd_at ddX11_eldestOf 17 rfl) rfl hl (by decide) rfl (fun ls hl => ?_)
          refine lv_iinc (v := v3 + 1) (lv' := [(3, .int (v3 + 1)), (2, .int r_8), (0, .ref a0), (1, .int p1)]) S.1 S.2.1 (dd_at ddX11_eldestOf 18 rfl) hl (k := 3) rfl rfl (by decide) rfl (fun ls hl => ?_)
          refine lv_goto (tgt := 4) S.1 S.2.1 (dd_at ddX11_eldestOf 19 rfl) (by decide) ?_
          exact ih4 r_8 (v3 + 1) d_7 H locs ls h hw (lv_sub hl [2, 3, 1, 0] rfl)
  refine lv_iconst (v := -1) S.1 S.2.1 (dd_at ddX11_eldestOf 0 rfl) (by decide) ?_
  refine lv_istore_n (lv' := [(2, .int (-1)), (0, .ref a0), (1, .int p1)]) S.1 S.2.1 (dd_at ddX11_eldestOf 1 rfl) rfl hl (by decide) rfl (fun ls hl => ?_)
  refine lv_iconst (v := 0) S.1 S.2.1 (dd_at ddX11_eldestOf 2 rfl) (by decide) ?_
  refine lv_istore_n (lv' := [(3, .int 0), (2, .int (-1)), (0, .ref a0), (1, .int p1)]) S.1 S.2.1 (dd_at ddX11_eldestOf 3 rfl) rfl hl (by decide) rfl (fun ls hl => ?_)
  obtain ⟨n_9, h⟩ := h
  exact tl4 n_9 (-1) 0 d H locs ls h hw (lv_sub hl [2, 3, 1, 0] rfl)

def b_X11_parentOf_2 (E : En) (a0 : Nat) (p1 : Int32) (K : Int32 → Dy → Prop) (k2 : Int32 → Dy → Prop) (v2 : Int32) (d : Dy) : Prop := w_X11_persons E a0 d (fun r_2 d_1 => ((r_2 ≤ v2 → K (-1) d_1) ∧ (¬ r_2 ≤ v2 → ∃ b_4 : Nat, eR E a0 20 = some b_4 ∧ okA E b_4 15 ∧ vp_in ((12 * v2) + p1) (eN E b_4) ∧ (((gA d_1 b_4 ((12 * v2) + p1).toNatClampNeg) = 0 → k2 (v2 + 1) d_1) ∧ (¬ (gA d_1 b_4 ((12 * v2) + p1).toNatClampNeg) = 0 → ∃ b_9 : Nat, eR E a0 18 = some b_9 ∧ okA E b_9 15 ∧ vp_in v2 (eN E b_9) ∧ (((gA d_1 b_9 (v2).toNatClampNeg) = 0 → k2 (v2 + 1) d_1) ∧ (¬ (gA d_1 b_9 (v2).toNatClampNeg) = 0 → K v2 d_1)))))))
def l_X11_parentOf_2 (E : En) (a0 : Nat) (p1 : Int32) (K : Int32 → Dy → Prop) : Nat → Int32 → Dy → Prop
  | 0 => fun _ _ => False
  | n + 1 => b_X11_parentOf_2 E a0 p1 K (l_X11_parentOf_2 E a0 p1 K n)
def w_X11_parentOf (E : En) (a0 : Nat) (p1 : Int32) (d : Dy) (K : Int32 → Dy → Prop) : Prop := okO E a0 11 ∧ (∃ n_14 : Nat, l_X11_parentOf_2 E a0 p1 K n_14 0 d)
abbrev rm_X11_parentOf : Room := { frames := 1, cells := 0, slots := 0, locals := 20 }
set_option maxRecDepth 100000 in
set_option maxHeartbeats 4000000 in
theorem m_X11_parentOf (l : Launch) (D : va_G) (cs : Nat → ClassId) (E : En) (d : Dy) (sz : Nat) (a0 : Nat) (p1 : Int32) (K : Int32 → Dy → Prop) : CI l yX11_parentOf (.code yX11_parentOf cX11_parentOf 3 (some .int) :: wsL_law) rm_X11_parentOf D cs E d sz [.ref a0, .int p1] (w_X11_parentOf E a0 p1 d K) K := by
  refine e_of (cc := cX11_parentOf) (maxL := 3) (ret := (some .int)) (own := RX11) (by decide) rfl rfl (Nat.le_of_ble_eq_true rfl) ?_
  intro p e s m below meth c S hr hlocks hsz H locs hw h ls hl
  have hl : lv_has ls 3 [(0, .ref a0), (1, .int p1)] := hl
  unfold w_X11_parentOf at h
  obtain ⟨ha0, h⟩ := h
  have tl2 : ∀ (n : Nat) (v2 : Int32) (d : Dy) (H : Heap) (locs : List Loc) (ls : Array Slot), l_X11_parentOf_2 E a0 p1 K n v2 d → Wd D cs (AW E sz) s.heap s E d H locs → lv_has ls 3 [(0, .ref a0), (1, .int p1), (2, .int v2)] → W p l e rm_X11_parentOf s m ([.ref a0, .int p1] : List Value).toArray below meth c H locs 0 0 (MQ below (va_Qi K (OutW D cs E (AW E sz)) (AW E sz)) ([.ref a0, .int p1] : List Value).toArray s rm_X11_parentOf.cells rm_X11_parentOf.slots (AW E sz)) (F0 m 2 ls []) := by
    intro n2
    induction n2 with
    | zero => intro v2 d H locs ls h; exact absurd h id
    | succ n2 ih2 =>
      intro v2 d H locs ls h hw hl
      have h : b_X11_parentOf_2 E a0 p1 K (l_X11_parentOf_2 E a0 p1 K n2) v2 d := h
      unfold b_X11_parentOf_2 at h
      refine lv_iload_n S.1 S.2.1 (dd_at ddX11_parentOf 2 rfl) rfl (lv_at hl 2 rfl) ?_
      refine lv_aload_n S.1 S.2.1 (dd_at ddX11_parentOf 3 rfl) rfl (lv_at hl 0 rfl) ?_
      refine r_callI hw (r_runV (As := []) (rest := [.int v2]) S hw (m_X11_persons l D cs E d H.size a0 _) (cwV 0 S.2.2.2.2 (gV wg558 wg559 wg560 wg5 wg561) rfl rfl rfl (by decide +kernel) ⟨Nat.le_of_ble_eq_true rfl, Nat.le_of_ble_eq_true rfl⟩) (ci := 11) rfl ha0 h rfl hl.1 rfl (Nat.le_of_ble_eq_true rfl) (dd_at ddX11_parentOf 4 rfl) ⟨Nat.le_of_ble_eq_true rfl, Nat.le_of_ble_eq_true rfl⟩) (fun r_2 d_1 H locs h hw => ?_)
      refine lv_icmp_ge (tgt := 41) S.1 S.2.1 (dd_at ddX11_parentOf 5 rfl) (by decide) (fun hc_3 => ?_) (fun hc_3 => ?_)
      · have h := h.1 hc_3
        refine lv_iconst (v := -1) S.1 S.2.1 (dd_at ddX11_parentOf 24 rfl) (by decide) ?_
        exact e_I S hr hlocks hw h (dd_at ddX11_parentOf 25 rfl)
      · have h := h.2 hc_3
        refine lv_aload_n S.1 S.2.1 (dd_at ddX11_parentOf 6 rfl) rfl (lv_at hl 0 rfl) ?_
        obtain ⟨b_4, hb_5, ho_6, h⟩ := h
        refine r_getR S hw 11 20 rfl inG11 (by decide) (List.mem_cons_of_mem _ wg162) (by decide) ha0 hb_5 (dd_at ddX11_parentOf 7 rfl) ?_
        refine lv_bipush (v := 12) S.1 S.2.1 (dd_at ddX11_parentOf 8 rfl) (by decide) ?_
        refine lv_iload_n S.1 S.2.1 (dd_at ddX11_parentOf 9 rfl) rfl (lv_at hl 2 rfl) ?_
        refine lv_imul S.1 S.2.1 (dd_at ddX11_parentOf 10 rfl) ?_
        refine lv_iload_n S.1 S.2.1 (dd_at ddX11_parentOf 11 rfl) rfl (lv_at hl 1 rfl) ?_
        refine lv_iadd S.1 S.2.1 (dd_at ddX11_parentOf 12 rfl) ?_
        obtain ⟨hx_7, h⟩ := h
        refine r_zald S hw ho_6 hx_7 (dd_at ddX11_parentOf 13 rfl) ?_
        refine lv_if_eq (tgt := 35) S.1 S.2.1 (dd_at ddX11_parentOf 14 rfl) (by decide) (fun hc_8 => ?_) (fun hc_8 => ?_)
        · have h := h.1 hc_8
          refine lv_iinc (v := v2 + 1) (lv' := [(2, .int (v2 + 1)), (0, .ref a0), (1, .int p1)]) S.1 S.2.1 (dd_at ddX11_parentOf 22 rfl) hl (k := 2) rfl rfl (by decide) rfl (fun ls hl => ?_)
          refine lv_goto (tgt := 2) S.1 S.2.1 (dd_at ddX11_parentOf 23 rfl) (by decide) ?_
          exact ih2 (v2 + 1) d_1 H locs ls h hw (lv_sub hl [1, 2, 0] rfl)
        · have h := h.2 hc_8
          refine lv_aload_n S.1 S.2.1 (dd_at ddX11_parentOf 15 rfl) rfl (lv_at hl 0 rfl) ?_
          obtain ⟨b_9, hb_10, ho_11, h⟩ := h
          refine r_getR S hw 11 18 rfl inG11 (by decide) (List.mem_cons_of_mem _ wg160) (by decide) ha0 hb_10 (dd_at ddX11_parentOf 16 rfl) ?_
          refine lv_iload_n S.1 S.2.1 (dd_at ddX11_parentOf 17 rfl) rfl (lv_at hl 2 rfl) ?_
          obtain ⟨hx_12, h⟩ := h
          refine r_zald S hw ho_11 hx_12 (dd_at ddX11_parentOf 18 rfl) ?_
          refine lv_if_eq (tgt := 35) S.1 S.2.1 (dd_at ddX11_parentOf 19 rfl) (by decide) (fun hc_13 => ?_) (fun hc_13 => ?_)
          · have h := h.1 hc_13
            refine lv_iinc (v := v2 + 1) (lv' := [(2, .int (v2 + 1)), (0, .ref a0), (1, .int p1)]) S.1 S.2.1 (dd_at ddX11_parentOf 22 rfl) hl (k := 2) rfl rfl (by decide) rfl (fun ls hl => ?_)
            refine lv_goto (tgt := 2) S.1 S.2.1 (dd_at ddX11_parentOf 23 rfl) (by decide) ?_
            exact ih2 (v2 + 1) d_1 H locs ls h hw (lv_sub hl [1, 2, 0] rfl)
          · have h := h.2 hc_13
            refine lv_iload_n S.1 S.2.1 (dd_at ddX11_parentOf 20 rfl) rfl (lv_at hl 2 rfl) ?_
            exact e_I S hr hlocks hw h (dd_at ddX11_parentOf 21 rfl)
  refine lv_iconst (v := 0) S.1 S.2.1 (dd_at ddX11_parentOf 0 rfl) (by decide) ?_
  refine lv_istore_n (lv' := [(2, .int 0), (0, .ref a0), (1, .int p1)]) S.1 S.2.1 (dd_at ddX11_parentOf 1 rfl) rfl hl (by decide) rfl (fun ls hl => ?_)
  obtain ⟨n_14, h⟩ := h
  exact tl2 n_14 0 d H locs ls h hw (lv_sub hl [1, 2, 0] rfl)

def b_X11_areOfOne_5 (E : En) (a0 : Nat) (p1 : Int32) (p2 : Int32) (K : Int32 → Dy → Prop) (k5 : Int32 → Int32 → Dy → Prop) (v3 : Int32) (v4 : Int32) (d : Dy) : Prop := w_X11_persons E a0 d (fun r_2 d_1 => ((r_2 ≤ v4 → ((v3 = 0 → K 0 d_1) ∧ (¬ v3 = 0 → ((p1 = p2 → K 0 d_1) ∧ (¬ p1 = p2 → K 1 d_1))))) ∧ (¬ r_2 ≤ v4 → ((¬ v3 = 0 → k5 1 (v4 + 1) d_1) ∧ (v3 = 0 → ∃ b_7 : Nat, eR E a0 20 = some b_7 ∧ okA E b_7 15 ∧ vp_in ((12 * v4) + p1) (eN E b_7) ∧ (((gA d_1 b_7 ((12 * v4) + p1).toNatClampNeg) = 0 → k5 0 (v4 + 1) d_1) ∧ (¬ (gA d_1 b_7 ((12 * v4) + p1).toNatClampNeg) = 0 → ∃ b_12 : Nat, eR E a0 20 = some b_12 ∧ okA E b_12 15 ∧ vp_in ((12 * v4) + p2) (eN E b_12) ∧ (((gA d_1 b_12 ((12 * v4) + p2).toNatClampNeg) = 0 → k5 0 (v4 + 1) d_1) ∧ (¬ (gA d_1 b_12 ((12 * v4) + p2).toNatClampNeg) = 0 → k5 1 (v4 + 1) d_1)))))))))
def l_X11_areOfOne_5 (E : En) (a0 : Nat) (p1 : Int32) (p2 : Int32) (K : Int32 → Dy → Prop) : Nat → Int32 → Int32 → Dy → Prop
  | 0 => fun _ _ _ => False
  | n + 1 => b_X11_areOfOne_5 E a0 p1 p2 K (l_X11_areOfOne_5 E a0 p1 p2 K n)
def w_X11_areOfOne (E : En) (a0 : Nat) (p1 : Int32) (p2 : Int32) (d : Dy) (K : Int32 → Dy → Prop) : Prop := okO E a0 11 ∧ (∃ n_17 : Nat, l_X11_areOfOne_5 E a0 p1 p2 K n_17 0 0 d)
abbrev rm_X11_areOfOne : Room := { frames := 1, cells := 0, slots := 0, locals := 20 }
set_option maxRecDepth 100000 in
set_option maxHeartbeats 4000000 in
theorem m_X11_areOfOne (l : Launch) (D : va_G) (cs : Nat → ClassId) (E : En) (d : Dy) (sz : Nat) (a0 : Nat) (p1 : Int32) (p2 : Int32) (K : Int32 → Dy → Prop) : CI l yX11_areOfOne (.code yX11_areOfOne cX11_areOfOne 5 (some .boolean) :: wsL_law) rm_X11_areOfOne D cs E d sz [.ref a0, .int p1, .int p2] (w_X11_areOfOne E a0 p1 p2 d K) K := by
  refine e_of (cc := cX11_areOfOne) (maxL := 5) (ret := (some .boolean)) (own := RX11) (by decide) rfl rfl (Nat.le_of_ble_eq_true rfl) ?_
  intro p e s m below meth c S hr hlocks hsz H locs hw h ls hl
  have hl : lv_has ls 5 [(0, .ref a0), (1, .int p1), (2, .int p2)] := hl
  unfold w_X11_areOfOne at h
  obtain ⟨ha0, h⟩ := h
  have tl5 : ∀ (n : Nat) (v3 : Int32) (v4 : Int32) (d : Dy) (H : Heap) (locs : List Loc) (ls : Array Slot), l_X11_areOfOne_5 E a0 p1 p2 K n v3 v4 d → Wd D cs (AW E sz) s.heap s E d H locs → lv_has ls 5 [(0, .ref a0), (1, .int p1), (2, .int p2), (3, .int v3), (4, .int v4)] → W p l e rm_X11_areOfOne s m ([.ref a0, .int p1, .int p2] : List Value).toArray below meth c H locs 0 0 (MQ below (va_Qi K (OutW D cs E (AW E sz)) (AW E sz)) ([.ref a0, .int p1, .int p2] : List Value).toArray s rm_X11_areOfOne.cells rm_X11_areOfOne.slots (AW E sz)) (F0 m 5 ls []) := by
    intro n5
    induction n5 with
    | zero => intro v3 v4 d H locs ls h; exact absurd h id
    | succ n5 ih5 =>
      intro v3 v4 d H locs ls h hw hl
      have h : b_X11_areOfOne_5 E a0 p1 p2 K (l_X11_areOfOne_5 E a0 p1 p2 K n5) v3 v4 d := h
      unfold b_X11_areOfOne_5 at h
      refine lv_iload S.1 S.2.1 (dd_at ddX11_areOfOne 4 rfl) (lv_at hl 4 rfl) ?_
      refine lv_aload_n S.1 S.2.1 (dd_at ddX11_areOfOne 5 rfl) rfl (lv_at hl 0 rfl) ?_
      refine r_callI hw (r_runV (As := []) (rest := [.int v4]) S hw (m_X11_persons l D cs E d H.size a0 _) (cwV 0 S.2.2.2.2 (gV wg558 wg559 wg560 wg5 wg561) rfl rfl rfl (by decide +kernel) ⟨Nat.le_of_ble_eq_true rfl, Nat.le_of_ble_eq_true rfl⟩) (ci := 11) rfl ha0 h rfl hl.1 rfl (Nat.le_of_ble_eq_true rfl) (dd_at ddX11_areOfOne 6 rfl) ⟨Nat.le_of_ble_eq_true rfl, Nat.le_of_ble_eq_true rfl⟩) (fun r_2 d_1 H locs h hw => ?_)
      refine lv_icmp_ge (tgt := 60) S.1 S.2.1 (dd_at ddX11_areOfOne 7 rfl) (by decide) (fun hc_3 => ?_) (fun hc_3 => ?_)
      · have h := h.1 hc_3
        refine lv_iload_n S.1 S.2.1 (dd_at ddX11_areOfOne 34 rfl) rfl (lv_at hl 3 rfl) ?_
        refine lv_if_eq (tgt := 73) S.1 S.2.1 (dd_at ddX11_areOfOne 35 rfl) (by decide) (fun hc_4 => ?_) (fun hc_4 => ?_)
        · have h := h.1 hc_4
          refine lv_iconst (v := 0) S.1 S.2.1 (dd_at ddX11_areOfOne 41 rfl) (by decide) ?_
          exact e_Z S hr hlocks hw (Or.inl rfl) h (dd_at ddX11_areOfOne 42 rfl)
        · have h := h.2 hc_4
          refine lv_iload_n S.1 S.2.1 (dd_at ddX11_areOfOne 36 rfl) rfl (lv_at hl 1 rfl) ?_
          refine lv_iload_n S.1 S.2.1 (dd_at ddX11_areOfOne 37 rfl) rfl (lv_at hl 2 rfl) ?_
          refine lv_icmp_eq (tgt := 73) S.1 S.2.1 (dd_at ddX11_areOfOne 38 rfl) (by decide) (fun hc_5 => ?_) (fun hc_5 => ?_)
          · have h := h.1 hc_5
            refine lv_iconst (v := 0) S.1 S.2.1 (dd_at ddX11_areOfOne 41 rfl) (by decide) ?_
            exact e_Z S hr hlocks hw (Or.inl rfl) h (dd_at ddX11_areOfOne 42 rfl)
          · have h := h.2 hc_5
            refine lv_iconst (v := 1) S.1 S.2.1 (dd_at ddX11_areOfOne 39 rfl) (by decide) ?_
            refine lv_goto (tgt := 74) S.1 S.2.1 (dd_at ddX11_areOfOne 40 rfl) (by decide) ?_
            exact e_Z S hr hlocks hw (Or.inr rfl) h (dd_at ddX11_areOfOne 42 rfl)
      · have h := h.2 hc_3
        refine lv_iload_n S.1 S.2.1 (dd_at ddX11_areOfOne 8 rfl) rfl (lv_at hl 3 rfl) ?_
        refine lv_if_ne (tgt := 48) S.1 S.2.1 (dd_at ddX11_areOfOne 9 rfl) (by decide) (fun hc_6 => ?_) (fun hc_6 => ?_)
        · have h := h.1 hc_6
          refine lv_iconst (v := 1) S.1 S.2.1 (dd_at ddX11_areOfOne 28 rfl) (by decide) ?_
          refine lv_goto (tgt := 53) S.1 S.2.1 (dd_at ddX11_areOfOne 29 rfl) (by decide) ?_
          refine lv_istore_n (lv' := [(3, .int 1), (0, .ref a0), (1, .int p1), (2, .int p2), (4, .int v4)]) S.1 S.2.1 (dd_at ddX11_areOfOne 31 rfl) rfl hl (by decide) rfl (fun ls hl => ?_)
          refine lv_iinc (v := v4 + 1) (lv' := [(4, .int (v4 + 1)), (3, .int 1), (0, .ref a0), (1, .int p1), (2, .int p2)]) S.1 S.2.1 (dd_at ddX11_areOfOne 32 rfl) hl (k := 4) rfl rfl (by decide) rfl (fun ls hl => ?_)
          refine lv_goto (tgt := 5) S.1 S.2.1 (dd_at ddX11_areOfOne 33 rfl) (by decide) ?_
          exact ih5 1 (v4 + 1) d_1 H locs ls h hw (lv_sub hl [2, 3, 4, 1, 0] rfl)
        · have h := h.2 hc_6
          refine lv_aload_n S.1 S.2.1 (dd_at ddX11_areOfOne 10 rfl) rfl (lv_at hl 0 rfl) ?_
          obtain ⟨b_7, hb_8, ho_9, h⟩ := h
          refine r_getR S hw 11 20 rfl inG11 (by decide) (List.mem_cons_of_mem _ wg162) (by decide) ha0 hb_8 (dd_at ddX11_areOfOne 11 rfl) ?_
          refine lv_bipush (v := 12) S.1 S.2.1 (dd_at ddX11_areOfOne 12 rfl) (by decide) ?_
          refine lv_iload S.1 S.2.1 (dd_at ddX11_areOfOne 13 rfl) (lv_at hl 4 rfl) ?_
          refine lv_imul S.1 S.2.1 (dd_at ddX11_areOfOne 14 rfl) ?_
          refine lv_iload_n S.1 S.2.1 (dd_at ddX11_areOfOne 15 rfl) rfl (lv_at hl 1 rfl) ?_
          refine lv_iadd S.1 S.2.1 (dd_at ddX11_areOfOne 16 rfl) ?_
          obtain ⟨hx_10, h⟩ := h
          refine r_zald S hw ho_9 hx_10 (dd_at ddX11_areOfOne 17 rfl) ?_
          refine lv_if_eq (tgt := 52) S.1 S.2.1 (dd_at ddX11_areOfOne 18 rfl) (by decide) (fun hc_11 => ?_) (fun hc_11 => ?_)
          · have h := h.1 hc_11
            refine lv_iconst (v := 0) S.1 S.2.1 (dd_at ddX11_areOfOne 30 rfl) (by decide) ?_
            refine lv_istore_n (lv' := [(3, .int 0), (0, .ref a0), (1, .int p1), (2, .int p2), (4, .int v4)]) S.1 S.2.1 (dd_at ddX11_areOfOne 31 rfl) rfl hl (by decide) rfl (fun ls hl => ?_)
            refine lv_iinc (v := v4 + 1) (lv' := [(4, .int (v4 + 1)), (3, .int 0), (0, .ref a0), (1, .int p1), (2, .int p2)]) S.1 S.2.1 (dd_at ddX11_areOfOne 32 rfl) hl (k := 4) rfl rfl (by decide) rfl (fun ls hl => ?_)
            refine lv_goto (tgt := 5) S.1 S.2.1 (dd_at ddX11_areOfOne 33 rfl) (by decide) ?_
            exact ih5 0 (v4 + 1) d_1 H locs ls h hw (lv_sub hl [2, 3, 4, 1, 0] rfl)
          · have h := h.2 hc_11
            refine lv_aload_n S.1 S.2.1 (dd_at ddX11_areOfOne 19 rfl) rfl (lv_at hl 0 rfl) ?_
            obtain ⟨b_12, hb_13, ho_14, h⟩ := h
            refine r_getR S hw 11 20 rfl inG11 (by decide) (List.mem_cons_of_mem _ wg162) (by decide) ha0 hb_13 (dd_at ddX11_areOfOne 20 rfl) ?_
            refine lv_bipush (v := 12) S.1 S.2.1 (dd_at ddX11_areOfOne 21 rfl) (by decide) ?_
            refine lv_iload S.1 S.2.1 (dd_at ddX11_areOfOne 22 rfl) (lv_at hl 4 rfl) ?_
            refine lv_imul S.1 S.2.1 (dd_at ddX11_areOfOne 23 rfl) ?_
            refine lv_iload_n S.1 S.2.1 (dd_at ddX11_areOfOne 24 rfl) rfl (lv_at hl 2 rfl) ?_
            refine lv_iadd S.1 S.2.1 (dd_at ddX11_areOfOne 25 rfl) ?_
            obtain ⟨hx_15, h⟩ := h
            refine r_zald S hw ho_14 hx_15 (dd_at ddX11_areOfOne 26 rfl) ?_
            refine lv_if_eq (tgt := 52) S.1 S.2.1 (dd_at ddX11_areOfOne 27 rfl) (by decide) (fun hc_16 => ?_) (fun hc_16 => ?_)
            · have h := h.1 hc_16
              refine lv_iconst (v := 0) S.1 S.2.1 (dd_at ddX11_areOfOne 30 rfl) (by decide) ?_
              refine lv_istore_n (lv' := [(3, .int 0), (0, .ref a0), (1, .int p1), (2, .int p2), (4, .int v4)]) S.1 S.2.1 (dd_at ddX11_areOfOne 31 rfl) rfl hl (by decide) rfl (fun ls hl => ?_)
              refine lv_iinc (v := v4 + 1) (lv' := [(4, .int (v4 + 1)), (3, .int 0), (0, .ref a0), (1, .int p1), (2, .int p2)]) S.1 S.2.1 (dd_at ddX11_areOfOne 32 rfl) hl (k := 4) rfl rfl (by decide) rfl (fun ls hl => ?_)
              refine lv_goto (tgt := 5) S.1 S.2.1 (dd_at ddX11_areOfOne 33 rfl) (by decide) ?_
              exact ih5 0 (v4 + 1) d_1 H locs ls h hw (lv_sub hl [2, 3, 4, 1, 0] rfl)
            · have h := h.2 hc_16
              refine lv_iconst (v := 1) S.1 S.2.1 (dd_at ddX11_areOfOne 28 rfl) (by decide) ?_
              refine lv_goto (tgt := 53) S.1 S.2.1 (dd_at ddX11_areOfOne 29 rfl) (by decide) ?_
              refine lv_istore_n (lv' := [(3, .int 1), (0, .ref a0), (1, .int p1), (2, .int p2), (4, .int v4)]) S.1 S.2.1 (dd_at ddX11_areOfOne 31 rfl) rfl hl (by decide) rfl (fun ls hl => ?_)
              refine lv_iinc (v := v4 + 1) (lv' := [(4, .int (v4 + 1)), (3, .int 1), (0, .ref a0), (1, .int p1), (2, .int p2)]) S.1 S.2.1 (dd_at ddX11_areOfOne 32 rfl) hl (k := 4) rfl rfl (by decide) rfl (fun ls hl => ?_)
              refine lv_goto (tgt := 5) S.1 S.2.1 (dd_at ddX11_areOfOne 33 rfl) (by decide) ?_
              exact ih5 1 (v4 + 1) d_1 H locs ls h hw (lv_sub hl [2, 3, 4, 1, 0] rfl)
  refine lv_iconst (v := 0) S.1 S.2.1 (dd_at ddX11_areOfOne 0 rfl) (by decide) ?_
  refine lv_istore_n (lv' := [(3, .int 0), (0, .ref a0), (1, .int p1), (2, .int p2)]) S.1 S.2.1 (dd_at ddX11_areOfOne 1 rfl) rfl hl (by decide) rfl (fun ls hl => ?_)
  refine lv_iconst (v := 0) S.1 S.2.1 (dd_at ddX11_areOfOne 2 rfl) (by decide) ?_
  refine lv_istore (lv' := [(4, .int 0), (3, .int 0), (0, .ref a0), (1, .int p1), (2, .int p2)]) S.1 S.2.1 (dd_at ddX11_areOfOne 3 rfl) hl (by decide) rfl (fun ls hl => ?_)
  obtain ⟨n_17, h⟩ := h
  exact tl5 n_17 0 0 d H locs ls h hw (lv_sub hl [2, 3, 4, 1, 0] rfl)

def b_X11_brotherOf_4 (E : En) (a0 : Nat) (p1 : Int32) (K : Int32 → Dy → Prop) (k4 : Int32 → Int32 → Dy → Prop) (v2 : Int32) (v3 : Int32) (d : Dy) : Prop := w_X11_persons E a0 d (fun r_2 d_1 => ((r_2 ≤ v3 → K v2 d_1) ∧ (¬ r_2 ≤ v3 → ∃ b_4 : Nat, eR E a0 18 = some b_4 ∧ okA E b_4 15 ∧ vp_in v3 (eN E b_4) ∧ (((gA d_1 b_4 (v3).toNatClampNeg) = 0 → k4 v2 (v3 + 1) d_1) ∧ (¬ (gA d_1 b_4 (v3).toNatClampNeg) = 0 → w_X11_areOfOne E a0 p1 v3 d_1 (fun r_10 d_9 => ((r_10 = 0 → k4 v2 (v3 + 1) d_9) ∧ (¬ r_10 = 0 → w_X11_elder E a0 v2 v3 d_9 (fun r_13 d_12 => k4 r_13 (v3 + 1) d_12)))))))))
def l_X11_brotherOf_4 (E : En) (a0 : Nat) (p1 : Int32) (K : Int32 → Dy → Prop) : Nat → Int32 → Int32 → Dy → Prop
  | 0 => fun _ _ _ => False
  | n + 1 => b_X11_brotherOf_4 E a0 p1 K (l_X11_brotherOf_4 E a0 p1 K n)
def w_X11_brotherOf (E : En) (a0 : Nat) (p1 : Int32) (d : Dy) (K : Int32 → Dy → Prop) : Prop := okO E a0 11 ∧ (∃ n_14 : Nat, l_X11_brotherOf_4 E a0 p1 K n_14 (-1) 0 d)
abbrev rm_X11_brotherOf : Room := { frames := 2, cells := 0, slots := 0, locals := 44 }
set_option maxRecDepth 100000 in
set_option maxHeartbeats 4000000 in
theorem m_X11_brotherOf (l : Launch) (D : va_G) (cs : Nat → ClassId) (E : En) (d : Dy) (sz : Nat) (a0 : Nat) (p1 : Int32) (K : Int32 → Dy → Prop) : CI l yX11_brotherOf (.code yX11_brotherOf cX11_brotherOf 4 (some .int) :: wsL_law) rm_X11_brotherOf D cs E d sz [.ref a0, .int p1] (w_X11_brotherOf E a0 p1 d K) K := by
  refine e_of (cc := cX11_brotherOf) (maxL := 4) (ret := (some .int)) (own := RX11) (by decide) rfl rfl (Nat.le_of_ble_eq_true rfl) ?_
  intro p e s m below meth c S hr hlocks hsz H locs hw h ls hl
  have hl : lv_has ls 4 [(0, .ref a0), (1, .int p1)] := hl
  unfold w_X11_brotherOf at h
  obtain ⟨ha0, h⟩ := h
  have tl4 : ∀ (n : Nat) (v2 : Int32) (v3 : Int32) (d : Dy) (H : Heap) (locs : List Loc) (ls : Array Slot), l_X11_brotherOf_4 E a0 p1 K n v2 v3 d → Wd D cs (AW E sz) s.heap s E d H locs → lv_has ls 4 [(0, .ref a0), (1, .int p1), (2, .int v2), (3, .int v3)] → W p l e rm_X11_brotherOf s m ([.ref a0, .int p1] : List Value).toArray below meth c H locs 0 0 (MQ below (va_Qi K (OutW D cs E (AW E sz)) (AW E sz)) ([.ref a0, .int p1] : List Value).toArray s rm_X11_brotherOf.cells rm_X11_brotherOf.slots (AW E sz)) (F0 m 4 ls []) := by
    intro n4
    induction n4 with
    | zero => intro v2 v3 d H locs ls h; exact absurd h id
    | succ n4 ih4 =>
      intro v2 v3 d H locs ls h hw hl
      have h : b_X11_brotherOf_4 E a0 p1 K (l_X11_brotherOf_4 E a0 p1 K n4) v2 v3 d := h
      unfold b_X11_brotherOf_4 at h
      refine lv_iload_n S.1 S.2.1 (dd_at ddX11_brotherOf 4 rfl) rfl (lv_at hl 3 rfl) ?_
      refine lv_aload_n S.1 S.2.1 (dd_at ddX11_brotherOf 5 rfl) rfl (lv_at hl 0 rfl) ?_
      refine r_callI hw (r_runV (As := []) (rest := [.int v3]) S hw (m_X11_persons l D cs E d H.size a0 _) (cwV 0 S.2.2.2.2 (gV wg558 wg559 wg560 wg5 wg561) rfl rfl rfl (by decide +kernel) ⟨Nat.le_of_ble_eq_true rfl, Nat.le_of_ble_eq_true rfl⟩) (ci := 11) rfl ha0 h rfl hl.1 rfl (Nat.le_of_ble_eq_true rfl) (dd_at ddX11_brotherOf 6 rfl) ⟨Nat.le_of_ble_eq_true rfl, Nat.le_of_ble_eq_true rfl⟩) (fun r_2 d_1 H locs h hw => ?_)
      refine lv_icmp_ge (tgt := 43) S.1 S.2.1 (dd_at ddX11_brotherOf 7 rfl) (by decide) (fun hc_3 => ?_) (fun hc_3 => ?_)
      · have h := h.1 hc_3
        refine lv_iload_n S.1 S.2.1 (dd_at ddX11_brotherOf 25 rfl) rfl (lv_at hl 2 rfl) ?_
        exact e_I S hr hlocks hw h (dd_at ddX11_brotherOf 26 rfl)
      · have h := h.2 hc_3
        refine lv_aload_n S.1 S.2.1 (dd_at ddX11_brotherOf 8 rfl) rfl (lv_at hl 0 rfl) ?_
        obtain ⟨b_4, hb_5, ho_6, h⟩ := h
        refine r_getR S hw 11 18 rfl inG11 (by decide) (List.mem_cons_of_mem _ wg160) (by decide) ha0 hb_5 (dd_at ddX11_brotherOf 9 rfl) ?_
        refine lv_iload_n S.1 S.2.1 (dd_at ddX11_brotherOf 10 rfl) rfl (lv_at hl 3 rfl) ?_
        obtain ⟨hx_7, h⟩ := h
        refine r_zald S hw ho_6 hx_7 (dd_at ddX11_brotherOf 11 rfl) ?_
        refine lv_if_eq (tgt := 37) S.1 S.2.1 (dd_at ddX11_brotherOf 12 rfl) (by decide) (fun hc_8 => ?_) (fun hc_8 => ?_)
        · have h := h.1 hc_8
          refine lv_iinc (v := v3 + 1) (lv' := [(3, .int (v3 + 1)), (0, .ref a0), (1, .int p1), (2, .int v2)]) S.1 S.2.1 (dd_at ddX11_brotherOf 23 rfl) hl (k := 3) rfl rfl (by decide) rfl (fun ls hl => ?_)
          refine lv_goto (tgt := 4) S.1 S.2.1 (dd_at ddX11_brotherOf 24 rfl) (by decide) ?_
          exact ih4 v2 (v3 + 1) d_1 H locs ls h hw (lv_sub hl [1, 2, 3, 0] rfl)
        · have h := h.2 hc_8
          refine lv_aload_n S.1 S.2.1 (dd_at ddX11_brotherOf 13 rfl) rfl (lv_at hl 0 rfl) ?_
          refine lv_iload_n S.1 S.2.1 (dd_at ddX11_brotherOf 14 rfl) rfl (lv_at hl 1 rfl) ?_
          refine lv_iload_n S.1 S.2.1 (dd_at ddX11_brotherOf 15 rfl) rfl (lv_at hl 3 rfl) ?_
          refine r_callI hw (r_runV (As := [.int p1, .int v3]) (rest := []) S hw (m_X11_areOfOne l D cs E d_1 H.size a0 p1 v3 _) (cwV 2 S.2.2.2.2 (gV wg884 wg885 wg886 wg5 wg887) rfl rfl rfl (by decide +kernel) ⟨Nat.le_of_ble_eq_true rfl, Nat.le_of_ble_eq_true rfl⟩) (ci := 11) rfl ha0 h rfl hl.1 rfl (Nat.le_of_ble_eq_true rfl) (dd_at ddX11_brotherOf 16 rfl) ⟨Nat.le_of_ble_eq_true rfl, Nat.le_of_ble_eq_true rfl⟩) (fun r_10 d_9 H locs h hw => ?_)
          refine lv_if_eq (tgt := 37) S.1 S.2.1 (dd_at ddX11_brotherOf 17 rfl) (by decide) (fun hc_11 => ?_) (fun hc_11 => ?_)
          · have h := h.1 hc_11
            refine lv_iinc (v := v3 + 1) (lv' := [(3, .int (v3 + 1)), (0, .ref a0), (1, .int p1), (2, .int v2)]) S.1 S.2.1 (dd_at ddX11_brotherOf 23 rfl) hl (k := 3) rfl rfl (by decide) rfl (fun ls hl => ?_)
            refine lv_goto (tgt := 4) S.1 S.2.1 (dd_at ddX11_brotherOf 24 rfl) (by decide) ?_
            exact ih4 v2 (v3 + 1) d_9 H locs ls h hw (lv_sub hl [1, 2, 3, 0] rfl)
          · have h := h.2 hc_11
            refine lv_aload_n S.1 S.2.1 (dd_at ddX11_brotherOf 18 rfl) rfl (lv_at hl 0 rfl) ?_
            refine lv_iload_n S.1 S.2.1 (dd_at ddX11_brotherOf 19 rfl) rfl (lv_at hl 2 rfl) ?_
            refine lv_iload_n S.1 S.2.1 (dd_at ddX11_brotherOf 20 rfl) rfl (lv_at hl 3 rfl) ?_
            refine r_callI hw (r_runV (As := [.int v2, .int v3]) (rest := []) S hw (m_X11_elder l D cs E d_9 H.size a0 v2 v3 _) (cwV 2 S.2.2.2.2 (gV wg872 wg873 wg874 wg5 wg875) rfl rfl rfl (by decide +kernel) ⟨Nat.le_of_ble_eq_true rfl, Nat.le_of_ble_eq_true rfl⟩) (ci := 11) rfl ha0 h rfl hl.1 rfl (Nat.le_of_ble_eq_true rfl) (dd_at ddX11_brotherOf 21 rfl) ⟨Nat.le_of_ble_eq_true rfl, Nat.le_of_ble_eq_true rfl⟩) (fun r_13 d_12 H locs h hw => ?_)
            refine lv_istore_n (lv' := [(2, .int r_13), (0, .ref a0), (1, .int p1), (3, .int v3)]) S.1 S.2.1 (dd_at ddX11_brotherOf 22 rfl) rfl hl (by decide) rfl (fun ls hl => ?_)
            refine lv_iinc (v := v3 + 1) (lv' := [(3, .int (v3 + 1)), (2, .int r_13), (0, .ref a0), (1, .int p1)]) S.1 S.2.1 (dd_at ddX11_brotherOf 23 rfl) hl (k := 3) rfl rfl (by decide) rfl (fun ls hl => ?_)
            refine lv_goto (tgt := 4) S.1 S.2.1 (dd_at ddX11_brotherOf 24 rfl) (by decide) ?_
            exact ih4 r_13 (v3 + 1) d_12 H locs ls h hw (lv_sub hl [2, 3, 1, 0] rfl)
  refine lv_iconst (v := -1) S.1 S.2.1 (dd_at ddX11_brotherOf 0 rfl) (by decide) ?_
  refine lv_istore_n (lv' := [(2, .int (-1)), (0, .ref a0), (1, .int p1)]) S.1 S.2.1 (dd_at ddX11_brotherOf 1 rfl) rfl hl (by decide) rfl (fun ls hl => ?_)
  refine lv_iconst (v := 0) S.1 S.2.1 (dd_at ddX11_brotherOf 2 rfl) (by decide) ?_
  refine lv_istore_n (lv' := [(3, .int 0), (2, .int (-1)), (0, .ref a0), (1, .int p1)]) S.1 S.2.1 (dd_at ddX11_brotherOf 3 rfl) rfl hl (by decide) rfl (fun ls hl => ?_)
  obtain ⟨n_14, h⟩ := h
  exact tl4 n_14 (-1) 0 d H locs ls h hw (lv_sub hl [2, 3, 1, 0] rfl)

def b_X11_heirOf_170 (E : En) (a0 : Nat) (p1 : Int32) (p2 : Int32) (p3 : Int32) (K : Int32 → Dy → Prop) (k84 : Int32 → Dy → Prop) (v4 : Int32) (s0 : Int32) (d : Dy) : Prop := ((s0 < 0 → k84 (v4 + 1) d) ∧ (¬ s0 < 0 → K s0 d))
def b_X11_heirOf_84 (E : En) (a0 : Nat) (p1 : Int32) (p2 : Int32) (p3 : Int32) (K : Int32 → Dy → Prop) (k84 : Int32 → Dy → Prop) (v4 : Int32) (d : Dy) : Prop := ∃ b_2 : Nat, eR E a0 1 = some b_2 ∧ okA E b_2 13 ∧ w_X11_textAt E 0 d (fun r_6 d_5 => vp_in r_6 (eN E b_2) ∧ (((gA d_5 b_2 (r_6).toNatClampNeg) ≤ v4 → K (-1) d_5) ∧ (¬ (gA d_5 b_2 (r_6).toNatClampNeg) ≤ v4 → w_X11_holdsLine E a0 0 v4 d_5 (fun r_10 d_9 => ((¬ r_10 = 0 → ∃ b_12 : Nat, eR E a0 1 = some b_12 ∧ okA E b_12 13 ∧ w_X11_lineAt E 0 v4 d_9 (fun r_16 d_15 => vp_in r_16 (eN E b_12) ∧ ((¬ (gA d_15 b_12 (r_16).toNatClampNeg) = 0 → ((¬ (gA d_15 b_12 (r_16).toNatClampNeg) = 1 → ((¬ (gA d_15 b_12 (r_16).toNatClampNeg) = 2 → w_X11_brotherOf E a0 p1 d_15 (fun r_22 d_21 => b_X11_heirOf_170 E a0 p1 p2 p3 K k84 v4 r_22 d_21)) ∧ ((gA d_15 b_12 (r_16).toNatClampNeg) = 2 → w_X11_parentOf E a0 p1 d_15 (fun r_24 d_23 => b_X11_heirOf_170 E a0 p1 p2 p3 K k84 v4 r_24 d_23)))) ∧ ((gA d_15 b_12 (r_16).toNatClampNeg) = 1 → w_X11_eldestOf E a0 p1 d_15 (fun r_26 d_25 => b_X11_heirOf_170 E a0 p1 p2 p3 K k84 v4 r_26 d_25)))) ∧ ((gA d_15 b_12 (r_16).toNatClampNeg) = 0 → w_X11_spouseOf E a0 p1 d_15 (fun r_28 d_27 => b_X11_heirOf_170 E a0 p1 p2 p3 K k84 v4 r_28 d_27))))) ∧ (r_10 = 0 → k84 (v4 + 1) d_9))))))
def l_X11_heirOf_84 (E : En) (a0 : Nat) (p1 : Int32) (p2 : Int32) (p3 : Int32) (K : Int32 → Dy → Prop) : Nat → Int32 → Dy → Prop
  | 0 => fun _ _ => False
  | n + 1 => b_X11_heirOf_84 E a0 p1 p2 p3 K (l_X11_heirOf_84 E a0 p1 p2 p3 K n)
def w_X11_heirOf (E : En) (a0 : Nat) (p1 : Int32) (p2 : Int32) (p3 : Int32) (d : Dy) (K : Int32 → Dy → Prop) : Prop := okO E a0 11 ∧ ∃ b_29 : Nat, eR E a0 1 = some b_29 ∧ okA E b_29 13 ∧ vp_in 10 (eN E b_29) ∧ ((¬ (gA d b_29 ((10 : Int32)).toNatClampNeg) = 0 → ∃ b_34 : Nat, eR E a0 14 = some b_34 ∧ okA E b_34 13 ∧ ∃ b_37 : Nat, eR E a0 22 = some b_37 ∧ okA E b_37 13 ∧ vp_in p2 (eN E b_37) ∧ vp_in 0 (eN E b_34) ∧ ∃ b_42 : Nat, eR E a0 14 = some b_42 ∧ okA E b_42 13 ∧ w_X11_ageOf E a0 p1 p3 (pA d b_34 ((0 : Int32)).toNatClampNeg (p3 - (gA d b_37 (p2).toNatClampNeg))) (fun r_46 d_45 => vp_in 1 (eN E b_42) ∧ ∃ b_48 : Nat, eR E a0 14 = some b_48 ∧ okA E b_48 13 ∧ w_X11_childrenOf E a0 p1 (pA d_45 b_42 ((1 : Int32)).toNatClampNeg r_46) (fun r_52 d_51 => vp_in 2 (eN E b_48) ∧ ∃ b_54 : Nat, eR E a0 14 = some b_54 ∧ okA E b_54 13 ∧ vp_in 3 (eN E b_54) ∧ ∃ b_58 : Nat, eR E a0 14 = some b_58 ∧ okA E b_58 13 ∧ w_X11_ofHut E a0 p2 0 (pA (pA d_51 b_48 ((2 : Int32)).toNatClampNeg r_52) b_54 ((3 : Int32)).toNatClampNeg p3) (fun r_62 d_61 => vp_in 4 (eN E b_58) ∧ ∃ b_64 : Nat, eR E a0 14 = some b_64 ∧ okA E b_64 13 ∧ w_X11_ofPerson E a0 p1 2 (pA d_61 b_58 ((4 : Int32)).toNatClampNeg r_62) (fun r_68 d_67 => vp_in 8 (eN E b_64) ∧ (∃ n_70 : Nat, l_X11_heirOf_84 E a0 p1 p2 p3 K n_70 0 (pA d_67 b_64 ((8 : Int32)).toNatClampNeg r_68))))))) ∧ ((gA d b_29 ((10 : Int32)).toNatClampNeg) = 0 → K (-1) d))
abbrev rm_X11_heirOf : Room := { frames := 3, cells := 0, slots := 0, locals := 70 }
set_option maxRecDepth 100000 in
set_option maxHeartbeats 4000000 in
theorem m_X11_heirOf (l : Launch) (D : va_G) (cs : Nat → ClassId) (E : En) (d : Dy) (sz : Nat) (a0 : Nat) (p1 : Int32) (p2 : Int32) (p3 : Int32) (K : Int32 → Dy → Prop) : CI l yX11_heirOf (.code yX11_heirOf cX11_heirOf 7 (some .int) :: wsL_law) rm_X11_heirOf D cs E d sz [.ref a0, .int p1, .int p2, .int p3] (w_X11_heirOf E a0 p1 p2 p3 d K) K := by
  refine e_of (cc := cX11_heirOf) (maxL := 7) (ret := (some .int)) (own := RX11) (by decide) rfl rfl (Nat.le_of_ble_eq_true rfl) ?_
  intro p e s m below meth c S hr hlocks hsz H locs hw h ls hl
  have hl : lv_has ls 7 [(0, .ref a0), (1, .int p1), (2, .int p2), (3, .int p3)] := hl
  unfold w_X11_heirOf at h
  obtain ⟨ha0, h⟩ := h
  have tl84 : ∀ (n : Nat) (v4 : Int32) (d : Dy) (H : Heap) (locs : List Loc) (ls : Array Slot), l_X11_heirOf_84 E a0 p1 p2 p3 K n v4 d → Wd D cs (AW E sz) s.heap s E d H locs → lv_has ls 7 [(0, .ref a0), (1, .int p1), (4, .int v4)] → W p l e rm_X11_heirOf s m ([.ref a0, .int p1, .int p2, .int p3] : List Value).toArray below meth c H locs 0 0 (MQ below (va_Qi K (OutW D cs E (AW E sz)) (AW E sz)) ([.ref a0, .int p1, .int p2, .int p3] : List Value).toArray s rm_X11_heirOf.cells rm_X11_heirOf.slots (AW E sz)) (F0 m 84 ls []) := by
    intro n84
    induction n84 with
    | zero => intro v4 d H locs ls h; exact absurd h id
    | succ n84 ih84 =>
      have tb170 : ∀ (v4 : Int32) (s0 : Int32) (d : Dy) (H : Heap) (locs : List Loc) (ls : Array Slot), b_X11_heirOf_170 E a0 p1 p2 p3 K (l_X11_heirOf_84 E a0 p1 p2 p3 K n84) v4 s0 d → Wd D cs (AW E sz) s.heap s E d H locs → lv_has ls 7 [(0, .ref a0), (1, .int p1), (4, .int v4)] → W p l e rm_X11_heirOf s m ([.ref a0, .int p1, .int p2, .int p3] : List Value).toArray below meth c H locs 0 0 (MQ below (va_Qi K (OutW D cs E (AW E sz)) (AW E sz)) ([.ref a0, .int p1, .int p2, .int p3] : List Value).toArray s rm_X11_heirOf.cells rm_X11_heirOf.slots (AW E sz)) (F0 m 170 ls [.int s0]) := by
        intro v4 s0 d H locs ls h hw hl
        unfold b_X11_heirOf_170 at h
        refine lv_istore (lv' := [(6, .int s0), (0, .ref a0), (1, .int p1), (4, .int v4)]) S.1 S.2.1 (dd_at ddX11_heirOf 98 rfl) hl (by decide) rfl (fun ls hl => ?_)
        refine lv_iload S.1 S.2.1 (dd_at ddX11_heirOf 99 rfl) (lv_at hl 0 rfl) ?_
        refine lv_if_lt (tgt := 180) S.1 S.2.1 (dd_at ddX11_heirOf 100 rfl) (by decide) (fun hc_1 => ?_) (fun hc_1 => ?_)
        · have h := h.1 hc_1
          refine lv_iinc (v := v4 + 1) (lv' := [(4, .int (v4 + 1)), (6, .int s0), (0, .ref a0), (1, .int p1)]) S.1 S.2.1 (dd_at ddX11_heirOf 103 rfl) hl (k := 3) rfl rfl (by decide) rfl (fun ls hl => ?_)
          refine lv_goto (tgt := 84) S.1 S.2.1 (dd_at ddX11_heirOf 104 rfl) (by decide) ?_
          exact ih84 (v4 + 1) d H locs ls h hw (lv_sub hl [2, 3, 0] rfl)
        · have h := h.2 hc_1
          refine lv_iload S.1 S.2.1 (dd_at ddX11_heirOf 101 rfl) (lv_at hl 0 rfl) ?_
          exact e_I S hr hlocks hw h (dd_at ddX11_heirOf 102 rfl)
      intro v4 d H locs ls h hw hl
      have h : b_X11_heirOf_84 E a0 p1 p2 p3 K (l_X11_heirOf_84 E a0 p1 p2 p3 K n84) v4 d := h
      unfold b_X11_heirOf_84 at h
      refine lv_iload S.1 S.2.1 (dd_at ddX11_heirOf 55 rfl) (lv_at hl 2 rfl) ?_
      refine lv_aload_n S.1 S.2.1 (dd_at ddX11_heirOf 56 rfl) rfl (lv_at hl 0 rfl) ?_
      obtain ⟨b_2, hb_3, ho_4, h⟩ := h
      refine r_getR S hw 11 1 rfl inG11 (by decide) (List.mem_cons_of_mem _ wg150) (by decide) ha0 hb_3 (dd_at ddX11_heirOf 57 rfl) ?_
      refine lv_iconst (v := 0) S.1 S.2.1 (dd_at ddX11_heirOf 58 rfl) (by decide) ?_
      refine r_callI hw (r_runS (As := [.int 0]) (rest := [.ref b_2, .int v4]) S hw (m_X11_textAt l D cs E d H.size 0 _) (va_cwS 1 S.2.2.2.2 (gS wg449 wg450 wg5 wg451) rfl rfl rfl (by decide +kernel) ⟨Nat.le_of_ble_eq_true rfl, Nat.le_of_ble_eq_true rfl⟩) h rfl hl.1 rfl (Nat.le_of_ble_eq_true rfl) (dd_at ddX11_heirOf 59 rfl) ⟨Nat.le_of_ble_eq_true rfl, Nat.le_of_ble_eq_true rfl⟩) (fun r_6 d_5 H locs h hw => ?_)
      obtain ⟨hx_7, h⟩ := h
      refine r_iald S hw ho_4 hx_7 (dd_at ddX11_heirOf 60 rfl) ?_
      refine lv_icmp_ge (tgt := 186) S.1 S.2.1 (dd_at ddX11_heirOf 61 rfl) (by decide) (fun hc_8 => ?_) (fun hc_8 => ?_)
      · have h := h.1 hc_8
        refine lv_iconst (v := -1) S.1 S.2.1 (dd_at ddX11_heirOf 105 rfl) (by decide) ?_
        exact e_I S hr hlocks hw h (dd_at ddX11_heirOf 106 rfl)
      · have h := h.2 hc_8
        refine lv_aload_n S.1 S.2.1 (dd_at ddX11_heirOf 62 rfl) rfl (lv_at hl 0 rfl) ?_
        refine lv_iconst (v := 0) S.1 S.2.1 (dd_at ddX11_heirOf 63 rfl) (by decide) ?_
        refine lv_iload S.1 S.2.1 (dd_at ddX11_heirOf 64 rfl) (lv_at hl 2 rfl) ?_
        refine r_callI hw (r_runV (As := [.int 0, .int v4]) (rest := []) S hw (m_X11_holdsLine l D cs E d_5 H.size a0 0 v4 _) (cwV 2 S.2.2.2.2 (gV wg860 wg861 wg862 wg5 wg863) rfl rfl rfl (by decide +kernel) ⟨Nat.le_of_ble_eq_true rfl, Nat.le_of_ble_eq_true rfl⟩) (ci := 11) rfl ha0 h rfl hl.1 rfl (Nat.le_of_ble_eq_true rfl) (dd_at ddX11_heirOf 65 rfl) ⟨Nat.le_of_ble_eq_true rfl, Nat.le_of_ble_eq_true rfl⟩) (fun r_10 d_9 H locs h hw => ?_)
        refine lv_if_ne (tgt := 111) S.1 S.2.1 (dd_at ddX11_heirOf 66 rfl) (by decide) (fun hc_11 => ?_) (fun hc_11 => ?_)
        · have h := h.1 hc_11
          refine lv_aload_n S.1 S.2.1 (dd_at ddX11_heirOf 68 rfl) rfl (lv_at hl 0 rfl) ?_
          obtain ⟨b_12, hb_13, ho_14, h⟩ := h
          refine r_getR S hw 11 1 rfl inG11 (by decide) (List.mem_cons_of_mem _ wg150) (by decide) ha0 hb_13 (dd_at ddX11_heirOf 69 rfl) ?_
          refine lv_iconst (v := 0) S.1 S.2.1 (dd_at ddX11_heirOf 70 rfl) (by decide) ?_
          refine lv_iload S.1 S.2.1 (dd_at ddX11_heirOf 71 rfl) (lv_at hl 2 rfl) ?_
          refine r_callI hw (r_runS (As := [.int 0, .int v4]) (rest := [.ref b_12]) S hw (m_X11_lineAt l D cs E d_9 H.size 0 v4 _) (va_cwS 2 S.2.2.2.2 (gS wg446 wg447 wg5 wg448) rfl rfl rfl (by decide +kernel) ⟨Nat.le_of_ble_eq_true rfl, Nat.le_of_ble_eq_true rfl⟩) h rfl hl.1 rfl (Nat.le_of_ble_eq_true rfl) (dd_at ddX11_heirOf 72 rfl) ⟨Nat.le_of_ble_eq_true rfl, Nat.le_of_ble_eq_true rfl⟩) (fun r_16 d_15 H locs h hw => ?_)
          obtain ⟨hx_17, h⟩ := h
          refine r_iald S hw ho_14 hx_17 (dd_at ddX11_heirOf 73 rfl) ?_
          refine lv_istore (lv' := [(5, .int (gA d_15 b_12 (r_16).toNatClampNeg)), (0, .ref a0), (1, .int p1), (4, .int v4)]) S.1 S.2.1 (dd_at ddX11_heirOf 74 rfl) hl (by decide) rfl (fun ls hl => ?_)
          refine lv_iload S.1 S.2.1 (dd_at ddX11_heirOf 75 rfl) (lv_at hl 0 rfl) ?_
          refine lv_if_ne (tgt := 137) S.1 S.2.1 (dd_at ddX11_heirOf 76 rfl) (by decide) (fun hc_18 => ?_) (fun hc_18 => ?_)
          · have h := h.1 hc_18
            refine lv_iload S.1 S.2.1 (dd_at ddX11_heirOf 81 rfl) (lv_at hl 0 rfl) ?_
            refine lv_iconst (v := 1) S.1 S.2.1 (dd_at ddX11_heirOf 82 rfl) (by decide) ?_
            refine lv_icmp_ne (tgt := 151) S.1 S.2.1 (dd_at ddX11_heirOf 83 rfl) (by decide) (fun hc_19 => ?_) (fun hc_19 => ?_)
            · have h := h.1 hc_19
              refine lv_iload S.1 S.2.1 (dd_at ddX11_heirOf 88 rfl) (lv_at hl 0 rfl) ?_
              refine lv_iconst (v := 2) S.1 S.2.1 (dd_at ddX11_heirOf 89 rfl) (by decide) ?_
              refine lv_icmp_ne (tgt := 165) S.1 S.2.1 (dd_at ddX11_heirOf 90 rfl) (by decide) (fun hc_20 => ?_) (fun hc_20 => ?_)
              · have h := h.1 hc_20
                refine lv_aload_n S.1 S.2.1 (dd_at ddX11_heirOf 95 rfl) rfl (lv_at hl 1 rfl) ?_
                refine lv_iload_n S.1 S.2.1 (dd_at ddX11_heirOf 96 rfl) rfl (lv_at hl 2 rfl) ?_
                refine r_callI hw (r_runV (As := [.int p1]) (rest := []) S hw (m_X11_brotherOf l D cs E d_15 H.size a0 p1 _) (cwV 1 S.2.2.2.2 (gV wg880 wg881 wg882 wg5 wg883) rfl rfl rfl (by decide +kernel) ⟨Nat.le_of_ble_eq_true rfl, Nat.le_of_ble_eq_true rfl⟩) (ci := 11) rfl ha0 h rfl hl.1 rfl (Nat.le_of_ble_eq_true rfl) (dd_at ddX11_heirOf 97 rfl) ⟨Nat.le_of_ble_eq_true rfl, Nat.le_of_ble_eq_true rfl⟩) (fun r_22 d_21 H locs h hw => ?_)
                exact tb170 v4 r_22 d_21 H locs ls h hw (lv_sub hl [1, 2, 3] rfl)
              · have h := h.2 hc_20
                refine lv_aload_n S.1 S.2.1 (dd_at ddX11_heirOf 91 rfl) rfl (lv_at hl 1 rfl) ?_
                refine lv_iload_n S.1 S.2.1 (dd_at ddX11_heirOf 92 rfl) rfl (lv_at hl 2 rfl) ?_
                refine r_callI hw (r_runV (As := [.int p1]) (rest := []) S hw (m_X11_parentOf l D cs E d_15 H.size a0 p1 _) (cwV 1 S.2.2.2.2 (gV wg876 wg877 wg878 wg5 wg879) rfl rfl rfl (by decide +kernel) ⟨Nat.le_of_ble_eq_true rfl, Nat.le_of_ble_eq_true rfl⟩) (ci := 11) rfl ha0 h rfl hl.1 rfl (Nat.le_of_ble_eq_true rfl) (dd_at ddX11_heirOf 93 rfl) ⟨Nat.le_of_ble_eq_true rfl, Nat.le_of_ble_eq_true rfl⟩) (fun r_24 d_23 H locs h hw => ?_)
                refine lv_goto (tgt := 170) S.1 S.2.1 (dd_at ddX11_heirOf 94 rfl) (by decide) ?_
                exact tb170 v4 r_24 d_23 H locs ls h hw (lv_sub hl [1, 2, 3] rfl)
            · have h := h.2 hc_19
              refine lv_aload_n S.1 S.2.1 (dd_at ddX11_heirOf 84 rfl) rfl (lv_at hl 1 rfl) ?_
              refine lv_iload_n S.1 S.2.1 (dd_at ddX11_heirOf 85 rfl) rfl (lv_at hl 2 rfl) ?_
              refine r_callI hw (r_runV (As := [.int p1]) (rest := []) S hw (m_X11_eldestOf l D cs E d_15 H.size a0 p1 _) (cwV 1 S.2.2.2.2 (gV wg868 wg869 wg870 wg5 wg871) rfl rfl rfl (by decide +kernel) ⟨Nat.le_of_ble_eq_true rfl, Nat.le_of_ble_eq_true rfl⟩) (ci := 11) rfl ha0 h rfl hl.1 rfl (Nat.le_of_ble_eq_true rfl) (dd_at ddX11_heirOf 86 rfl) ⟨Nat.le_of_ble_eq_true rfl, Nat.le_of_ble_eq_true rfl⟩) (fun r_26 d_25 H locs h hw => ?_)
              refine lv_goto (tgt := 170) S.1 S.2.1 (dd_at ddX11_heirOf 87 rfl) (by decide) ?_
              exact tb170 v4 r_26 d_25 H locs ls h hw (lv_sub hl [1, 2, 3] rfl)
          · have h := h.2 hc_18
            refine lv_aload_n S.1 S.2.1 (dd_at ddX11_heirOf 77 rfl) rfl (lv_at hl 1 rfl) ?_
            refine lv_iload_n S.1 S.2.1 (dd_at ddX11_heirOf 78 rfl) rfl (lv_at hl 2 rfl) ?_
            refine r_callI hw (r_runV (As := [.int p1]) (rest := []) S hw (m_X11_spouseOf l D cs E d_15 H.size a0 p1 _) (cwV 1 S.2.2.2.2 (gV wg864 wg865 wg866 wg5 wg867) rfl rfl rfl (by decide +kernel) ⟨Nat.le_of_ble_eq_true rfl, Nat.le_of_ble_eq_true rfl⟩) (ci := 11) rfl ha0 h rfl hl.1 rfl (Nat.le_of_ble_eq_true rfl) (dd_at ddX11_heirOf 79 rfl) ⟨Nat.le_of_ble_eq_true rfl, Nat.le_of_ble_eq_true rfl⟩) (fun r_28 d_27 H locs h hw => ?_)
            refine lv_goto (tgt := 170) S.1 S.2.1 (dd_at ddX11_heirOf 80 rfl) (by decide) ?_
            exact tb170 v4 r_28 d_27 H locs ls h hw (lv_sub hl [1, 2, 3] rfl)
        · have h := h.2 hc_11
          refine lv_goto (tgt := 180) S.1 S.2.1 (dd_at ddX11_heirOf 67 rfl) (by decide) ?_
          refine lv_iinc (v := v4 + 1) (lv' := [(4, .int (v4 + 1)), (0, .ref a0), (1, .int p1)]) S.1 S.2.1 (dd_at ddX11_heirOf 103 rfl) hl (k := 2) rfl rfl (by decide) rfl (fun ls hl => ?_)
          refine lv_goto (tgt := 84) S.1 S.2.1 (dd_at ddX11_heirOf 104 rfl) (by decide) ?_
          exact ih84 (v4 + 1) d_9 H locs ls h hw (lv_sub hl [1, 2, 0] rfl)
  refine lv_aload_n S.1 S.2.1 (dd_at ddX11_heirOf 0 rfl) rfl (lv_at hl 0 rfl) ?_
  obtain ⟨b_29, hb_30, ho_31, h⟩ := h
  refine r_getR S hw 11 1 rfl inG11 (by decide) (List.mem_cons_of_mem _ wg150) (by decide) ha0 hb_30 (dd_at ddX11_heirOf 1 rfl) ?_
  refine lv_bipush (v := 10) S.1 S.2.1 (dd_at ddX11_heirOf 2 rfl) (by decide) ?_
  obtain ⟨hx_32, h⟩ := h
  refine r_iald S hw ho_31 hx_32 (dd_at ddX11_heirOf 3 rfl) ?_
  refine lv_if_ne (tgt := 12) S.1 S.2.1 (dd_at ddX11_heirOf 4 rfl) (by decide) (fun hc_33 => ?_) (fun hc_33 => ?_)
  · have h := h.1 hc_33
    refine lv_aload_n S.1 S.2.1 (dd_at ddX11_heirOf 7 rfl) rfl (lv_at hl 0 rfl) ?_
    obtain ⟨b_34, hb_35, ho_36, h⟩ := h
    refine r_getR S hw 11 14 rfl inG11 (by decide) (List.mem_cons_of_mem _ wg156) (by decide) ha0 hb_35 (dd_at ddX11_heirOf 8 rfl) ?_
    refine lv_iconst (v := 0) S.1 S.2.1 (dd_at ddX11_heirOf 9 rfl) (by decide) ?_
    refine lv_iload_n S.1 S.2.1 (dd_at ddX11_heirOf 10 rfl) rfl (lv_at hl 3 rfl) ?_
    refine lv_aload_n S.1 S.2.1 (dd_at ddX11_heirOf 11 rfl) rfl (lv_at hl 0 rfl) ?_
    obtain ⟨b_37, hb_38, ho_39, h⟩ := h
    refine r_getR S hw 11 22 rfl inG11 (by decide) (List.mem_cons_of_mem _ wg164) (by decide) ha0 hb_38 (dd_at ddX11_heirOf 12 rfl) ?_
    refine lv_iload_n S.1 S.2.1 (dd_at ddX11_heirOf 13 rfl) rfl (lv_at hl 2 rfl) ?_
    obtain ⟨hx_40, h⟩ := h
    refine r_iald S hw ho_39 hx_40 (dd_at ddX11_heirOf 14 rfl) ?_
    refine lv_isub S.1 S.2.1 (dd_at ddX11_heirOf 15 rfl) ?_
    obtain ⟨hx_41, h⟩ := h
    refine r_iast S hw ho_36 hx_41 (dd_at ddX11_heirOf 16 rfl) (fun H locs hw => ?_)
    refine lv_aload_n S.1 S.2.1 (dd_at ddX11_heirOf 17 rfl) rfl (lv_at hl 0 rfl) ?_
    obtain ⟨b_42, hb_43, ho_44, h⟩ := h
    refine r_getR S hw 11 14 rfl inG11 (by decide) (List.mem_cons_of_mem _ wg156) (by decide) ha0 hb_43 (dd_at ddX11_heirOf 18 rfl) ?_
    refine lv_iconst (v := 1) S.1 S.2.1 (dd_at ddX11_heirOf 19 rfl) (by decide) ?_
    refine lv_aload_n S.1 S.2.1 (dd_at ddX11_heirOf 20 rfl) rfl (lv_at hl 0 rfl) ?_
    refine lv_iload_n S.1 S.2.1 (dd_at ddX11_heirOf 21 rfl) rfl (lv_at hl 1 rfl) ?_
    refine lv_iload_n S.1 S.2.1 (dd_at ddX11_heirOf 22 rfl) rfl (lv_at hl 3 rfl) ?_
    refine r_callI hw (r_runV (As := [.int p1, .int p3]) (rest := [.int 1, .ref b_42]) S hw (m_X11_ageOf l D cs E (pA d b_34 ((0 : Int32)).toNatClampNeg (p3 - (gA d b_37 (p2).toNatClampNeg))) H.size a0 p1 p3 _) (cwV 2 S.2.2.2.2 (gV wg843 wg844 wg845 wg5 wg846) rfl rfl rfl (by decide +kernel) ⟨Nat.le_of_ble_eq_true rfl, Nat.le_of_ble_eq_true rfl⟩) (ci := 11) rfl ha0 h rfl hl.1 rfl (Nat.le_of_ble_eq_true rfl) (dd_at ddX11_heirOf 23 rfl) ⟨Nat.le_of_ble_eq_true rfl, Nat.le_of_ble_eq_true rfl⟩) (fun r_46 d_45 H locs h hw => ?_)
    obtain ⟨hx_47, h⟩ := h
    refine r_iast S hw ho_44 hx_47 (dd_at ddX11_heirOf 24 rfl) (fun H locs hw => ?_)
    refine lv_aload_n S.1 S.2.1 (dd_at ddX11_heirOf 25 rfl) rfl (lv_at hl 0 rfl) ?_
    obtain ⟨b_48, hb_49, ho_50, h⟩ := h
    refine r_getR S hw 11 14 rfl inG11 (by decide) (List.mem_cons_of_mem _ wg156) (by decide) ha0 hb_49 (dd_at ddX11_heirOf 26 rfl) ?_
    refine lv_iconst (v := 2) S.1 S.2.1 (dd_at ddX11_heirOf 27 rfl) (by decide) ?_
    refine lv_aload_n S.1 S.2.1 (dd_at ddX11_heirOf 28 rfl) rfl (lv_at hl 0 rfl) ?_
    refine lv_iload_n S.1 S.2.1 (dd_at ddX11_heirOf 29 rfl) rfl (lv_at hl 1 rfl) ?_
    refine r_callI hw (r_runV (As := [.int p1]) (rest := [.int 2, .ref b_48]) S hw (m_X11_childrenOf l D cs E (pA d_45 b_42 ((1 : Int32)).toNatClampNeg r_46) H.size a0 p1 _) (cwV 1 S.2.2.2.2 (gV wg852 wg853 wg854 wg5 wg855) rfl rfl rfl (by decide +kernel) ⟨Nat.le_of_ble_eq_true rfl, Nat.le_of_ble_eq_true rfl⟩) (ci := 11) rfl ha0 h rfl hl.1 rfl (Nat.le_of_ble_eq_true rfl) (dd_at ddX11_heirOf 30 rfl) ⟨Nat.le_of_ble_eq_true rfl, Nat.le_of_ble_eq_true rfl⟩) (fun r_52 d_51 H locs h hw => ?_)
    obtain ⟨hx_53, h⟩ := h
    refine r_iast S hw ho_50 hx_53 (dd_at ddX11_heirOf 31 rfl) (fun H locs hw => ?_)
    refine lv_aload_n S.1 S.2.1 (dd_at ddX11_heirOf 32 rfl) rfl (lv_at hl 0 rfl) ?_
    obtain ⟨b_54, hb_55, ho_56, h⟩ := h
    refine r_getR S hw 11 14 rfl inG11 (by decide) (List.mem_cons_of_mem _ wg156) (by decide) ha0 hb_55 (dd_at ddX11_heirOf 33 rfl) ?_
    refine lv_iconst (v := 3) S.1 S.2.1 (dd_at ddX11_heirOf 34 rfl) (by decide) ?_
    refine lv_iload_n S.1 S.2.1 (dd_at ddX11_heirOf 35 rfl) rfl (lv_at hl 3 rfl) ?_
    obtain ⟨hx_57, h⟩ := h
    refine r_iast S hw ho_56 hx_57 (dd_at ddX11_heirOf 36 rfl) (fun H locs hw => ?_)
    refine lv_aload_n S.1 S.2.1 (dd_at ddX11_heirOf 37 rfl) rfl (lv_at hl 0 rfl) ?_
    obtain ⟨b_58, hb_59, ho_60, h⟩ := h
    refine r_getR S hw 11 14 rfl inG11 (by decide) (List.mem_cons_of_mem _ wg156) (by decide) ha0 hb_59 (dd_at ddX11_heirOf 38 rfl) ?_
    refine lv_iconst (v := 4) S.1 S.2.1 (dd_at ddX11_heirOf 39 rfl) (by decide) ?_
    refine lv_aload_n S.1 S.2.1 (dd_at ddX11_heirOf 40 rfl) rfl (lv_at hl 0 rfl) ?_
    refine lv_iload_n S.1 S.2.1 (dd_at ddX11_heirOf 41 rfl) rfl (lv_at hl 2 rfl) ?_
    refine lv_iconst (v := 0) S.1 S.2.1 (dd_at ddX11_heirOf 42 rfl) (by decide) ?_
    refine r_callI hw (r_runV (As := [.int p2, .int 0]) (rest := [.int 4, .ref b_58]) S hw (m_X11_ofHut l D cs E (pA (pA d_51 b_48 ((2 : Int32)).toNatClampNeg r_52) b_54 ((3 : Int32)).toNatClampNeg p3) H.size a0 p2 0 _) (cwV 2 S.2.2.2.2 (gV wg827 wg828 wg829 wg5 wg830) rfl rfl rfl (by decide +kernel) ⟨Nat.le_of_ble_eq_true rfl, Nat.le_of_ble_eq_true rfl⟩) (ci := 11) rfl ha0 h rfl hl.1 rfl (Nat.le_of_ble_eq_true rfl) (dd_at ddX11_heirOf 43 rfl) ⟨Nat.le_of_ble_eq_true rfl, Nat.le_of_ble_eq_true rfl⟩) (fun r_62 d_61 H locs h hw => ?_)
    obtain ⟨hx_63, h⟩ := h
    refine r_iast S hw ho_60 hx_63 (dd_at ddX11_heirOf 44 rfl) (fun H locs hw => ?_)
    refine lv_aload_n S.1 S.2.1 (dd_at ddX11_heirOf 45 rfl) rfl (lv_at hl 0 rfl) ?_
    obtain ⟨b_64, hb_65, ho_66, h⟩ := h
    refine r_getR S hw 11 14 rfl inG11 (by decide) (List.mem_cons_of_mem _ wg156) (by decide) ha0 hb_65 (dd_at ddX11_heirOf 46 rfl) ?_
    refine lv_bipush (v := 8) S.1 S.2.1 (dd_at ddX11_heirOf 47 rfl) (by decide) ?_
    refine lv_aload_n S.1 S.2.1 (dd_at ddX11_heirOf 48 rfl) rfl (lv_at hl 0 rfl) ?_
    refine lv_iload_n S.1 S.2.1 (dd_at ddX11_heirOf 49 rfl) rfl (lv_at hl 1 rfl) ?_
    refine lv_iconst (v := 2) S.1 S.2.1 (dd_at ddX11_heirOf 50 rfl) (by decide) ?_
    refine r_callI hw (r_runV (As := [.int p1, .int 2]) (rest := [.int 8, .ref b_64]) S hw (m_X11_ofPerson l D cs E (pA d_61 b_58 ((4 : Int32)).toNatClampNeg r_62) H.size a0 p1 2 _) (cwV 2 S.2.2.2.2 (gV wg848 wg849 wg850 wg5 wg851) rfl rfl rfl (by decide +kernel) ⟨Nat.le_of_ble_eq_true rfl, Nat.le_of_ble_eq_true rfl⟩) (ci := 11) rfl ha0 h rfl hl.1 rfl (Nat.le_of_ble_eq_true rfl) (dd_at ddX11_heirOf 51 rfl) ⟨Nat.le_of_ble_eq_true rfl, Nat.le_of_ble_eq_true rfl⟩) (fun r_68 d_67 H locs h hw => ?_)
    obtain ⟨hx_69, h⟩ := h
    refine r_iast S hw ho_66 hx_69 (dd_at ddX11_heirOf 52 rfl) (fun H locs hw => ?_)
    refine lv_iconst (v := 0) S.1 S.2.1 (dd_at ddX11_heirOf 53 rfl) (by decide) ?_
    refine lv_istore (lv' := [(4, .int 0), (0, .ref a0), (1, .int p1), (2, .int p2), (3, .int p3)]) S.1 S.2.1 (dd_at ddX11_heirOf 54 rfl) hl (by decide) rfl (fun ls hl => ?_)
    obtain ⟨n_70, h⟩ := h
    exact tl84 n_70 0 (pA d_67 b_64 ((8 : Int32)).toNatClampNeg r_68) H locs ls h hw (lv_sub hl [1, 2, 0] rfl)
  · have h := h.2 hc_33
    refine lv_iconst (v := -1) S.1 S.2.1 (dd_at ddX11_heirOf 5 rfl) (by decide) ?_
    exact e_I S hr hlocks hw h (dd_at ddX11_heirOf 6 rfl)

def w_X11_comesTo (E : En) (a0 : Nat) (p1 : Int32) (p2 : Int32) (p3 : Int32) (d : Dy) (K : Dy → Prop) : Prop := okO E a0 11 ∧ ∃ b_1 : Nat, eR E a0 21 = some b_1 ∧ okA E b_1 13 ∧ vp_in p1 (eN E b_1) ∧ ∃ b_5 : Nat, eR E a0 22 = some b_5 ∧ okA E b_5 13 ∧ vp_in p1 (eN E b_5) ∧ K (pA (pA d b_1 (p1).toNatClampNeg p2) b_5 (p1).toNatClampNeg p3)
abbrev rm_X11_comesTo : Room := { frames := 0, cells := 0, slots := 0, locals := 0 }
set_option maxRecDepth 100000 in
set_option maxHeartbeats 4000000 in
theorem m_X11_comesTo (l : Launch) (D : va_G) (cs : Nat → ClassId) (E : En) (d : Dy) (sz : Nat) (a0 : Nat) (p1 : Int32) (p2 : Int32) (p3 : Int32) (K : Dy → Prop) : CV l yX11_comesTo (.code yX11_comesTo cX11_comesTo 4 none :: wsL_law) rm_X11_comesTo D cs E d sz [.ref a0, .int p1, .int p2, .int p3] (w_X11_comesTo E a0 p1 p2 p3 d K) K := by
  refine e_of (cc := cX11_comesTo) (maxL := 4) (ret := none) (own := RX11) (by decide) rfl rfl (Nat.le_of_ble_eq_true rfl) ?_
  intro p e s m below meth c S hr hlocks hsz H locs hw h ls hl
  have hl : lv_has ls 4 [(0, .ref a0), (1, .int p1), (2, .int p2), (3, .int p3)] := hl
  unfold w_X11_comesTo at h
  obtain ⟨ha0, h⟩ := h
  refine lv_aload_n S.1 S.2.1 (dd_at ddX11_comesTo 0 rfl) rfl (lv_at hl 0 rfl) ?_
  obtain ⟨b_1, hb_2, ho_3, h⟩ := h
  refine r_getR S hw 11 21 rfl inG11 (by decide) (List.mem_cons_of_mem _ wg163) (by decide) ha0 hb_2 (dd_at ddX11_comesTo 1 rfl) ?_
  refine lv_iload_n S.1 S.2.1 (dd_at ddX11_comesTo 2 rfl) rfl (lv_at hl 1 rfl) ?_
  refine lv_iload_n S.1 S.2.1 (dd_at ddX11_comesTo 3 rfl) rfl (lv_at hl 2 rfl) ?_
  obtain ⟨hx_4, h⟩ := h
  refine r_iast S hw ho_3 hx_4 (dd_at ddX11_comesTo 4 rfl) (fun H locs hw => ?_)
  refine lv_aload_n S.1 S.2.1 (dd_at ddX11_comesTo 5 rfl) rfl (lv_at hl 0 rfl) ?_
  obtain ⟨b_5, hb_6, ho_7, h⟩ := h
  refine r_getR S hw 11 22 rfl inG11 (by decide) (List.mem_cons_of_mem _ wg164) (by decide) ha0 hb_6 (dd_at ddX11_comesTo 6 rfl) ?_
  refine lv_iload_n S.1 S.2.1 (dd_at ddX11_comesTo 7 rfl) rfl (lv_at hl 1 rfl) ?_
  refine lv_iload_n S.1 S.2.1 (dd_at ddX11_comesTo 8 rfl) rfl (lv_at hl 3 rfl) ?_
  obtain ⟨hx_8, h⟩ := h
  refine r_iast S hw ho_7 hx_8 (dd_at ddX11_comesTo 9 rfl) (fun H locs hw => ?_)
  exact e_V S hr hlocks hw h (dd_at ddX11_comesTo 10 rfl)

def b_X11_dies_9 (E : En) (a0 : Nat) (p1 : Int32) (p2 : Int32) (K : Dy → Prop) (k9 : Int32 → Dy → Prop) (v3 : Int32) (d : Dy) : Prop := w_X11_huts E a0 d (fun r_2 d_1 => ((r_2 ≤ v3 → K d_1) ∧ (¬ r_2 ≤ v3 → ∃ b_4 : Nat, eR E a0 21 = some b_4 ∧ okA E b_4 13 ∧ vp_in v3 (eN E b_4) ∧ (((gA d_1 b_4 (v3).toNatClampNeg) = p1 → w_X11_heirOf E a0 p1 v3 p2 d_1 (fun r_10 d_9 => ∃ b_11 : Nat, eR E a0 21 = some b_11 ∧ okA E b_11 13 ∧ vp_in v3 (eN E b_11) ∧ ((r_10 < 0 → k9 (v3 + 1) (pA d_9 b_11 (v3).toNatClampNeg (-1))) ∧ (¬ r_10 < 0 → w_X11_comesTo E a0 v3 r_10 p2 (pA d_9 b_11 (v3).toNatClampNeg (-1)) (fun d_16 => k9 (v3 + 1) d_16))))) ∧ (¬ (gA d_1 b_4 (v3).toNatClampNeg) = p1 → k9 (v3 + 1) d_1)))))
def l_X11_dies_9 (E : En) (a0 : Nat) (p1 : Int32) (p2 : Int32) (K : Dy → Prop) : Nat → Int32 → Dy → Prop
  | 0 => fun _ _ => False
  | n + 1 => b_X11_dies_9 E a0 p1 p2 K (l_X11_dies_9 E a0 p1 p2 K n)
def w_X11_dies (E : En) (a0 : Nat) (p1 : Int32) (p2 : Int32) (d : Dy) (K : Dy → Prop) : Prop := okO E a0 11 ∧ ∃ b_18 : Nat, eR E a0 18 = some b_18 ∧ okA E b_18 15 ∧ vp_in p1 (eN E b_18) ∧ (∃ n_22 : Nat, l_X11_dies_9 E a0 p1 p2 K n_22 0 (pA d b_18 (p1).toNatClampNeg (vp_nar .boolean 0)))
abbrev rm_X11_dies : Room := { frames := 4, cells := 0, slots := 0, locals := 96 }
set_option maxRecDepth 100000 in
set_option maxHeartbeats 4000000 in
theorem m_X11_dies (l : Launch) (D : va_G) (cs : Nat → ClassId) (E : En) (d : Dy) (sz : Nat) (a0 : Nat) (p1 : Int32) (p2 : Int32) (K : Dy → Prop) : CV l yX11_dies (.code yX11_dies cX11_dies 5 none :: wsL_law) rm_X11_dies D cs E d sz [.ref a0, .int p1, .int p2] (w_X11_dies E a0 p1 p2 d K) K := by
  refine e_of (cc := cX11_dies) (maxL := 5) (ret := none) (own := RX11) (by decide) rfl rfl (Nat.le_of_ble_eq_true rfl) ?_
  intro p e s m below meth c S hr hlocks hsz H locs hw h ls hl
  have hl : lv_has ls 5 [(0, .ref a0), (1, .int p1), (2, .int p2)] := hl
  unfold w_X11_dies at h
  obtain ⟨ha0, h⟩ := h
  have tl9 : ∀ (n : Nat) (v3 : Int32) (d : Dy) (H : Heap) (locs : List Loc) (ls : Array Slot), l_X11_dies_9 E a0 p1 p2 K n v3 d → Wd D cs (AW E sz) s.heap s E d H locs → lv_has ls 5 [(0, .ref a0), (1, .int p1), (2, .int p2), (3, .int v3)] → W p l e rm_X11_dies s m ([.ref a0, .int p1, .int p2] : List Value).toArray below meth c H locs 0 0 (MQ below (va_Qv K (OutW D cs E (AW E sz)) (AW E sz)) ([.ref a0, .int p1, .int p2] : List Value).toArray s rm_X11_dies.cells rm_X11_dies.slots (AW E sz)) (F0 m 9 ls []) := by
    intro n9
    induction n9 with
    | zero => intro v3 d H locs ls h; exact absurd h id
    | succ n9 ih9 =>
      intro v3 d H locs ls h hw hl
      have h : b_X11_dies_9 E a0 p1 p2 K (l_X11_dies_9 E a0 p1 p2 K n9) v3 d := h
      unfold b_X11_dies_9 at h
      refine lv_iload_n S.1 S.2.1 (dd_at ddX11_dies 7 rfl) rfl (lv_at hl 3 rfl) ?_
      refine lv_aload_n S.1 S.2.1 (dd_at ddX11_dies 8 rfl) rfl (lv_at hl 0 rfl) ?_
      refine r_callI hw (r_runV (As := []) (rest := [.int v3]) S hw (m_X11_huts l D cs E d H.size a0 _) (cwV 0 S.2.2.2.2 (gV wg596 wg597 wg598 wg5 wg599) rfl rfl rfl (by decide +kernel) ⟨Nat.le_of_ble_eq_true rfl, Nat.le_of_ble_eq_true rfl⟩) (ci := 11) rfl ha0 h rfl hl.1 rfl (Nat.le_of_ble_eq_true rfl) (dd_at ddX11_dies 9 rfl) ⟨Nat.le_of_ble_eq_true rfl, Nat.le_of_ble_eq_true rfl⟩) (fun r_2 d_1 H locs h hw => ?_)
      refine lv_icmp_ge (tgt := 65) S.1 S.2.1 (dd_at ddX11_dies 10 rfl) (by decide) (fun hc_3 => ?_) (fun hc_3 => ?_)
      · have h := h.1 hc_3
        exact e_V S hr hlocks hw h (dd_at ddX11_dies 38 rfl)
      · have h := h.2 hc_3
        refine lv_aload_n S.1 S.2.1 (dd_at ddX11_dies 11 rfl) rfl (lv_at hl 0 rfl) ?_
        obtain ⟨b_4, hb_5, ho_6, h⟩ := h
        refine r_getR S hw 11 21 rfl inG11 (by decide) (List.mem_cons_of_mem _ wg163) (by decide) ha0 hb_5 (dd_at ddX11_dies 12 rfl) ?_
        refine lv_iload_n S.1 S.2.1 (dd_at ddX11_dies 13 rfl) rfl (lv_at hl 3 rfl) ?_
        obtain ⟨hx_7, h⟩ := h
        refine r_iald S hw ho_6 hx_7 (dd_at ddX11_dies 14 rfl) ?_
        refine lv_iload_n S.1 S.2.1 (dd_at ddX11_dies 15 rfl) rfl (lv_at hl 1 rfl) ?_
        refine lv_icmp_eq (tgt := 30) S.1 S.2.1 (dd_at ddX11_dies 16 rfl) (by decide) (fun hc_8 => ?_) (fun hc_8 => ?_)
        · have h := h.1 hc_8
          refine lv_aload_n S.1 S.2.1 (dd_at ddX11_dies 18 rfl) rfl (lv_at hl 0 rfl) ?_
          refine lv_iload_n S.1 S.2.1 (dd_at ddX11_dies 19 rfl) rfl (lv_at hl 1 rfl) ?_
          refine lv_iload_n S.1 S.2.1 (dd_at ddX11_dies 20 rfl) rfl (lv_at hl 3 rfl) ?_
          refine lv_iload_n S.1 S.2.1 (dd_at ddX11_dies 21 rfl) rfl (lv_at hl 2 rfl) ?_
          refine r_callI hw (r_runV (As := [.int p1, .int v3, .int p2]) (rest := []) S hw (m_X11_heirOf l D cs E d_1 H.size a0 p1 v3 p2 _) (cwV 3 S.2.2.2.2 (gV wg839 wg840 wg841 wg5 wg842) rfl rfl rfl (by decide +kernel) ⟨Nat.le_of_ble_eq_true rfl, Nat.le_of_ble_eq_true rfl⟩) (ci := 11) rfl ha0 h rfl hl.1 rfl (Nat.le_of_ble_eq_true rfl) (dd_at ddX11_dies 22 rfl) ⟨Nat.le_of_ble_eq_true rfl, Nat.le_of_ble_eq_true rfl⟩) (fun r_10 d_9 H locs h hw => ?_)
          refine lv_istore (lv' := [(4, .int r_10), (0, .ref a0), (1, .int p1), (2, .int p2), (3, .int v3)]) S.1 S.2.1 (dd_at ddX11_dies 23 rfl) hl (by decide) rfl (fun ls hl => ?_)
          refine lv_aload_n S.1 S.2.1 (dd_at ddX11_dies 24 rfl) rfl (lv_at hl 1 rfl) ?_
          obtain ⟨b_11, hb_12, ho_13, h⟩ := h
          refine r_getR S hw 11 21 rfl inG11 (by decide) (List.mem_cons_of_mem _ wg163) (by decide) ha0 hb_12 (dd_at ddX11_dies 25 rfl) ?_
          refine lv_iload_n S.1 S.2.1 (dd_at ddX11_dies 26 rfl) rfl (lv_at hl 4 rfl) ?_
          refine lv_iconst (v := -1) S.1 S.2.1 (dd_at ddX11_dies 27 rfl) (by decide) ?_
          obtain ⟨hx_14, h⟩ := h
          refine r_iast S hw ho_13 hx_14 (dd_at ddX11_dies 28 rfl) (fun H locs hw => ?_)
          refine lv_iload S.1 S.2.1 (dd_at ddX11_dies 29 rfl) (lv_at hl 0 rfl) ?_
          refine lv_if_lt (tgt := 59) S.1 S.2.1 (dd_at ddX11_dies 30 rfl) (by decide) (fun hc_15 => ?_) (fun hc_15 => ?_)
          · have h := h.1 hc_15
            refine lv_iinc (v := v3 + 1) (lv' := [(3, .int (v3 + 1)), (4, .int r_10), (0, .ref a0), (1, .int p1), (2, .int p2)]) S.1 S.2.1 (dd_at ddX11_dies 36 rfl) hl (k := 4) rfl rfl (by decide) rfl (fun ls hl => ?_)
            refine lv_goto (tgt := 9) S.1 S.2.1 (dd_at ddX11_dies 37 rfl) (by decide) ?_
            exact ih9 (v3 + 1) (pA d_9 b_11 (v3).toNatClampNeg (-1)) H locs ls h hw (lv_sub hl [2, 3, 4, 0] rfl)
          · have h := h.2 hc_15
            refine lv_aload_n S.1 S.2.1 (dd_at ddX11_dies 31 rfl) rfl (lv_at hl 1 rfl) ?_
            refine lv_iload_n S.1 S.2.1 (dd_at ddX11_dies 32 rfl) rfl (lv_at hl 4 rfl) ?_
            refine lv_iload S.1 S.2.1 (dd_at ddX11_dies 33 rfl) (lv_at hl 0 rfl) ?_
            refine lv_iload_n S.1 S.2.1 (dd_at ddX11_dies 34 rfl) rfl (lv_at hl 3 rfl) ?_
            refine r_callV hw (r_runV (As := [.int v3, .int r_10, .int p2]) (rest := []) S hw (m_X11_comesTo l D cs E (pA d_9 b_11 (v3).toNatClampNeg (-1)) H.size a0 v3 r_10 p2 _) (cwV 3 S.2.2.2.2 (gV wg888 wg889 wg890 wg5 wg891) rfl rfl rfl (by decide +kernel) ⟨Nat.le_of_ble_eq_true rfl, Nat.le_of_ble_eq_true rfl⟩) (ci := 11) rfl ha0 h rfl hl.1 rfl (Nat.le_of_ble_eq_true rfl) (dd_at ddX11_dies 35 rfl) ⟨Nat.le_of_ble_eq_true rfl, Nat.le_of_ble_eq_true rfl⟩) (fun d_16 H locs h hw => ?_)
            refine lv_iinc (v := v3 + 1) (lv' := [(3, .int (v3 + 1)), (4, .int r_10), (0, .ref a0), (1, .int p1), (2, .int p2)]) S.1 S.2.1 (dd_at ddX11_dies 36 rfl) hl (k := 4) rfl rfl (by decide) rfl (fun ls hl => ?_)
            refine lv_goto (tgt := 9) S.1 S.2.1 (dd_at ddX11_dies 37 rfl) (by decide) ?_
            exact ih9 (v3 + 1) d_16 H locs ls h hw (lv_sub hl [2, 3, 4, 0] rfl)
        · have h := h.2 hc_8
          refine lv_goto (tgt := 59) S.1 S.2.1 (dd_at ddX11_dies 17 rfl) (by decide) ?_
          refine lv_iinc (v := v3 + 1) (lv' := [(3, .int (v3 + 1)), (0, .ref a0), (1, .int p1), (2, .int p2)]) S.1 S.2.1 (dd_at ddX11_dies 36 rfl) hl (k := 3) rfl rfl (by decide) rfl (fun ls hl => ?_)
          refine lv_goto (tgt := 9) S.1 S.2.1 (dd_at ddX11_dies 37 rfl) (by decide) ?_
          exact ih9 (v3 + 1) d_1 H locs ls h hw (lv_sub hl [1, 2, 3, 0] rfl)
  refine lv_aload_n S.1 S.2.1 (dd_at ddX11_dies 0 rfl) rfl (lv_at hl 0 rfl) ?_
  obtain ⟨b_18, hb_19, ho_20, h⟩ := h
  refine r_getR S hw 11 18 rfl inG11 (by decide) (List.mem_cons_of_mem _ wg160) (by decide) ha0 hb_19 (dd_at ddX11_dies 1 rfl) ?_
  refine lv_iload_n S.1 S.2.1 (dd_at ddX11_dies 2 rfl) rfl (lv_at hl 1 rfl) ?_
  refine lv_iconst (v := 0) S.1 S.2.1 (dd_at ddX11_dies 3 rfl) (by decide) ?_
  obtain ⟨hx_21, h⟩ := h
  refine r_zast S hw ho_20 hx_21 (dd_at ddX11_dies 4 rfl) (fun H locs hw => ?_)
  refine lv_iconst (v := 0) S.1 S.2.1 (dd_at ddX11_dies 5 rfl) (by decide) ?_
  refine lv_istore_n (lv' := [(3, .int 0), (0, .ref a0), (1, .int p1), (2, .int p2)]) S.1 S.2.1 (dd_at ddX11_dies 6 rfl) rfl hl (by decide) rfl (fun ls hl => ?_)
  obtain ⟨n_22, h⟩ := h
  exact tl9 n_22 0 (pA d b_18 (p1).toNatClampNeg (vp_nar .boolean 0)) H locs ls h hw (lv_sub hl [1, 2, 3, 0] rfl)

def w_X11_isKin (E : En) (a0 : Nat) (p1 : Int32) (p2 : Int32) (d : Dy) (K : Int32 → Dy → Prop) : Prop := okO E a0 11 ∧ w_X11_spouseOf E a0 p1 d (fun r_2 d_1 => ((r_2 = p2 → K 1 d_1) ∧ (¬ r_2 = p2 → w_X11_isChild E a0 p1 p2 d_1 (fun r_5 d_4 => ((¬ r_5 = 0 → K 1 d_4) ∧ (r_5 = 0 → ∃ b_7 : Nat, eR E a0 20 = some b_7 ∧ okA E b_7 15 ∧ vp_in ((12 * p2) + p1) (eN E b_7) ∧ ((¬ (gA d_4 b_7 ((12 * p2) + p1).toNatClampNeg) = 0 → K 1 d_4) ∧ ((gA d_4 b_7 ((12 * p2) + p1).toNatClampNeg) = 0 → w_X11_areOfOne E a0 p1 p2 d_4 (fun r_13 d_12 => ((r_13 = 0 → K 0 d_12) ∧ (¬ r_13 = 0 → K 1 d_12)))))))))))
abbrev rm_X11_isKin : Room := { frames := 2, cells := 0, slots := 0, locals := 44 }
set_option maxRecDepth 100000 in
set_option maxHeartbeats 4000000 in
theorem m_X11_isKin (l : Launch) (D : va_G) (cs : Nat → ClassId) (E : En) (d : Dy) (sz : Nat) (a0 : Nat) (p1 : Int32) (p2 : Int32) (K : Int32 → Dy → Prop) : CI l yX11_isKin (.code yX11_isKin cX11_isKin 3 (some .boolean) :: wsL_law) rm_X11_isKin D cs E d sz [.ref a0, .int p1, .int p2] (w_X11_isKin E a0 p1 p2 d K) K := by
  refine e_of (cc := cX11_isKin) (maxL := 3) (ret := (some .boolean)) (own := RX11) (by decide) rfl rfl (Nat.le_of_ble_eq_true rfl) ?_
  intro p e s m below meth c S hr hlocks hsz H locs hw h ls hl
  have hl : lv_has ls 3 [(0, .ref a0), (1, .int p1), (2, .int p2)] := hl
  unfold w_X11_isKin at h
  obtain ⟨ha0, h⟩ := h
  refine lv_aload_n S.1 S.2.1 (dd_at ddX11_isKin 0 rfl) rfl (lv_at hl 0 rfl) ?_
  refine lv_iload_n S.1 S.2.1 (dd_at ddX11_isKin 1 rfl) rfl (lv_at hl 1 rfl) ?_
  refine r_callI hw (r_runV (As := [.int p1]) (rest := []) S hw (m_X11_spouseOf l D cs E d H.size a0 p1 _) (cwV 1 S.2.2.2.2 (gV wg864 wg865 wg866 wg5 wg867) rfl rfl rfl (by decide +kernel) ⟨Nat.le_of_ble_eq_true rfl, Nat.le_of_ble_eq_true rfl⟩) (ci := 11) rfl ha0 h rfl hl.1 rfl (Nat.le_of_ble_eq_true rfl) (dd_at ddX11_isKin 2 rfl) ⟨Nat.le_of_ble_eq_true rfl, Nat.le_of_ble_eq_true rfl⟩) (fun r_2 d_1 H locs h hw => ?_)
  refine lv_iload_n S.1 S.2.1 (dd_at ddX11_isKin 3 rfl) rfl (lv_at hl 2 rfl) ?_
  refine lv_icmp_eq (tgt := 41) S.1 S.2.1 (dd_at ddX11_isKin 4 rfl) (by decide) (fun hc_3 => ?_) (fun hc_3 => ?_)
  · have h := h.1 hc_3
    refine lv_iconst (v := 1) S.1 S.2.1 (dd_at ddX11_isKin 24 rfl) (by decide) ?_
    refine lv_goto (tgt := 46) S.1 S.2.1 (dd_at ddX11_isKin 25 rfl) (by decide) ?_
    exact e_Z S hr hlocks hw (Or.inr rfl) h (dd_at ddX11_isKin 27 rfl)
  · have h := h.2 hc_3
    refine lv_aload_n S.1 S.2.1 (dd_at ddX11_isKin 5 rfl) rfl (lv_at hl 0 rfl) ?_
    refine lv_iload_n S.1 S.2.1 (dd_at ddX11_isKin 6 rfl) rfl (lv_at hl 1 rfl) ?_
    refine lv_iload_n S.1 S.2.1 (dd_at ddX11_isKin 7 rfl) rfl (lv_at hl 2 rfl) ?_
    refine r_callI hw (r_runV (As := [.int p1, .int p2]) (rest := []) S hw (m_X11_isChild l D cs E d_1 H.size a0 p1 p2 _) (cwV 2 S.2.2.2.2 (gV wg856 wg857 wg858 wg5 wg859) rfl rfl rfl (by decide +kernel) ⟨Nat.le_of_ble_eq_true rfl, Nat.le_of_ble_eq_true rfl⟩) (ci := 11) rfl ha0 h rfl hl.1 rfl (Nat.le_of_ble_eq_true rfl) (dd_at ddX11_isKin 8 rfl) ⟨Nat.le_of_ble_eq_true rfl, Nat.le_of_ble_eq_true rfl⟩) (fun r_5 d_4 H locs h hw => ?_)
    refine lv_if_ne (tgt := 41) S.1 S.2.1 (dd_at ddX11_isKin 9 rfl) (by decide) (fun hc_6 => ?_) (fun hc_6 => ?_)
    · have h := h.1 hc_6
      refine lv_iconst (v := 1) S.1 S.2.1 (dd_at ddX11_isKin 24 rfl) (by decide) ?_
      refine lv_goto (tgt := 46) S.1 S.2.1 (dd_at ddX11_isKin 25 rfl) (by decide) ?_
      exact e_Z S hr hlocks hw (Or.inr rfl) h (dd_at ddX11_isKin 27 rfl)
    · have h := h.2 hc_6
      refine lv_aload_n S.1 S.2.1 (dd_at ddX11_isKin 10 rfl) rfl (lv_at hl 0 rfl) ?_
      obtain ⟨b_7, hb_8, ho_9, h⟩ := h
      refine r_getR S hw 11 20 rfl inG11 (by decide) (List.mem_cons_of_mem _ wg162) (by decide) ha0 hb_8 (dd_at ddX11_isKin 11 rfl) ?_
      refine lv_bipush (v := 12) S.1 S.2.1 (dd_at ddX11_isKin 12 rfl) (by decide) ?_
      refine lv_iload_n S.1 S.2.1 (dd_at ddX11_isKin 13 rfl) rfl (lv_at hl 2 rfl) ?_
      refine lv_imul S.1 S.2.1 (dd_at ddX11_isKin 14 rfl) ?_
      refine lv_iload_n S.1 S.2.1 (dd_at ddX11_isKin 15 rfl) rfl (lv_at hl 1 rfl) ?_
      refine lv_iadd S.1 S.2.1 (dd_at ddX11_isKin 16 rfl) ?_
      obtain ⟨hx_10, h⟩ := h
      refine r_zald S hw ho_9 hx_10 (dd_at ddX11_isKin 17 rfl) ?_
      refine lv_if_ne (tgt := 41) S.1 S.2.1 (dd_at ddX11_isKin 18 rfl) (by decide) (fun hc_11 => ?_) (fun hc_11 => ?_)
      · have h := h.1 hc_11
        refine lv_iconst (v := 1) S.1 S.2.1 (dd_at ddX11_isKin 24 rfl) (by decide) ?_
        refine lv_goto (tgt := 46) S.1 S.2.1 (dd_at ddX11_isKin 25 rfl) (by decide) ?_
        exact e_Z S hr hlocks hw (Or.inr rfl) h (dd_at ddX11_isKin 27 rfl)
      · have h := h.2 hc_11
        refine lv_aload_n S.1 S.2.1 (dd_at ddX11_isKin 19 rfl) rfl (lv_at hl 0 rfl) ?_
        refine lv_iload_n S.1 S.2.1 (dd_at ddX11_isKin 20 rfl) rfl (lv_at hl 1 rfl) ?_
        refine lv_iload_n S.1 S.2.1 (dd_at ddX11_isKin 21 rfl) rfl (lv_at hl 2 rfl) ?_
        refine r_callI hw (r_runV (As := [.int p1, .int p2]) (rest := []) S hw (m_X11_areOfOne l D cs E d_4 H.size a0 p1 p2 _) (cwV 2 S.2.2.2.2 (gV wg884 wg885 wg886 wg5 wg887) rfl rfl rfl (by decide +kernel) ⟨Nat.le_of_ble_eq_true rfl, Nat.le_of_ble_eq_true rfl⟩) (ci := 11) rfl ha0 h rfl hl.1 rfl (Nat.le_of_ble_eq_true rfl) (dd_at ddX11_isKin 22 rfl) ⟨Nat.le_of_ble_eq_true rfl, Nat.le_of_ble_eq_true rfl⟩) (fun r_13 d_12 H locs h hw => ?_)
        refine lv_if_eq (tgt := 45) S.1 S.2.1 (dd_at ddX11_isKin 23 rfl) (by decide) (fun hc_14 => ?_) (fun hc_14 => ?_)
        · have h := h.1 hc_14
          refine lv_iconst (v := 0) S.1 S.2.1 (dd_at ddX11_isKin 26 rfl) (by decide) ?_
          exact e_Z S hr hlocks hw (Or.inl rfl) h (dd_at ddX11_isKin 27 rfl)
        · have h := h.2 hc_14
          refine lv_iconst (v := 1) S.1 S.2.1 (dd_at ddX11_isKin 24 rfl) (by decide) ?_
          refine lv_goto (tgt := 46) S.1 S.2.1 (dd_at ddX11_isKin 25 rfl) (by decide) ?_
          exact e_Z S hr hlocks hw (Or.inr rfl) h (dd_at ddX11_isKin 27 rfl)

def b_X11_rowPlace_2 (E : En) (a0 : Nat) (p1 : Int32) (K : Int32 → Dy → Prop) (k2 : Int32 → Dy → Prop) (v2 : Int32) (d : Dy) : Prop := ∃ b_1 : Nat, eR E a0 23 = some b_1 ∧ okA E b_1 13 ∧ vp_in v2 (eN E b_1) ∧ (((gA d b_1 (v2).toNatClampNeg) = p1 → K v2 d) ∧ (¬ (gA d b_1 (v2).toNatClampNeg) = p1 → k2 (v2 + 1) d))
def l_X11_rowPlace_2 (E : En) (a0 : Nat) (p1 : Int32) (K : Int32 → Dy → Prop) : Nat → Int32 → Dy → Prop
  | 0 => fun _ _ => False
  | n + 1 => b_X11_rowPlace_2 E a0 p1 K (l_X11_rowPlace_2 E a0 p1 K n)
def w_X11_rowPlace (E : En) (a0 : Nat) (p1 : Int32) (d : Dy) (K : Int32 → Dy → Prop) : Prop := okO E a0 11 ∧ (∃ n_6 : Nat, l_X11_rowPlace_2 E a0 p1 K n_6 0 d)
abbrev rm_X11_rowPlace : Room := { frames := 0, cells := 0, slots := 0, locals := 0 }
set_option maxRecDepth 100000 in
set_option maxHeartbeats 4000000 in
theorem m_X11_rowPlace (l : Launch) (D : va_G) (cs : Nat → ClassId) (E : En) (d : Dy) (sz : Nat) (a0 : Nat) (p1 : Int32) (K : Int32 → Dy → Prop) : CI l yX11_rowPlace (.code yX11_rowPlace cX11_rowPlace 3 (some .int) :: wsL_law) rm_X11_rowPlace D cs E d sz [.ref a0, .int p1] (w_X11_rowPlace E a0 p1 d K) K := by
  refine e_of (cc := cX11_rowPlace) (maxL := 3) (ret := (some .int)) (own := RX11) (by decide) rfl rfl (Nat.le_of_ble_eq_true rfl) ?_
  intro p e s m below meth c S hr hlocks hsz H locs hw h ls hl
  have hl : lv_has ls 3 [(0, .ref a0), (1, .int p1)] := hl
  unfold w_X11_rowPlace at h
  obtain ⟨ha0, h⟩ := h
  have tl2 : ∀ (n : Nat) (v2 : Int32) (d : Dy) (H : Heap) (locs : List Loc) (ls : Array Slot), l_X11_rowPlace_2 E a0 p1 K n v2 d → Wd D cs (AW E sz) s.heap s E d H locs → lv_has ls 3 [(0, .ref a0), (1, .int p1), (2, .int v2)] → W p l e rm_X11_rowPlace s m ([.ref a0, .int p1] : List Value).toArray below meth c H locs 0 0 (MQ below (va_Qi K (OutW D cs E (AW E sz)) (AW E sz)) ([.ref a0, .int p1] : List Value).toArray s rm_X11_rowPlace.cells rm_X11_rowPlace.slots (AW E sz)) (F0 m 2 ls []) := by
    intro n2
    induction n2 with
    | zero => intro v2 d H locs ls h; exact absurd h id
    | succ n2 ih2 =>
      intro v2 d H locs ls h hw hl
      have h : b_X11_rowPlace_2 E a0 p1 K (l_X11_rowPlace_2 E a0 p1 K n2) v2 d := h
      unfold b_X11_rowPlace_2 at h
      refine lv_aload_n S.1 S.2.1 (dd_at ddX11_rowPlace 2 rfl) rfl (lv_at hl 0 rfl) ?_
      obtain ⟨b_1, hb_2, ho_3, h⟩ := h
      refine r_getR S hw 11 23 rfl inG11 (by decide) (List.mem_cons_of_mem _ wg165) (by decide) ha0 hb_2 (dd_at ddX11_rowPlace 3 rfl) ?_
      refine lv_iload_n S.1 S.2.1 (dd_at ddX11_rowPlace 4 rfl) rfl (lv_at hl 2 rfl) ?_
      obtain ⟨hx_4, h⟩ := h
      refine r_iald S hw ho_3 hx_4 (dd_at ddX11_rowPlace 5 rfl) ?_
      refine lv_iload_n S.1 S.2.1 (dd_at ddX11_rowPlace 6 rfl) rfl (lv_at hl 1 rfl) ?_
      refine lv_icmp_eq (tgt := 18) S.1 S.2.1 (dd_at ddX11_rowPlace 7 rfl) (by decide) (fun hc_5 => ?_) (fun hc_5 => ?_)
      · have h := h.1 hc_5
        refine lv_iload_n S.1 S.2.1 (dd_at ddX11_rowPlace 10 rfl) rfl (lv_at hl 2 rfl) ?_
        exact e_I S hr hlocks hw h (dd_at ddX11_rowPlace 11 rfl)
      · have h := h.2 hc_5
        refine lv_iinc (v := v2 + 1) (lv' := [(2, .int (v2 + 1)), (0, .ref a0), (1, .int p1)]) S.1 S.2.1 (dd_at ddX11_rowPlace 8 rfl) hl (k := 2) rfl rfl (by decide) rfl (fun ls hl => ?_)
        refine lv_goto (tgt := 2) S.1 S.2.1 (dd_at ddX11_rowPlace 9 rfl) (by decide) ?_
        exact ih2 (v2 + 1) d H locs ls h hw (lv_sub hl [1, 2, 0] rfl)
  refine lv_iconst (v := 0) S.1 S.2.1 (dd_at ddX11_rowPlace 0 rfl) (by decide) ?_
  refine lv_istore_n (lv' := [(2, .int 0), (0, .ref a0), (1, .int p1)]) S.1 S.2.1 (dd_at ddX11_rowPlace 1 rfl) rfl hl (by decide) rfl (fun ls hl => ?_)
  obtain ⟨n_6, h⟩ := h
  exact tl2 n_6 0 d H locs ls h hw (lv_sub hl [1, 2, 0] rfl)

def b_X11_moves_31 (E : En) (a0 : Nat) (p1 : Int32) (p2 : Int32) (K : Dy → Prop) (k31 : Int32 → Dy → Prop) (v3 : Int32) (d : Dy) : Prop := ((p2 ≤ v3 → ∃ b_2 : Nat, eR E a0 23 = some b_2 ∧ okA E b_2 13 ∧ vp_in v3 (eN E b_2) ∧ K (pA d b_2 (v3).toNatClampNeg p1)) ∧ (¬ p2 ≤ v3 → ∃ b_6 : Nat, eR E a0 23 = some b_6 ∧ okA E b_6 13 ∧ ∃ b_9 : Nat, eR E a0 23 = some b_9 ∧ okA E b_9 13 ∧ vp_in (v3 + 1) (eN E b_9) ∧ vp_in v3 (eN E b_6) ∧ k31 (v3 + 1) (pA d b_6 (v3).toNatClampNeg (gA d b_9 (v3 + 1).toNatClampNeg))))
def l_X11_moves_31 (E : En) (a0 : Nat) (p1 : Int32) (p2 : Int32) (K : Dy → Prop) : Nat → Int32 → Dy → Prop
  | 0 => fun _ _ => False
  | n + 1 => b_X11_moves_31 E a0 p1 p2 K (l_X11_moves_31 E a0 p1 p2 K n)
def b_X11_moves_6 (E : En) (a0 : Nat) (p1 : Int32) (p2 : Int32) (K : Dy → Prop) (k6 : Int32 → Dy → Prop) (v3 : Int32) (d : Dy) : Prop := ((v3 ≤ p2 → (∃ n_15 : Nat, l_X11_moves_31 E a0 p1 p2 K n_15 v3 d)) ∧ (¬ v3 ≤ p2 → ∃ b_16 : Nat, eR E a0 23 = some b_16 ∧ okA E b_16 13 ∧ ∃ b_19 : Nat, eR E a0 23 = some b_19 ∧ okA E b_19 13 ∧ vp_in (v3 - 1) (eN E b_19) ∧ vp_in v3 (eN E b_16) ∧ k6 (v3 + (-1)) (pA d b_16 (v3).toNatClampNeg (gA d b_19 (v3 - 1).toNatClampNeg))))
def l_X11_moves_6 (E : En) (a0 : Nat) (p1 : Int32) (p2 : Int32) (K : Dy → Prop) : Nat → Int32 → Dy → Prop
  | 0 => fun _ _ => False
  | n + 1 => b_X11_moves_6 E a0 p1 p2 K (l_X11_moves_6 E a0 p1 p2 K n)
def w_X11_moves (E : En) (a0 : Nat) (p1 : Int32) (p2 : Int32) (d : Dy) (K : Dy → Prop) : Prop := okO E a0 11 ∧ w_X11_rowPlace E a0 p1 d (fun r_25 d_24 => (∃ n_26 : Nat, l_X11_moves_6 E a0 p1 p2 K n_26 r_25 d_24))
abbrev rm_X11_moves : Room := { frames := 1, cells := 0, slots := 0, locals := 22 }
set_option maxRecDepth 100000 in
set_option maxHeartbeats 4000000 in
theorem m_X11_moves (l : Launch) (D : va_G) (cs : Nat → ClassId) (E : En) (d : Dy) (sz : Nat) (a0 : Nat) (p1 : Int32) (p2 : Int32) (K : Dy → Prop) : CV l yX11_moves (.code yX11_moves cX11_moves 4 none :: wsL_law) rm_X11_moves D cs E d sz [.ref a0, .int p1, .int p2] (w_X11_moves E a0 p1 p2 d K) K := by
  refine e_of (cc := cX11_moves) (maxL := 4) (ret := none) (own := RX11) (by decide) rfl rfl (Nat.le_of_ble_eq_true rfl) ?_
  intro p e s m below meth c S hr hlocks hsz H locs hw h ls hl
  have hl : lv_has ls 4 [(0, .ref a0), (1, .int p1), (2, .int p2)] := hl
  unfold w_X11_moves at h
  obtain ⟨ha0, h⟩ := h
  have tl31 : ∀ (n : Nat) (v3 : Int32) (d : Dy) (H : Heap) (locs : List Loc) (ls : Array Slot), l_X11_moves_31 E a0 p1 p2 K n v3 d → Wd D cs (AW E sz) s.heap s E d H locs → lv_has ls 4 [(0, .ref a0), (1, .int p1), (2, .int p2), (3, .int v3)] → W p l e rm_X11_moves s m ([.ref a0, .int p1, .int p2] : List Value).toArray below meth c H locs 0 0 (MQ below (va_Qv K (OutW D cs E (AW E sz)) (AW E sz)) ([.ref a0, .int p1, .int p2] : List Value).toArray s rm_X11_moves.cells rm_X11_moves.slots (AW E sz)) (F0 m 31 ls []) := by
    intro n31
    induction n31 with
    | zero => intro v3 d H locs ls h; exact absurd h id
    | succ n31 ih31 =>
      intro v3 d H locs ls h hw hl
      have h : b_X11_moves_31 E a0 p1 p2 K (l_X11_moves_31 E a0 p1 p2 K n31) v3 d := h
      unfold b_X11_moves_31 at h
      refine lv_iload_n S.1 S.2.1 (dd_at ddX11_moves 19 rfl) rfl (lv_at hl 3 rfl) ?_
      refine lv_iload_n S.1 S.2.1 (dd_at ddX11_moves 20 rfl) rfl (lv_at hl 2 rfl) ?_
      refine lv_icmp_ge (tgt := 56) S.1 S.2.1 (dd_at ddX11_moves 21 rfl) (by decide) (fun hc_1 => ?_) (fun hc_1 => ?_)
      · have h := h.1 hc_1
        refine lv_aload_n S.1 S.2.1 (dd_at ddX11_moves 34 rfl) rfl (lv_at hl 0 rfl) ?_
        obtain ⟨b_2, hb_3, ho_4, h⟩ := h
        refine r_getR S hw 11 23 rfl inG11 (by decide) (List.mem_cons_of_mem _ wg165) (by decide) ha0 hb_3 (dd_at ddX11_moves 35 rfl) ?_
        refine lv_iload_n S.1 S.2.1 (dd_at ddX11_moves 36 rfl) rfl (lv_at hl 3 rfl) ?_
        refine lv_iload_n S.1 S.2.1 (dd_at ddX11_moves 37 rfl) rfl (lv_at hl 1 rfl) ?_
        obtain ⟨hx_5, h⟩ := h
        refine r_iast S hw ho_4 hx_5 (dd_at ddX11_moves 38 rfl) (fun H locs hw => ?_)
        exact e_V S hr hlocks hw h (dd_at ddX11_moves 39 rfl)
      · have h := h.2 hc_1
        refine lv_aload_n S.1 S.2.1 (dd_at ddX11_moves 22 rfl) rfl (lv_at hl 0 rfl) ?_
        obtain ⟨b_6, hb_7, ho_8, h⟩ := h
        refine r_getR S hw 11 23 rfl inG11 (by decide) (List.mem_cons_of_mem _ wg165) (by decide) ha0 hb_7 (dd_at ddX11_moves 23 rfl) ?_
        refine lv_iload_n S.1 S.2.1 (dd_at ddX11_moves 24 rfl) rfl (lv_at hl 3 rfl) ?_
        refine lv_aload_n S.1 S.2.1 (dd_at ddX11_moves 25 rfl) rfl (lv_at hl 0 rfl) ?_
        obtain ⟨b_9, hb_10, ho_11, h⟩ := h
        refine r_getR S hw 11 23 rfl inG11 (by decide) (List.mem_cons_of_mem _ wg165) (by decide) ha0 hb_10 (dd_at ddX11_moves 26 rfl) ?_
        refine lv_iload_n S.1 S.2.1 (dd_at ddX11_moves 27 rfl) rfl (lv_at hl 3 rfl) ?_
        refine lv_iconst (v := 1) S.1 S.2.1 (dd_at ddX11_moves 28 rfl) (by decide) ?_
        refine lv_iadd S.1 S.2.1 (dd_at ddX11_moves 29 rfl) ?_
        obtain ⟨hx_12, h⟩ := h
        refine r_iald S hw ho_11 hx_12 (dd_at ddX11_moves 30 rfl) ?_
        obtain ⟨hx_13, h⟩ := h
        refine r_iast S hw ho_8 hx_13 (dd_at ddX11_moves 31 rfl) (fun H locs hw => ?_)
        refine lv_iinc (v := v3 + 1) (lv' := [(3, .int (v3 + 1)), (0, .ref a0), (1, .int p1), (2, .int p2)]) S.1 S.2.1 (dd_at ddX11_moves 32 rfl) hl (k := 3) rfl rfl (by decide) rfl (fun ls hl => ?_)
        refine lv_goto (tgt := 31) S.1 S.2.1 (dd_at ddX11_moves 33 rfl) (by decide) ?_
        exact ih31 (v3 + 1) (pA d b_6 (v3).toNatClampNeg (gA d b_9 (v3 + 1).toNatClampNeg)) H locs ls h hw (lv_sub hl [1, 2, 3, 0] rfl)
  have tl6 : ∀ (n : Nat) (v3 : Int32) (d : Dy) (H : Heap) (locs : List Loc) (ls : Array Slot), l_X11_moves_6 E a0 p1 p2 K n v3 d → Wd D cs (AW E sz) s.heap s E d H locs → lv_has ls 4 [(0, .ref a0), (1, .int p1), (2, .int p2), (3, .int v3)] → W p l e rm_X11_moves s m ([.ref a0, .int p1, .int p2] : List Value).toArray below meth c H locs 0 0 (MQ below (va_Qv K (OutW D cs E (AW E sz)) (AW E sz)) ([.ref a0, .int p1, .int p2] : List Value).toArray s rm_X11_moves.cells rm_X11_moves.slots (AW E sz)) (F0 m 6 ls []) := by
    intro n6
    induction n6 with
    | zero => intro v3 d H locs ls h; exact absurd h id
    | succ n6 ih6 =>
      intro v3 d H locs ls h hw hl
      have h : b_X11_moves_6 E a0 p1 p2 K (l_X11_moves_6 E a0 p1 p2 K n6) v3 d := h
      unfold b_X11_moves_6 at h
      refine lv_iload_n S.1 S.2.1 (dd_at ddX11_moves 4 rfl) rfl (lv_at hl 3 rfl) ?_
      refine lv_iload_n S.1 S.2.1 (dd_at ddX11_moves 5 rfl) rfl (lv_at hl 2 rfl) ?_
      refine lv_icmp_le (tgt := 31) S.1 S.2.1 (dd_at ddX11_moves 6 rfl) (by decide) (fun hc_14 => ?_) (fun hc_14 => ?_)
      · have h := h.1 hc_14
        obtain ⟨n_15, h⟩ := h
        exact tl31 n_15 v3 d H locs ls h hw (lv_sub hl [0, 1, 2, 3] rfl)
      · have h := h.2 hc_14
        refine lv_aload_n S.1 S.2.1 (dd_at ddX11_moves 7 rfl) rfl (lv_at hl 0 rfl) ?_
        obtain ⟨b_16, hb_17, ho_18, h⟩ := h
        refine r_getR S hw 11 23 rfl inG11 (by decide) (List.mem_cons_of_mem _ wg165) (by decide) ha0 hb_17 (dd_at ddX11_moves 8 rfl) ?_
        refine lv_iload_n S.1 S.2.1 (dd_at ddX11_moves 9 rfl) rfl (lv_at hl 3 rfl) ?_
        refine lv_aload_n S.1 S.2.1 (dd_at ddX11_moves 10 rfl) rfl (lv_at hl 0 rfl) ?_
        obtain ⟨b_19, hb_20, ho_21, h⟩ := h
        refine r_getR S hw 11 23 rfl inG11 (by decide) (List.mem_cons_of_mem _ wg165) (by decide) ha0 hb_20 (dd_at ddX11_moves 11 rfl) ?_
        refine lv_iload_n S.1 S.2.1 (dd_at ddX11_moves 12 rfl) rfl (lv_at hl 3 rfl) ?_
        refine lv_iconst (v := 1) S.1 S.2.1 (dd_at ddX11_moves 13 rfl) (by decide) ?_
        refine lv_isub S.1 S.2.1 (dd_at ddX11_moves 14 rfl) ?_
        obtain ⟨hx_22, h⟩ := h
        refine r_iald S hw ho_21 hx_22 (dd_at ddX11_moves 15 rfl) ?_
        obtain ⟨hx_23, h⟩ := h
        refine r_iast S hw ho_18 hx_23 (dd_at ddX11_moves 16 rfl) (fun H locs hw => ?_)
        refine lv_iinc (v := v3 + (-1)) (lv' := [(3, .int (v3 + (-1))), (0, .ref a0), (1, .int p1), (2, .int p2)]) S.1 S.2.1 (dd_at ddX11_moves 17 rfl) hl (k := 3) rfl rfl (by decide) rfl (fun ls hl => ?_)
        refine lv_goto (tgt := 6) S.1 S.2.1 (dd_at ddX11_moves 18 rfl) (by decide) ?_
        exact ih6 (v3 + (-1)) (pA d b_16 (v3).toNatClampNeg (gA d b_19 (v3 - 1).toNatClampNeg)) H locs ls h hw (lv_sub hl [1, 2, 3, 0] rfl)
  refine lv_aload_n S.1 S.2.1 (dd_at ddX11_moves 0 rfl) rfl (lv_at hl 0 rfl) ?_
  refine lv_iload_n S.1 S.2.1 (dd_at ddX11_moves 1 rfl) rfl (lv_at hl 1 rfl) ?_
  refine r_callI hw (r_runV (As := [.int p1]) (rest := []) S hw (m_X11_rowPlace l D cs E d H.size a0 p1 _) (cwV 1 S.2.2.2.2 (gV wg900 wg901 wg902 wg5 wg903) rfl rfl rfl (by decide +kernel) ⟨Nat.le_of_ble_eq_true rfl, Nat.le_of_ble_eq_true rfl⟩) (ci := 11) rfl ha0 h rfl hl.1 rfl (Nat.le_of_ble_eq_true rfl) (dd_at ddX11_moves 2 rfl) ⟨Nat.le_of_ble_eq_true rfl, Nat.le_of_ble_eq_true rfl⟩) (fun r_25 d_24 H locs h hw => ?_)
  refine lv_istore_n (lv' := [(3, .int r_25), (0, .ref a0), (1, .int p1), (2, .int p2)]) S.1 S.2.1 (dd_at ddX11_moves 3 rfl) rfl hl (by decide) rfl (fun ls hl => ?_)
  obtain ⟨n_26, h⟩ := h
  exact tl6 n_26 r_25 d_24 H locs ls h hw (lv_sub hl [1, 2, 3, 0] rfl)
