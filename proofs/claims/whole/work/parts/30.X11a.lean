def w_X11_thrown (E : En) (a0 : Nat) (d : Dy) (K : Int32 → Dy → Prop) : Prop := okO E a0 11 ∧ K (gI d a0 0) d
abbrev rm_X11_thrown : Room := { frames := 0, cells := 0, slots := 0, locals := 0 }
set_option maxRecDepth 100000 in
set_option maxHeartbeats 4000000 in
theorem m_X11_thrown (l : Launch) (D : va_G) (cs : Nat → ClassId) (E : En) (d : Dy) (sz : Nat) (a0 : Nat) (K : Int32 → Dy → Prop) : CI l yX11_thrown (.code yX11_thrown cX11_thrown 1 (some .int) :: wsL_law) rm_X11_thrown D cs E d sz [.ref a0] (w_X11_thrown E a0 d K) K := by
  refine e_of (cc := cX11_thrown) (maxL := 1) (ret := (some .int)) (own := RX11) (by decide) rfl rfl (Nat.le_of_ble_eq_true rfl) ?_
  intro p e s m below meth c S hr hlocks hsz H locs hw h ls hl
  have hl : lv_has ls 1 [(0, .ref a0)] := hl
  unfold w_X11_thrown at h
  obtain ⟨ha0, h⟩ := h
  refine lv_aload_n S.1 S.2.1 (dd_at ddX11_thrown 0 rfl) rfl (lv_at hl 0 rfl) ?_
  refine r_getI S hw 11 0 rfl inG11 (by decide) (List.mem_cons_of_mem _ wg201) (by decide) ha0 (dd_at ddX11_thrown 1 rfl) ?_
  exact e_I S hr hlocks hw h (dd_at ddX11_thrown 2 rfl)

def w_X11_throwsIf (E : En) (a0 : Nat) (p1 : Int32) (p2 : Int32) (d : Dy) (K : Int32 → Dy → Prop) : Prop := okO E a0 11 ∧ ((p1 = 0 → (p1 = 0 ∨ p1 = 1) ∧ K p1 d) ∧ (¬ p1 = 0 → (p1 = 0 ∨ p1 = 1) ∧ K p1 (pI d a0 0 p2)))
abbrev rm_X11_throwsIf : Room := { frames := 0, cells := 0, slots := 0, locals := 0 }
set_option maxRecDepth 100000 in
set_option maxHeartbeats 4000000 in
theorem m_X11_throwsIf (l : Launch) (D : va_G) (cs : Nat → ClassId) (E : En) (d : Dy) (sz : Nat) (a0 : Nat) (p1 : Int32) (p2 : Int32) (K : Int32 → Dy → Prop) : CI l yX11_throwsIf (.code yX11_throwsIf cX11_throwsIf 3 (some .boolean) :: wsL_law) rm_X11_throwsIf D cs E d sz [.ref a0, .int p1, .int p2] (w_X11_throwsIf E a0 p1 p2 d K) K := by
  refine e_of (cc := cX11_throwsIf) (maxL := 3) (ret := (some .boolean)) (own := RX11) (by decide) rfl rfl (Nat.le_of_ble_eq_true rfl) ?_
  intro p e s m below meth c S hr hlocks hsz H locs hw h ls hl
  have hl : lv_has ls 3 [(0, .ref a0), (1, .int p1), (2, .int p2)] := hl
  unfold w_X11_throwsIf at h
  obtain ⟨ha0, h⟩ := h
  refine lv_iload_n S.1 S.2.1 (dd_at ddX11_throwsIf 0 rfl) rfl (lv_at hl 1 rfl) ?_
  refine lv_if_eq (tgt := 9) S.1 S.2.1 (dd_at ddX11_throwsIf 1 rfl) (by decide) (fun hc_1 => ?_) (fun hc_1 => ?_)
  · have h := h.1 hc_1
    refine lv_iload_n S.1 S.2.1 (dd_at ddX11_throwsIf 5 rfl) rfl (lv_at hl 1 rfl) ?_
    exact e_Z S hr hlocks hw h.1 h.2 (dd_at ddX11_throwsIf 6 rfl)
  · have h := h.2 hc_1
    refine lv_aload_n S.1 S.2.1 (dd_at ddX11_throwsIf 2 rfl) rfl (lv_at hl 0 rfl) ?_
    refine lv_iload_n S.1 S.2.1 (dd_at ddX11_throwsIf 3 rfl) rfl (lv_at hl 2 rfl) ?_
    refine r_putI S hw 11 0 (ty := .int) (v := p2) rfl inG11 tyX11 tyX11_ok nmX11 (by decide) (List.mem_cons_of_mem _ wg201) (by decide) rfl (by decide +kernel) rfl rfl ha0 (dd_at ddX11_throwsIf 4 rfl) (fun H locs hw => ?_)
    refine lv_iload_n S.1 S.2.1 (dd_at ddX11_throwsIf 5 rfl) rfl (lv_at hl 1 rfl) ?_
    exact e_Z S hr hlocks hw h.1 h.2 (dd_at ddX11_throwsIf 6 rfl)

def w_X11_in (E : En) (p0 : Int32) (p1 : Int32) (p2 : Int32) (d : Dy) (K : Int32 → Dy → Prop) : Prop := ((p0 < p1 → K 0 d) ∧ (¬ p0 < p1 → ((p2 < p0 → K 0 d) ∧ (¬ p2 < p0 → K 1 d))))
abbrev rm_X11_in : Room := { frames := 0, cells := 0, slots := 0, locals := 0 }
set_option maxRecDepth 100000 in
set_option maxHeartbeats 4000000 in
theorem m_X11_in (l : Launch) (D : va_G) (cs : Nat → ClassId) (E : En) (d : Dy) (sz : Nat) (p0 : Int32) (p1 : Int32) (p2 : Int32) (K : Int32 → Dy → Prop) : CI l yX11_in (.code yX11_in cX11_in 3 (some .boolean) :: wsL_law) rm_X11_in D cs E d sz [.int p0, .int p1, .int p2] (w_X11_in E p0 p1 p2 d K) K := by
  refine e_of (cc := cX11_in) (maxL := 3) (ret := (some .boolean)) (own := RX11) (by decide) rfl rfl (Nat.le_of_ble_eq_true rfl) ?_
  intro p e s m below meth c S hr hlocks hsz H locs hw h ls hl
  have hl : lv_has ls 3 [(0, .int p0), (1, .int p1), (2, .int p2)] := hl
  unfold w_X11_in at h
  refine lv_iload_n S.1 S.2.1 (dd_at ddX11_in 0 rfl) rfl (lv_at hl 0 rfl) ?_
  refine lv_iload_n S.1 S.2.1 (dd_at ddX11_in 1 rfl) rfl (lv_at hl 1 rfl) ?_
  refine lv_icmp_lt (tgt := 14) S.1 S.2.1 (dd_at ddX11_in 2 rfl) (by decide) (fun hc_1 => ?_) (fun hc_1 => ?_)
  · have h := h.1 hc_1
    refine lv_iconst (v := 0) S.1 S.2.1 (dd_at ddX11_in 8 rfl) (by decide) ?_
    exact e_Z S hr hlocks hw (Or.inl rfl) h (dd_at ddX11_in 9 rfl)
  · have h := h.2 hc_1
    refine lv_iload_n S.1 S.2.1 (dd_at ddX11_in 3 rfl) rfl (lv_at hl 0 rfl) ?_
    refine lv_iload_n S.1 S.2.1 (dd_at ddX11_in 4 rfl) rfl (lv_at hl 2 rfl) ?_
    refine lv_icmp_gt (tgt := 14) S.1 S.2.1 (dd_at ddX11_in 5 rfl) (by decide) (fun hc_2 => ?_) (fun hc_2 => ?_)
    · have h := h.1 hc_2
      refine lv_iconst (v := 0) S.1 S.2.1 (dd_at ddX11_in 8 rfl) (by decide) ?_
      exact e_Z S hr hlocks hw (Or.inl rfl) h (dd_at ddX11_in 9 rfl)
    · have h := h.2 hc_2
      refine lv_iconst (v := 1) S.1 S.2.1 (dd_at ddX11_in 6 rfl) (by decide) ?_
      refine lv_goto (tgt := 15) S.1 S.2.1 (dd_at ddX11_in 7 rfl) (by decide) ?_
      exact e_Z S hr hlocks hw (Or.inr rfl) h (dd_at ddX11_in 9 rfl)

def w_X11_init (E : En) (a0 : Nat) (d : Dy) (K : En → Dy → Prop) : Prop := okO E a0 11 ∧ ∀ q_1 : Nat, q_1 ∉ eL E → ∀ q_4 : Nat, q_4 ∉ eL (sR (nE E q_1 13 ((4851 : Int32)).toNatClampNeg) a0 1 (some q_1)) → ∀ q_7 : Nat, q_7 ∉ eL (sR (nE (sR (nE E q_1 13 ((4851 : Int32)).toNatClampNeg) a0 1 (some q_1)) q_4 13 ((4000 : Int32)).toNatClampNeg) a0 2 (some q_4)) → ∀ q_10 : Nat, q_10 ∉ eL (sR (nE (sR (nE (sR (nE E q_1 13 ((4851 : Int32)).toNatClampNeg) a0 1 (some q_1)) q_4 13 ((4000 : Int32)).toNatClampNeg) a0 2 (some q_4)) q_7 12 ((400 : Int32)).toNatClampNeg) a0 4 (some q_7)) → ∀ q_13 : Nat, q_13 ∉ eL (sR (nE (sR (nE (sR (nE (sR (nE E q_1 13 ((4851 : Int32)).toNatClampNeg) a0 1 (some q_1)) q_4 13 ((4000 : Int32)).toNatClampNeg) a0 2 (some q_4)) q_7 12 ((400 : Int32)).toNatClampNeg) a0 4 (some q_7)) q_10 13 ((5 : Int32)).toNatClampNeg) a0 11 (some q_10)) → ∀ q_16 : Nat, q_16 ∉ eL (sR (nE (sR (nE (sR (nE (sR (nE (sR (nE E q_1 13 ((4851 : Int32)).toNatClampNeg) a0 1 (some q_1)) q_4 13 ((4000 : Int32)).toNatClampNeg) a0 2 (some q_4)) q_7 12 ((400 : Int32)).toNatClampNeg) a0 4 (some q_7)) q_10 13 ((5 : Int32)).toNatClampNeg) a0 11 (some q_10)) q_13 13 ((9 : Int32)).toNatClampNeg) a0 14 (some q_13)) → ∀ q_19 : Nat, q_19 ∉ eL (sR (nE (sR (nE (sR (nE (sR (nE (sR (nE (sR (nE E q_1 13 ((4851 : Int32)).toNatClampNeg) a0 1 (some q_1)) q_4 13 ((4000 : Int32)).toNatClampNeg) a0 2 (some q_4)) q_7 12 ((400 : Int32)).toNatClampNeg) a0 4 (some q_7)) q_10 13 ((5 : Int32)).toNatClampNeg) a0 11 (some q_10)) q_13 13 ((9 : Int32)).toNatClampNeg) a0 14 (some q_13)) q_16 13 ((400 : Int32)).toNatClampNeg) a0 15 (some q_16)) → ∀ q_22 : Nat, q_22 ∉ eL (sR (nE (sR (nE (sR (nE (sR (nE (sR (nE (sR (nE (sR (nE E q_1 13 ((4851 : Int32)).toNatClampNeg) a0 1 (some q_1)) q_4 13 ((4000 : Int32)).toNatClampNeg) a0 2 (some q_4)) q_7 12 ((400 : Int32)).toNatClampNeg) a0 4 (some q_7)) q_10 13 ((5 : Int32)).toNatClampNeg) a0 11 (some q_10)) q_13 13 ((9 : Int32)).toNatClampNeg) a0 14 (some q_13)) q_16 13 ((400 : Int32)).toNatClampNeg) a0 15 (some q_16)) q_19 13 ((40 : Int32)).toNatClampNeg) a0 16 (some q_19)) → ∀ q_25 : Nat, q_25 ∉ eL (sR (nE (sR (nE (sR (nE (sR (nE (sR (nE (sR (nE (sR (nE (sR (nE E q_1 13 ((4851 : Int32)).toNatClampNeg) a0 1 (some q_1)) q_4 13 ((4000 : Int32)).toNatClampNeg) a0 2 (some q_4)) q_7 12 ((400 : Int32)).toNatClampNeg) a0 4 (some q_7)) q_10 13 ((5 : Int32)).toNatClampNeg) a0 11 (some q_10)) q_13 13 ((9 : Int32)).toNatClampNeg) a0 14 (some q_13)) q_16 13 ((400 : Int32)).toNatClampNeg) a0 15 (some q_16)) q_19 13 ((40 : Int32)).toNatClampNeg) a0 16 (some q_19)) q_22 15 ((12 : Int32)).toNatClampNeg) a0 18 (some q_22)) → ∀ q_28 : Nat, q_28 ∉ eL (sR (nE (sR (nE (sR (nE (sR (nE (sR (nE (sR (nE (sR (nE (sR (nE (sR (nE E q_1 13 ((4851 : Int32)).toNatClampNeg) a0 1 (some q_1)) q_4 13 ((4000 : Int32)).toNatClampNeg) a0 2 (some q_4)) q_7 12 ((400 : Int32)).toNatClampNeg) a0 4 (some q_7)) q_10 13 ((5 : Int32)).toNatClampNeg) a0 11 (some q_10)) q_13 13 ((9 : Int32)).toNatClampNeg) a0 14 (some q_13)) q_16 13 ((400 : Int32)).toNatClampNeg) a0 15 (some q_16)) q_19 13 ((40 : Int32)).toNatClampNeg) a0 16 (some q_19)) q_22 15 ((12 : Int32)).toNatClampNeg) a0 18 (some q_22)) q_25 13 ((12 : Int32)).toNatClampNeg) a0 19 (some q_25)) → ∀ q_31 : Nat, q_31 ∉ eL (sR (nE (sR (nE (sR (nE (sR (nE (sR (nE (sR (nE (sR (nE (sR (nE (sR (nE (sR (nE E q_1 13 ((4851 : Int32)).toNatClampNeg) a0 1 (some q_1)) q_4 13 ((4000 : Int32)).toNatClampNeg) a0 2 (some q_4)) q_7 12 ((400 : Int32)).toNatClampNeg) a0 4 (some q_7)) q_10 13 ((5 : Int32)).toNatClampNeg) a0 11 (some q_10)) q_13 13 ((9 : Int32)).toNatClampNeg) a0 14 (some q_13)) q_16 13 ((400 : Int32)).toNatClampNeg) a0 15 (some q_16)) q_19 13 ((40 : Int32)).toNatClampNeg) a0 16 (some q_19)) q_22 15 ((12 : Int32)).toNatClampNeg) a0 18 (some q_22)) q_25 13 ((12 : Int32)).toNatClampNeg) a0 19 (some q_25)) q_28 15 ((144 : Int32)).toNatClampNeg) a0 20 (some q_28)) → ∀ q_34 : Nat, q_34 ∉ eL (sR (nE (sR (nE (sR (nE (sR (nE (sR (nE (sR (nE (sR (nE (sR (nE (sR (nE (sR (nE (sR (nE E q_1 13 ((4851 : Int32)).toNatClampNeg) a0 1 (some q_1)) q_4 13 ((4000 : Int32)).toNatClampNeg) a0 2 (some q_4)) q_7 12 ((400 : Int32)).toNatClampNeg) a0 4 (some q_7)) q_10 13 ((5 : Int32)).toNatClampNeg) a0 11 (some q_10)) q_13 13 ((9 : Int32)).toNatClampNeg) a0 14 (some q_13)) q_16 13 ((400 : Int32)).toNatClampNeg) a0 15 (some q_16)) q_19 13 ((40 : Int32)).toNatClampNeg) a0 16 (some q_19)) q_22 15 ((12 : Int32)).toNatClampNeg) a0 18 (some q_22)) q_25 13 ((12 : Int32)).toNatClampNeg) a0 19 (some q_25)) q_28 15 ((144 : Int32)).toNatClampNeg) a0 20 (some q_28)) q_31 13 ((10 : Int32)).toNatClampNeg) a0 21 (some q_31)) → ∀ q_37 : Nat, q_37 ∉ eL (sR (nE (sR (nE (sR (nE (sR (nE (sR (nE (sR (nE (sR (nE (sR (nE (sR (nE (sR (nE (sR (nE (sR (nE E q_1 13 ((4851 : Int32)).toNatClampNeg) a0 1 (some q_1)) q_4 13 ((4000 : Int32)).toNatClampNeg) a0 2 (some q_4)) q_7 12 ((400 : Int32)).toNatClampNeg) a0 4 (some q_7)) q_10 13 ((5 : Int32)).toNatClampNeg) a0 11 (some q_10)) q_13 13 ((9 : Int32)).toNatClampNeg) a0 14 (some q_13)) q_16 13 ((400 : Int32)).toNatClampNeg) a0 15 (some q_16)) q_19 13 ((40 : Int32)).toNatClampNeg) a0 16 (some q_19)) q_22 15 ((12 : Int32)).toNatClampNeg) a0 18 (some q_22)) q_25 13 ((12 : Int32)).toNatClampNeg) a0 19 (some q_25)) q_28 15 ((144 : Int32)).toNatClampNeg) a0 20 (some q_28)) q_31 13 ((10 : Int32)).toNatClampNeg) a0 21 (some q_31)) q_34 13 ((10 : Int32)).toNatClampNeg) a0 22 (some q_34)) → ∀ q_40 : Nat, q_40 ∉ eL (sR (nE (sR (nE (sR (nE (sR (nE (sR (nE (sR (nE (sR (nE (sR (nE (sR (nE (sR (nE (sR (nE (sR (nE (sR (nE E q_1 13 ((4851 : Int32)).toNatClampNeg) a0 1 (some q_1)) q_4 13 ((4000 : Int32)).toNatClampNeg) a0 2 (some q_4)) q_7 12 ((400 : Int32)).toNatClampNeg) a0 4 (some q_7)) q_10 13 ((5 : Int32)).toNatClampNeg) a0 11 (some q_10)) q_13 13 ((9 : Int32)).toNatClampNeg) a0 14 (some q_13)) q_16 13 ((400 : Int32)).toNatClampNeg) a0 15 (some q_16)) q_19 13 ((40 : Int32)).toNatClampNeg) a0 16 (some q_19)) q_22 15 ((12 : Int32)).toNatClampNeg) a0 18 (some q_22)) q_25 13 ((12 : Int32)).toNatClampNeg) a0 19 (some q_25)) q_28 15 ((144 : Int32)).toNatClampNeg) a0 20 (some q_28)) q_31 13 ((10 : Int32)).toNatClampNeg) a0 21 (some q_31)) q_34 13 ((10 : Int32)).toNatClampNeg) a0 22 (some q_34)) q_37 13 ((10 : Int32)).toNatClampNeg) a0 23 (some q_37)) → ∀ q_43 : Nat, q_43 ∉ eL (sR (nE (sR (nE (sR (nE (sR (nE (sR (nE (sR (nE (sR (nE (sR (nE (sR (nE (sR (nE (sR (nE (sR (nE (sR (nE (sR (nE E q_1 13 ((4851 : Int32)).toNatClampNeg) a0 1 (some q_1)) q_4 13 ((4000 : Int32)).toNatClampNeg) a0 2 (some q_4)) q_7 12 ((400 : Int32)).toNatClampNeg) a0 4 (some q_7)) q_10 13 ((5 : Int32)).toNatClampNeg) a0 11 (some q_10)) q_13 13 ((9 : Int32)).toNatClampNeg) a0 14 (some q_13)) q_16 13 ((400 : Int32)).toNatClampNeg) a0 15 (some q_16)) q_19 13 ((40 : Int32)).toNatClampNeg) a0 16 (some q_19)) q_22 15 ((12 : Int32)).toNatClampNeg) a0 18 (some q_22)) q_25 13 ((12 : Int32)).toNatClampNeg) a0 19 (some q_25)) q_28 15 ((144 : Int32)).toNatClampNeg) a0 20 (some q_28)) q_31 13 ((10 : Int32)).toNatClampNeg) a0 21 (some q_31)) q_34 13 ((10 : Int32)).toNatClampNeg) a0 22 (some q_34)) q_37 13 ((10 : Int32)).toNatClampNeg) a0 23 (some q_37)) q_40 15 ((40 : Int32)).toNatClampNeg) a0 24 (some q_40)) → ∀ q_46 : Nat, q_46 ∉ eL (sR (nE (sR (nE (sR (nE (sR (nE (sR (nE (sR (nE (sR (nE (sR (nE (sR (nE (sR (nE (sR (nE (sR (nE (sR (nE (sR (nE (sR (nE E q_1 13 ((4851 : Int32)).toNatClampNeg) a0 1 (some q_1)) q_4 13 ((4000 : Int32)).toNatClampNeg) a0 2 (some q_4)) q_7 12 ((400 : Int32)).toNatClampNeg) a0 4 (some q_7)) q_10 13 ((5 : Int32)).toNatClampNeg) a0 11 (some q_10)) q_13 13 ((9 : Int32)).toNatClampNeg) a0 14 (some q_13)) q_16 13 ((400 : Int32)).toNatClampNeg) a0 15 (some q_16)) q_19 13 ((40 : Int32)).toNatClampNeg) a0 16 (some q_19)) q_22 15 ((12 : Int32)).toNatClampNeg) a0 18 (some q_22)) q_25 13 ((12 : Int32)).toNatClampNeg) a0 19 (some q_25)) q_28 15 ((144 : Int32)).toNatClampNeg) a0 20 (some q_28)) q_31 13 ((10 : Int32)).toNatClampNeg) a0 21 (some q_31)) q_34 13 ((10 : Int32)).toNatClampNeg) a0 22 (some q_34)) q_37 13 ((10 : Int32)).toNatClampNeg) a0 23 (some q_37)) q_40 15 ((40 : Int32)).toNatClampNeg) a0 24 (some q_40)) q_43 15 ((40 : Int32)).toNatClampNeg) a0 25 (some q_43)) → ∀ q_49 : Nat, q_49 ∉ eL (sR (nE (sR (nE (sR (nE (sR (nE (sR (nE (sR (nE (sR (nE (sR (nE (sR (nE (sR (nE (sR (nE (sR (nE (sR (nE (sR (nE (sR (nE (sR (nE E q_1 13 ((4851 : Int32)).toNatClampNeg) a0 1 (some q_1)) q_4 13 ((4000 : Int32)).toNatClampNeg) a0 2 (some q_4)) q_7 12 ((400 : Int32)).toNatClampNeg) a0 4 (some q_7)) q_10 13 ((5 : Int32)).toNatClampNeg) a0 11 (some q_10)) q_13 13 ((9 : Int32)).toNatClampNeg) a0 14 (some q_13)) q_16 13 ((400 : Int32)).toNatClampNeg) a0 15 (some q_16)) q_19 13 ((40 : Int32)).toNatClampNeg) a0 16 (some q_19)) q_22 15 ((12 : Int32)).toNatClampNeg) a0 18 (some q_22)) q_25 13 ((12 : Int32)).toNatClampNeg) a0 19 (some q_25)) q_28 15 ((144 : Int32)).toNatClampNeg) a0 20 (some q_28)) q_31 13 ((10 : Int32)).toNatClampNeg) a0 21 (some q_31)) q_34 13 ((10 : Int32)).toNatClampNeg) a0 22 (some q_34)) q_37 13 ((10 : Int32)).toNatClampNeg) a0 23 (some q_37)) q_40 15 ((40 : Int32)).toNatClampNeg) a0 24 (some q_40)) q_43 15 ((40 : Int32)).toNatClampNeg) a0 25 (some q_43)) q_46 13 ((10 : Int32)).toNatClampNeg) a0 26 (some q_46)) → ∀ q_52 : Nat, q_52 ∉ eL (sR (nE (sR (nE (sR (nE (sR (nE (sR (nE (sR (nE (sR (nE (sR (nE (sR (nE (sR (nE (sR (nE (sR (nE (sR (nE (sR (nE (sR (nE (sR (nE (sR (nE E q_1 13 ((4851 : Int32)).toNatClampNeg) a0 1 (some q_1)) q_4 13 ((4000 : Int32)).toNatClampNeg) a0 2 (some q_4)) q_7 12 ((400 : Int32)).toNatClampNeg) a0 4 (some q_7)) q_10 13 ((5 : Int32)).toNatClampNeg) a0 11 (some q_10)) q_13 13 ((9 : Int32)).toNatClampNeg) a0 14 (some q_13)) q_16 13 ((400 : Int32)).toNatClampNeg) a0 15 (some q_16)) q_19 13 ((40 : Int32)).toNatClampNeg) a0 16 (some q_19)) q_22 15 ((12 : Int32)).toNatClampNeg) a0 18 (some q_22)) q_25 13 ((12 : Int32)).toNatClampNeg) a0 19 (some q_25)) q_28 15 ((144 : Int32)).toNatClampNeg) a0 20 (some q_28)) q_31 13 ((10 : Int32)).toNatClampNeg) a0 21 (some q_31)) q_34 13 ((10 : Int32)).toNatClampNeg) a0 22 (some q_34)) q_37 13 ((10 : Int32)).toNatClampNeg) a0 23 (some q_37)) q_40 15 ((40 : Int32)).toNatClampNeg) a0 24 (some q_40)) q_43 15 ((40 : Int32)).toNatClampNeg) a0 25 (some q_43)) q_46 13 ((10 : Int32)).toNatClampNeg) a0 26 (some q_46)) q_49 13 ((10 : Int32)).toNatClampNeg) a0 27 (some q_49)) → ∀ q_55 : Nat, q_55 ∉ eL (sR (nE (sR (nE (sR (nE (sR (nE (sR (nE (sR (nE (sR (nE (sR (nE (sR (nE (sR (nE (sR (nE (sR (nE (sR (nE (sR (nE (sR (nE (sR (nE (sR (nE (sR (nE E q_1 13 ((4851 : Int32)).toNatClampNeg) a0 1 (some q_1)) q_4 13 ((4000 : Int32)).toNatClampNeg) a0 2 (some q_4)) q_7 12 ((400 : Int32)).toNatClampNeg) a0 4 (some q_7)) q_10 13 ((5 : Int32)).toNatClampNeg) a0 11 (some q_10)) q_13 13 ((9 : Int32)).toNatClampNeg) a0 14 (some q_13)) q_16 13 ((400 : Int32)).toNatClampNeg) a0 15 (some q_16)) q_19 13 ((40 : Int32)).toNatClampNeg) a0 16 (some q_19)) q_22 15 ((12 : Int32)).toNatClampNeg) a0 18 (some q_22)) q_25 13 ((12 : Int32)).toNatClampNeg) a0 19 (some q_25)) q_28 15 ((144 : Int32)).toNatClampNeg) a0 20 (some q_28)) q_31 13 ((10 : Int32)).toNatClampNeg) a0 21 (some q_31)) q_34 13 ((10 : Int32)).toNatClampNeg) a0 22 (some q_34)) q_37 13 ((10 : Int32)).toNatClampNeg) a0 23 (some q_37)) q_40 15 ((40 : Int32)).toNatClampNeg) a0 24 (some q_40)) q_43 15 ((40 : Int32)).toNatClampNeg) a0 25 (some q_43)) q_46 13 ((10 : Int32)).toNatClampNeg) a0 26 (some q_46)) q_49 13 ((10 : Int32)).toNatClampNeg) a0 27 (some q_49)) q_52 13 ((10 : Int32)).toNatClampNeg) a0 28 (some q_52)) → ∀ q_58 : Nat, q_58 ∉ eL (sR (nE (sR (nE (sR (nE (sR (nE (sR (nE (sR (nE (sR (nE (sR (nE (sR (nE (sR (nE (sR (nE (sR (nE (sR (nE (sR (nE (sR (nE (sR (nE (sR (nE (sR (nE (sR (nE E q_1 13 ((4851 : Int32)).toNatClampNeg) a0 1 (some q_1)) q_4 13 ((4000 : Int32)).toNatClampNeg) a0 2 (some q_4)) q_7 12 ((400 : Int32)).toNatClampNeg) a0 4 (some q_7)) q_10 13 ((5 : Int32)).toNatClampNeg) a0 11 (some q_10)) q_13 13 ((9 : Int32)).toNatClampNeg) a0 14 (some q_13)) q_16 13 ((400 : Int32)).toNatClampNeg) a0 15 (some q_16)) q_19 13 ((40 : Int32)).toNatClampNeg) a0 16 (some q_19)) q_22 15 ((12 : Int32)).toNatClampNeg) a0 18 (some q_22)) q_25 13 ((12 : Int32)).toNatClampNeg) a0 19 (some q_25)) q_28 15 ((144 : Int32)).toNatClampNeg) a0 20 (some q_28)) q_31 13 ((10 : Int32)).toNatClampNeg) a0 21 (some q_31)) q_34 13 ((10 : Int32)).toNatClampNeg) a0 22 (some q_34)) q_37 13 ((10 : Int32)).toNatClampNeg) a0 23 (some q_37)) q_40 15 ((40 : Int32)).toNatClampNeg) a0 24 (some q_40)) q_43 15 ((40 : Int32)).toNatClampNeg) a0 25 (some q_43)) q_46 13 ((10 : Int32)).toNatClampNeg) a0 26 (some q_46)) q_49 13 ((10 : Int32)).toNatClampNeg) a0 27 (some q_49)) q_52 13 ((10 : Int32)).toNatClampNeg) a0 28 (some q_52)) q_55 15 ((40 : Int32)).toNatClampNeg) a0 30 (some q_55)) → ∀ q_61 : Nat, q_61 ∉ eL (sR (nE (sR (nE (sR (nE (sR (nE (sR (nE (sR (nE (sR (nE (sR (nE (sR (nE (sR (nE (sR (nE (sR (nE (sR (nE (sR (nE (sR (nE (sR (nE (sR (nE (sR (nE (sR (nE (sR (nE E q_1 13 ((4851 : Int32)).toNatClampNeg) a0 1 (some q_1)) q_4 13 ((4000 : Int32)).toNatClampNeg) a0 2 (some q_4)) q_7 12 ((400 : Int32)).toNatClampNeg) a0 4 (some q_7)) q_10 13 ((5 : Int32)).toNatClampNeg) a0 11 (some q_10)) q_13 13 ((9 : Int32)).toNatClampNeg) a0 14 (some q_13)) q_16 13 ((400 : Int32)).toNatClampNeg) a0 15 (some q_16)) q_19 13 ((40 : Int32)).toNatClampNeg) a0 16 (some q_19)) q_22 15 ((12 : Int32)).toNatClampNeg) a0 18 (some q_22)) q_25 13 ((12 : Int32)).toNatClampNeg) a0 19 (some q_25)) q_28 15 ((144 : Int32)).toNatClampNeg) a0 20 (some q_28)) q_31 13 ((10 : Int32)).toNatClampNeg) a0 21 (some q_31)) q_34 13 ((10 : Int32)).toNatClampNeg) a0 22 (some q_34)) q_37 13 ((10 : Int32)).toNatClampNeg) a0 23 (some q_37)) q_40 15 ((40 : Int32)).toNatClampNeg) a0 24 (some q_40)) q_43 15 ((40 : Int32)).toNatClampNeg) a0 25 (some q_43)) q_46 13 ((10 : Int32)).toNatClampNeg) a0 26 (some q_46)) q_49 13 ((10 : Int32)).toNatClampNeg) a0 27 (some q_49)) q_52 13 ((10 : Int32)).toNatClampNeg) a0 28 (some q_52)) q_55 15 ((40 : Int32)).toNatClampNeg) a0 30 (some q_55)) q_58 13 ((10 : Int32)).toNatClampNeg) a0 31 (some q_58)) → ∀ q_64 : Nat, q_64 ∉ eL (sR (nE (sR (nE (sR (nE (sR (nE (sR (nE (sR (nE (sR (nE (sR (nE (sR (nE (sR (nE (sR (nE (sR (nE (sR (nE (sR (nE (sR (nE (sR (nE (sR (nE (sR (nE (sR (nE (sR (nE (sR (nE E q_1 13 ((4851 : Int32)).toNatClampNeg) a0 1 (some q_1)) q_4 13 ((4000 : Int32)).toNatClampNeg) a0 2 (some q_4)) q_7 12 ((400 : Int32)).toNatClampNeg) a0 4 (some q_7)) q_10 13 ((5 : Int32)).toNatClampNeg) a0 11 (some q_10)) q_13 13 ((9 : Int32)).toNatClampNeg) a0 14 (some q_13)) q_16 13 ((400 : Int32)).toNatClampNeg) a0 15 (some q_16)) q_19 13 ((40 : Int32)).toNatClampNeg) a0 16 (some q_19)) q_22 15 ((12 : Int32)).toNatClampNeg) a0 18 (some q_22)) q_25 13 ((12 : Int32)).toNatClampNeg) a0 19 (some q_25)) q_28 15 ((144 : Int32)).toNatClampNeg) a0 20 (some q_28)) q_31 13 ((10 : Int32)).toNatClampNeg) a0 21 (some q_31)) q_34 13 ((10 : Int32)).toNatClampNeg) a0 22 (some q_34)) q_37 13 ((10 : Int32)).toNatClampNeg) a0 23 (some q_37)) q_40 15 ((40 : Int32)).toNatClampNeg) a0 24 (some q_40)) q_43 15 ((40 : Int32)).toNatClampNeg) a0 25 (some q_43)) q_46 13 ((10 : Int32)).toNatClampNeg) a0 26 (some q_46)) q_49 13 ((10 : Int32)).toNatClampNeg) a0 27 (some q_49)) q_52 13 ((10 : Int32)).toNatClampNeg) a0 28 (some q_52)) q_55 15 ((40 : Int32)).toNatClampNeg) a0 30 (some q_55)) q_58 13 ((10 : Int32)).toNatClampNeg) a0 31 (some q_58)) q_61 13 ((10 : Int32)).toNatClampNeg) a0 32 (some q_61)) → ∀ q_67 : Nat, q_67 ∉ eL (sR (nE (sR (nE (sR (nE (sR (nE (sR (nE (sR (nE (sR (nE (sR (nE (sR (nE (sR (nE (sR (nE (sR (nE (sR (nE (sR (nE (sR (nE (sR (nE (sR (nE (sR (nE (sR (nE (sR (nE (sR (nE (sR (nE E q_1 13 ((4851 : Int32)).toNatClampNeg) a0 1 (some q_1)) q_4 13 ((4000 : Int32)).toNatClampNeg) a0 2 (some q_4)) q_7 12 ((400 : Int32)).toNatClampNeg) a0 4 (some q_7)) q_10 13 ((5 : Int32)).toNatClampNeg) a0 11 (some q_10)) q_13 13 ((9 : Int32)).toNatClampNeg) a0 14 (some q_13)) q_16 13 ((400 : Int32)).toNatClampNeg) a0 15 (some q_16)) q_19 13 ((40 : Int32)).toNatClampNeg) a0 16 (some q_19)) q_22 15 ((12 : Int32)).toNatClampNeg) a0 18 (some q_22)) q_25 13 ((12 : Int32)).toNatClampNeg) a0 19 (some q_25)) q_28 15 ((144 : Int32)).toNatClampNeg) a0 20 (some q_28)) q_31 13 ((10 : Int32)).toNatClampNeg) a0 21 (some q_31)) q_34 13 ((10 : Int32)).toNatClampNeg) a0 22 (some q_34)) q_37 13 ((10 : Int32)).toNatClampNeg) a0 23 (some q_37)) q_40 15 ((40 : Int32)).toNatClampNeg) a0 24 (some q_40)) q_43 15 ((40 : Int32)).toNatClampNeg) a0 25 (some q_43)) q_46 13 ((10 : Int32)).toNatClampNeg) a0 26 (some q_46)) q_49 13 ((10 : Int32)).toNatClampNeg) a0 27 (some q_49)) q_52 13 ((10 : Int32)).toNatClampNeg) a0 28 (some q_52)) q_55 15 ((40 : Int32)).toNatClampNeg) a0 30 (some q_55)) q_58 13 ((10 : Int32)).toNatClampNeg) a0 31 (some q_58)) q_61 13 ((10 : Int32)).toNatClampNeg) a0 32 (some q_61)) q_64 13 ((10 : Int32)).toNatClampNeg) a0 34 (some q_64)) → ∀ q_70 : Nat, q_70 ∉ eL (sR (nE (sR (nE (sR (nE (sR (nE (sR (nE (sR (nE (sR (nE (sR (nE (sR (nE (sR (nE (sR (nE (sR (nE (sR (nE (sR (nE (sR (nE (sR (nE (sR (nE (sR (nE (sR (nE (sR (nE (sR (nE (sR (nE (sR (nE E q_1 13 ((4851 : Int32)).toNatClampNeg) a0 1 (some q_1)) q_4 13 ((4000 : Int32)).toNatClampNeg) a0 2 (some q_4)) q_7 12 ((400 : Int32)).toNatClampNeg) a0 4 (some q_7)) q_10 13 ((5 : Int32)).toNatClampNeg) a0 11 (some q_10)) q_13 13 ((9 : Int32)).toNatClampNeg) a0 14 (some q_13)) q_16 13 ((400 : Int32)).toNatClampNeg) a0 15 (some q_16)) q_19 13 ((40 : Int32)).toNatClampNeg) a0 16 (some q_19)) q_22 15 ((12 : Int32)).toNatClampNeg) a0 18 (some q_22)) q_25 13 ((12 : Int32)).toNatClampNeg) a0 19 (some q_25)) q_28 15 ((144 : Int32)).toNatClampNeg) a0 20 (some q_28)) q_31 13 ((10 : Int32)).toNatClampNeg) a0 21 (some q_31)) q_34 13 ((10 : Int32)).toNatClampNeg) a0 22 (some q_34)) q_37 13 ((10 : Int32)).toNatClampNeg) a0 23 (some q_37)) q_40 15 ((40 : Int32)).toNatClampNeg) a0 24 (some q_40)) q_43 15 ((40 : Int32)).toNatClampNeg) a0 25 (some q_43)) q_46 13 ((10 : Int32)).toNatClampNeg) a0 26 (some q_46)) q_49 13 ((10 : Int32)).toNatClampNeg) a0 27 (some q_49)) q_52 13 ((10 : Int32)).toNatClampNeg) a0 28 (some q_52)) q_55 15 ((40 : Int32)).toNatClampNeg) a0 30 (some q_55)) q_58 13 ((10 : Int32)).toNatClampNeg) a0 31 (some q_58)) q_61 13 ((10 : Int32)).toNatClampNeg) a0 32 (some q_61)) q_64 13 ((10 : Int32)).toNatClampNeg) a0 34 (some q_64)) q_67 13 ((10 : Int32)).toNatClampNeg) a0 35 (some q_67)) → ∀ q_73 : Nat, q_73 ∉ eL (sR (nE (sR (nE (sR (nE (sR (nE (sR (nE (sR (nE (sR (nE (sR (nE (sR (nE (sR (nE (sR (nE (sR (nE (sR (nE (sR (nE (sR (nE (sR (nE (sR (nE (sR (nE (sR (nE (sR (nE (sR (nE (sR (nE (sR (nE (sR (nE E q_1 13 ((4851 : Int32)).toNatClampNeg) a0 1 (some q_1)) q_4 13 ((4000 : Int32)).toNatClampNeg) a0 2 (some q_4)) q_7 12 ((400 : Int32)).toNatClampNeg) a0 4 (some q_7)) q_10 13 ((5 : Int32)).toNatClampNeg) a0 11 (some q_10)) q_13 13 ((9 : Int32)).toNatClampNeg) a0 14 (some q_13)) q_16 13 ((400 : Int32)).toNatClampNeg) a0 15 (some q_16)) q_19 13 ((40 : Int32)).toNatClampNeg) a0 16 (some q_19)) q_22 15 ((12 : Int32)).toNatClampNeg) a0 18 (some q_22)) q_25 13 ((12 : Int32)).toNatClampNeg) a0 19 (some q_25)) q_28 15 ((144 : Int32)).toNatClampNeg) a0 20 (some q_28)) q_31 13 ((10 : Int32)).toNatClampNeg) a0 21 (some q_31)) q_34 13 ((10 : Int32)).toNatClampNeg) a0 22 (some q_34)) q_37 13 ((10 : Int32)).toNatClampNeg) a0 23 (some q_37)) q_40 15 ((40 : Int32)).toNatClampNeg) a0 24 (some q_40)) q_43 15 ((40 : Int32)).toNatClampNeg) a0 25 (some q_43)) q_46 13 ((10 : Int32)).toNatClampNeg) a0 26 (some q_46)) q_49 13 ((10 : Int32)).toNatClampNeg) a0 27 (some q_49)) q_52 13 ((10 : Int32)).toNatClampNeg) a0 28 (some q_52)) q_55 15 ((40 : Int32)).toNatClampNeg) a0 30 (some q_55)) q_58 13 ((10 : Int32)).toNatClampNeg) a0 31 (some q_58)) q_61 13 ((10 : Int32)).toNatClampNeg) a0 32 (some q_61)) q_64 13 ((10 : Int32)).toNatClampNeg) a0 34 (some q_64)) q_67 13 ((10 : Int32)).toNatClampNeg) a0 35 (some q_67)) q_70 13 ((10 : Int32)).toNatClampNeg) a0 36 (some q_70)) → ∀ q_76 : Nat, q_76 ∉ eL (sR (nE (sR (nE (sR (nE (sR (nE (sR (nE (sR (nE (sR (nE (sR (nE (sR (nE (sR (nE (sR (nE (sR (nE (sR (nE (sR (nE (sR (nE (sR (nE (sR (nE (sR (nE (sR (nE (sR (nE (sR (nE (sR (nE (sR (nE (sR (nE (sR (nE E q_1 13 ((4851 : Int32)).toNatClampNeg) a0 1 (some q_1)) q_4 13 ((4000 : Int32)).toNatClampNeg) a0 2 (some q_4)) q_7 12 ((400 : Int32)).toNatClampNeg) a0 4 (some q_7)) q_10 13 ((5 : Int32)).toNatClampNeg) a0 11 (some q_10)) q_13 13 ((9 : Int32)).toNatClampNeg) a0 14 (some q_13)) q_16 13 ((400 : Int32)).toNatClampNeg) a0 15 (some q_16)) q_19 13 ((40 : Int32)).toNatClampNeg) a0 16 (some q_19)) q_22 15 ((12 : Int32)).toNatClampNeg) a0 18 (some q_22)) q_25 13 ((12 : Int32)).toNatClampNeg) a0 19 (some q_25)) q_28 15 ((144 : Int32)).toNatClampNeg) a0 20 (some q_28)) q_31 13 ((10 : Int32)).toNatClampNeg) a0 21 (some q_31)) q_34 13 ((10 : Int32)).toNatClampNeg) a0 22 (some q_34)) q_37 13 ((10 : Int32)).toNatClampNeg) a0 23 (some q_37)) q_40 15 ((40 : Int32)).toNatClampNeg) a0 24 (some q_40)) q_43 15 ((40 : Int32)).toNatClampNeg) a0 25 (some q_43)) q_46 13 ((10 : Int32)).toNatClampNeg) a0 26 (some q_46)) q_49 13 ((10 : Int32)).toNatClampNeg) a0 27 (some q_49)) q_52 13 ((10 : Int32)).toNatClampNeg) a0 28 (some q_52)) q_55 15 ((40 : Int32)).toNatClampNeg) a0 30 (some q_55)) q_58 13 ((10 : Int32)).toNatClampNeg) a0 31 (some q_58)) q_61 13 ((10 : Int32)).toNatClampNeg) a0 32 (some q_61)) q_64 13 ((10 : Int32)).toNatClampNeg) a0 34 (some q_64)) q_67 13 ((10 : Int32)).toNatClampNeg) a0 35 (some q_67)) q_70 13 ((10 : Int32)).toNatClampNeg) a0 36 (some q_70)) q_73 13 ((10 : Int32)).toNatClampNeg) a0 37 (some q_73)) → ∀ q_79 : Nat, q_79 ∉ eL (sR (nE (sR (nE (sR (nE (sR (nE (sR (nE (sR (nE (sR (nE (sR (nE (sR (nE (sR (nE (sR (nE (sR (nE (sR (nE (sR (nE (sR (nE (sR (nE (sR (nE (sR (nE (sR (nE (sR (nE (sR (nE (sR (nE (sR (nE (sR (nE (sR (nE (sR (nE E q_1 13 ((4851 : Int32)).toNatClampNeg) a0 1 (some q_1)) q_4 13 ((4000 : Int32)).toNatClampNeg) a0 2 (some q_4)) q_7 12 ((400 : Int32)).toNatClampNeg) a0 4 (some q_7)) q_10 13 ((5 : Int32)).toNatClampNeg) a0 11 (some q_10)) q_13 13 ((9 : Int32)).toNatClampNeg) a0 14 (some q_13)) q_16 13 ((400 : Int32)).toNatClampNeg) a0 15 (some q_16)) q_19 13 ((40 : Int32)).toNatClampNeg) a0 16 (some q_19)) q_22 15 ((12 : Int32)).toNatClampNeg) a0 18 (some q_22)) q_25 13 ((12 : Int32)).toNatClampNeg) a0 19 (some q_25)) q_28 15 ((144 : Int32)).toNatClampNeg) a0 20 (some q_28)) q_31 13 ((10 : Int32)).toNatClampNeg) a0 21 (some q_31)) q_34 13 ((10 : Int32)).toNatClampNeg) a0 22 (some q_34)) q_37 13 ((10 : Int32)).toNatClampNeg) a0 23 (some q_37)) q_40 15 ((40 : Int32)).toNatClampNeg) a0 24 (some q_40)) q_43 15 ((40 : Int32)).toNatClampNeg) a0 25 (some q_43)) q_46 13 ((10 : Int32)).toNatClampNeg) a0 26 (some q_46)) q_49 13 ((10 : Int32)).toNatClampNeg) a0 27 (some q_49)) q_52 13 ((10 : Int32)).toNatClampNeg) a0 28 (some q_52)) q_55 15 ((40 : Int32)).toNatClampNeg) a0 30 (some q_55)) q_58 13 ((10 : Int32)).toNatClampNeg) a0 31 (some q_58)) q_61 13 ((10 : Int32)).toNatClampNeg) a0 32 (some q_61)) q_64 13 ((10 : Int32)).toNatClampNeg) a0 34 (some q_64)) q_67 13 ((10 : Int32)).toNatClampNeg) a0 35 (some q_67)) q_70 13 ((10 : Int32)).toNatClampNeg) a0 36 (some q_70)) q_73 13 ((10 : Int32)).toNatClampNeg) a0 37 (some q_73)) q_76 14 ((256 : Int32)).toNatClampNeg) a0 38 (some q_76)) → ∃ b_82 : Nat, eR (sR (nE (sR (nE (sR (nE (sR (nE (sR (nE (sR (nE (sR (nE (sR (nE (sR (nE (sR (nE (sR (nE (sR (nE (sR (nE (sR (nE (sR (nE (sR (nE (sR (nE (sR (nE (sR (nE (sR (nE (sR (nE (sR (nE (sR (nE (sR (nE (sR (nE (sR (nE (sR (nE E q_1 13 ((4851 : Int32)).toNatClampNeg) a0 1 (some q_1)) q_4 13 ((4000 : Int32)).toNatClampNeg) a0 2 (some q_4)) q_7 12 ((400 : Int32)).toNatClampNeg) a0 4 (some q_7)) q_10 13 ((5 : Int32)).toNatClampNeg) a0 11 (some q_10)) q_13 13 ((9 : Int32)).toNatClampNeg) a0 14 (some q_13)) q_16 13 ((400 : Int32)).toNatClampNeg) a0 15 (some q_16)) q_19 13 ((40 : Int32)).toNatClampNeg) a0 16 (some q_19)) q_22 15 ((12 : Int32)).toNatClampNeg) a0 18 (some q_22)) q_25 13 ((12 : Int32)).toNatClampNeg) a0 19 (some q_25)) q_28 15 ((144 : Int32)).toNatClampNeg) a0 20 (some q_28)) q_31 13 ((10 : Int32)).toNatClampNeg) a0 21 (some q_31)) q_34 13 ((10 : Int32)).toNatClampNeg) a0 22 (some q_34)) q_37 13 ((10 : Int32)).toNatClampNeg) a0 23 (some q_37)) q_40 15 ((40 : Int32)).toNatClampNeg) a0 24 (some q_40)) q_43 15 ((40 : Int32)).toNatClampNeg) a0 25 (some q_43)) q_46 13 ((10 : Int32)).toNatClampNeg) a0 26 (some q_46)) q_49 13 ((10 : Int32)).toNatClampNeg) a0 27 (some q_49)) q_52 13 ((10 : Int32)).toNatClampNeg) a0 28 (some q_52)) q_55 15 ((40 : Int32)).toNatClampNeg) a0 30 (some q_55)) q_58 13 ((10 : Int32)).toNatClampNeg) a0 31 (some q_58)) q_61 13 ((10 : Int32)).toNatClampNeg) a0 32 (some q_61)) q_64 13 ((10 : Int32)).toNatClampNeg) a0 34 (some q_64)) q_67 13 ((10 : Int32)).toNatClampNeg) a0 35 (some q_67)) q_70 13 ((10 : Int32)).toNatClampNeg) a0 36 (some q_70)) q_73 13 ((10 : Int32)).toNatClampNeg) a0 37 (some q_73)) q_76 14 ((256 : Int32)).toNatClampNeg) a0 38 (some q_76)) q_79 14 ((256 : Int32)).toNatClampNeg) a0 39 (some q_79)) a0 1 = some b_82 ∧ okA (sR (nE (sR (nE (sR (nE (sR (nE (sR (nE (sR (nE (sR (nE (sR (nE (sR (nE (sR (nE (sR (nE (sR (nE (sR (nE (sR (nE (sR (nE (sR (nE (sR (nE (sR (nE (sR (nE (sR (nE (sR (nE (sR (nE (sR (nE (sR (nE (sR (nE (sR (nE (sR (nE E q_1 13 ((4851 : Int32)).toNatClampNeg) a0 1 (some q_1)) q_4 13 ((4000 : Int32)).toNatClampNeg) a0 2 (some q_4)) q_7 12 ((400 : Int32)).toNatClampNeg) a0 4 (some q_7)) q_10 13 ((5 : Int32)).toNatClampNeg) a0 11 (some q_10)) q_13 13 ((9 : Int32)).toNatClampNeg) a0 14 (some q_13)) q_16 13 ((400 : Int32)).toNatClampNeg) a0 15 (some q_16)) q_19 13 ((40 : Int32)).toNatClampNeg) a0 16 (some q_19)) q_22 15 ((12 : Int32)).toNatClampNeg) a0 18 (some q_22)) q_25 13 ((12 : Int32)).toNatClampNeg) a0 19 (some q_25)) q_28 15 ((144 : Int32)).toNatClampNeg) a0 20 (some q_28)) q_31 13 ((10 : Int32)).toNatClampNeg) a0 21 (some q_31)) q_34 13 ((10 : Int32)).toNatClampNeg) a0 22 (some q_34)) q_37 13 ((10 : Int32)).toNatClampNeg) a0 23 (some q_37)) q_40 15 ((40 : Int32)).toNatClampNeg) a0 24 (some q_40)) q_43 15 ((40 : Int32)).toNatClampNeg) a0 25 (some q_43)) q_46 13 ((10 : Int32)).toNatClampNeg) a0 26 (some q_46)) q_49 13 ((10 : Int32)).toNatClampNeg) a0 27 (some q_49)) q_52 13 ((10 : Int32)).toNatClampNeg) a0 28 (some q_52)) q_55 15 ((40 : Int32)).toNatClampNeg) a0 30 (some q_55)) q_58 13 ((10 : Int32)).toNatClampNeg) a0 31 (some q_58)) q_61 13 ((10 : Int32)).toNatClampNeg) a0 32 (some q_61)) q_64 13 ((10 : Int32)).toNatClampNeg) a0 34 (some q_64)) q_67 13 ((10 : Int32)).toNatClampNeg) a0 35 (some q_67)) q_70 13 ((10 : Int32)).toNatClampNeg) a0 36 (some q_70)) q_73 13 ((10 : Int32)).toNatClampNeg) a0 37 (some q_73)) q_76 14 ((256 : Int32)).toNatClampNeg) a0 38 (some q_76)) q_79 14 ((256 : Int32)).toNatClampNeg) a0 39 (some q_79)) b_82 13 ∧ vp_in 3 (eN (sR (nE (sR (nE (sR (nE (sR (nE (sR (nE (sR (nE (sR (nE (sR (nE (sR (nE (sR (nE (sR (nE (sR (nE (sR (nE (sR (nE (sR (nE (sR (nE (sR (nE (sR (nE (sR (nE (sR (nE (sR (nE (sR (nE (sR (nE (sR (nE (sR (nE (sR (nE (sR (nE E q_1 13 ((4851 : Int32)).toNatClampNeg) a0 1 (some q_1)) q_4 13 ((4000 : Int32)).toNatClampNeg) a0 2 (some q_4)) q_7 12 ((400 : Int32)).toNatClampNeg) a0 4 (some q_7)) q_10 13 ((5 : Int32)).toNatClampNeg) a0 11 (some q_10)) q_13 13 ((9 : Int32)).toNatClampNeg) a0 14 (some q_13)) q_16 13 ((400 : Int32)).toNatClampNeg) a0 15 (some q_16)) q_19 13 ((40 : Int32)).toNatClampNeg) a0 16 (some q_19)) q_22 15 ((12 : Int32)).toNatClampNeg) a0 18 (some q_22)) q_25 13 ((12 : Int32)).toNatClampNeg) a0 19 (some q_25)) q_28 15 ((144 : Int32)).toNatClampNeg) a0 20 (some q_28)) q_31 13 ((10 : Int32)).toNatClampNeg) a0 21 (some q_31)) q_34 13 ((10 : Int32)).toNatClampNeg) a0 22 (some q_34)) q_37 13 ((10 : Int32)).toNatClampNeg) a0 23 (some q_37)) q_40 15 ((40 : Int32)).toNatClampNeg) a0 24 (some q_40)) q_43 15 ((40 : Int32)).toNatClampNeg) a0 25 (some q_43)) q_46 13 ((10 : Int32)).toNatClampNeg) a0 26 (some q_46)) q_49 13 ((10 : Int32)).toNatClampNeg) a0 27 (some q_49)) q_52 13 ((10 : Int32)).toNatClampNeg) a0 28 (some q_52)) q_55 15 ((40 : Int32)).toNatClampNeg) a0 30 (some q_55)) q_58 13 ((10 : Int32)).toNatClampNeg) a0 31 (some q_58)) q_61 13 ((10 : Int32)).toNatClampNeg) a0 32 (some q_61)) q_64 13 ((10 : Int32)).toNatClampNeg) a0 34 (some q_64)) q_67 13 ((10 : Int32)).toNatClampNeg) a0 35 (some q_67)) q_70 13 ((10 : Int32)).toNatClampNeg) a0 36 (some q_70)) q_73 13 ((10 : Int32)).toNatClampNeg) a0 37 (some q_73)) q_76 14 ((256 : Int32)).toNatClampNeg) a0 38 (some q_76)) q_79 14 ((256 : Int32)).toNatClampNeg) a0 39 (some q_79)) b_82) ∧ K (sR (nE (sR (nE (sR (nE (sR (nE (sR (nE (sR (nE (sR (nE (sR (nE (sR (nE (sR (nE (sR (nE (sR (nE (sR (nE (sR (nE (sR (nE (sR (nE (sR (nE (sR (nE (sR (nE (sR (nE (sR (nE (sR (nE (sR (nE (sR (nE (sR (nE (sR (nE (sR (nE E q_1 13 ((4851 : Int32)).toNatClampNeg) a0 1 (some q_1)) q_4 13 ((4000 : Int32)).toNatClampNeg) a0 2 (some q_4)) q_7 12 ((400 : Int32)).toNatClampNeg) a0 4 (some q_7)) q_10 13 ((5 : Int32)).toNatClampNeg) a0 11 (some q_10)) q_13 13 ((9 : Int32)).toNatClampNeg) a0 14 (some q_13)) q_16 13 ((400 : Int32)).toNatClampNeg) a0 15 (some q_16)) q_19 13 ((40 : Int32)).toNatClampNeg) a0 16 (some q_19)) q_22 15 ((12 : Int32)).toNatClampNeg) a0 18 (some q_22)) q_25 13 ((12 : Int32)).toNatClampNeg) a0 19 (some q_25)) q_28 15 ((144 : Int32)).toNatClampNeg) a0 20 (some q_28)) q_31 13 ((10 : Int32)).toNatClampNeg) a0 21 (some q_31)) q_34 13 ((10 : Int32)).toNatClampNeg) a0 22 (some q_34)) q_37 13 ((10 : Int32)).toNatClampNeg) a0 23 (some q_37)) q_40 15 ((40 : Int32)).toNatClampNeg) a0 24 (some q_40)) q_43 15 ((40 : Int32)).toNatClampNeg) a0 25 (some q_43)) q_46 13 ((10 : Int32)).toNatClampNeg) a0 26 (some q_46)) q_49 13 ((10 : Int32)).toNatClampNeg) a0 27 (some q_49)) q_52 13 ((10 : Int32)).toNatClampNeg) a0 28 (some q_52)) q_55 15 ((40 : Int32)).toNatClampNeg) a0 30 (some q_55)) q_58 13 ((10 : Int32)).toNatClampNeg) a0 31 (some q_58)) q_61 13 ((10 : Int32)).toNatClampNeg) a0 32 (some q_61)) q_64 13 ((10 : Int32)).toNatClampNeg) a0 34 (some q_64)) q_67 13 ((10 : Int32)).toNatClampNeg) a0 35 (some q_67)) q_70 13 ((10 : Int32)).toNatClampNeg) a0 36 (some q_70)) q_73 13 ((10 : Int32)).toNatClampNeg) a0 37 (some q_73)) q_76 14 ((256 : Int32)).toNatClampNeg) a0 38 (some q_76)) q_79 14 ((256 : Int32)).toNatClampNeg) a0 39 (some q_79)) (pA (nD (nD (nD (nD (nD (nD (nD (nD (nD (nD (nD (nD (nD (nD (nD (nD (nD (nD (nD (nD (nD (nD (nD (nD (pI (nD (nD (nD d q_1) q_4) q_7) a0 10 (-1)) q_10) q_13) q_16) q_19) q_22) q_25) q_28) q_31) q_34) q_37) q_40) q_43) q_46) q_49) q_52) q_55) q_58) q_61) q_64) q_67) q_70) q_73) q_76) q_79) b_82 ((3 : Int32)).toNatClampNeg 1980)
abbrev rm_X11_init : Room := { frames := 1, cells := 27, slots := 10625, locals := 24 }
set_option maxRecDepth 100000 in
set_option maxHeartbeats 4000000 in
theorem m_X11_init (l : Launch) (D : va_G) (cs : Nat → ClassId) (E : En) (d : Dy) (sz : Nat) (a0 : Nat) (K : En → Dy → Prop) : LV l yX11_init (.code yX11_init cX11_init 1 none :: wsL_law) rm_X11_init D cs E d sz [.ref a0] (w_X11_init E a0 d K) K := by
  refine e_ofN (cc := cX11_init) (maxL := 1) (ret := none) (own := RX11) (by decide) rfl rfl (Nat.le_of_ble_eq_true rfl) ?_
  intro p e s m below meth c S hr hlocks hinit hsz H locs hw h ls hl
  have hx : Ext E E := Ext_rf E
  have hinit : meth.name = "<init>" := hinit
  have hl : lv_has ls 1 [(0, .ref a0)] := hl
  unfold w_X11_init at h
  obtain ⟨ha0, h⟩ := h
  refine lv_aload_n S.1 S.2.1 (dd_at ddX11_init 0 rfl) rfl (lv_at hl 0 rfl) ?_
  refine W.objInit S.1 S.2.1 S.2.2.2.1 (S.2.2.2.2 _ (List.mem_cons_of_mem _ wg149)) (S.2.2.2.2 _ (List.mem_cons_of_mem _ wg11)) (S.2.2.2.2 _ (List.mem_cons_of_mem _ wg12)) rfl (by rw [S.2.2.1]; exact hl.1) rfl (dd_at ddX11_init 1 rfl) (Nat.le_of_ble_eq_true rfl) (Nat.le_of_ble_eq_true rfl) ?_
  refine W.eq (g2 := F0 m 4 ls []) rfl ?_
  refine lv_aload_n S.1 S.2.1 (dd_at ddX11_init 2 rfl) rfl (lv_at hl 0 rfl) ?_
  refine lv_sipush (v := 4851) S.1 S.2.1 (dd_at ddX11_init 3 rfl) (by decide) ?_
  refine r_newI S hw (List.mem_cons_of_mem _ wg74) (n := 4851) (by decide) (by decide) (Nat.le_of_ble_eq_true rfl) (by show _ ≤ _; exact Nat.le_of_ble_eq_true rfl) (dd_at ddX11_init 4 rfl) (fun q_1 H hq_2 hw => ?_)
  refine W.widen (k := 1) (n := 4851) (Nat.le_of_ble_eq_true rfl) (Nat.le_of_ble_eq_true rfl) ?_
  have h := h q_1 hq_2
  have ha0 := Ext_O (Ext_nE 13 ((4851 : Int32)).toNatClampNeg hq_2) ha0
  have hx := Ext_tr hx (Ext_nE 13 ((4851 : Int32)).toNatClampNeg hq_2)
  have ho_3 := okA_new E q_1 ((4851 : Int32)).toNatClampNeg (t := 13) (by decide)
  refine r_putRF S hw hinit 11 1 (ty := (.array .int)) rfl inG11 tyX11 tyX11_ok nmX11 (by decide) (List.mem_cons_of_mem _ wg150) (by decide) rfl rfl (by decide +kernel) rfl rfl ha0 (dd_at ddX11_init 5 rfl) (fun H locs hw => ?_)
  have ha0 := Ext_O (Ext_sR _ a0 1 (some q_1)) ha0
  have ho_3 := Ext_A (Ext_sR _ a0 1 (some q_1)) ho_3
  have hx := Ext_tr hx (Ext_sR _ a0 1 (some q_1))
  refine lv_aload_n S.1 S.2.1 (dd_at ddX11_init 6 rfl) rfl (lv_at hl 0 rfl) ?_
  refine lv_sipush (v := 4000) S.1 S.2.1 (dd_at ddX11_init 7 rfl) (by decide) ?_
  refine r_newI S hw (List.mem_cons_of_mem _ wg74) (n := 4000) (by decide) (by decide) (Nat.le_of_ble_eq_true rfl) (by show _ ≤ _; exact Nat.le_of_ble_eq_true rfl) (dd_at ddX11_init 8 rfl) (fun q_4 H hq_5 hw => ?_)
  refine W.widen (k := 2) (n := 8851) (Nat.le_of_ble_eq_true rfl) (Nat.le_of_ble_eq_true rfl) ?_
  have h := h q_4 hq_5
  have ha0 := Ext_O (Ext_nE 13 ((4000 : Int32)).toNatClampNeg hq_5) ha0
  have ho_3 := Ext_A (Ext_nE 13 ((4000 : Int32)).toNatClampNeg hq_5) ho_3
  have hx := Ext_tr hx (Ext_nE 13 ((4000 : Int32)).toNatClampNeg hq_5)
  have ho_6 := okA_new (sR (nE E q_1 13 ((4851 : Int32)).toNatClampNeg) a0 1 (some q_1)) q_4 ((4000 : Int32)).toNatClampNeg (t := 13) (by decide)
  refine r_putRF S hw hinit 11 2 (ty := (.array .int)) rfl inG11 tyX11 tyX11_ok nmX11 (by decide) (List.mem_cons_of_mem _ wg151) (by decide) rfl rfl (by decide +kernel) rfl rfl ha0 (dd_at ddX11_init 9 rfl) (fun H locs hw => ?_)
  have ha0 := Ext_O (Ext_sR _ a0 2 (some q_4)) ha0
  have ho_3 := Ext_A (Ext_sR _ a0 2 (some q_4)) ho_3
  have ho_6 := Ext_A (Ext_sR _ a0 2 (some q_4)) ho_6
  have hx := Ext_tr hx (Ext_sR _ a0 2 (some q_4))
  refine lv_aload_n S.1 S.2.1 (dd_at ddX11_init 10 rfl) rfl (lv_at hl 0 rfl) ?_
  refine lv_sipush (v := 400) S.1 S.2.1 (dd_at ddX11_init 11 rfl) (by decide) ?_
  refine r_newB S hw (List.mem_cons_of_mem _ wg152) (n := 400) (by decide) (by decide) (Nat.le_of_ble_eq_true rfl) (by show _ ≤ _; exact Nat.le_of_ble_eq_true rfl) (dd_at ddX11_init 12 rfl) (fun q_7 H hq_8 hw => ?_)
  refine W.widen (k := 3) (n := 9251) (Nat.le_of_ble_eq_true rfl) (Nat.le_of_ble_eq_true rfl) ?_
  have h := h q_7 hq_8
  have ha0 := Ext_O (Ext_nE 12 ((400 : Int32)).toNatClampNeg hq_8) ha0
  have ho_3 := Ext_A (Ext_nE 12 ((400 : Int32)).toNatClampNeg hq_8) ho_3
  have ho_6 := Ext_A (Ext_nE 12 ((400 : Int32)).toNatClampNeg hq_8) ho_6
  have hx := Ext_tr hx (Ext_nE 12 ((400 : Int32)).toNatClampNeg hq_8)
  have ho_9 := okA_new (sR (nE (sR (nE E q_1 13 ((4851 : Int32)).toNatClampNeg) a0 1 (some q_1)) q_4 13 ((4000 : Int32)).toNatClampNeg) a0 2 (some q_4)) q_7 ((400 : Int32)).toNatClampNeg (t := 12) (by decide)
  refine r_putRF S hw hinit 11 4 (ty := (.array .byte)) rfl inG11 tyX11 tyX11_ok nmX11 (by decide) (List.mem_cons_of_mem _ wg153) (by decide) rfl rfl (by decide +kernel) rfl rfl ha0 (dd_at ddX11_init 13 rfl) (fun H locs hw => ?_)
  have ha0 := Ext_O (Ext_sR _ a0 4 (some q_7)) ha0
  have ho_3 := Ext_A (Ext_sR _ a0 4 (some q_7)) ho_3
  have ho_6 := Ext_A (Ext_sR _ a0 4 (some q_7)) ho_6
  have ho_9 := Ext_A (Ext_sR _ a0 4 (some q_7)) ho_9
  have hx := Ext_tr hx (Ext_sR _ a0 4 (some q_7))
  refine lv_aload_n S.1 S.2.1 (dd_at ddX11_init 14 rfl) rfl (lv_at hl 0 rfl) ?_
  refine lv_iconst (v := -1) S.1 S.2.1 (dd_at ddX11_init 15 rfl) (by decide) ?_
  refine r_putI S hw 11 10 (ty := .int) (v := -1) rfl inG11 tyX11 tyX11_ok nmX11 (by decide) (List.mem_cons_of_mem _ wg154) (by decide) rfl (by decide +kernel) rfl rfl ha0 (dd_at ddX11_init 16 rfl) (fun H locs hw => ?_)
  refine lv_aload_n S.1 S.2.1 (dd_at ddX11_init 17 rfl) rfl (lv_at hl 0 rfl) ?_
  refine lv_iconst (v := 5) S.1 S.2.1 (dd_at ddX11_init 18 rfl) (by decide) ?_
  refine r_newI S hw (List.mem_cons_of_mem _ wg74) (n := 5) (by decide) (by decide) (Nat.le_of_ble_eq_true rfl) (by show _ ≤ _; exact Nat.le_of_ble_eq_true rfl) (dd_at ddX11_init 19 rfl) (fun q_10 H hq_11 hw => ?_)
  refine W.widen (k := 4) (n := 9256) (Nat.le_of_ble_eq_true rfl) (Nat.le_of_ble_eq_true rfl) ?_
  have h := h q_10 hq_11
  have ha0 := Ext_O (Ext_nE 13 ((5 : Int32)).toNatClampNeg hq_11) ha0
  have ho_3 := Ext_A (Ext_nE 13 ((5 : Int32)).toNatClampNeg hq_11) ho_3
  have ho_6 := Ext_A (Ext_nE 13 ((5 : Int32)).toNatClampNeg hq_11) ho_6
  have ho_9 := Ext_A (Ext_nE 13 ((5 : Int32)).toNatClampNeg hq_11) ho_9
  have hx := Ext_tr hx (Ext_nE 13 ((5 : Int32)).toNatClampNeg hq_11)
  have ho_12 := okA_new (sR (nE (sR (nE (sR (nE E q_1 13 ((4851 : Int32)).toNatClampNeg) a0 1 (some q_1)) q_4 13 ((4000 : Int32)).toNatClampNeg) a0 2 (some q_4)) q_7 12 ((400 : Int32)).toNatClampNeg) a0 4 (some q_7)) q_10 ((5 : Int32)).toNatClampNeg (t := 13) (by decide)
  refine r_putRF S hw hinit 11 11 (ty := (.array .int)) rfl inG11 tyX11 tyX11_ok nmX11 (by decide) (List.mem_cons_of_mem _ wg155) (by decide) rfl rfl (by decide +kernel) rfl rfl ha0 (dd_at ddX11_init 20 rfl) (fun H locs hw => ?_)
  have ha0 := Ext_O (Ext_sR _ a0 11 (some q_10)) ha0
  have ho_3 := Ext_A (Ext_sR _ a0 11 (some q_10)) ho_3
  have ho_6 := Ext_A (Ext_sR _ a0 11 (some q_10)) ho_6
  have ho_9 := Ext_A (Ext_sR _ a0 11 (some q_10)) ho_9
  have ho_12 := Ext_A (Ext_sR _ a0 11 (some q_10)) ho_12
  have hx := Ext_tr hx (Ext_sR _ a0 11 (some q_10))
  refine lv_aload_n S.1 S.2.1 (dd_at ddX11_init 21 rfl) rfl (lv_at hl 0 rfl) ?_
  refine lv_bipush (v := 9) S.1 S.2.1 (dd_at ddX11_init 22 rfl) (by decide) ?_
  refine r_newI S hw (List.mem_cons_of_mem _ wg74) (n := 9) (by decide) (by decide) (Nat.le_of_ble_eq_true rfl) (by show _ ≤ _; exact Nat.le_of_ble_eq_true rfl) (dd_at ddX11_init 23 rfl) (fun q_13 H hq_14 hw => ?_)
  refine W.widen (k := 5) (n := 9265) (Nat.le_of_ble_eq_true rfl) (Nat.le_of_ble_eq_true rfl) ?_
  have h := h q_13 hq_14
  have ha0 := Ext_O (Ext_nE 13 ((9 : Int32)).toNatClampNeg hq_14) ha0
  have ho_3 := Ext_A (Ext_nE 13 ((9 : Int32)).toNatClampNeg hq_14) ho_3
  have ho_6 := Ext_A (Ext_nE 13 ((9 : Int32)).toNatClampNeg hq_14) ho_6
  have ho_9 := Ext_A (Ext_nE 13 ((9 : Int32)).toNatClampNeg hq_14) ho_9
  have ho_12 := Ext_A (Ext_nE 13 ((9 : Int32)).toNatClampNeg hq_14) ho_12
  have hx := Ext_tr hx (Ext_nE 13 ((9 : Int32)).toNatClampNeg hq_14)
  have ho_15 := okA_new (sR (nE (sR (nE (sR (nE (sR (nE E q_1 13 ((4851 : Int32)).toNatClampNeg) a0 1 (some q_1)) q_4 13 ((4000 : Int32)).toNatClampNeg) a0 2 (some q_4)) q_7 12 ((400 : Int32)).toNatClampNeg) a0 4 (some q_7)) q_10 13 ((5 : Int32)).toNatClampNeg) a0 11 (some q_10)) q_13 ((9 : Int32)).toNatClampNeg (t := 13) (by decide)
  refine r_putRF S hw hinit 11 14 (ty := (.array .int)) rfl inG11 tyX11 tyX11_ok nmX11 (by decide) (List.mem_cons_of_mem _ wg156) (by decide) rfl rfl (by decide +kernel) rfl rfl ha0 (dd_at ddX11_init 24 rfl) (fun H locs hw => ?_)
  have ha0 := Ext_O (Ext_sR _ a0 14 (some q_13)) ha0
  have ho_3 := Ext_A (Ext_sR _ a0 14 (some q_13)) ho_3
  have ho_6 := Ext_A (Ext_sR _ a0 14 (some q_13)) ho_6
  have ho_9 := Ext_A (Ext_sR _ a0 14 (some q_13)) ho_9
  have ho_12 := Ext_A (Ext_sR _ a0 14 (some q_13)) ho_12
  have ho_15 := Ext_A (Ext_sR _ a0 14 (some q_13)) ho_15
  have hx := Ext_tr hx (Ext_sR _ a0 14 (some q_13))
  refine lv_aload_n S.1 S.2.1 (dd_at ddX11_init 25 rfl) rfl (lv_at hl 0 rfl) ?_
  refine lv_sipush (v := 400) S.1 S.2.1 (dd_at ddX11_init 26 rfl) (by decide) ?_
  refine r_newI S hw (List.mem_cons_of_mem _ wg74) (n := 400) (by decide) (by decide) (Nat.le_of_ble_eq_true rfl) (by show _ ≤ _; exact Nat.le_of_ble_eq_true rfl) (dd_at ddX11_init 27 rfl) (fun q_16 H hq_17 hw => ?_)
  refine W.widen (k := 6) (n := 9665) (Nat.le_of_ble_eq_true rfl) (Nat.le_of_ble_eq_true rfl) ?_
  have h := h q_16 hq_17
  have ha0 := Ext_O (Ext_nE 13 ((400 : Int32)).toNatClampNeg hq_17) ha0
  have ho_3 := Ext_A (Ext_nE 13 ((400 : Int32)).toNatClampNeg hq_17) ho_3
  have ho_6 := Ext_A (Ext_nE 13 ((400 : Int32)).toNatClampNeg hq_17) ho_6
  have ho_9 := Ext_A (Ext_nE 13 ((400 : Int32)).toNatClampNeg hq_17) ho_9
  have ho_12 := Ext_A (Ext_nE 13 ((400 : Int32)).toNatClampNeg hq_17) ho_12
  have ho_15 := Ext_A (Ext_nE 13 ((400 : Int32)).toNatClampNeg hq_17) ho_15
  have hx := Ext_tr hx (Ext_nE 13 ((400 : Int32)).toNatClampNeg hq_17)
  have ho_18 := okA_new (sR (nE (sR (nE (sR (nE (sR (nE (sR (nE E q_1 13 ((4851 : Int32)).toNatClampNeg) a0 1 (some q_1)) q_4 13 ((4000 : Int32)).toNatClampNeg) a0 2 (some q_4)) q_7 12 ((400 : Int32)).toNatClampNeg) a0 4 (some q_7)) q_10 13 ((5 : Int32)).toNatClampNeg) a0 11 (some q_10)) q_13 13 ((9 : Int32)).toNatClampNeg) a0 14 (some q_13)) q_16 ((400 : Int32)).toNatClampNeg (t := 13) (by decide)
  refine r_putRF S hw hinit 11 15 (ty := (.array .int)) rfl inG11 tyX11 tyX11_ok nmX11 (by decide) (List.mem_cons_of_mem _ wg157) (by decide) rfl rfl (by decide +kernel) rfl rfl ha0 (dd_at ddX11_init 28 rfl) (fun H locs hw => ?_)
  have ha0 := Ext_O (Ext_sR _ a0 15 (some q_16)) ha0
  have ho_3 := Ext_A (Ext_sR _ a0 15 (some q_16)) ho_3
  have ho_6 := Ext_A (Ext_sR _ a0 15 (some q_16)) ho_6
  have ho_9 := Ext_A (Ext_sR _ a0 15 (some q_16)) ho_9
  have ho_12 := Ext_A (Ext_sR _ a0 15 (some q_16)) ho_12
  have ho_15 := Ext_A (Ext_sR _ a0 15 (some q_16)) ho_15
  have ho_18 := Ext_A (Ext_sR _ a0 15 (some q_16)) ho_18
  have hx := Ext_tr hx (Ext_sR _ a0 15 (some q_16))
  refine lv_aload_n S.1 S.2.1 (dd_at ddX11_init 29 rfl) rfl (lv_at hl 0 rfl) ?_
  refine lv_bipush (v := 40) S.1 S.2.1 (dd_at ddX11_init 30 rfl) (by decide) ?_
  refine r_newI S hw (List.mem_cons_of_mem _ wg74) (n := 40) (by decide) (by decide) (Nat.le_of_ble_eq_true rfl) (by show _ ≤ _; exact Nat.le_of_ble_eq_true rfl) (dd_at ddX11_init 31 rfl) (fun q_19 H hq_20 hw => ?_)
  refine W.widen (k := 7) (n := 9705) (Nat.le_of_ble_eq_true rfl) (Nat.le_of_ble_eq_true rfl) ?_
  have h := h q_19 hq_20
  have ha0 := Ext_O (Ext_nE 13 ((40 : Int32)).toNatClampNeg hq_20) ha0
  have ho_3 := Ext_A (Ext_nE 13 ((40 : Int32)).toNatClampNeg hq_20) ho_3
  have ho_6 := Ext_A (Ext_nE 13 ((40 : Int32)).toNatClampNeg hq_20) ho_6
  have ho_9 := Ext_A (Ext_nE 13 ((40 : Int32)).toNatClampNeg hq_20) ho_9
  have ho_12 := Ext_A (Ext_nE 13 ((40 : Int32)).toNatClampNeg hq_20) ho_12
  have ho_15 := Ext_A (Ext_nE 13 ((40 : Int32)).toNatClampNeg hq_20) ho_15
  have ho_18 := Ext_A (Ext_nE 13 ((40 : Int32)).toNatClampNeg hq_20) ho_18
  have hx := Ext_tr hx (Ext_nE 13 ((40 : Int32)).toNatClampNeg hq_20)
  have ho_21 := okA_new (sR (nE (sR (nE (sR (nE (sR (nE (sR (nE (sR (nE E q_1 13 ((4851 : Int32)).toNatClampNeg) a0 1 (some q_1)) q_4 13 ((4000 : Int32)).toNatClampNeg) a0 2 (some q_4)) q_7 12 ((400 : Int32)).toNatClampNeg) a0 4 (some q_7)) q_10 13 ((5 : Int32)).toNatClampNeg) a0 11 (some q_10)) q_13 13 ((9 : Int32)).toNatClampNeg) a0 14 (some q_13)) q_16 13 ((400 : Int32)).toNatClampNeg) a0 15 (some q_16)) q_19 ((40 : Int32)).toNatClampNeg (t := 13) (by decide)
  refine r_putRF S hw hinit 11 16 (ty := (.array .int)) rfl inG11 tyX11 tyX11_ok nmX11 (by decide) (List.mem_cons_of_mem _ wg158) (by decide) rfl rfl (by decide +kernel) rfl rfl ha0 (dd_at ddX11_init 32 rfl) (fun H locs hw => ?_)
  have ha0 := Ext_O (Ext_sR _ a0 16 (some q_19)) ha0
  have ho_3 := Ext_A (Ext_sR _ a0 16 (some q_19)) ho_3
  have ho_6 := Ext_A (Ext_sR _ a0 16 (some q_19)) ho_6
  have ho_9 := Ext_A (Ext_sR _ a0 16 (some q_19)) ho_9
  have ho_12 := Ext_A (Ext_sR _ a0 16 (some q_19)) ho_12
  have ho_15 := Ext_A (Ext_sR _ a0 16 (some q_19)) ho_15
  have ho_18 := Ext_A (Ext_sR _ a0 16 (some q_19)) ho_18
  have ho_21 := Ext_A (Ext_sR _ a0 16 (some q_19)) ho_21
  have hx := Ext_tr hx (Ext_sR _ a0 16 (some q_19))
  refine lv_aload_n S.1 S.2.1 (dd_at ddX11_init 33 rfl) rfl (lv_at hl 0 rfl) ?_
  refine lv_bipush (v := 12) S.1 S.2.1 (dd_at ddX11_init 34 rfl) (by decide) ?_
  refine r_newZ S hw (List.mem_cons_of_mem _ wg159) (n := 12) (by decide) (by decide) (Nat.le_of_ble_eq_true rfl) (by show _ ≤ _; exact Nat.le_of_ble_eq_true rfl) (dd_at ddX11_init 35 rfl) (fun q_22 H hq_23 hw => ?_)
  refine W.widen (k := 8) (n := 9717) (Nat.le_of_ble_eq_true rfl) (Nat.le_of_ble_eq_true rfl) ?_
  have h := h q_22 hq_23
  have ha0 := Ext_O (Ext_nE 15 ((12 : Int32)).toNatClampNeg hq_23) ha0
  have ho_3 := Ext_A (Ext_nE 15 ((12 : Int32)).toNatClampNeg hq_23) ho_3
  have ho_6 := Ext_A (Ext_nE 15 ((12 : Int32)).toNatClampNeg hq_23) ho_6
  have ho_9 := Ext_A (Ext_nE 15 ((12 : Int32)).toNatClampNeg hq_23) ho_9
  have ho_12 := Ext_A (Ext_nE 15 ((12 : Int32)).toNatClampNeg hq_23) ho_12
  have ho_15 := Ext_A (Ext_nE 15 ((12 : Int32)).toNatClampNeg hq_23) ho_15
  have ho_18 := Ext_A (Ext_nE 15 ((12 : Int32)).toNatClampNeg hq_23) ho_18
  have ho_21 := Ext_A (Ext_nE 15 ((12 : Int32)).toNatClampNeg hq_23) ho_21
  have hx := Ext_tr hx (Ext_nE 15 ((12 : Int32)).toNatClampNeg hq_23)
  have ho_24 := okA_new (sR (nE (sR (nE (sR (nE (sR (nE (sR (nE (sR (nE (sR (nE E q_1 13 ((4851 : Int32)).toNatClampNeg) a0 1 (some q_1)) q_4 13 ((4000 : Int32)).toNatClampNeg) a0 2 (some q_4)) q_7 12 ((400 : Int32)).toNatClampNeg) a0 4 (some q_7)) q_10 13 ((5 : Int32)).toNatClampNeg) a0 11 (some q_10)) q_13 13 ((9 : Int32)).toNatClampNeg) a0 14 (some q_13)) q_16 13 ((400 : Int32)).toNatClampNeg) a0 15 (some q_16)) q_19 13 ((40 : Int32)).toNatClampNeg) a0 16 (some q_19)) q_22 ((12 : Int32)).toNatClampNeg (t := 15) (by decide)
  refine r_putRF S hw hinit 11 18 (ty := (.array .boolean)) rfl inG11 tyX11 tyX11_ok nmX11 (by decide) (List.mem_cons_of_mem _ wg160) (by decide) rfl rfl (by decide +kernel) rfl rfl ha0 (dd_at ddX11_init 36 rfl) (fun H locs hw => ?_)
  have ha0 := Ext_O (Ext_sR _ a0 18 (some q_22)) ha0
  have ho_3 := Ext_A (Ext_sR _ a0 18 (some q_22)) ho_3
  have ho_6 := Ext_A (Ext_sR _ a0 18 (some q_22)) ho_6
  have ho_9 := Ext_A (Ext_sR _ a0 18 (some q_22)) ho_9
  have ho_12 := Ext_A (Ext_sR _ a0 18 (some q_22)) ho_12
  have ho_15 := Ext_A (Ext_sR _ a0 18 (some q_22)) ho_15
  have ho_18 := Ext_A (Ext_sR _ a0 18 (some q_22)) ho_18
  have ho_21 := Ext_A (Ext_sR _ a0 18 (some q_22)) ho_21
  have ho_24 := Ext_A (Ext_sR _ a0 18 (some q_22)) ho_24
  have hx := Ext_tr hx (Ext_sR _ a0 18 (some q_22))
  refine lv_aload_n S.1 S.2.1 (dd_at ddX11_init 37 rfl) rfl (lv_at hl 0 rfl) ?_
  refine lv_bipush (v := 12) S.1 S.2.1 (dd_at ddX11_init 38 rfl) (by decide) ?_
  refine r_newI S hw (List.mem_cons_of_mem _ wg74) (n := 12) (by decide) (by decide) (Nat.le_of_ble_eq_true rfl) (by show _ ≤ _; exact Nat.le_of_ble_eq_true rfl) (dd_at ddX11_init 39 rfl) (fun q_25 H hq_26 hw => ?_)
  refine W.widen (k := 9) (n := 9729) (Nat.le_of_ble_eq_true rfl) (Nat.le_of_ble_eq_true rfl) ?_
  have h := h q_25 hq_26
  have ha0 := Ext_O (Ext_nE 13 ((12 : Int32)).toNatClampNeg hq_26) ha0
  have ho_3 := Ext_A (Ext_nE 13 ((12 : Int32)).toNatClampNeg hq_26) ho_3
  have ho_6 := Ext_A (Ext_nE 13 ((12 : Int32)).toNatClampNeg hq_26) ho_6
  have ho_9 := Ext_A (Ext_nE 13 ((12 : Int32)).toNatClampNeg hq_26) ho_9
  have ho_12 := Ext_A (Ext_nE 13 ((12 : Int32)).toNatClampNeg hq_26) ho_12
  have ho_15 := Ext_A (Ext_nE 13 ((12 : Int32)).toNatClampNeg hq_26) ho_15
  have ho_18 := Ext_A (Ext_nE 13 ((12 : Int32)).toNatClampNeg hq_26) ho_18
  have ho_21 := Ext_A (Ext_nE 13 ((12 : Int32)).toNatClampNeg hq_26) ho_21
  have ho_24 := Ext_A (Ext_nE 13 ((12 : Int32)).toNatClampNeg hq_26) ho_24
  have hx := Ext_tr hx (Ext_nE 13 ((12 : Int32)).toNatClampNeg hq_26)
  have ho_27 := okA_new (sR (nE (sR (nE (sR (nE (sR (nE (sR (nE (sR (nE (sR (nE (sR (nE E q_1 13 ((4851 : Int32)).toNatClampNeg) a0 1 (some q_1)) q_4 13 ((4000 : Int32)).toNatClampNeg) a0 2 (some q_4)) q_7 12 ((400 : Int32)).toNatClampNeg) a0 4 (some q_7)) q_10 13 ((5 : Int32)).toNatClampNeg) a0 11 (some q_10)) q_13 13 ((9 : Int32)).toNatClampNeg) a0 14 (some q_13)) q_16 13 ((400 : Int32)).toNatClampNeg) a0 15 (some q_16)) q_19 13 ((40 : Int32)).toNatClampNeg) a0 16 (some q_19)) q_22 15 ((12 : Int32)).toNatClampNeg) a0 18 (some q_22)) q_25 ((12 : Int32)).toNatClampNeg (t := 13) (by decide)
  refine r_putRF S hw hinit 11 19 (ty := (.array .int)) rfl inG11 tyX11 tyX11_ok nmX11 (by decide) (List.mem_cons_of_mem _ wg161) (by decide) rfl rfl (by decide +kernel) rfl rfl ha0 (dd_at ddX11_init 40 rfl) (fun H locs hw => ?_)
  have ha0 := Ext_O (Ext_sR _ a0 19 (some q_25)) ha0
  have ho_3 := Ext_A (Ext_sR _ a0 19 (some q_25)) ho_3
  have ho_6 := Ext_A (Ext_sR _ a0 19 (some q_25)) ho_6
  have ho_9 := Ext_A (Ext_sR _ a0 19 (some q_25)) ho_9
  have ho_12 := Ext_A (Ext_sR _ a0 19 (some q_25)) ho_12
  have ho_15 := Ext_A (Ext_sR _ a0 19 (some q_25)) ho_15
  have ho_18 := Ext_A (Ext_sR _ a0 19 (some q_25)) ho_18
  have ho_21 := Ext_A (Ext_sR _ a0 19 (some q_25)) ho_21
  have ho_24 := Ext_A (Ext_sR _ a0 19 (some q_25)) ho_24
  have ho_27 := Ext_A (Ext_sR _ a0 19 (some q_25)) ho_27
  have hx := Ext_tr hx (Ext_sR _ a0 19 (some q_25))
  refine lv_aload_n S.1 S.2.1 (dd_at ddX11_init 41 rfl) rfl (lv_at hl 0 rfl) ?_
  refine lv_sipush (v := 144) S.1 S.2.1 (dd_at ddX11_init 42 rfl) (by decide) ?_
  refine r_newZ S hw (List.mem_cons_of_mem _ wg159) (n := 144) (by decide) (by decide) (Nat.le_of_ble_eq_true rfl) (by show _ ≤ _; exact Nat.le_of_ble_eq_true rfl) (dd_at ddX11_init 43 rfl) (fun q_28 H hq_29 hw => ?_)
  refine W.widen (k := 10) (n := 9873) (Nat.le_of_ble_eq_true rfl) (Nat.le_of_ble_eq_true rfl) ?_
  have h := h q_28 hq_29
  have ha0 := Ext_O (Ext_nE 15 ((144 : Int32)).toNatClampNeg hq_29) ha0
  have ho_3 := Ext_A (Ext_nE 15 ((144 : Int32)).toNatClampNeg hq_29) ho_3
  have ho_6 := Ext_A (Ext_nE 15 ((144 : Int32)).toNatClampNeg hq_29) ho_6
  have ho_9 := Ext_A (Ext_nE 15 ((144 : Int32)).toNatClampNeg hq_29) ho_9
  have ho_12 := Ext_A (Ext_nE 15 ((144 : Int32)).toNatClampNeg hq_29) ho_12
  have ho_15 := Ext_A (Ext_nE 15 ((144 : Int32)).toNatClampNeg hq_29) ho_15
  have ho_18 := Ext_A (Ext_nE 15 ((144 : Int32)).toNatClampNeg hq_29) ho_18
  have ho_21 := Ext_A (Ext_nE 15 ((144 : Int32)).toNatClampNeg hq_29) ho_21
  have ho_24 := Ext_A (Ext_nE 15 ((144 : Int32)).toNatClampNeg hq_29) ho_24
  have ho_27 := Ext_A (Ext_nE 15 ((144 : Int32)).toNatClampNeg hq_29) ho_27
  have hx := Ext_tr hx (Ext_nE 15 ((144 : Int32)).toNatClampNeg hq_29)
  have ho_30 := okA_new (sR (nE (sR (nE (sR (nE (sR (nE (sR (nE (sR (nE (sR (nE (sR (nE (sR (nE E q_1 13 ((4851 : Int32)).toNatClampNeg) a0 1 (some q_1)) q_4 13 ((4000 : Int32)).toNatClampNeg) a0 2 (some q_4)) q_7 12 ((400 : Int32)).toNatClampNeg) a0 4 (some q_7)) q_10 13 ((5 : Int32)).toNatClampNeg) a0 11 (some q_10)) q_13 13 ((9 : Int32)).toNatClampNeg) a0 14 (some q_13)) q_16 13 ((400 : Int32)).toNatClampNeg) a0 15 (some q_16)) q_19 13 ((40 : Int32)).toNatClampNeg) a0 16 (some q_19)) q_22 15 ((12 : Int32)).toNatClampNeg) a0 18 (some q_22)) q_25 13 ((12 : Int32)).toNatClampNeg) a0 19 (some q_25)) q_28 ((144 : Int32)).toNatClampNeg (t := 15) (by decide)
  refine r_putRF S hw hinit 11 20 (ty := (.array .boolean)) rfl inG11 tyX11 tyX11_ok nmX11 (by decide) (List.mem_cons_of_mem _ wg162) (by decide) rfl rfl (by decide +kernel) rfl rfl ha0 (dd_at ddX11_init 44 rfl) (fun H locs hw => ?_)
  have ha0 := Ext_O (Ext_sR _ a0 20 (some q_28)) ha0
  have ho_3 := Ext_A (Ext_sR _ a0 20 (some q_28)) ho_3
  have ho_6 := Ext_A (Ext_sR _ a0 20 (some q_28)) ho_6
  have ho_9 := Ext_A (Ext_sR _ a0 20 (some q_28)) ho_9
  have ho_12 := Ext_A (Ext_sR _ a0 20 (some q_28)) ho_12
  have ho_15 := Ext_A (Ext_sR _ a0 20 (some q_28)) ho_15
  have ho_18 := Ext_A (Ext_sR _ a0 20 (some q_28)) ho_18
  have ho_21 := Ext_A (Ext_sR _ a0 20 (some q_28)) ho_21
  have ho_24 := Ext_A (Ext_sR _ a0 20 (some q_28)) ho_24
  have ho_27 := Ext_A (Ext_sR _ a0 20 (some q_28)) ho_27
  have ho_30 := Ext_A (Ext_sR _ a0 20 (some q_28)) ho_30
  have hx := Ext_tr hx (Ext_sR _ a0 20 (some q_28))
  refine lv_aload_n S.1 S.2.1 (dd_at ddX11_init 45 rfl) rfl (lv_at hl 0 rfl) ?_
  refine lv_bipush (v := 10) S.1 S.2.1 (dd_at ddX11_init 46 rfl) (by decide) ?_
  refine r_newI S hw (List.mem_cons_of_mem _ wg74) (n := 10) (by decide) (by decide) (Nat.le_of_ble_eq_true rfl) (by show _ ≤ _; exact Nat.le_of_ble_eq_true rfl) (dd_at ddX11_init 47 rfl) (fun q_31 H hq_32 hw => ?_)
  refine W.widen (k := 11) (n := 9883) (Nat.le_of_ble_eq_true rfl) (Nat.le_of_ble_eq_true rfl) ?_
  have h := h q_31 hq_32
  have ha0 := Ext_O (Ext_nE 13 ((10 : Int32)).toNatClampNeg hq_32) ha0
  have ho_3 := Ext_A (Ext_nE 13 ((10 : Int32)).toNatClampNeg hq_32) ho_3
  have ho_6 := Ext_A (Ext_nE 13 ((10 : Int32)).toNatClampNeg hq_32) ho_6
  have ho_9 := Ext_A (Ext_nE 13 ((10 : Int32)).toNatClampNeg hq_32) ho_9
  have ho_12 := Ext_A (Ext_nE 13 ((10 : Int32)).toNatClampNeg hq_32) ho_12
  have ho_15 := Ext_A (Ext_nE 13 ((10 : Int32)).toNatClampNeg hq_32) ho_15
  have ho_18 := Ext_A (Ext_nE 13 ((10 : Int32)).toNatClampNeg hq_32) ho_18
  have ho_21 := Ext_A (Ext_nE 13 ((10 : Int32)).toNatClampNeg hq_32) ho_21
  have ho_24 := Ext_A (Ext_nE 13 ((10 : Int32)).toNatClampNeg hq_32) ho_24
  have ho_27 := Ext_A (Ext_nE 13 ((10 : Int32)).toNatClampNeg hq_32) ho_27
  have ho_30 := Ext_A (Ext_nE 13 ((10 : Int32)).toNatClampNeg hq_32) ho_30
  have hx := Ext_tr hx (Ext_nE 13 ((10 : Int32)).toNatClampNeg hq_32)
  have ho_33 := okA_new (sR (nE (sR (nE (sR (nE (sR (nE (sR (nE (sR (nE (sR (nE (sR (nE (sR (nE (sR (nE E q_1 13 ((4851 : Int32)).toNatClampNeg) a0 1 (some q_1)) q_4 13 ((4000 : Int32)).toNatClampNeg) a0 2 (some q_4)) q_7 12 ((400 : Int32)).toNatClampNeg) a0 4 (some q_7)) q_10 13 ((5 : Int32)).toNatClampNeg) a0 11 (some q_10)) q_13 13 ((9 : Int32)).toNatClampNeg) a0 14 (some q_13)) q_16 13 ((400 : Int32)).toNatClampNeg) a0 15 (some q_16)) q_19 13 ((40 : Int32)).toNatClampNeg) a0 16 (some q_19)) q_22 15 ((12 : Int32)).toNatClampNeg) a0 18 (some q_22)) q_25 13 ((12 : Int32)).toNatClampNeg) a0 19 (some q_25)) q_28 15 ((144 : Int32)).toNatClampNeg) a0 20 (some q_28)) q_31 ((10 : Int32)).toNatClampNeg (t := 13) (by decide)
  refine r_putRF S hw hinit 11 21 (ty := (.array .int)) rfl inG11 tyX11 tyX11_ok nmX11 (by decide) (List.mem_cons_of_mem _ wg163) (by decide) rfl rfl (by decide +kernel) rfl rfl ha0 (dd_at ddX11_init 48 rfl) (fun H locs hw => ?_)
  have ha0 := Ext_O (Ext_sR _ a0 21 (some q_31)) ha0
  have ho_3 := Ext_A (Ext_sR _ a0 21 (some q_31)) ho_3
  have ho_6 := Ext_A (Ext_sR _ a0 21 (some q_31)) ho_6
  have ho_9 := Ext_A (Ext_sR _ a0 21 (some q_31)) ho_9
  have ho_12 := Ext_A (Ext_sR _ a0 21 (some q_31)) ho_12
  have ho_15 := Ext_A (Ext_sR _ a0 21 (some q_31)) ho_15
  have ho_18 := Ext_A (Ext_sR _ a0 21 (some q_31)) ho_18
  have ho_21 := Ext_A (Ext_sR _ a0 21 (some q_31)) ho_21
  have ho_24 := Ext_A (Ext_sR _ a0 21 (some q_31)) ho_24
  have ho_27 := Ext_A (Ext_sR _ a0 21 (some q_31)) ho_27
  have ho_30 := Ext_A (Ext_sR _ a0 21 (some q_31)) ho_30
  have ho_33 := Ext_A (Ext_sR _ a0 21 (some q_31)) ho_33
  have hx := Ext_tr hx (Ext_sR _ a0 21 (some q_31))
  refine lv_aload_n S.1 S.2.1 (dd_at ddX11_init 49 rfl) rfl (lv_at hl 0 rfl) ?_
  refine lv_bipush (v := 10) S.1 S.2.1 (dd_at ddX11_init 50 rfl) (by decide) ?_
  refine r_newI S hw (List.mem_cons_of_mem _ wg74) (n := 10) (by decide) (by decide) (Nat.le_of_ble_eq_true rfl) (by show _ ≤ _; exact Nat.le_of_ble_eq_true rfl) (dd_at ddX11_init 51 rfl) (fun q_34 H hq_35 hw => ?_)
  refine W.widen (k := 12) (n := 9893) (Nat.le_of_ble_eq_true rfl) (Nat.le_of_ble_eq_true rfl) ?_
  have h := h q_34 hq_35
  have ha0 := Ext_O (Ext_nE 13 ((10 : Int32)).toNatClampNeg hq_35) ha0
  have ho_3 := Ext_A (Ext_nE 13 ((10 : Int32)).toNatClampNeg hq_35) ho_3
  have ho_6 := Ext_A (Ext_nE 13 ((10 : Int32)).toNatClampNeg hq_35) ho_6
  have ho_9 := Ext_A (Ext_nE 13 ((10 : Int32)).toNatClampNeg hq_35) ho_9
  have ho_12 := Ext_A (Ext_nE 13 ((10 : Int32)).toNatClampNeg hq_35) ho_12
  have ho_15 := Ext_A (Ext_nE 13 ((10 : Int32)).toNatClampNeg hq_35) ho_15
  have ho_18 := Ext_A (Ext_nE 13 ((10 : Int32)).toNatClampNeg hq_35) ho_18
  have ho_21 := Ext_A (Ext_nE 13 ((10 : Int32)).toNatClampNeg hq_35) ho_21
  have ho_24 := Ext_A (Ext_nE 13 ((10 : Int32)).toNatClampNeg hq_35) ho_24
  have ho_27 := Ext_A (Ext_nE 13 ((10 : Int32)).toNatClampNeg hq_35) ho_27
  have ho_30 := Ext_A (Ext_nE 13 ((10 : Int32)).toNatClampNeg hq_35) ho_30
  have ho_33 := Ext_A (Ext_nE 13 ((10 : Int32)).toNatClampNeg hq_35) ho_33
  have hx := Ext_tr hx (Ext_nE 13 ((10 : Int32)).toNatClampNeg hq_35)
  have ho_36 := okA_new (sR (nE (sR (nE (sR (nE (sR (nE (sR (nE (sR (nE (sR (nE (sR (nE (sR (nE (sR (nE (sR (nE E q_1 13 ((4851 : Int32)).toNatClampNeg) a0 1 (some q_1)) q_4 13 ((4000 : Int32)).toNatClampNeg) a0 2 (some q_4)) q_7 12 ((400 : Int32)).toNatClampNeg) a0 4 (some q_7)) q_10 13 ((5 : Int32)).toNatClampNeg) a0 11 (some q_10)) q_13 13 ((9 : Int32)).toNatClampNeg) a0 14 (some q_13)) q_16 13 ((400 : Int32)).toNatClampNeg) a0 15 (some q_16)) q_19 13 ((40 : Int32)).toNatClampNeg) a0 16 (some q_19)) q_22 15 ((12 : Int32)).toNatClampNeg) a0 18 (some q_22)) q_25 13 ((12 : Int32)).toNatClampNeg) a0 19 (some q_25)) q_28 15 ((144 : Int32)).toNatClampNeg) a0 20 (some q_28)) q_31 13 ((10 : Int32)).toNatClampNeg) a0 21 (some q_31)) q_34 ((10 : Int32)).toNatClampNeg (t := 13) (by decide)
  refine r_putRF S hw hinit 11 22 (ty := (.array .int)) rfl inG11 tyX11 tyX11_ok nmX11 (by decide) (List.mem_cons_of_mem _ wg164) (by decide) rfl rfl (by decide +kernel) rfl rfl ha0 (dd_at ddX11_init 52 rfl) (fun H locs hw => ?_)
  have ha0 := Ext_O (Ext_sR _ a0 22 (some q_34)) ha0
  have ho_3 := Ext_A (Ext_sR _ a0 22 (some q_34)) ho_3
  have ho_6 := Ext_A (Ext_sR _ a0 22 (some q_34)) ho_6
  have ho_9 := Ext_A (Ext_sR _ a0 22 (some q_34)) ho_9
  have ho_12 := Ext_A (Ext_sR _ a0 22 (some q_34)) ho_12
  have ho_15 := Ext_A (Ext_sR _ a0 22 (some q_34)) ho_15
  have ho_18 := Ext_A (Ext_sR _ a0 22 (some q_34)) ho_18
  have ho_21 := Ext_A (Ext_sR _ a0 22 (some q_34)) ho_21
  have ho_24 := Ext_A (Ext_sR _ a0 22 (some q_34)) ho_24
  have ho_27 := Ext_A (Ext_sR _ a0 22 (some q_34)) ho_27
  have ho_30 := Ext_A (Ext_sR _ a0 22 (some q_34)) ho_30
  have ho_33 := Ext_A (Ext_sR _ a0 22 (some q_34)) ho_33
  have ho_36 := Ext_A (Ext_sR _ a0 22 (some q_34)) ho_36
  have hx := Ext_tr hx (Ext_sR _ a0 22 (some q_34))
  refine lv_aload_n S.1 S.2.1 (dd_at ddX11_init 53 rfl) rfl (lv_at hl 0 rfl) ?_
  refine lv_bipush (v := 10) S.1 S.2.1 (dd_at ddX11_init 54 rfl) (by decide) ?_
  refine r_newI S hw (List.mem_cons_of_mem _ wg74) (n := 10) (by decide) (by decide) (Nat.le_of_ble_eq_true rfl) (by show _ ≤ _; exact Nat.le_of_ble_eq_true rfl) (dd_at ddX11_init 55 rfl) (fun q_37 H hq_38 hw => ?_)
  refine W.widen (k := 13) (n := 9903) (Nat.le_of_ble_eq_true rfl) (Nat.le_of_ble_eq_true rfl) ?_
  have h := h q_37 hq_38
  have ha0 := Ext_O (Ext_nE 13 ((10 : Int32)).toNatClampNeg hq_38) ha0
  have ho_3 := Ext_A (Ext_nE 13 ((10 : Int32)).toNatClampNeg hq_38) ho_3
  have ho_6 := Ext_A (Ext_nE 13 ((10 : Int32)).toNatClampNeg hq_38) ho_6
  have ho_9 := Ext_A (Ext_nE 13 ((10 : Int32)).toNatClampNeg hq_38) ho_9
  have ho_12 := Ext_A (Ext_nE 13 ((10 : Int32)).toNatClampNeg hq_38) ho_12
  have ho_15 := Ext_A (Ext_nE 13 ((10 : Int32)).toNatClampNeg hq_38) ho_15
  have ho_18 := Ext_A (Ext_nE 13 ((10 : Int32)).toNatClampNeg hq_38) ho_18
  have ho_21 := Ext_A (Ext_nE 13 ((10 : Int32)).toNatClampNeg hq_38) ho_21
  have ho_24 := Ext_A (Ext_nE 13 ((10 : Int32)).toNatClampNeg hq_38) ho_24
  have ho_27 := Ext_A (Ext_nE 13 ((10 : Int32)).toNatClampNeg hq_38) ho_27
  have ho_30 := Ext_A (Ext_nE 13 ((10 : Int32)).toNatClampNeg hq_38) ho_30
  have ho_33 := Ext_A (Ext_nE 13 ((10 : Int32)).toNatClampNeg hq_38) ho_33
  have ho_36 := Ext_A (Ext_nE 13 ((10 : Int32)).toNatClampNeg hq_38) ho_36
  have hx := Ext_tr hx (Ext_nE 13 ((10 : Int32)).toNatClampNeg hq_38)
  have ho_39 := okA_new (sR (nE (sR (nE (sR (nE (sR (nE (sR (nE (sR (nE (sR (nE (sR (nE (sR (nE (sR (nE (sR (nE (sR (nE E q_1 13 ((4851 : Int32)).toNatClampNeg) a0 1 (some q_1)) q_4 13 ((4000 : Int32)).toNatClampNeg) a0 2 (some q_4)) q_7 12 ((400 : Int32)).toNatClampNeg) a0 4 (some q_7)) q_10 13 ((5 : Int32)).toNatClampNeg) a0 11 (some q_10)) q_13 13 ((9 : Int32)).toNatClampNeg) a0 14 (some q_13)) q_16 13 ((400 : Int32)).toNatClampNeg) a0 15 (some q_16)) q_19 13 ((40 : Int32)).toNatClampNeg) a0 16 (some q_19)) q_22 15 ((12 : Int32)).toNatClampNeg) a0 18 (some q_22)) q_25 13 ((12 : Int32)).toNatClampNeg) a0 19 (some q_25)) q_28 15 ((144 : Int32)).toNatClampNeg) a0 20 (some q_28)) q_31 13 ((10 : Int32)).toNatClampNeg) a0 21 (some q_31)) q_34 13 ((10 : Int32)).toNatClampNeg) a0 22 (some q_34)) q_37 ((10 : Int32)).toNatClampNeg (t := 13) (by decide)
  refine r_putRF S hw hinit 11 23 (ty := (.array .int)) rfl inG11 tyX11 tyX11_ok nmX11 (by decide) (List.mem_cons_of_mem _ wg165) (by decide) rfl rfl (by decide +kernel) rfl rfl ha0 (dd_at ddX11_init 56 rfl) (fun H locs hw => ?_)
  have ha0 := Ext_O (Ext_sR _ a0 23 (some q_37)) ha0
  have ho_3 := Ext_A (Ext_sR _ a0 23 (some q_37)) ho_3
  have ho_6 := Ext_A (Ext_sR _ a0 23 (some q_37)) ho_6
  have ho_9 := Ext_A (Ext_sR _ a0 23 (some q_37)) ho_9
  have ho_12 := Ext_A (Ext_sR _ a0 23 (some q_37)) ho_12
  have ho_15 := Ext_A (Ext_sR _ a0 23 (some q_37)) ho_15
  have ho_18 := Ext_A (Ext_sR _ a0 23 (some q_37)) ho_18
  have ho_21 := Ext_A (Ext_sR _ a0 23 (some q_37)) ho_21
  have ho_24 := Ext_A (Ext_sR _ a0 23 (some q_37)) ho_24
  have ho_27 := Ext_A (Ext_sR _ a0 23 (some q_37)) ho_27
  have ho_30 := Ext_A (Ext_sR _ a0 23 (some q_37)) ho_30
  have ho_33 := Ext_A (Ext_sR _ a0 23 (some q_37)) ho_33
  have ho_36 := Ext_A (Ext_sR _ a0 23 (some q_37)) ho_36
  have ho_39 := Ext_A (Ext_sR _ a0 23 (some q_37)) ho_39
  have hx := Ext_tr hx (Ext_sR _ a0 23 (some q_37))
  refine lv_aload_n S.1 S.2.1 (dd_at ddX11_init 57 rfl) rfl (lv_at hl 0 rfl) ?_
  refine lv_bipush (v := 40) S.1 S.2.1 (dd_at ddX11_init 58 rfl) (by decide) ?_
  refine r_newZ S hw (List.mem_cons_of_mem _ wg159) (n := 40) (by decide) (by decide) (Nat.le_of_ble_eq_true rfl) (by show _ ≤ _; exact Nat.le_of_ble_eq_true rfl) (dd_at ddX11_init 59 rfl) (fun q_40 H hq_41 hw => ?_)
  refine W.widen (k := 14) (n := 9943) (Nat.le_of_ble_eq_true rfl) (Nat.le_of_ble_eq_true rfl) ?_
  have h := h q_40 hq_41
  have ha0 := Ext_O (Ext_nE 15 ((40 : Int32)).toNatClampNeg hq_41) ha0
  have ho_3 := Ext_A (Ext_nE 15 ((40 : Int32)).toNatClampNeg hq_41) ho_3
  have ho_6 := Ext_A (Ext_nE 15 ((40 : Int32)).toNatClampNeg hq_41) ho_6
  have ho_9 := Ext_A (Ext_nE 15 ((40 : Int32)).toNatClampNeg hq_41) ho_9
  have ho_12 := Ext_A (Ext_nE 15 ((40 : Int32)).toNatClampNeg hq_41) ho_12
  have ho_15 := Ext_A (Ext_nE 15 ((40 : Int32)).toNatClampNeg hq_41) ho_15
  have ho_18 := Ext_A (Ext_nE 15 ((40 : Int32)).toNatClampNeg hq_41) ho_18
  have ho_21 := Ext_A (Ext_nE 15 ((40 : Int32)).toNatClampNeg hq_41) ho_21
  have ho_24 := Ext_A (Ext_nE 15 ((40 : Int32)).toNatClampNeg hq_41) ho_24
  have ho_27 := Ext_A (Ext_nE 15 ((40 : Int32)).toNatClampNeg hq_41) ho_27
  have ho_30 := Ext_A (Ext_nE 15 ((40 : Int32)).toNatClampNeg hq_41) ho_30
  have ho_33 := Ext_A (Ext_nE 15 ((40 : Int32)).toNatClampNeg hq_41) ho_33
  have ho_36 := Ext_A (Ext_nE 15 ((40 : Int32)).toNatClampNeg hq_41) ho_36
  have ho_39 := Ext_A (Ext_nE 15 ((40 : Int32)).toNatClampNeg hq_41) ho_39
  have hx := Ext_tr hx (Ext_nE 15 ((40 : Int32)).toNatClampNeg hq_41)
  have ho_42 := okA_new (sR (nE (sR (nE (sR (nE (sR (nE (sR (nE (sR (nE (sR (nE (sR (nE (sR (nE (sR (nE (sR (nE (sR (nE (sR (nE E q_1 13 ((4851 : Int32)).toNatClampNeg) a0 1 (some q_1)) q_4 13 ((4000 : Int32)).toNatClampNeg) a0 2 (some q_4)) q_7 12 ((400 : Int32)).toNatClampNeg) a0 4 (some q_7)) q_10 13 ((5 : Int32)).toNatClampNeg) a0 11 (some q_10)) q_13 13 ((9 : Int32)).toNatClampNeg) a0 14 (some q_13)) q_16 13 ((400 : Int32)).toNatClampNeg) a0 15 (some q_16)) q_19 13 ((40 : Int32)).toNatClampNeg) a0 16 (some q_19)) q_22 15 ((12 : Int32)).toNatClampNeg) a0 18 (some q_22)) q_25 13 ((12 : Int32)).toNatClampNeg) a0 19 (some q_25)) q_28 15 ((144 : Int32)).toNatClampNeg) a0 20 (some q_28)) q_31 13 ((10 : Int32)).toNatClampNeg) a0 21 (some q_31)) q_34 13 ((10 : Int32)).toNatClampNeg) a0 22 (some q_34)) q_37 13 ((10 : Int32)).toNatClampNeg) a0 23 (some q_37)) q_40 ((40 : Int32)).toNatClampNeg (t := 15) (by decide)
  refine r_putRF S hw hinit 11 24 (ty := (.array .boolean)) rfl inG11 tyX11 tyX11_ok nmX11 (by decide) (List.mem_cons_of_mem _ wg166) (by decide) rfl rfl (by decide +kernel) rfl rfl ha0 (dd_at ddX11_init 60 rfl) (fun H locs hw => ?_)
  have ha0 := Ext_O (Ext_sR _ a0 24 (some q_40)) ha0
  have ho_3 := Ext_A (Ext_sR _ a0 24 (some q_40)) ho_3
  have ho_6 := Ext_A (Ext_sR _ a0 24 (some q_40)) ho_6
  have ho_9 := Ext_A (Ext_sR _ a0 24 (some q_40)) ho_9
  have ho_12 := Ext_A (Ext_sR _ a0 24 (some q_40)) ho_12
  have ho_15 := Ext_A (Ext_sR _ a0 24 (some q_40)) ho_15
  have ho_18 := Ext_A (Ext_sR _ a0 24 (some q_40)) ho_18
  have ho_21 := Ext_A (Ext_sR _ a0 24 (some q_40)) ho_21
  have ho_24 := Ext_A (Ext_sR _ a0 24 (some q_40)) ho_24
  have ho_27 := Ext_A (Ext_sR _ a0 24 (some q_40)) ho_27
  have ho_30 := Ext_A (Ext_sR _ a0 24 (some q_40)) ho_30
  have ho_33 := Ext_A (Ext_sR _ a0 24 (some q_40)) ho_33
  have ho_36 := Ext_A (Ext_sR _ a0 24 (some q_40)) ho_36
  have ho_39 := Ext_A (Ext_sR _ a0 24 (some q_40)) ho_39
  have ho_42 := Ext_A (Ext_sR _ a0 24 (some q_40)) ho_42
  have hx := Ext_tr hx (Ext_sR _ a0 24 (some q_40))
  refine lv_aload_n S.1 S.2.1 (dd_at ddX11_init 61 rfl) rfl (lv_at hl 0 rfl) ?_
  refine lv_bipush (v := 40) S.1 S.2.1 (dd_at ddX11_init 62 rfl) (by decide) ?_
  refine r_newZ S hw (List.mem_cons_of_mem _ wg159) (n := 40) (by decide) (by decide) (Nat.le_of_ble_eq_true rfl) (by show _ ≤ _; exact Nat.le_of_ble_eq_true rfl) (dd_at ddX11_init 63 rfl) (fun q_43 H hq_44 hw => ?_)
  refine W.widen (k := 15) (n := 9983) (Nat.le_of_ble_eq_true rfl) (Nat.le_of_ble_eq_true rfl) ?_
  have h := h q_43 hq_44
  have ha0 := Ext_O (Ext_nE 15 ((40 : Int32)).toNatClampNeg hq_44) ha0
  have ho_3 := Ext_A (Ext_nE 15 ((40 : Int32)).toNatClampNeg hq_44) ho_3
  have ho_6 := Ext_A (Ext_nE 15 ((40 : Int32)).toNatClampNeg hq_44) ho_6
  have ho_9 := Ext_A (Ext_nE 15 ((40 : Int32)).toNatClampNeg hq_44) ho_9
  have ho_12 := Ext_A (Ext_nE 15 ((40 : Int32)).toNatClampNeg hq_44) ho_12
  have ho_15 := Ext_A (Ext_nE 15 ((40 : Int32)).toNatClampNeg hq_44) ho_15
  have ho_18 := Ext_A (Ext_nE 15 ((40 : Int32)).toNatClampNeg hq_44) ho_18
  have ho_21 := Ext_A (Ext_nE 15 ((40 : Int32)).toNatClampNeg hq_44) ho_21
  have ho_24 := Ext_A (Ext_nE 15 ((40 : Int32)).toNatClampNeg hq_44) ho_24
  have ho_27 := Ext_A (Ext_nE 15 ((40 : Int32)).toNatClampNeg hq_44) ho_27
  have ho_30 := Ext_A (Ext_nE 15 ((40 : Int32)).toNatClampNeg hq_44) ho_30
  have ho_33 := Ext_A (Ext_nE 15 ((40 : Int32)).toNatClampNeg hq_44) ho_33
  have ho_36 := Ext_A (Ext_nE 15 ((40 : Int32)).toNatClampNeg hq_44) ho_36
  have ho_39 := Ext_A (Ext_nE 15 ((40 : Int32)).toNatClampNeg hq_44) ho_39
  have ho_42 := Ext_A (Ext_nE 15 ((40 : Int32)).toNatClampNeg hq_44) ho_42
  have hx := Ext_tr hx (Ext_nE 15 ((40 : Int32)).toNatClampNeg hq_44)
  have ho_45 := okA_new (sR (nE (sR (nE (sR (nE (sR (nE (sR (nE (sR (nE (sR (nE (sR (nE (sR (nE (sR (nE (sR (nE (sR (nE (sR (nE (sR (nE E q_1 13 ((4851 : Int32)).toNatClampNeg) a0 1 (some q_1)) q_4 13 ((4000 : Int32)).toNatClampNeg) a0 2 (some q_4)) q_7 12 ((400 : Int32)).toNatClampNeg) a0 4 (some q_7)) q_10 13 ((5 : Int32)).toNatClampNeg) a0 11 (some q_10)) q_13 13 ((9 : Int32)).toNatClampNeg) a0 14 (some q_13)) q_16 13 ((400 : Int32)).toNatClampNeg) a0 15 (some q_16)) q_19 13 ((40 : Int32)).toNatClampNeg) a0 16 (some q_19)) q_22 15 ((12 : Int32)).toNatClampNeg) a0 18 (some q_22)) q_25 13 ((12 : Int32)).toNatClampNeg) a0 19 (some q_25)) q_28 15 ((144 : Int32)).toNatClampNeg) a0 20 (some q_28)) q_31 13 ((10 : Int32)).toNatClampNeg) a0 21 (some q_31)) q_34 13 ((10 : Int32)).toNatClampNeg) a0 22 (some q_34)) q_37 13 ((10 : Int32)).toNatClampNeg) a0 23 (some q_37)) q_40 15 ((40 : Int32)).toNatClampNeg) a0 24 (some q_40)) q_43 ((40 : Int32)).toNatClampNeg (t := 15) (by decide)
  refine r_putRF S hw hinit 11 25 (ty := (.array .boolean)) rfl inG11 tyX11 tyX11_ok nmX11 (by decide) (List.mem_cons_of_mem _ wg167) (by decide) rfl rfl (by decide +kernel) rfl rfl ha0 (dd_at ddX11_init 64 rfl) (fun H locs hw => ?_)
  have ha0 := Ext_O (Ext_sR _ a0 25 (some q_43)) ha0
  have ho_3 := Ext_A (Ext_sR _ a0 25 (some q_43)) ho_3
  have ho_6 := Ext_A (Ext_sR _ a0 25 (some q_43)) ho_6
  have ho_9 := Ext_A (Ext_sR _ a0 25 (some q_43)) ho_9
  have ho_12 := Ext_A (Ext_sR _ a0 25 (some q_43)) ho_12
  have ho_15 := Ext_A (Ext_sR _ a0 25 (some q_43)) ho_15
  have ho_18 := Ext_A (Ext_sR _ a0 25 (some q_43)) ho_18
  have ho_21 := Ext_A (Ext_sR _ a0 25 (some q_43)) ho_21
  have ho_24 := Ext_A (Ext_sR _ a0 25 (some q_43)) ho_24
  have ho_27 := Ext_A (Ext_sR _ a0 25 (some q_43)) ho_27
  have ho_30 := Ext_A (Ext_sR _ a0 25 (some q_43)) ho_30
  have ho_33 := Ext_A (Ext_sR _ a0 25 (some q_43)) ho_33
  have ho_36 := Ext_A (Ext_sR _ a0 25 (some q_43)) ho_36
  have ho_39 := Ext_A (Ext_sR _ a0 25 (some q_43)) ho_39
  have ho_42 := Ext_A (Ext_sR _ a0 25 (some q_43)) ho_42
  have ho_45 := Ext_A (Ext_sR _ a0 25 (some q_43)) ho_45
  have hx := Ext_tr hx (Ext_sR _ a0 25 (some q_43))
  refine lv_aload_n S.1 S.2.1 (dd_at ddX11_init 65 rfl) rfl (lv_at hl 0 rfl) ?_
  refine lv_bipush (v := 10) S.1 S.2.1 (dd_at ddX11_init 66 rfl) (by decide) ?_
  refine r_newI S hw (List.mem_cons_of_mem _ wg74) (n := 10) (by decide) (by decide) (Nat.le_of_ble_eq_true rfl) (by show _ ≤ _; exact Nat.le_of_ble_eq_true rfl) (dd_at ddX11_init 67 rfl) (fun q_46 H hq_47 hw => ?_)
  refine W.widen (k := 16) (n := 9993) (Nat.le_of_ble_eq_true rfl) (Nat.le_of_ble_eq_true rfl) ?_
  have h := h q_46 hq_47
  have ha0 := Ext_O (Ext_nE 13 ((10 : Int32)).toNatClampNeg hq_47) ha0
  have ho_3 := Ext_A (Ext_nE 13 ((10 : Int32)).toNatClampNeg hq_47) ho_3
  have ho_6 := Ext_A (Ext_nE 13 ((10 : Int32)).toNatClampNeg hq_47) ho_6
  have ho_9 := Ext_A (Ext_nE 13 ((10 : Int32)).toNatClampNeg hq_47) ho_9
  have ho_12 := Ext_A (Ext_nE 13 ((10 : Int32)).toNatClampNeg hq_47) ho_12
  have ho_15 := Ext_A (Ext_nE 13 ((10 : Int32)).toNatClampNeg hq_47) ho_15
  have ho_18 := Ext_A (Ext_nE 13 ((10 : Int32)).toNatClampNeg hq_47) ho_18
  have ho_21 := Ext_A (Ext_nE 13 ((10 : Int32)).toNatClampNeg hq_47) ho_21
  have ho_24 := Ext_A (Ext_nE 13 ((10 : Int32)).toNatClampNeg hq_47) ho_24
  have ho_27 := Ext_A (Ext_nE 13 ((10 : Int32)).toNatClampNeg hq_47) ho_27
  have ho_30 := Ext_A (Ext_nE 13 ((10 : Int32)).toNatClampNeg hq_47) ho_30
  have ho_33 := Ext_A (Ext_nE 13 ((10 : Int32)).toNatClampNeg hq_47) ho_33
  have ho_36 := Ext_A (Ext_nE 13 ((10 : Int32)).toNatClampNeg hq_47) ho_36
  have ho_39 := Ext_A (Ext_nE 13 ((10 : Int32)).toNatClampNeg hq_47) ho_39
  have ho_42 := Ext_A (Ext_nE 13 ((10 : Int32)).toNatClampNeg hq_47) ho_42
  have ho_45 := Ext_A (Ext_nE 13 ((10 : Int32)).toNatClampNeg hq_47) ho_45
  have hx := Ext_tr hx (Ext_nE 13 ((10 : Int32)).toNatClampNeg hq_47)
  have ho_48 := okA_new (sR (nE (sR (nE (sR (nE (sR (nE (sR (nE (sR (nE (sR (nE (sR (nE (sR (nE (sR (nE (sR (nE (sR (nE (sR (nE (sR (nE (sR (nE E q_1 13 ((4851 : Int32)).toNatClampNeg) a0 1 (some q_1)) q_4 13 ((4000 : Int32)).toNatClampNeg) a0 2 (some q_4)) q_7 12 ((400 : Int32)).toNatClampNeg) a0 4 (some q_7)) q_10 13 ((5 : Int32)).toNatClampNeg) a0 11 (some q_10)) q_13 13 ((9 : Int32)).toNatClampNeg) a0 14 (some q_13)) q_16 13 ((400 : Int32)).toNatClampNeg) a0 15 (some q_16)) q_19 13 ((40 : Int32)).toNatClampNeg) a0 16 (some q_19)) q_22 15 ((12 : Int32)).toNatClampNeg) a0 18 (some q_22)) q_25 13 ((12 : Int32)).toNatClampNeg) a0 19 (some q_25)) q_28 15 ((144 : Int32)).toNatClampNeg) a0 20 (some q_28)) q_31 13 ((10 : Int32)).toNatClampNeg) a0 21 (some q_31)) q_34 13 ((10 : Int32)).toNatClampNeg) a0 22 (some q_34)) q_37 13 ((10 : Int32)).toNatClampNeg) a0 23 (some q_37)) q_40 15 ((40 : Int32)).toNatClampNeg) a0 24 (some q_40)) q_43 15 ((40 : Int32)).toNatClampNeg) a0 25 (some q_43)) q_46 ((10 : Int32)).toNatClampNeg (t := 13) (by decide)
  refine r_putRF S hw hinit 11 26 (ty := (.array .int)) rfl inG11 tyX11 tyX11_ok nmX11 (by decide) (List.mem_cons_of_mem _ wg168) (by decide) rfl rfl (by decide +kernel) rfl rfl ha0 (dd_at ddX11_init 68 rfl) (fun H locs hw => ?_)
  have ha0 := Ext_O (Ext_sR _ a0 26 (some q_46)) ha0
  have ho_3 := Ext_A (Ext_sR _ a0 26 (some q_46)) ho_3
  have ho_6 := Ext_A (Ext_sR _ a0 26 (some q_46)) ho_6
  have ho_9 := Ext_A (Ext_sR _ a0 26 (some q_46)) ho_9
  have ho_12 := Ext_A (Ext_sR _ a0 26 (some q_46)) ho_12
  have ho_15 := Ext_A (Ext_sR _ a0 26 (some q_46)) ho_15
  have ho_18 := Ext_A (Ext_sR _ a0 26 (some q_46)) ho_18
  have ho_21 := Ext_A (Ext_sR _ a0 26 (some q_46)) ho_21
  have ho_24 := Ext_A (Ext_sR _ a0 26 (some q_46)) ho_24
  have ho_27 := Ext_A (Ext_sR _ a0 26 (some q_46)) ho_27
  have ho_30 := Ext_A (Ext_sR _ a0 26 (some q_46)) ho_30
  have ho_33 := Ext_A (Ext_sR _ a0 26 (some q_46)) ho_33
  have ho_36 := Ext_A (Ext_sR _ a0 26 (some q_46)) ho_36
  have ho_39 := Ext_A (Ext_sR _ a0 26 (some q_46)) ho_39
  have ho_42 := Ext_A (Ext_sR _ a0 26 (some q_46)) ho_42
  have ho_45 := Ext_A (Ext_sR _ a0 26 (some q_46)) ho_45
  have ho_48 := Ext_A (Ext_sR _ a0 26 (some q_46)) ho_48
  have hx := Ext_tr hx (Ext_sR _ a0 26 (some q_46))
  refine lv_aload_n S.1 S.2.1 (dd_at ddX11_init 69 rfl) rfl (lv_at hl 0 rfl) ?_
  refine lv_bipush (v := 10) S.1 S.2.1 (dd_at ddX11_init 70 rfl) (by decide) ?_
  refine r_newI S hw (List.mem_cons_of_mem _ wg74) (n := 10) (by decide) (by decide) (Nat.le_of_ble_eq_true rfl) (by show _ ≤ _; exact Nat.le_of_ble_eq_true rfl) (dd_at ddX11_init 71 rfl) (fun q_49 H hq_50 hw => ?_)
  refine W.widen (k := 17) (n := 10003) (Nat.le_of_ble_eq_true rfl) (Nat.le_of_ble_eq_true rfl) ?_
  have h := h q_49 hq_50
  have ha0 := Ext_O (Ext_nE 13 ((10 : Int32)).toNatClampNeg hq_50) ha0
  have ho_3 := Ext_A (Ext_nE 13 ((10 : Int32)).toNatClampNeg hq_50) ho_3
  have ho_6 := Ext_A (Ext_nE 13 ((10 : Int32)).toNatClampNeg hq_50) ho_6
  have ho_9 := Ext_A (Ext_nE 13 ((10 : Int32)).toNatClampNeg hq_50) ho_9
  have ho_12 := Ext_A (Ext_nE 13 ((10 : Int32)).toNatClampNeg hq_50) ho_12
  have ho_15 := Ext_A (Ext_nE 13 ((10 : Int32)).toNatClampNeg hq_50) ho_15
  have ho_18 := Ext_A (Ext_nE 13 ((10 : Int32)).toNatClampNeg hq_50) ho_18
  have ho_21 := Ext_A (Ext_nE 13 ((10 : Int32)).toNatClampNeg hq_50) ho_21
  have ho_24 := Ext_A (Ext_nE 13 ((10 : Int32)).toNatClampNeg hq_50) ho_24
  have ho_27 := Ext_A (Ext_nE 13 ((10 : Int32)).toNatClampNeg hq_50) ho_27
  have ho_30 := Ext_A (Ext_nE 13 ((10 : Int32)).toNatClampNeg hq_50) ho_30
  have ho_33 := Ext_A (Ext_nE 13 ((10 : Int32)).toNatClampNeg hq_50) ho_33
  have ho_36 := Ext_A (Ext_nE 13 ((10 : Int32)).toNatClampNeg hq_50) ho_36
  have ho_39 := Ext_A (Ext_nE 13 ((10 : Int32)).toNatClampNeg hq_50) ho_39
  have ho_42 := Ext_A (Ext_nE 13 ((10 : Int32)).toNatClampNeg hq_50) ho_42
  have ho_45 := Ext_A (Ext_nE 13 ((10 : Int32)).toNatClampNeg hq_50) ho_45
  have ho_48 := Ext_A (Ext_nE 13 ((10 : Int32)).toNatClampNeg hq_50) ho_48
  have hx := Ext_tr hx (Ext_nE 13 ((10 : Int32)).toNatClampNeg hq_50)
  have ho_51 := okA_new (sR (nE (sR (nE (sR (nE (sR (nE (sR (nE (sR (nE (sR (nE (sR (nE (sR (nE (sR (nE (sR (nE (sR (nE (sR (nE (sR (nE (sR (nE (sR (nE E q_1 13 ((4851 : Int32)).toNatClampNeg) a0 1 (some q_1)) q_4 13 ((4000 : Int32)).toNatClampNeg) a0 2 (some q_4)) q_7 12 ((400 : Int32)).toNatClampNeg) a0 4 (some q_7)) q_10 13 ((5 : Int32)).toNatClampNeg) a0 11 (some q_10)) q_13 13 ((9 : Int32)).toNatClampNeg) a0 14 (some q_13)) q_16 13 ((400 : Int32)).toNatClampNeg) a0 15 (some q_16)) q_19 13 ((40 : Int32)).toNatClampNeg) a0 16 (some q_19)) q_22 15 ((12 : Int32)).toNatClampNeg) a0 18 (some q_22)) q_25 13 ((12 : Int32)).toNatClampNeg) a0 19 (some q_25)) q_28 15 ((144 : Int32)).toNatClampNeg) a0 20 (some q_28)) q_31 13 ((10 : Int32)).toNatClampNeg) a0 21 (some q_31)) q_34 13 ((10 : Int32)).toNatClampNeg) a0 22 (some q_34)) q_37 13 ((10 : Int32)).toNatClampNeg) a0 23 (some q_37)) q_40 15 ((40 : Int32)).toNatClampNeg) a0 24 (some q_40)) q_43 15 ((40 : Int32)).toNatClampNeg) a0 25 (some q_43)) q_46 13 ((10 : Int32)).toNatClampNeg) a0 26 (some q_46)) q_49 ((10 : Int32)).toNatClampNeg (t := 13) (by decide)
  refine r_putRF S hw hinit 11 27 (ty := (.array .int)) rfl inG11 tyX11 tyX11_ok nmX11 (by decide) (List.mem_cons_of_mem _ wg169) (by decide) rfl rfl (by decide +kernel) rfl rfl ha0 (dd_at ddX11_init 72 rfl) (fun H locs hw => ?_)
  have ha0 := Ext_O (Ext_sR _ a0 27 (some q_49)) ha0
  have ho_3 := Ext_A (Ext_sR _ a0 27 (some q_49)) ho_3
  have ho_6 := Ext_A (Ext_sR _ a0 27 (some q_49)) ho_6
  have ho_9 := Ext_A (Ext_sR _ a0 27 (some q_49)) ho_9
  have ho_12 := Ext_A (Ext_sR _ a0 27 (some q_49)) ho_12
  have ho_15 := Ext_A (Ext_sR _ a0 27 (some q_49)) ho_15
  have ho_18 := Ext_A (Ext_sR _ a0 27 (some q_49)) ho_18
  have ho_21 := Ext_A (Ext_sR _ a0 27 (some q_49)) ho_21
  have ho_24 := Ext_A (Ext_sR _ a0 27 (some q_49)) ho_24
  have ho_27 := Ext_A (Ext_sR _ a0 27 (some q_49)) ho_27
  have ho_30 := Ext_A (Ext_sR _ a0 27 (some q_49)) ho_30
  have ho_33 := Ext_A (Ext_sR _ a0 27 (some q_49)) ho_33
  have ho_36 := Ext_A (Ext_sR _ a0 27 (some q_49)) ho_36
  have ho_39 := Ext_A (Ext_sR _ a0 27 (some q_49)) ho_39
  have ho_42 := Ext_A (Ext_sR _ a0 27 (some q_49)) ho_42
  have ho_45 := Ext_A (Ext_sR _ a0 27 (some q_49)) ho_45
  have ho_48 := Ext_A (Ext_sR _ a0 27 (some q_49)) ho_48
  have ho_51 := Ext_A (Ext_sR _ a0 27 (some q_49)) ho_51
  have hx := Ext_tr hx (Ext_sR _ a0 27 (some q_49))
  refine lv_aload_n S.1 S.2.1 (dd_at ddX11_init 73 rfl) rfl (lv_at hl 0 rfl) ?_
  refine lv_bipush (v := 10) S.1 S.2.1 (dd_at ddX11_init 74 rfl) (by decide) ?_
  refine r_newI S hw (List.mem_cons_of_mem _ wg74) (n := 10) (by decide) (by decide) (Nat.le_of_ble_eq_true rfl) (by show _ ≤ _; exact Nat.le_of_ble_eq_true rfl) (dd_at ddX11_init 75 rfl) (fun q_52 H hq_53 hw => ?_)
  refine W.widen (k := 18) (n := 10013) (Nat.le_of_ble_eq_true rfl) (Nat.le_of_ble_eq_true rfl) ?_
  have h := h q_52 hq_53
  have ha0 := Ext_O (Ext_nE 13 ((10 : Int32)).toNatClampNeg hq_53) ha0
  have ho_3 := Ext_A (Ext_nE 13 ((10 : Int32)).toNatClampNeg hq_53) ho_3
  have ho_6 := Ext_A (Ext_nE 13 ((10 : Int32)).toNatClampNeg hq_53) ho_6
  have ho_9 := Ext_A (Ext_nE 13 ((10 : Int32)).toNatClampNeg hq_53) ho_9
  have ho_12 := Ext_A (Ext_nE 13 ((10 : Int32)).toNatClampNeg hq_53) ho_12
  have ho_15 := Ext_A (Ext_nE 13 ((10 : Int32)).toNatClampNeg hq_53) ho_15
  have ho_18 := Ext_A (Ext_nE 13 ((10 : Int32)).toNatClampNeg hq_53) ho_18
  have ho_21 := Ext_A (Ext_nE 13 ((10 : Int32)).toNatClampNeg hq_53) ho_21
  have ho_24 := Ext_A (Ext_nE 13 ((10 : Int32)).toNatClampNeg hq_53) ho_24
  have ho_27 := Ext_A (Ext_nE 13 ((10 : Int32)).toNatClampNeg hq_53) ho_27
  have ho_30 := Ext_A (Ext_nE 13 ((10 : Int32)).toNatClampNeg hq_53) ho_30
  have ho_33 := Ext_A (Ext_nE 13 ((10 : Int32)).toNatClampNeg hq_53) ho_33
  have ho_36 := Ext_A (Ext_nE 13 ((10 : Int32)).toNatClampNeg hq_53) ho_36
  have ho_39 := Ext_A (Ext_nE 13 ((10 : Int32)).toNatClampNeg hq_53) ho_39
  have ho_42 := Ext_A (Ext_nE 13 ((10 : Int32)).toNatClampNeg hq_53) ho_42
  have ho_45 := Ext_A (Ext_nE 13 ((10 : Int32)).toNatClampNeg hq_53) ho_45
  have ho_48 := Ext_A (Ext_nE 13 ((10 : Int32)).toNatClampNeg hq_53) ho_48
  have ho_51 := Ext_A (Ext_nE 13 ((10 : Int32)).toNatClampNeg hq_53) ho_51
  have hx := Ext_tr hx (Ext_nE 13 ((10 : Int32)).toNatClampNeg hq_53)
  have ho_54 := okA_new (sR (nE (sR (nE (sR (nE (sR (nE (sR (nE (sR (nE (sR (nE (sR (nE (sR (nE (sR (nE (sR (nE (sR (nE (sR (nE (sR (nE (sR (nE (sR (nE (sR (nE E q_1 13 ((4851 : Int32)).toNatClampNeg) a0 1 (some q_1)) q_4 13 ((4000 : Int32)).toNatClampNeg) a0 2 (some q_4)) q_7 12 ((400 : Int32)).toNatClampNeg) a0 4 (some q_7)) q_10 13 ((5 : Int32)).toNatClampNeg) a0 11 (some q_10)) q_13 13 ((9 : Int32)).toNatClampNeg) a0 14 (some q_13)) q_16 13 ((400 : Int32)).toNatClampNeg) a0 15 (some q_16)) q_19 13 ((40 : Int32)).toNatClampNeg) a0 16 (some q_19)) q_22 15 ((12 : Int32)).toNatClampNeg) a0 18 (some q_22)) q_25 13 ((12 : Int32)).toNatClampNeg) a0 19 (some q_25)) q_28 15 ((144 : Int32)).toNatClampNeg) a0 20 (some q_28)) q_31 13 ((10 : Int32)).toNatClampNeg) a0 21 (some q_31)) q_34 13 ((10 : Int32)).toNatClampNeg) a0 22 (some q_34)) q_37 13 ((10 : Int32)).toNatClampNeg) a0 23 (some q_37)) q_40 15 ((40 : Int32)).toNatClampNeg) a0 24 (some q_40)) q_43 15 ((40 : Int32)).toNatClampNeg) a0 25 (some q_43)) q_46 13 ((10 : Int32)).toNatClampNeg) a0 26 (some q_46)) q_49 13 ((10 : Int32)).toNatClampNeg) a0 27 (some q_49)) q_52 ((10 : Int32)).toNatClampNeg (t := 13) (by decide)
  refine r_putRF S hw hinit 11 28 (ty := (.array .int)) rfl inG11 tyX11 tyX11_ok nmX11 (by decide) (List.mem_cons_of_mem _ wg170) (by decide) rfl rfl (by decide +kernel) rfl rfl ha0 (dd_at ddX11_init 76 rfl) (fun H locs hw => ?_)
  have ha0 := Ext_O (Ext_sR _ a0 28 (some q_52)) ha0
  have ho_3 := Ext_A (Ext_sR _ a0 28 (some q_52)) ho_3
  have ho_6 := Ext_A (Ext_sR _ a0 28 (some q_52)) ho_6
  have ho_9 := Ext_A (Ext_sR _ a0 28 (some q_52)) ho_9
  have ho_12 := Ext_A (Ext_sR _ a0 28 (some q_52)) ho_12
  have ho_15 := Ext_A (Ext_sR _ a0 28 (some q_52)) ho_15
  have ho_18 := Ext_A (Ext_sR _ a0 28 (some q_52)) ho_18
  have ho_21 := Ext_A (Ext_sR _ a0 28 (some q_52)) ho_21
  have ho_24 := Ext_A (Ext_sR _ a0 28 (some q_52)) ho_24
  have ho_27 := Ext_A (Ext_sR _ a0 28 (some q_52)) ho_27
  have ho_30 := Ext_A (Ext_sR _ a0 28 (some q_52)) ho_30
  have ho_33 := Ext_A (Ext_sR _ a0 28 (some q_52)) ho_33
  have ho_36 := Ext_A (Ext_sR _ a0 28 (some q_52)) ho_36
  have ho_39 := Ext_A (Ext_sR _ a0 28 (some q_52)) ho_39
  have ho_42 := Ext_A (Ext_sR _ a0 28 (some q_52)) ho_42
  have ho_45 := Ext_A (Ext_sR _ a0 28 (some q_52)) ho_45
  have ho_48 := Ext_A (Ext_sR _ a0 28 (some q_52)) ho_48
  have ho_51 := Ext_A (Ext_sR _ a0 28 (some q_52)) ho_51
  have ho_54 := Ext_A (Ext_sR _ a0 28 (some q_52)) ho_54
  have hx := Ext_tr hx (Ext_sR _ a0 28 (some q_52))
  refine lv_aload_n S.1 S.2.1 (dd_at ddX11_init 77 rfl) rfl (lv_at hl 0 rfl) ?_
  refine lv_bipush (v := 40) S.1 S.2.1 (dd_at ddX11_init 78 rfl) (by decide) ?_
  refine r_newZ S hw (List.mem_cons_of_mem _ wg159) (n := 40) (by decide) (by decide) (Nat.le_of_ble_eq_true rfl) (by show _ ≤ _; exact Nat.le_of_ble_eq_true rfl) (dd_at ddX11_init 79 rfl) (fun q_55 H hq_56 hw => ?_)
  refine W.widen (k := 19) (n := 10053) (Nat.le_of_ble_eq_true rfl) (Nat.le_of_ble_eq_true rfl) ?_
  have h := h q_55 hq_56
  have ha0 := Ext_O (Ext_nE 15 ((40 : Int32)).toNatClampNeg hq_56) ha0
  have ho_3 := Ext_A (Ext_nE 15 ((40 : Int32)).toNatClampNeg hq_56) ho_3
  have ho_6 := Ext_A (Ext_nE 15 ((40 : Int32)).toNatClampNeg hq_56) ho_6
  have ho_9 := Ext_A (Ext_nE 15 ((40 : Int32)).toNatClampNeg hq_56) ho_9
  have ho_12 := Ext_A (Ext_nE 15 ((40 : Int32)).toNatClampNeg hq_56) ho_12
  have ho_15 := Ext_A (Ext_nE 15 ((40 : Int32)).toNatClampNeg hq_56) ho_15
  have ho_18 := Ext_A (Ext_nE 15 ((40 : Int32)).toNatClampNeg hq_56) ho_18
  have ho_21 := Ext_A (Ext_nE 15 ((40 : Int32)).toNatClampNeg hq_56) ho_21
  have ho_24 := Ext_A (Ext_nE 15 ((40 : Int32)).toNatClampNeg hq_56) ho_24
  have ho_27 := Ext_A (Ext_nE 15 ((40 : Int32)).toNatClampNeg hq_56) ho_27
  have ho_30 := Ext_A (Ext_nE 15 ((40 : Int32)).toNatClampNeg hq_56) ho_30
  have ho_33 := Ext_A (Ext_nE 15 ((40 : Int32)).toNatClampNeg hq_56) ho_33
  have ho_36 := Ext_A (Ext_nE 15 ((40 : Int32)).toNatClampNeg hq_56) ho_36
  have ho_39 := Ext_A (Ext_nE 15 ((40 : Int32)).toNatClampNeg hq_56) ho_39
  have ho_42 := Ext_A (Ext_nE 15 ((40 : Int32)).toNatClampNeg hq_56) ho_42
  have ho_45 := Ext_A (Ext_nE 15 ((40 : Int32)).toNatClampNeg hq_56) ho_45
  have ho_48 := Ext_A (Ext_nE 15 ((40 : Int32)).toNatClampNeg hq_56) ho_48
  have ho_51 := Ext_A (Ext_nE 15 ((40 : Int32)).toNatClampNeg hq_56) ho_51
  have ho_54 := Ext_A (Ext_nE 15 ((40 : Int32)).toNatClampNeg hq_56) ho_54
  have hx := Ext_tr hx (Ext_nE 15 ((40 : Int32)).toNatClampNeg hq_56)
  have ho_57 := okA_new (sR (nE (sR (nE (sR (nE (sR (nE (sR (nE (sR (nE (sR (nE (sR (nE (sR (nE (sR (nE (sR (nE (sR (nE (sR (nE (sR (nE (sR (nE (sR (nE (sR (nE (sR (nE E q_1 13 ((4851 : Int32)).toNatClampNeg) a0 1 (some q_1)) q_4 13 ((4000 : Int32)).toNatClampNeg) a0 2 (some q_4)) q_7 12 ((400 : Int32)).toNatClampNeg) a0 4 (some q_7)) q_10 13 ((5 : Int32)).toNatClampNeg) a0 11 (some q_10)) q_13 13 ((9 : Int32)).toNatClampNeg) a0 14 (some q_13)) q_16 13 ((400 : Int32)).toNatClampNeg) a0 15 (some q_16)) q_19 13 ((40 : Int32)).toNatClampNeg) a0 16 (some q_19)) q_22 15 ((12 : Int32)).toNatClampNeg) a0 18 (some q_22)) q_25 13 ((12 : Int32)).toNatClampNeg) a0 19 (some q_25)) q_28 15 ((144 : Int32)).toNatClampNeg) a0 20 (some q_28)) q_31 13 ((10 : Int32)).toNatClampNeg) a0 21 (some q_31)) q_34 13 ((10 : Int32)).toNatClampNeg) a0 22 (some q_34)) q_37 13 ((10 : Int32)).toNatClampNeg) a0 23 (some q_37)) q_40 15 ((40 : Int32)).toNatClampNeg) a0 24 (some q_40)) q_43 15 ((40 : Int32)).toNatClampNeg) a0 25 (some q_43)) q_46 13 ((10 : Int32)).toNatClampNeg) a0 26 (some q_46)) q_49 13 ((10 : Int32)).toNatClampNeg) a0 27 (some q_49)) q_52 13 ((10 : Int32)).toNatClampNeg) a0 28 (some q_52)) q_55 ((40 : Int32)).toNatClampNeg (t := 15) (by decide)
  refine r_putRF S hw hinit 11 30 (ty := (.array .boolean)) rfl inG11 tyX11 tyX11_ok nmX11 (by decide) (List.mem_cons_of_mem _ wg171) (by decide) rfl rfl (by decide +kernel) rfl rfl ha0 (dd_at ddX11_init 80 rfl) (fun H locs hw => ?_)
  have ha0 := Ext_O (Ext_sR _ a0 30 (some q_55)) ha0
  have ho_3 := Ext_A (Ext_sR _ a0 30 (some q_55)) ho_3
  have ho_6 := Ext_A (Ext_sR _ a0 30 (some q_55)) ho_6
  have ho_9 := Ext_A (Ext_sR _ a0 30 (some q_55)) ho_9
  have ho_12 := Ext_A (Ext_sR _ a0 30 (some q_55)) ho_12
  have ho_15 := Ext_A (Ext_sR _ a0 30 (some q_55)) ho_15
  have ho_18 := Ext_A (Ext_sR _ a0 30 (some q_55)) ho_18
  have ho_21 := Ext_A (Ext_sR _ a0 30 (some q_55)) ho_21
  have ho_24 := Ext_A (Ext_sR _ a0 30 (some q_55)) ho_24
  have ho_27 := Ext_A (Ext_sR _ a0 30 (some q_55)) ho_27
  have ho_30 := Ext_A (Ext_sR _ a0 30 (some q_55)) ho_30
  have ho_33 := Ext_A (Ext_sR _ a0 30 (some q_55)) ho_33
  have ho_36 := Ext_A (Ext_sR _ a0 30 (some q_55)) ho_36
  have ho_39 := Ext_A (Ext_sR _ a0 30 (some q_55)) ho_39
  have ho_42 := Ext_A (Ext_sR _ a0 30 (some q_55)) ho_42
  have ho_45 := Ext_A (Ext_sR _ a0 30 (some q_55)) ho_45
  have ho_48 := Ext_A (Ext_sR _ a0 30 (some q_55)) ho_48
  have ho_51 := Ext_A (Ext_sR _ a0 30 (some q_55)) ho_51
  have ho_54 := Ext_A (Ext_sR _ a0 30 (some q_55)) ho_54
  have ho_57 := Ext_A (Ext_sR _ a0 30 (some q_55)) ho_57
  have hx := Ext_tr hx (Ext_sR _ a0 30 (some q_55))
  refine lv_aload_n S.1 S.2.1 (dd_at ddX11_init 81 rfl) rfl (lv_at hl 0 rfl) ?_
  refine lv_bipush (v := 10) S.1 S.2.1 (dd_at ddX11_init 82 rfl) (by decide) ?_
  refine r_newI S hw (List.mem_cons_of_mem _ wg74) (n := 10) (by decide) (by decide) (Nat.le_of_ble_eq_true rfl) (by show _ ≤ _; exact Nat.le_of_ble_eq_true rfl) (dd_at ddX11_init 83 rfl) (fun q_58 H hq_59 hw => ?_)
  refine W.widen (k := 20) (n := 10063) (Nat.le_of_ble_eq_true rfl) (Nat.le_of_ble_eq_true rfl) ?_
  have h := h q_58 hq_59
  have ha0 := Ext_O (Ext_nE 13 ((10 : Int32)).toNatClampNeg hq_59) ha0
  have ho_3 := Ext_A (Ext_nE 13 ((10 : Int32)).toNatClampNeg hq_59) ho_3
  have ho_6 := Ext_A (Ext_nE 13 ((10 : Int32)).toNatClampNeg hq_59) ho_6
  have ho_9 := Ext_A (Ext_nE 13 ((10 : Int32)).toNatClampNeg hq_59) ho_9
  have ho_12 := Ext_A (Ext_nE 13 ((10 : Int32)).toNatClampNeg hq_59) ho_12
  have ho_15 := Ext_A (Ext_nE 13 ((10 : Int32)).toNatClampNeg hq_59) ho_15
  have ho_18 := Ext_A (Ext_nE 13 ((10 : Int32)).toNatClampNeg hq_59) ho_18
  have ho_21 := Ext_A (Ext_nE 13 ((10 : Int32)).toNatClampNeg hq_59) ho_21
  have ho_24 := Ext_A (Ext_nE 13 ((10 : Int32)).toNatClampNeg hq_59) ho_24
  have ho_27 := Ext_A (Ext_nE 13 ((10 : Int32)).toNatClampNeg hq_59) ho_27
  have ho_30 := Ext_A (Ext_nE 13 ((10 : Int32)).toNatClampNeg hq_59) ho_30
  have ho_33 := Ext_A (Ext_nE 13 ((10 : Int32)).toNatClampNeg hq_59) ho_33
  have ho_36 := Ext_A (Ext_nE 13 ((10 : Int32)).toNatClampNeg hq_59) ho_36
  have ho_39 := Ext_A (Ext_nE 13 ((10 : Int32)).toNatClampNeg hq_59) ho_39
  have ho_42 := Ext_A (Ext_nE 13 ((10 : Int32)).toNatClampNeg hq_59) ho_42
  have ho_45 := Ext_A (Ext_nE 13 ((10 : Int32)).toNatClampNeg hq_59) ho_45
  have ho_48 := Ext_A (Ext_nE 13 ((10 : Int32)).toNatClampNeg hq_59) ho_48
  have ho_51 := Ext_A (Ext_nE 13 ((10 : Int32)).toNatClampNeg hq_59) ho_51
  have ho_54 := Ext_A (Ext_nE 13 ((10 : Int32)).toNatClampNeg hq_59) ho_54
  have ho_57 := Ext_A (Ext_nE 13 ((10 : Int32)).toNatClampNeg hq_59) ho_57
  have hx := Ext_tr hx (Ext_nE 13 ((10 : Int32)).toNatClampNeg hq_59)
  have ho_60 := okA_new (sR (nE (sR (nE (sR (nE (sR (nE (sR (nE (sR (nE (sR (nE (sR (nE (sR (nE (sR (nE (sR (nE (sR (nE (sR (nE (sR (nE (sR (nE (sR (nE (sR (nE (sR (nE (sR (nE E q_1 13 ((4851 : Int32)).toNatClampNeg) a0 1 (some q_1)) q_4 13 ((4000 : Int32)).toNatClampNeg) a0 2 (some q_4)) q_7 12 ((400 : Int32)).toNatClampNeg) a0 4 (some q_7)) q_10 13 ((5 : Int32)).toNatClampNeg) a0 11 (some q_10)) q_13 13 ((9 : Int32)).toNatClampNeg) a0 14 (some q_13)) q_16 13 ((400 : Int32)).toNatClampNeg) a0 15 (some q_16)) q_19 13 ((40 : Int32)).toNatClampNeg) a0 16 (some q_19)) q_22 15 ((12 : Int32)).toNatClampNeg) a0 18 (some q_22)) q_25 13 ((12 : Int32)).toNatClampNeg) a0 19 (some q_25)) q_28 15 ((144 : Int32)).toNatClampNeg) a0 20 (some q_28)) q_31 13 ((10 : Int32)).toNatClampNeg) a0 21 (some q_31)) q_34 13 ((10 : Int32)).toNatClampNeg) a0 22 (some q_34)) q_37 13 ((10 : Int32)).toNatClampNeg) a0 23 (some q_37)) q_40 15 ((40 : Int32)).toNatClampNeg) a0 24 (some q_40)) q_43 15 ((40 : Int32)).toNatClampNeg) a0 25 (some q_43)) q_46 13 ((10 : Int32)).toNatClampNeg) a0 26 (some q_46)) q_49 13 ((10 : Int32)).toNatClampNeg) a0 27 (some q_49)) q_52 13 ((10 : Int32)).toNatClampNeg) a0 28 (some q_52)) q_55 15 ((40 : Int32)).toNatClampNeg) a0 30 (some q_55)) q_58 ((10 : Int32)).toNatClampNeg (t := 13) (by decide)
  refine r_putRF S hw hinit 11 31 (ty := (.array .int)) rfl inG11 tyX11 tyX11_ok nmX11 (by decide) (List.mem_cons_of_mem _ wg172) (by decide) rfl rfl (by decide +kernel) rfl rfl ha0 (dd_at ddX11_init 84 rfl) (fun H locs hw => ?_)
  have ha0 := Ext_O (Ext_sR _ a0 31 (some q_58)) ha0
  have ho_3 := Ext_A (Ext_sR _ a0 31 (some q_58)) ho_3
  have ho_6 := Ext_A (Ext_sR _ a0 31 (some q_58)) ho_6
  have ho_9 := Ext_A (Ext_sR _ a0 31 (some q_58)) ho_9
  have ho_12 := Ext_A (Ext_sR _ a0 31 (some q_58)) ho_12
  have ho_15 := Ext_A (Ext_sR _ a0 31 (some q_58)) ho_15
  have ho_18 := Ext_A (Ext_sR _ a0 31 (some q_58)) ho_18
  have ho_21 := Ext_A (Ext_sR _ a0 31 (some q_58)) ho_21
  have ho_24 := Ext_A (Ext_sR _ a0 31 (some q_58)) ho_24
  have ho_27 := Ext_A (Ext_sR _ a0 31 (some q_58)) ho_27
  have ho_30 := Ext_A (Ext_sR _ a0 31 (some q_58)) ho_30
  have ho_33 := Ext_A (Ext_sR _ a0 31 (some q_58)) ho_33
  have ho_36 := Ext_A (Ext_sR _ a0 31 (some q_58)) ho_36
  have ho_39 := Ext_A (Ext_sR _ a0 31 (some q_58)) ho_39
  have ho_42 := Ext_A (Ext_sR _ a0 31 (some q_58)) ho_42
  have ho_45 := Ext_A (Ext_sR _ a0 31 (some q_58)) ho_45
  have ho_48 := Ext_A (Ext_sR _ a0 31 (some q_58)) ho_48
  have ho_51 := Ext_A (Ext_sR _ a0 31 (some q_58)) ho_51
  have ho_54 := Ext_A (Ext_sR _ a0 31 (some q_58)) ho_54
  have ho_57 := Ext_A (Ext_sR _ a0 31 (some q_58)) ho_57
  have ho_60 := Ext_A (Ext_sR _ a0 31 (some q_58)) ho_60
  have hx := Ext_tr hx (Ext_sR _ a0 31 (some q_58))
  refine lv_aload_n S.1 S.2.1 (dd_at ddX11_init 85 rfl) rfl (lv_at hl 0 rfl) ?_
  refine lv_bipush (v := 10) S.1 S.2.1 (dd_at ddX11_init 86 rfl) (by decide) ?_
  refine r_newI S hw (List.mem_cons_of_mem _ wg74) (n := 10) (by decide) (by decide) (Nat.le_of_ble_eq_true rfl) (by show _ ≤ _; exact Nat.le_of_ble_eq_true rfl) (dd_at ddX11_init 87 rfl) (fun q_61 H hq_62 hw => ?_)
  refine W.widen (k := 21) (n := 10073) (Nat.le_of_ble_eq_true rfl) (Nat.le_of_ble_eq_true rfl) ?_
  have h := h q_61 hq_62
  have ha0 := Ext_O (Ext_nE 13 ((10 : Int32)).toNatClampNeg hq_62) ha0
  have ho_3 := Ext_A (Ext_nE 13 ((10 : Int32)).toNatClampNeg hq_62) ho_3
  have ho_6 := Ext_A (Ext_nE 13 ((10 : Int32)).toNatClampNeg hq_62) ho_6
  have ho_9 := Ext_A (Ext_nE 13 ((10 : Int32)).toNatClampNeg hq_62) ho_9
  have ho_12 := Ext_A (Ext_nE 13 ((10 : Int32)).toNatClampNeg hq_62) ho_12
  have ho_15 := Ext_A (Ext_nE 13 ((10 : Int32)).toNatClampNeg hq_62) ho_15
  have ho_18 := Ext_A (Ext_nE 13 ((10 : Int32)).toNatClampNeg hq_62) ho_18
  have ho_21 := Ext_A (Ext_nE 13 ((10 : Int32)).toNatClampNeg hq_62) ho_21
  have ho_24 := Ext_A (Ext_nE 13 ((10 : Int32)).toNatClampNeg hq_62) ho_24
  have ho_27 := Ext_A (Ext_nE 13 ((10 : Int32)).toNatClampNeg hq_62) ho_27
  have ho_30 := Ext_A (Ext_nE 13 ((10 : Int32)).toNatClampNeg hq_62) ho_30
  have ho_33 := Ext_A (Ext_nE 13 ((10 : Int32)).toNatClampNeg hq_62) ho_33
  have ho_36 := Ext_A (Ext_nE 13 ((10 : Int32)).toNatClampNeg hq_62) ho_36
  have ho_39 := Ext_A (Ext_nE 13 ((10 : Int32)).toNatClampNeg hq_62) ho_39
  have ho_42 := Ext_A (Ext_nE 13 ((10 : Int32)).toNatClampNeg hq_62) ho_42
  have ho_45 := Ext_A (Ext_nE 13 ((10 : Int32)).toNatClampNeg hq_62) ho_45
  have ho_48 := Ext_A (Ext_nE 13 ((10 : Int32)).toNatClampNeg hq_62) ho_48
  have ho_51 := Ext_A (Ext_nE 13 ((10 : Int32)).toNatClampNeg hq_62) ho_51
  have ho_54 := Ext_A (Ext_nE 13 ((10 : Int32)).toNatClampNeg hq_62) ho_54
  have ho_57 := Ext_A (Ext_nE 13 ((10 : Int32)).toNatClampNeg hq_62) ho_57
  have ho_60 := Ext_A (Ext_nE 13 ((10 : Int32)).toNatClampNeg hq_62) ho_60
  have hx := Ext_tr hx (Ext_nE 13 ((10 : Int32)).toNatClampNeg hq_62)
  have ho_63 := okA_new (sR (nE (sR (nE (sR (nE (sR (nE (sR (nE (sR (nE (sR (nE (sR (nE (sR (nE (sR (nE (sR (nE (sR (nE (sR (nE (sR (nE (sR (nE (sR (nE (sR (nE (sR (nE (sR (nE (sR (nE E q_1 13 ((4851 : Int32)).toNatClampNeg) a0 1 (some q_1)) q_4 13 ((4000 : Int32)).toNatClampNeg) a0 2 (some q_4)) q_7 12 ((400 : Int32)).toNatClampNeg) a0 4 (some q_7)) q_10 13 ((5 : Int32)).toNatClampNeg) a0 11 (some q_10)) q_13 13 ((9 : Int32)).toNatClampNeg) a0 14 (some q_13)) q_16 13 ((400 : Int32)).toNatClampNeg) a0 15 (some q_16)) q_19 13 ((40 : Int32)).toNatClampNeg) a0 16 (some q_19)) q_22 15 ((12 : Int32)).toNatClampNeg) a0 18 (some q_22)) q_25 13 ((12 : Int32)).toNatClampNeg) a0 19 (some q_25)) q_28 15 ((144 : Int32)).toNatClampNeg) a0 20 (some q_28)) q_31 13 ((10 : Int32)).toNatClampNeg) a0 21 (some q_31)) q_34 13 ((10 : Int32)).toNatClampNeg) a0 22 (some q_34)) q_37 13 ((10 : Int32)).toNatClampNeg) a0 23 (some q_37)) q_40 15 ((40 : Int32)).toNatClampNeg) a0 24 (some q_40)) q_43 15 ((40 : Int32)).toNatClampNeg) a0 25 (some q_43)) q_46 13 ((10 : Int32)).toNatClampNeg) a0 26 (some q_46)) q_49 13 ((10 : Int32)).toNatClampNeg) a0 27 (some q_49)) q_52 13 ((10 : Int32)).toNatClampNeg) a0 28 (some q_52)) q_55 15 ((40 : Int32)).toNatClampNeg) a0 30 (some q_55)) q_58 13 ((10 : Int32)).toNatClampNeg) a0 31 (some q_58)) q_61 ((10 : Int32)).toNatClampNeg (t := 13) (by decide)
  refine r_putRF S hw hinit 11 32 (ty := (.array .int)) rfl inG11 tyX11 tyX11_ok nmX11 (by decide) (List.mem_cons_of_mem _ wg173) (by decide) rfl rfl (by decide +kernel) rfl rfl ha0 (dd_at ddX11_init 88 rfl) (fun H locs hw => ?_)
  have ha0 := Ext_O (Ext_sR _ a0 32 (some q_61)) ha0
  have ho_3 := Ext_A (Ext_sR _ a0 32 (some q_61)) ho_3
  have ho_6 := Ext_A (Ext_sR _ a0 32 (some q_61)) ho_6
  have ho_9 := Ext_A (Ext_sR _ a0 32 (some q_61)) ho_9
  have ho_12 := Ext_A (Ext_sR _ a0 32 (some q_61)) ho_12
  have ho_15 := Ext_A (Ext_sR _ a0 32 (some q_61)) ho_15
  have ho_18 := Ext_A (Ext_sR _ a0 32 (some q_61)) ho_18
  have ho_21 := Ext_A (Ext_sR _ a0 32 (some q_61)) ho_21
  have ho_24 := Ext_A (Ext_sR _ a0 32 (some q_61)) ho_24
  have ho_27 := Ext_A (Ext_sR _ a0 32 (some q_61)) ho_27
  have ho_30 := Ext_A (Ext_sR _ a0 32 (some q_61)) ho_30
  have ho_33 := Ext_A (Ext_sR _ a0 32 (some q_61)) ho_33
  have ho_36 := Ext_A (Ext_sR _ a0 32 (some q_61)) ho_36
  have ho_39 := Ext_A (Ext_sR _ a0 32 (some q_61)) ho_39
  have ho_42 := Ext_A (Ext_sR _ a0 32 (some q_61)) ho_42
  have ho_45 := Ext_A (Ext_sR _ a0 32 (some q_61)) ho_45
  have ho_48 := Ext_A (Ext_sR _ a0 32 (some q_61)) ho_48
  have ho_51 := Ext_A (Ext_sR _ a0 32 (some q_61)) ho_51
  have ho_54 := Ext_A (Ext_sR _ a0 32 (some q_61)) ho_54
  have ho_57 := Ext_A (Ext_sR _ a0 32 (some q_61)) ho_57
  have ho_60 := Ext_A (Ext_sR _ a0 32 (some q_61)) ho_60
  have ho_63 := Ext_A (Ext_sR _ a0 32 (some q_61)) ho_63
  have hx := Ext_tr hx (Ext_sR _ a0 32 (some q_61))
  refine lv_aload_n S.1 S.2.1 (dd_at ddX11_init 89 rfl) rfl (lv_at hl 0 rfl) ?_
  refine lv_bipush (v := 10) S.1 S.2.1 (dd_at ddX11_init 90 rfl) (by decide) ?_
  refine r_newI S hw (List.mem_cons_of_mem _ wg74) (n := 10) (by decide) (by decide) (Nat.le_of_ble_eq_true rfl) (by show _ ≤ _; exact Nat.le_of_ble_eq_true rfl) (dd_at ddX11_init 91 rfl) (fun q_64 H hq_65 hw => ?_)
  refine W.widen (k := 22) (n := 10083) (Nat.le_of_ble_eq_true rfl) (Nat.le_of_ble_eq_true rfl) ?_
  have h := h q_64 hq_65
  have ha0 := Ext_O (Ext_nE 13 ((10 : Int32)).toNatClampNeg hq_65) ha0
  have ho_3 := Ext_A (Ext_nE 13 ((10 : Int32)).toNatClampNeg hq_65) ho_3
  have ho_6 := Ext_A (Ext_nE 13 ((10 : Int32)).toNatClampNeg hq_65) ho_6
  have ho_9 := Ext_A (Ext_nE 13 ((10 : Int32)).toNatClampNeg hq_65) ho_9
  have ho_12 := Ext_A (Ext_nE 13 ((10 : Int32)).toNatClampNeg hq_65) ho_12
  have ho_15 := Ext_A (Ext_nE 13 ((10 : Int32)).toNatClampNeg hq_65) ho_15
  have ho_18 := Ext_A (Ext_nE 13 ((10 : Int32)).toNatClampNeg hq_65) ho_18
  have ho_21 := Ext_A (Ext_nE 13 ((10 : Int32)).toNatClampNeg hq_65) ho_21
  have ho_24 := Ext_A (Ext_nE 13 ((10 : Int32)).toNatClampNeg hq_65) ho_24
  have ho_27 := Ext_A (Ext_nE 13 ((10 : Int32)).toNatClampNeg hq_65) ho_27
  have ho_30 := Ext_A (Ext_nE 13 ((10 : Int32)).toNatClampNeg hq_65) ho_30
  have ho_33 := Ext_A (Ext_nE 13 ((10 : Int32)).toNatClampNeg hq_65) ho_33
  have ho_36 := Ext_A (Ext_nE 13 ((10 : Int32)).toNatClampNeg hq_65) ho_36
  have ho_39 := Ext_A (Ext_nE 13 ((10 : Int32)).toNatClampNeg hq_65) ho_39
  have ho_42 := Ext_A (Ext_nE 13 ((10 : Int32)).toNatClampNeg hq_65) ho_42
  have ho_45 := Ext_A (Ext_nE 13 ((10 : Int32)).toNatClampNeg hq_65) ho_45
  have ho_48 := Ext_A (Ext_nE 13 ((10 : Int32)).toNatClampNeg hq_65) ho_48
  have ho_51 := Ext_A (Ext_nE 13 ((10 : Int32)).toNatClampNeg hq_65) ho_51
  have ho_54 := Ext_A (Ext_nE 13 ((10 : Int32)).toNatClampNeg hq_65) ho_54
  have ho_57 := Ext_A (Ext_nE 13 ((10 : Int32)).toNatClampNeg hq_65) ho_57
  have ho_60 := Ext_A (Ext_nE 13 ((10 : Int32)).toNatClampNeg hq_65) ho_60
  have ho_63 := Ext_A (Ext_nE 13 ((10 : Int32)).toNatClampNeg hq_65) ho_63
  have hx := Ext_tr hx (Ext_nE 13 ((10 : Int32)).toNatClampNeg hq_65)
  have ho_66 := okA_new (sR (nE (sR (nE (sR (nE (sR (nE (sR (nE (sR (nE (sR (nE (sR (nE (sR (nE (sR (nE (sR (nE (sR (nE (sR (nE (sR (nE (sR (nE (sR (nE (sR (nE (sR (nE (sR (nE (sR (nE (sR (nE E q_1 13 ((4851 : Int32)).toNatClampNeg) a0 1 (some q_1)) q_4 13 ((4000 : Int32)).toNatClampNeg) a0 2 (some q_4)) q_7 12 ((400 : Int32)).toNatClampNeg) a0 4 (some q_7)) q_10 13 ((5 : Int32)).toNatClampNeg) a0 11 (some q_10)) q_13 13 ((9 : Int32)).toNatClampNeg) a0 14 (some q_13)) q_16 13 ((400 : Int32)).toNatClampNeg) a0 15 (some q_16)) q_19 13 ((40 : Int32)).toNatClampNeg) a0 16 (some q_19)) q_22 15 ((12 : Int32)).toNatClampNeg) a0 18 (some q_22)) q_25 13 ((12 : Int32)).toNatClampNeg) a0 19 (some q_25)) q_28 15 ((144 : Int32)).toNatClampNeg) a0 20 (some q_28)) q_31 13 ((10 : Int32)).toNatClampNeg) a0 21 (some q_31)) q_34 13 ((10 : Int32)).toNatClampNeg) a0 22 (some q_34)) q_37 13 ((10 : Int32)).toNatClampNeg) a0 23 (some q_37)) q_40 15 ((40 : Int32)).toNatClampNeg) a0 24 (some q_40)) q_43 15 ((40 : Int32)).toNatClampNeg) a0 25 (some q_43)) q_46 13 ((10 : Int32)).toNatClampNeg) a0 26 (some q_46)) q_49 13 ((10 : Int32)).toNatClampNeg) a0 27 (some q_49)) q_52 13 ((10 : Int32)).toNatClampNeg) a0 28 (some q_52)) q_55 15 ((40 : Int32)).toNatClampNeg) a0 30 (some q_55)) q_58 13 ((10 : Int32)).toNatClampNeg) a0 31 (some q_58)) q_61 13 ((10 : Int32)).toNatClampNeg) a0 32 (some q_61)) q_64 ((10 : Int32)).toNatClampNeg (t := 13) (by decide)
  refine r_putRF S hw hinit 11 34 (ty := (.array .int)) rfl inG11 tyX11 tyX11_ok nmX11 (by decide) (List.mem_cons_of_mem _ wg174) (by decide) rfl rfl (by decide +kernel) rfl rfl ha0 (dd_at ddX11_init 92 rfl) (fun H locs hw => ?_)
  have ha0 := Ext_O (Ext_sR _ a0 34 (some q_64)) ha0
  have ho_3 := Ext_A (Ext_sR _ a0 34 (some q_64)) ho_3
  have ho_6 := Ext_A (Ext_sR _ a0 34 (some q_64)) ho_6
  have ho_9 := Ext_A (Ext_sR _ a0 34 (some q_64)) ho_9
  have ho_12 := Ext_A (Ext_sR _ a0 34 (some q_64)) ho_12
  have ho_15 := Ext_A (Ext_sR _ a0 34 (some q_64)) ho_15
  have ho_18 := Ext_A (Ext_sR _ a0 34 (some q_64)) ho_18
  have ho_21 := Ext_A (Ext_sR _ a0 34 (some q_64)) ho_21
  have ho_24 := Ext_A (Ext_sR _ a0 34 (some q_64)) ho_24
  have ho_27 := Ext_A (Ext_sR _ a0 34 (some q_64)) ho_27
  have ho_30 := Ext_A (Ext_sR _ a0 34 (some q_64)) ho_30
  have ho_33 := Ext_A (Ext_sR _ a0 34 (some q_64)) ho_33
  have ho_36 := Ext_A (Ext_sR _ a0 34 (some q_64)) ho_36
  have ho_39 := Ext_A (Ext_sR _ a0 34 (some q_64)) ho_39
  have ho_42 := Ext_A (Ext_sR _ a0 34 (some q_64)) ho_42
  have ho_45 := Ext_A (Ext_sR _ a0 34 (some q_64)) ho_45
  have ho_48 := Ext_A (Ext_sR _ a0 34 (some q_64)) ho_48
  have ho_51 := Ext_A (Ext_sR _ a0 34 (some q_64)) ho_51
  have ho_54 := Ext_A (Ext_sR _ a0 34 (some q_64)) ho_54
  have ho_57 := Ext_A (Ext_sR _ a0 34 (some q_64)) ho_57
  have ho_60 := Ext_A (Ext_sR _ a0 34 (some q_64)) ho_60
  have ho_63 := Ext_A (Ext_sR _ a0 34 (some q_64)) ho_63
  have ho_66 := Ext_A (Ext_sR _ a0 34 (some q_64)) ho_66
  have hx := Ext_tr hx (Ext_sR _ a0 34 (some q_64))
  refine lv_aload_n S.1 S.2.1 (dd_at ddX11_init 93 rfl) rfl (lv_at hl 0 rfl) ?_
  refine lv_bipush (v := 10) S.1 S.2.1 (dd_at ddX11_init 94 rfl) (by decide) ?_
  refine r_newI S hw (List.mem_cons_of_mem _ wg74) (n := 10) (by decide) (by decide) (Nat.le_of_ble_eq_true rfl) (by show _ ≤ _; exact Nat.le_of_ble_eq_true rfl) (dd_at ddX11_init 95 rfl) (fun q_67 H hq_68 hw => ?_)
  refine W.widen (k := 23) (n := 10093) (Nat.le_of_ble_eq_true rfl) (Nat.le_of_ble_eq_true rfl) ?_
  have h := h q_67 hq_68
  have ha0 := Ext_O (Ext_nE 13 ((10 : Int32)).toNatClampNeg hq_68) ha0
  have ho_3 := Ext_A (Ext_nE 13 ((10 : Int32)).toNatClampNeg hq_68) ho_3
  have ho_6 := Ext_A (Ext_nE 13 ((10 : Int32)).toNatClampNeg hq_68) ho_6
  have ho_9 := Ext_A (Ext_nE 13 ((10 : Int32)).toNatClampNeg hq_68) ho_9
  have ho_12 := Ext_A (Ext_nE 13 ((10 : Int32)).toNatClampNeg hq_68) ho_12
  have ho_15 := Ext_A (Ext_nE 13 ((10 : Int32)).toNatClampNeg hq_68) ho_15
  have ho_18 := Ext_A (Ext_nE 13 ((10 : Int32)).toNatClampNeg hq_68) ho_18
  have ho_21 := Ext_A (Ext_nE 13 ((10 : Int32)).toNatClampNeg hq_68) ho_21
  have ho_24 := Ext_A (Ext_nE 13 ((10 : Int32)).toNatClampNeg hq_68) ho_24
  have ho_27 := Ext_A (Ext_nE 13 ((10 : Int32)).toNatClampNeg hq_68) ho_27
  have ho_30 := Ext_A (Ext_nE 13 ((10 : Int32)).toNatClampNeg hq_68) ho_30
  have ho_33 := Ext_A (Ext_nE 13 ((10 : Int32)).toNatClampNeg hq_68) ho_33
  have ho_36 := Ext_A (Ext_nE 13 ((10 : Int32)).toNatClampNeg hq_68) ho_36
  have ho_39 := Ext_A (Ext_nE 13 ((10 : Int32)).toNatClampNeg hq_68) ho_39
  have ho_42 := Ext_A (Ext_nE 13 ((10 : Int32)).toNatClampNeg hq_68) ho_42
  have ho_45 := Ext_A (Ext_nE 13 ((10 : Int32)).toNatClampNeg hq_68) ho_45
  have ho_48 := Ext_A (Ext_nE 13 ((10 : Int32)).toNatClampNeg hq_68) ho_48
  have ho_51 := Ext_A (Ext_nE 13 ((10 : Int32)).toNatClampNeg hq_68) ho_51
  have ho_54 := Ext_A (Ext_nE 13 ((10 : Int32)).toNatClampNeg hq_68) ho_54
  have ho_57 := Ext_A (Ext_nE 13 ((10 : Int32)).toNatClampNeg hq_68) ho_57
  have ho_60 := Ext_A (Ext_nE 13 ((10 : Int32)).toNatClampNeg hq_68) ho_60
  have ho_63 := Ext_A (Ext_nE 13 ((10 : Int32)).toNatClampNeg hq_68) ho_63
  have ho_66 := Ext_A (Ext_nE 13 ((10 : Int32)).toNatClampNeg hq_68) ho_66
  have hx := Ext_tr hx (Ext_nE 13 ((10 : Int32)).toNatClampNeg hq_68)
  have ho_69 := okA_new (sR (nE (sR (nE (sR (nE (sR (nE (sR (nE (sR (nE (sR (nE (sR (nE (sR (nE (sR (nE (sR (nE (sR (nE (sR (nE (sR (nE (sR (nE (sR (nE (sR (nE (sR (nE (sR (nE (sR (nE (sR (nE (sR (nE E q_1 13 ((4851 : Int32)).toNatClampNeg) a0 1 (some q_1)) q_4 13 ((4000 : Int32)).toNatClampNeg) a0 2 (some q_4)) q_7 12 ((400 : Int32)).toNatClampNeg) a0 4 (some q_7)) q_10 13 ((5 : Int32)).toNatClampNeg) a0 11 (some q_10)) q_13 13 ((9 : Int32)).toNatClampNeg) a0 14 (some q_13)) q_16 13 ((400 : Int32)).toNatClampNeg) a0 15 (some q_16)) q_19 13 ((40 : Int32)).toNatClampNeg) a0 16 (some q_19)) q_22 15 ((12 : Int32)).toNatClampNeg) a0 18 (some q_22)) q_25 13 ((12 : Int32)).toNatClampNeg) a0 19 (some q_25)) q_28 15 ((144 : Int32)).toNatClampNeg) a0 20 (some q_28)) q_31 13 ((10 : Int32)).toNatClampNeg) a0 21 (some q_31)) q_34 13 ((10 : Int32)).toNatClampNeg) a0 22 (some q_34)) q_37 13 ((10 : Int32)).toNatClampNeg) a0 23 (some q_37)) q_40 15 ((40 : Int32)).toNatClampNeg) a0 24 (some q_40)) q_43 15 ((40 : Int32)).toNatClampNeg) a0 25 (some q_43)) q_46 13 ((10 : Int32)).toNatClampNeg) a0 26 (some q_46)) q_49 13 ((10 : Int32)).toNatClampNeg) a0 27 (some q_49)) q_52 13 ((10 : Int32)).toNatClampNeg) a0 28 (some q_52)) q_55 15 ((40 : Int32)).toNatClampNeg) a0 30 (some q_55)) q_58 13 ((10 : Int32)).toNatClampNeg) a0 31 (some q_58)) q_61 13 ((10 : Int32)).toNatClampNeg) a0 32 (some q_61)) q_64 13 ((10 : Int32)).toNatClampNeg) a0 34 (some q_64)) q_67 ((10 : Int32)).toNatClampNeg (t := 13) (by decide)
  refine r_putRF S hw hinit 11 35 (ty := (.array .int)) rfl inG11 tyX11 tyX11_ok nmX11 (by decide) (List.mem_cons_of_mem _ wg175) (by decide) rfl rfl (by decide +kernel) rfl rfl ha0 (dd_at ddX11_init 96 rfl) (fun H locs hw => ?_)
  have ha0 := Ext_O (Ext_sR _ a0 35 (some q_67)) ha0
  have ho_3 := Ext_A (Ext_sR _ a0 35 (some q_67)) ho_3
  have ho_6 := Ext_A (Ext_sR _ a0 35 (some q_67)) ho_6
  have ho_9 := Ext_A (Ext_sR _ a0 35 (some q_67)) ho_9
  have ho_12 := Ext_A (Ext_sR _ a0 35 (some q_67)) ho_12
  have ho_15 := Ext_A (Ext_sR _ a0 35 (some q_67)) ho_15
  have ho_18 := Ext_A (Ext_sR _ a0 35 (some q_67)) ho_18
  have ho_21 := Ext_A (Ext_sR _ a0 35 (some q_67)) ho_21
  have ho_24 := Ext_A (Ext_sR _ a0 35 (some q_67)) ho_24
  have ho_27 := Ext_A (Ext_sR _ a0 35 (some q_67)) ho_27
  have ho_30 := Ext_A (Ext_sR _ a0 35 (some q_67)) ho_30
  have ho_33 := Ext_A (Ext_sR _ a0 35 (some q_67)) ho_33
  have ho_36 := Ext_A (Ext_sR _ a0 35 (some q_67)) ho_36
  have ho_39 := Ext_A (Ext_sR _ a0 35 (some q_67)) ho_39
  have ho_42 := Ext_A (Ext_sR _ a0 35 (some q_67)) ho_42
  have ho_45 := Ext_A (Ext_sR _ a0 35 (some q_67)) ho_45
  have ho_48 := Ext_A (Ext_sR _ a0 35 (some q_67)) ho_48
  have ho_51 := Ext_A (Ext_sR _ a0 35 (some q_67)) ho_51
  have ho_54 := Ext_A (Ext_sR _ a0 35 (some q_67)) ho_54
  have ho_57 := Ext_A (Ext_sR _ a0 35 (some q_67)) ho_57
  have ho_60 := Ext_A (Ext_sR _ a0 35 (some q_67)) ho_60
  have ho_63 := Ext_A (Ext_sR _ a0 35 (some q_67)) ho_63
  have ho_66 := Ext_A (Ext_sR _ a0 35 (some q_67)) ho_66
  have ho_69 := Ext_A (Ext_sR _ a0 35 (some q_67)) ho_69
  have hx := Ext_tr hx (Ext_sR _ a0 35 (some q_67))
  refine lv_aload_n S.1 S.2.1 (dd_at ddX11_init 97 rfl) rfl (lv_at hl 0 rfl) ?_
  refine lv_bipush (v := 10) S.1 S.2.1 (dd_at ddX11_init 98 rfl) (by decide) ?_
  refine r_newI S hw (List.mem_cons_of_mem _ wg74) (n := 10) (by decide) (by decide) (Nat.le_of_ble_eq_true rfl) (by show _ ≤ _; exact Nat.le_of_ble_eq_true rfl) (dd_at ddX11_init 99 rfl) (fun q_70 H hq_71 hw => ?_)
  refine W.widen (k := 24) (n := 10103) (Nat.le_of_ble_eq_true rfl) (Nat.le_of_ble_eq_true rfl) ?_
  have h := h q_70 hq_71
  have ha0 := Ext_O (Ext_nE 13 ((10 : Int32)).toNatClampNeg hq_71) ha0
  have ho_3 := Ext_A (Ext_nE 13 ((10 : Int32)).toNatClampNeg hq_71) ho_3
  have ho_6 := Ext_A (Ext_nE 13 ((10 : Int32)).toNatClampNeg hq_71) ho_6
  have ho_9 := Ext_A (Ext_nE 13 ((10 : Int32)).toNatClampNeg hq_71) ho_9
  have ho_12 := Ext_A (Ext_nE 13 ((10 : Int32)).toNatClampNeg hq_71) ho_12
  have ho_15 := Ext_A (Ext_nE 13 ((10 : Int32)).toNatClampNeg hq_71) ho_15
  have ho_18 := Ext_A (Ext_nE 13 ((10 : Int32)).toNatClampNeg hq_71) ho_18
  have ho_21 := Ext_A (Ext_nE 13 ((10 : Int32)).toNatClampNeg hq_71) ho_21
  have ho_24 := Ext_A (Ext_nE 13 ((10 : Int32)).toNatClampNeg hq_71) ho_24
  have ho_27 := Ext_A (Ext_nE 13 ((10 : Int32)).toNatClampNeg hq_71) ho_27
  have ho_30 := Ext_A (Ext_nE 13 ((10 : Int32)).toNatClampNeg hq_71) ho_30
  have ho_33 := Ext_A (Ext_nE 13 ((10 : Int32)).toNatClampNeg hq_71) ho_33
  have ho_36 := Ext_A (Ext_nE 13 ((10 : Int32)).toNatClampNeg hq_71) ho_36
  have ho_39 := Ext_A (Ext_nE 13 ((10 : Int32)).toNatClampNeg hq_71) ho_39
  have ho_42 := Ext_A (Ext_nE 13 ((10 : Int32)).toNatClampNeg hq_71) ho_42
  have ho_45 := Ext_A (Ext_nE 13 ((10 : Int32)).toNatClampNeg hq_71) ho_45
  have ho_48 := Ext_A (Ext_nE 13 ((10 : Int32)).toNatClampNeg hq_71) ho_48
  have ho_51 := Ext_A (Ext_nE 13 ((10 : Int32)).toNatClampNeg hq_71) ho_51
  have ho_54 := Ext_A (Ext_nE 13 ((10 : Int32)).toNatClampNeg hq_71) ho_54
  have ho_57 := Ext_A (Ext_nE 13 ((10 : Int32)).toNatClampNeg hq_71) ho_57
  have ho_60 := Ext_A (Ext_nE 13 ((10 : Int32)).toNatClampNeg hq_71) ho_60
  have ho_63 := Ext_A (Ext_nE 13 ((10 : Int32)).toNatClampNeg hq_71) ho_63
  have ho_66 := Ext_A (Ext_nE 13 ((10 : Int32)).toNatClampNeg hq_71) ho_66
  have ho_69 := Ext_A (Ext_nE 13 ((10 : Int32)).toNatClampNeg hq_71) ho_69
  have hx := Ext_tr hx (Ext_nE 13 ((10 : Int32)).toNatClampNeg hq_71)
  have ho_72 := okA_new (sR (nE (sR (nE (sR (nE (sR (nE (sR (nE (sR (nE (sR (nE (sR (nE (sR (nE (sR (nE (sR (nE (sR (nE (sR (nE (sR (nE (sR (nE (sR (nE (sR (nE (sR (nE (sR (nE (sR (nE (sR (nE (sR (nE (sR (nE E q_1 13 ((4851 : Int32)).toNatClampNeg) a0 1 (some q_1)) q_4 13 ((4000 : Int32)).toNatClampNeg) a0 2 (some q_4)) q_7 12 ((400 : Int32)).toNatClampNeg) a0 4 (some q_7)) q_10 13 ((5 : Int32)).toNatClampNeg) a0 11 (some q_10)) q_13 13 ((9 : Int32)).toNatClampNeg) a0 14 (some q_13)) q_16 13 ((400 : Int32)).toNatClampNeg) a0 15 (some q_16)) q_19 13 ((40 : Int32)).toNatClampNeg) a0 16 (some q_19)) q_22 15 ((12 : Int32)).toNatClampNeg) a0 18 (some q_22)) q_25 13 ((12 : Int32)).toNatClampNeg) a0 19 (some q_25)) q_28 15 ((144 : Int32)).toNatClampNeg) a0 20 (some q_28)) q_31 13 ((10 : Int32)).toNatClampNeg) a0 21 (some q_31)) q_34 13 ((10 : Int32)).toNatClampNeg) a0 22 (some q_34)) q_37 13 ((10 : Int32)).toNatClampNeg) a0 23 (some q_37)) q_40 15 ((40 : Int32)).toNatClampNeg) a0 24 (some q_40)) q_43 15 ((40 : Int32)).toNatClampNeg) a0 25 (some q_43)) q_46 13 ((10 : Int32)).toNatClampNeg) a0 26 (some q_46)) q_49 13 ((10 : Int32)).toNatClampNeg) a0 27 (some q_49)) q_52 13 ((10 : Int32)).toNatClampNeg) a0 28 (some q_52)) q_55 15 ((40 : Int32)).toNatClampNeg) a0 30 (some q_55)) q_58 13 ((10 : Int32)).toNatClampNeg) a0 31 (some q_58)) q_61 13 ((10 : Int32)).toNatClampNeg) a0 32 (some q_61)) q_64 13 ((10 : Int32)).toNatClampNeg) a0 34 (some q_64)) q_67 13 ((10 : Int32)).toNatClampNeg) a0 35 (some q_67)) q_70 ((10 : Int32)).toNatClampNeg (t := 13) (by decide)
  refine r_putRF S hw hinit 11 36 (ty := (.array .int)) rfl inG11 tyX11 tyX11_ok nmX11 (by decide) (List.mem_cons_of_mem _ wg176) (by decide) rfl rfl (by decide +kernel) rfl rfl ha0 (dd_at ddX11_init 100 rfl) (fun H locs hw => ?_)
  have ha0 := Ext_O (Ext_sR _ a0 36 (some q_70)) ha0
  have ho_3 := Ext_A (Ext_sR _ a0 36 (some q_70)) ho_3
  have ho_6 := Ext_A (Ext_sR _ a0 36 (some q_70)) ho_6
  have ho_9 := Ext_A (Ext_sR _ a0 36 (some q_70)) ho_9
  have ho_12 := Ext_A (Ext_sR _ a0 36 (some q_70)) ho_12
  have ho_15 := Ext_A (Ext_sR _ a0 36 (some q_70)) ho_15
  have ho_18 := Ext_A (Ext_sR _ a0 36 (some q_70)) ho_18
  have ho_21 := Ext_A (Ext_sR _ a0 36 (some q_70)) ho_21
  have ho_24 := Ext_A (Ext_sR _ a0 36 (some q_70)) ho_24
  have ho_27 := Ext_A (Ext_sR _ a0 36 (some q_70)) ho_27
  have ho_30 := Ext_A (Ext_sR _ a0 36 (some q_70)) ho_30
  have ho_33 := Ext_A (Ext_sR _ a0 36 (some q_70)) ho_33
  have ho_36 := Ext_A (Ext_sR _ a0 36 (some q_70)) ho_36
  have ho_39 := Ext_A (Ext_sR _ a0 36 (some q_70)) ho_39
  have ho_42 := Ext_A (Ext_sR _ a0 36 (some q_70)) ho_42
  have ho_45 := Ext_A (Ext_sR _ a0 36 (some q_70)) ho_45
  have ho_48 := Ext_A (Ext_sR _ a0 36 (some q_70)) ho_48
  have ho_51 := Ext_A (Ext_sR _ a0 36 (some q_70)) ho_51
  have ho_54 := Ext_A (Ext_sR _ a0 36 (some q_70)) ho_54
  have ho_57 := Ext_A (Ext_sR _ a0 36 (some q_70)) ho_57
  have ho_60 := Ext_A (Ext_sR _ a0 36 (some q_70)) ho_60
  have ho_63 := Ext_A (Ext_sR _ a0 36 (some q_70)) ho_63
  have ho_66 := Ext_A (Ext_sR _ a0 36 (some q_70)) ho_66
  have ho_69 := Ext_A (Ext_sR _ a0 36 (some q_70)) ho_69
  have ho_72 := Ext_A (Ext_sR _ a0 36 (some q_70)) ho_72
  have hx := Ext_tr hx (Ext_sR _ a0 36 (some q_70))
  refine lv_aload_n S.1 S.2.1 (dd_at ddX11_init 101 rfl) rfl (lv_at hl 0 rfl) ?_
  refine lv_bipush (v := 10) S.1 S.2.1 (dd_at ddX11_init 102 rfl) (by decide) ?_
  refine r_newI S hw (List.mem_cons_of_mem _ wg74) (n := 10) (by decide) (by decide) (Nat.le_of_ble_eq_true rfl) (by show _ ≤ _; exact Nat.le_of_ble_eq_true rfl) (dd_at ddX11_init 103 rfl) (fun q_73 H hq_74 hw => ?_)
  refine W.widen (k := 25) (n := 10113) (Nat.le_of_ble_eq_true rfl) (Nat.le_of_ble_eq_true rfl) ?_
  have h := h q_73 hq_74
  have ha0 := Ext_O (Ext_nE 13 ((10 : Int32)).toNatClampNeg hq_74) ha0
  have ho_3 := Ext_A (Ext_nE 13 ((10 : Int32)).toNatClampNeg hq_74) ho_3
  have ho_6 := Ext_A (Ext_nE 13 ((10 : Int32)).toNatClampNeg hq_74) ho_6
  have ho_9 := Ext_A (Ext_nE 13 ((10 : Int32)).toNatClampNeg hq_74) ho_9
  have ho_12 := Ext_A (Ext_nE 13 ((10 : Int32)).toNatClampNeg hq_74) ho_12
  have ho_15 := Ext_A (Ext_nE 13 ((10 : Int32)).toNatClampNeg hq_74) ho_15
  have ho_18 := Ext_A (Ext_nE 13 ((10 : Int32)).toNatClampNeg hq_74) ho_18
  have ho_21 := Ext_A (Ext_nE 13 ((10 : Int32)).toNatClampNeg hq_74) ho_21
  have ho_24 := Ext_A (Ext_nE 13 ((10 : Int32)).toNatClampNeg hq_74) ho_24
  have ho_27 := Ext_A (Ext_nE 13 ((10 : Int32)).toNatClampNeg hq_74) ho_27
  have ho_30 := Ext_A (Ext_nE 13 ((10 : Int32)).toNatClampNeg hq_74) ho_30
  have ho_33 := Ext_A (Ext_nE 13 ((10 : Int32)).toNatClampNeg hq_74) ho_33
  have ho_36 := Ext_A (Ext_nE 13 ((10 : Int32)).toNatClampNeg hq_74) ho_36
  have ho_39 := Ext_A (Ext_nE 13 ((10 : Int32)).toNatClampNeg hq_74) ho_39
  have ho_42 := Ext_A (Ext_nE 13 ((10 : Int32)).toNatClampNeg hq_74) ho_42
  have ho_45 := Ext_A (Ext_nE 13 ((10 : Int32)).toNatClampNeg hq_74) ho_45
  have ho_48 := Ext_A (Ext_nE 13 ((10 : Int32)).toNatClampNeg hq_74) ho_48
  have ho_51 := Ext_A (Ext_nE 13 ((10 : Int32)).toNatClampNeg hq_74) ho_51
  have ho_54 := Ext_A (Ext_nE 13 ((10 : Int32)).toNatClampNeg hq_74) ho_54
  have ho_57 := Ext_A (Ext_nE 13 ((10 : Int32)).toNatClampNeg hq_74) ho_57
  have ho_60 := Ext_A (Ext_nE 13 ((10 : Int32)).toNatClampNeg hq_74) ho_60
  have ho_63 := Ext_A (Ext_nE 13 ((10 : Int32)).toNatClampNeg hq_74) ho_63
  have ho_66 := Ext_A (Ext_nE 13 ((10 : Int32)).toNatClampNeg hq_74) ho_66
  have ho_69 := Ext_A (Ext_nE 13 ((10 : Int32)).toNatClampNeg hq_74) ho_69
  have ho_72 := Ext_A (Ext_nE 13 ((10 : Int32)).toNatClampNeg hq_74) ho_72
  have hx := Ext_tr hx (Ext_nE 13 ((10 : Int32)).toNatClampNeg hq_74)
  have ho_75 := okA_new (sR (nE (sR (nE (sR (nE (sR (nE (sR (nE (sR (nE (sR (nE (sR (nE (sR (nE (sR (nE (sR (nE (sR (nE (sR (nE (sR (nE (sR (nE (sR (nE (sR (nE (sR (nE (sR (nE (sR (nE (sR (nE (sR (nE (sR (nE (sR (nE E q_1 13 ((4851 : Int32)).toNatClampNeg) a0 1 (some q_1)) q_4 13 ((4000 : Int32)).toNatClampNeg) a0 2 (some q_4)) q_7 12 ((400 : Int32)).toNatClampNeg) a0 4 (some q_7)) q_10 13 ((5 : Int32)).toNatClampNeg) a0 11 (some q_10)) q_13 13 ((9 : Int32)).toNatClampNeg) a0 14 (some q_13)) q_16 13 ((400 : Int32)).toNatClampNeg) a0 15 (some q_16)) q_19 13 ((40 : Int32)).toNatClampNeg) a0 16 (some q_19)) q_22 15 ((12 : Int32)).toNatClampNeg) a0 18 (some q_22)) q_25 13 ((12 : Int32)).toNatClampNeg) a0 19 (some q_25)) q_28 15 ((144 : Int32)).toNatClampNeg) a0 20 (some q_28)) q_31 13 ((10 : Int32)).toNatClampNeg) a0 21 (some q_31)) q_34 13 ((10 : Int32)).toNatClampNeg) a0 22 (some q_34)) q_37 13 ((10 : Int32)).toNatClampNeg) a0 23 (some q_37)) q_40 15 ((40 : Int32)).toNatClampNeg) a0 24 (some q_40)) q_43 15 ((40 : Int32)).toNatClampNeg) a0 25 (some q_43)) q_46 13 ((10 : Int32)).toNatClampNeg) a0 26 (some q_46)) q_49 13 ((10 : Int32)).toNatClampNeg) a0 27 (some q_49)) q_52 13 ((10 : Int32)).toNatClampNeg) a0 28 (some q_52)) q_55 15 ((40 : Int32)).toNatClampNeg) a0 30 (some q_55)) q_58 13 ((10 : Int32)).toNatClampNeg) a0 31 (some q_58)) q_61 13 ((10 : Int32)).toNatClampNeg) a0 32 (some q_61)) q_64 13 ((10 : Int32)).toNatClampNeg) a0 34 (some q_64)) q_67 13 ((10 : Int32)).toNatClampNeg) a0 35 (some q_67)) q_70 13 ((10 : Int32)).toNatClampNeg) a0 36 (some q_70)) q_73 ((10 : Int32)).toNatClampNeg (t := 13) (by decide)
  refine r_putRF S hw hinit 11 37 (ty := (.array .int)) rfl inG11 tyX11 tyX11_ok nmX11 (by decide) (List.mem_cons_of_mem _ wg177) (by decide) rfl rfl (by decide +kernel) rfl rfl ha0 (dd_at ddX11_init 104 rfl) (fun H locs hw => ?_)
  have ha0 := Ext_O (Ext_sR _ a0 37 (some q_73)) ha0
  have ho_3 := Ext_A (Ext_sR _ a0 37 (some q_73)) ho_3
  have ho_6 := Ext_A (Ext_sR _ a0 37 (some q_73)) ho_6
  have ho_9 := Ext_A (Ext_sR _ a0 37 (some q_73)) ho_9
  have ho_12 := Ext_A (Ext_sR _ a0 37 (some q_73)) ho_12
  have ho_15 := Ext_A (Ext_sR _ a0 37 (some q_73)) ho_15
  have ho_18 := Ext_A (Ext_sR _ a0 37 (some q_73)) ho_18
  have ho_21 := Ext_A (Ext_sR _ a0 37 (some q_73)) ho_21
  have ho_24 := Ext_A (Ext_sR _ a0 37 (some q_73)) ho_24
  have ho_27 := Ext_A (Ext_sR _ a0 37 (some q_73)) ho_27
  have ho_30 := Ext_A (Ext_sR _ a0 37 (some q_73)) ho_30
  have ho_33 := Ext_A (Ext_sR _ a0 37 (some q_73)) ho_33
  have ho_36 := Ext_A (Ext_sR _ a0 37 (some q_73)) ho_36
  have ho_39 := Ext_A (Ext_sR _ a0 37 (some q_73)) ho_39
  have ho_42 := Ext_A (Ext_sR _ a0 37 (some q_73)) ho_42
  have ho_45 := Ext_A (Ext_sR _ a0 37 (some q_73)) ho_45
  have ho_48 := Ext_A (Ext_sR _ a0 37 (some q_73)) ho_48
  have ho_51 := Ext_A (Ext_sR _ a0 37 (some q_73)) ho_51
  have ho_54 := Ext_A (Ext_sR _ a0 37 (some q_73)) ho_54
  have ho_57 := Ext_A (Ext_sR _ a0 37 (some q_73)) ho_57
  have ho_60 := Ext_A (Ext_sR _ a0 37 (some q_73)) ho_60
  have ho_63 := Ext_A (Ext_sR _ a0 37 (some q_73)) ho_63
  have ho_66 := Ext_A (Ext_sR _ a0 37 (some q_73)) ho_66
  have ho_69 := Ext_A (Ext_sR _ a0 37 (some q_73)) ho_69
  have ho_72 := Ext_A (Ext_sR _ a0 37 (some q_73)) ho_72
  have ho_75 := Ext_A (Ext_sR _ a0 37 (some q_73)) ho_75
  have hx := Ext_tr hx (Ext_sR _ a0 37 (some q_73))
  refine lv_aload_n S.1 S.2.1 (dd_at ddX11_init 105 rfl) rfl (lv_at hl 0 rfl) ?_
  refine lv_sipush (v := 256) S.1 S.2.1 (dd_at ddX11_init 106 rfl) (by decide) ?_
  refine r_newJ S hw (List.mem_cons_of_mem _ wg6) (n := 256) (by decide) (by decide) (Nat.le_of_ble_eq_true rfl) (by show _ ≤ _; exact Nat.le_of_ble_eq_true rfl) (dd_at ddX11_init 107 rfl) (fun q_76 H hq_77 hw => ?_)
  refine W.widen (k := 26) (n := 10369) (Nat.le_of_ble_eq_true rfl) (Nat.le_of_ble_eq_true rfl) ?_
  have h := h q_76 hq_77
  have ha0 := Ext_O (Ext_nE 14 ((256 : Int32)).toNatClampNeg hq_77) ha0
  have ho_3 := Ext_A (Ext_nE 14 ((256 : Int32)).toNatClampNeg hq_77) ho_3
  have ho_6 := Ext_A (Ext_nE 14 ((256 : Int32)).toNatClampNeg hq_77) ho_6
  have ho_9 := Ext_A (Ext_nE 14 ((256 : Int32)).toNatClampNeg hq_77) ho_9
  have ho_12 := Ext_A (Ext_nE 14 ((256 : Int32)).toNatClampNeg hq_77) ho_12
  have ho_15 := Ext_A (Ext_nE 14 ((256 : Int32)).toNatClampNeg hq_77) ho_15
  have ho_18 := Ext_A (Ext_nE 14 ((256 : Int32)).toNatClampNeg hq_77) ho_18
  have ho_21 := Ext_A (Ext_nE 14 ((256 : Int32)).toNatClampNeg hq_77) ho_21
  have ho_24 := Ext_A (Ext_nE 14 ((256 : Int32)).toNatClampNeg hq_77) ho_24
  have ho_27 := Ext_A (Ext_nE 14 ((256 : Int32)).toNatClampNeg hq_77) ho_27
  have ho_30 := Ext_A (Ext_nE 14 ((256 : Int32)).toNatClampNeg hq_77) ho_30
  have ho_33 := Ext_A (Ext_nE 14 ((256 : Int32)).toNatClampNeg hq_77) ho_33
  have ho_36 := Ext_A (Ext_nE 14 ((256 : Int32)).toNatClampNeg hq_77) ho_36
  have ho_39 := Ext_A (Ext_nE 14 ((256 : Int32)).toNatClampNeg hq_77) ho_39
  have ho_42 := Ext_A (Ext_nE 14 ((256 : Int32)).toNatClampNeg hq_77) ho_42
  have ho_45 := Ext_A (Ext_nE 14 ((256 : Int32)).toNatClampNeg hq_77) ho_45
  have ho_48 := Ext_A (Ext_nE 14 ((256 : Int32)).toNatClampNeg hq_77) ho_48
  have ho_51 := Ext_A (Ext_nE 14 ((256 : Int32)).toNatClampNeg hq_77) ho_51
  have ho_54 := Ext_A (Ext_nE 14 ((256 : Int32)).toNatClampNeg hq_77) ho_54
  have ho_57 := Ext_A (Ext_nE 14 ((256 : Int32)).toNatClampNeg hq_77) ho_57
  have ho_60 := Ext_A (Ext_nE 14 ((256 : Int32)).toNatClampNeg hq_77) ho_60
  have ho_63 := Ext_A (Ext_nE 14 ((256 : Int32)).toNatClampNeg hq_77) ho_63
  have ho_66 := Ext_A (Ext_nE 14 ((256 : Int32)).toNatClampNeg hq_77) ho_66
  have ho_69 := Ext_A (Ext_nE 14 ((256 : Int32)).toNatClampNeg hq_77) ho_69
  have ho_72 := Ext_A (Ext_nE 14 ((256 : Int32)).toNatClampNeg hq_77) ho_72
  have ho_75 := Ext_A (Ext_nE 14 ((256 : Int32)).toNatClampNeg hq_77) ho_75
  have hx := Ext_tr hx (Ext_nE 14 ((256 : Int32)).toNatClampNeg hq_77)
  have ho_78 := okA_new (sR (nE (sR (nE (sR (nE (sR (nE (sR (nE (sR (nE (sR (nE (sR (nE (sR (nE (sR (nE (sR (nE (sR (nE (sR (nE (sR (nE (sR (nE (sR (nE (sR (nE (sR (nE (sR (nE (sR (nE (sR (nE (sR (nE (sR (nE (sR (nE (sR (nE E q_1 13 ((4851 : Int32)).toNatClampNeg) a0 1 (some q_1)) q_4 13 ((4000 : Int32)).toNatClampNeg) a0 2 (some q_4)) q_7 12 ((400 : Int32)).toNatClampNeg) a0 4 (some q_7)) q_10 13 ((5 : Int32)).toNatClampNeg) a0 11 (some q_10)) q_13 13 ((9 : Int32)).toNatClampNeg) a0 14 (some q_13)) q_16 13 ((400 : Int32)).toNatClampNeg) a0 15 (some q_16)) q_19 13 ((40 : Int32)).toNatClampNeg) a0 16 (some q_19)) q_22 15 ((12 : Int32)).toNatClampNeg) a0 18 (some q_22)) q_25 13 ((12 : Int32)).toNatClampNeg) a0 19 (some q_25)) q_28 15 ((144 : Int32)).toNatClampNeg) a0 20 (some q_28)) q_31 13 ((10 : Int32)).toNatClampNeg) a0 21 (some q_31)) q_34 13 ((10 : Int32)).toNatClampNeg) a0 22 (some q_34)) q_37 13 ((10 : Int32)).toNatClampNeg) a0 23 (some q_37)) q_40 15 ((40 : Int32)).toNatClampNeg) a0 24 (some q_40)) q_43 15 ((40 : Int32)).toNatClampNeg) a0 25 (some q_43)) q_46 13 ((10 : Int32)).toNatClampNeg) a0 26 (some q_46)) q_49 13 ((10 : Int32)).toNatClampNeg) a0 27 (some q_49)) q_52 13 ((10 : Int32)).toNatClampNeg) a0 28 (some q_52)) q_55 15 ((40 : Int32)).toNatClampNeg) a0 30 (some q_55)) q_58 13 ((10 : Int32)).toNatClampNeg) a0 31 (some q_58)) q_61 13 ((10 : Int32)).toNatClampNeg) a0 32 (some q_61)) q_64 13 ((10 : Int32)).toNatClampNeg) a0 34 (some q_64)) q_67 13 ((10 : Int32)).toNatClampNeg) a0 35 (some q_67)) q_70 13 ((10 : Int32)).toNatClampNeg) a0 36 (some q_70)) q_73 13 ((10 : Int32)).toNatClampNeg) a0 37 (some q_73)) q_76 ((256 : Int32)).toNatClampNeg (t := 14) (by decide)
  refine r_putRF S hw hinit 11 38 (ty := (.array .long)) rfl inG11 tyX11 tyX11_ok nmX11 (by decide) (List.mem_cons_of_mem _ wg178) (by decide) rfl rfl (by decide +kernel) rfl rfl ha0 (dd_at ddX11_init 108 rfl) (fun H locs hw => ?_)
  have ha0 := Ext_O (Ext_sR _ a0 38 (some q_76)) ha0
  have ho_3 := Ext_A (Ext_sR _ a0 38 (some q_76)) ho_3
  have ho_6 := Ext_A (Ext_sR _ a0 38 (some q_76)) ho_6
  have ho_9 := Ext_A (Ext_sR _ a0 38 (some q_76)) ho_9
  have ho_12 := Ext_A (Ext_sR _ a0 38 (some q_76)) ho_12
  have ho_15 := Ext_A (Ext_sR _ a0 38 (some q_76)) ho_15
  have ho_18 := Ext_A (Ext_sR _ a0 38 (some q_76)) ho_18
  have ho_21 := Ext_A (Ext_sR _ a0 38 (some q_76)) ho_21
  have ho_24 := Ext_A (Ext_sR _ a0 38 (some q_76)) ho_24
  have ho_27 := Ext_A (Ext_sR _ a0 38 (some q_76)) ho_27
  have ho_30 := Ext_A (Ext_sR _ a0 38 (some q_76)) ho_30
  have ho_33 := Ext_A (Ext_sR _ a0 38 (some q_76)) ho_33
  have ho_36 := Ext_A (Ext_sR _ a0 38 (some q_76)) ho_36
  have ho_39 := Ext_A (Ext_sR _ a0 38 (some q_76)) ho_39
  have ho_42 := Ext_A (Ext_sR _ a0 38 (some q_76)) ho_42
  have ho_45 := Ext_A (Ext_sR _ a0 38 (some q_76)) ho_45
  have ho_48 := Ext_A (Ext_sR _ a0 38 (some q_76)) ho_48
  have ho_51 := Ext_A (Ext_sR _ a0 38 (some q_76)) ho_51
  have ho_54 := Ext_A (Ext_sR _ a0 38 (some q_76)) ho_54
  have ho_57 := Ext_A (Ext_sR _ a0 38 (some q_76)) ho_57
  have ho_60 := Ext_A (Ext_sR _ a0 38 (some q_76)) ho_60
  have ho_63 := Ext_A (Ext_sR _ a0 38 (some q_76)) ho_63
  have ho_66 := Ext_A (Ext_sR _ a0 38 (some q_76)) ho_66
  have ho_69 := Ext_A (Ext_sR _ a0 38 (some q_76)) ho_69
  have ho_72 := Ext_A (Ext_sR _ a0 38 (some q_76)) ho_72
  have ho_75 := Ext_A (Ext_sR _ a0 38 (some q_76)) ho_75
  have ho_78 := Ext_A (Ext_sR _ a0 38 (some q_76)) ho_78
  have hx := Ext_tr hx (Ext_sR _ a0 38 (some q_76))
  refine lv_aload_n S.1 S.2.1 (dd_at ddX11_init 109 rfl) rfl (lv_at hl 0 rfl) ?_
  refine lv_sipush (v := 256) S.1 S.2.1 (dd_at ddX11_init 110 rfl) (by decide) ?_
  refine r_newJ S hw (List.mem_cons_of_mem _ wg6) (n := 256) (by decide) (by decide) (Nat.le_of_ble_eq_true rfl) (by show _ ≤ _; exact Nat.le_of_ble_eq_true rfl) (dd_at ddX11_init 111 rfl) (fun q_79 H hq_80 hw => ?_)
  refine W.widen (k := 27) (n := 10625) (Nat.le_of_ble_eq_true rfl) (Nat.le_of_ble_eq_true rfl) ?_
  have h := h q_79 hq_80
  have ha0 := Ext_O (Ext_nE 14 ((256 : Int32)).toNatClampNeg hq_80) ha0
  have ho_3 := Ext_A (Ext_nE 14 ((256 : Int32)).toNatClampNeg hq_80) ho_3
  have ho_6 := Ext_A (Ext_nE 14 ((256 : Int32)).toNatClampNeg hq_80) ho_6
  have ho_9 := Ext_A (Ext_nE 14 ((256 : Int32)).toNatClampNeg hq_80) ho_9
  have ho_12 := Ext_A (Ext_nE 14 ((256 : Int32)).toNatClampNeg hq_80) ho_12
  have ho_15 := Ext_A (Ext_nE 14 ((256 : Int32)).toNatClampNeg hq_80) ho_15
  have ho_18 := Ext_A (Ext_nE 14 ((256 : Int32)).toNatClampNeg hq_80) ho_18
  have ho_21 := Ext_A (Ext_nE 14 ((256 : Int32)).toNatClampNeg hq_80) ho_21
  have ho_24 := Ext_A (Ext_nE 14 ((256 : Int32)).toNatClampNeg hq_80) ho_24
  have ho_27 := Ext_A (Ext_nE 14 ((256 : Int32)).toNatClampNeg hq_80) ho_27
  have ho_30 := Ext_A (Ext_nE 14 ((256 : Int32)).toNatClampNeg hq_80) ho_30
  have ho_33 := Ext_A (Ext_nE 14 ((256 : Int32)).toNatClampNeg hq_80) ho_33
  have ho_36 := Ext_A (Ext_nE 14 ((256 : Int32)).toNatClampNeg hq_80) ho_36
  have ho_39 := Ext_A (Ext_nE 14 ((256 : Int32)).toNatClampNeg hq_80) ho_39
  have ho_42 := Ext_A (Ext_nE 14 ((256 : Int32)).toNatClampNeg hq_80) ho_42
  have ho_45 := Ext_A (Ext_nE 14 ((256 : Int32)).toNatClampNeg hq_80) ho_45
  have ho_48 := Ext_A (Ext_nE 14 ((256 : Int32)).toNatClampNeg hq_80) ho_48
  have ho_51 := Ext_A (Ext_nE 14 ((256 : Int32)).toNatClampNeg hq_80) ho_51
  have ho_54 := Ext_A (Ext_nE 14 ((256 : Int32)).toNatClampNeg hq_80) ho_54
  have ho_57 := Ext_A (Ext_nE 14 ((256 : Int32)).toNatClampNeg hq_80) ho_57
  have ho_60 := Ext_A (Ext_nE 14 ((256 : Int32)).toNatClampNeg hq_80) ho_60
  have ho_63 := Ext_A (Ext_nE 14 ((256 : Int32)).toNatClampNeg hq_80) ho_63
  have ho_66 := Ext_A (Ext_nE 14 ((256 : Int32)).toNatClampNeg hq_80) ho_66
  have ho_69 := Ext_A (Ext_nE 14 ((256 : Int32)).toNatClampNeg hq_80) ho_69
  have ho_72 := Ext_A (Ext_nE 14 ((256 : Int32)).toNatClampNeg hq_80) ho_72
  have ho_75 := Ext_A (Ext_nE 14 ((256 : Int32)).toNatClampNeg hq_80) ho_75
  have ho_78 := Ext_A (Ext_nE 14 ((256 : Int32)).toNatClampNeg hq_80) ho_78
  have hx := Ext_tr hx (Ext_nE 14 ((256 : Int32)).toNatClampNeg hq_80)
  have ho_81 := okA_new (sR (nE (sR (nE (sR (nE (sR (nE (sR (nE (sR (nE (sR (nE (sR (nE (sR (nE (sR (nE (sR (nE (sR (nE (sR (nE (sR (nE (sR (nE (sR (nE (sR (nE (sR (nE (sR (nE (sR (nE (sR (nE (sR (nE (sR (nE (sR (nE (sR (nE (sR (nE E q_1 13 ((4851 : Int32)).toNatClampNeg) a0 1 (some q_1)) q_4 13 ((4000 : Int32)).toNatClampNeg) a0 2 (some q_4)) q_7 12 ((400 : Int32)).toNatClampNeg) a0 4 (some q_7)) q_10 13 ((5 : Int32)).toNatClampNeg) a0 11 (some q_10)) q_13 13 ((9 : Int32)).toNatClampNeg) a0 14 (some q_13)) q_16 13 ((400 : Int32)).toNatClampNeg) a0 15 (some q_16)) q_19 13 ((40 : Int32)).toNatClampNeg) a0 16 (some q_19)) q_22 15 ((12 : Int32)).toNatClampNeg) a0 18 (some q_22)) q_25 13 ((12 : Int32)).toNatClampNeg) a0 19 (some q_25)) q_28 15 ((144 : Int32)).toNatClampNeg) a0 20 (some q_28)) q_31 13 ((10 : Int32)).toNatClampNeg) a0 21 (some q_31)) q_34 13 ((10 : Int32)).toNatClampNeg) a0 22 (some q_34)) q_37 13 ((10 : Int32)).toNatClampNeg) a0 23 (some q_37)) q_40 15 ((40 : Int32)).toNatClampNeg) a0 24 (some q_40)) q_43 15 ((40 : Int32)).toNatClampNeg) a0 25 (some q_43)) q_46 13 ((10 : Int32)).toNatClampNeg) a0 26 (some q_46)) q_49 13 ((10 : Int32)).toNatClampNeg) a0 27 (some q_49)) q_52 13 ((10 : Int32)).toNatClampNeg) a0 28 (some q_52)) q_55 15 ((40 : Int32)).toNatClampNeg) a0 30 (some q_55)) q_58 13 ((10 : Int32)).toNatClampNeg) a0 31 (some q_58)) q_61 13 ((10 : Int32)).toNatClampNeg) a0 32 (some q_61)) q_64 13 ((10 : Int32)).toNatClampNeg) a0 34 (some q_64)) q_67 13 ((10 : Int32)).toNatClampNeg) a0 35 (some q_67)) q_70 13 ((10 : Int32)).toNatClampNeg) a0 36 (some q_70)) q_73 13 ((10 : Int32)).toNatClampNeg) a0 37 (some q_73)) q_76 14 ((256 : Int32)).toNatClampNeg) a0 38 (some q_76)) q_79 ((256 : Int32)).toNatClampNeg (t := 14) (by decide)
  refine r_putRF S hw hinit 11 39 (ty := (.array .long)) rfl inG11 tyX11 tyX11_ok nmX11 (by decide) (List.mem_cons_of_mem _ wg179) (by decide) rfl rfl (by decide +kernel) rfl rfl ha0 (dd_at ddX11_init 112 rfl) (fun H locs hw => ?_)
  have ha0 := Ext_O (Ext_sR _ a0 39 (some q_79)) ha0
  have ho_3 := Ext_A (Ext_sR _ a0 39 (some q_79)) ho_3
  have ho_6 := Ext_A (Ext_sR _ a0 39 (some q_79)) ho_6
  have ho_9 := Ext_A (Ext_sR _ a0 39 (some q_79)) ho_9
  have ho_12 := Ext_A (Ext_sR _ a0 39 (some q_79)) ho_12
  have ho_15 := Ext_A (Ext_sR _ a0 39 (some q_79)) ho_15
  have ho_18 := Ext_A (Ext_sR _ a0 39 (some q_79)) ho_18
  have ho_21 := Ext_A (Ext_sR _ a0 39 (some q_79)) ho_21
  have ho_24 := Ext_A (Ext_sR _ a0 39 (some q_79)) ho_24
  have ho_27 := Ext_A (Ext_sR _ a0 39 (some q_79)) ho_27
  have ho_30 := Ext_A (Ext_sR _ a0 39 (some q_79)) ho_30
  have ho_33 := Ext_A (Ext_sR _ a0 39 (some q_79)) ho_33
  have ho_36 := Ext_A (Ext_sR _ a0 39 (some q_79)) ho_36
  have ho_39 := Ext_A (Ext_sR _ a0 39 (some q_79)) ho_39
  have ho_42 := Ext_A (Ext_sR _ a0 39 (some q_79)) ho_42
  have ho_45 := Ext_A (Ext_sR _ a0 39 (some q_79)) ho_45
  have ho_48 := Ext_A (Ext_sR _ a0 39 (some q_79)) ho_48
  have ho_51 := Ext_A (Ext_sR _ a0 39 (some q_79)) ho_51
  have ho_54 := Ext_A (Ext_sR _ a0 39 (some q_79)) ho_54
  have ho_57 := Ext_A (Ext_sR _ a0 39 (some q_79)) ho_57
  have ho_60 := Ext_A (Ext_sR _ a0 39 (some q_79)) ho_60
  have ho_63 := Ext_A (Ext_sR _ a0 39 (some q_79)) ho_63
  have ho_66 := Ext_A (Ext_sR _ a0 39 (some q_79)) ho_66
  have ho_69 := Ext_A (Ext_sR _ a0 39 (some q_79)) ho_69
  have ho_72 := Ext_A (Ext_sR _ a0 39 (some q_79)) ho_72
  have ho_75 := Ext_A (Ext_sR _ a0 39 (some q_79)) ho_75
  have ho_78 := Ext_A (Ext_sR _ a0 39 (some q_79)) ho_78
  have ho_81 := Ext_A (Ext_sR _ a0 39 (some q_79)) ho_81
  have hx := Ext_tr hx (Ext_sR _ a0 39 (some q_79))
  refine lv_aload_n S.1 S.2.1 (dd_at ddX11_init 113 rfl) rfl (lv_at hl 0 rfl) ?_
  obtain ⟨b_82, hb_83, ho_84, h⟩ := h
  refine r_getR S hw 11 1 rfl inG11 (by decide) (List.mem_cons_of_mem _ wg150) (by decide) ha0 hb_83 (dd_at ddX11_init 114 rfl) ?_
  refine lv_iconst (v := 3) S.1 S.2.1 (dd_at ddX11_init 115 rfl) (by decide) ?_
  refine lv_sipush (v := 1980) S.1 S.2.1 (dd_at ddX11_init 116 rfl) (by decide) ?_
  obtain ⟨hx_85, h⟩ := h
  refine r_iast S hw ho_84 hx_85 (dd_at ddX11_init 117 rfl) (fun H locs hw => ?_)
  exact e_VL S hr hlocks hw hx h (dd_at ddX11_init 118 rfl)

def b_X11_image_7 (E : En) (a0 : Nat) (K : Dy → Prop) (k7 : Int32 → Dy → Prop) (v1 : Int32) (d : Dy) : Prop := ((4000 ≤ v1 → K (pI d a0 3 1)) ∧ (¬ 4000 ≤ v1 → ∃ b_2 : Nat, eR E a0 2 = some b_2 ∧ okA E b_2 13 ∧ ∃ b_5 : Nat, eR E a0 1 = some b_5 ∧ okA E b_5 13 ∧ vp_in v1 (eN E b_5) ∧ vp_in v1 (eN E b_2) ∧ k7 (v1 + 1) (pA d b_2 (v1).toNatClampNeg (gA d b_5 (v1).toNatClampNeg))))
def l_X11_image_7 (E : En) (a0 : Nat) (K : Dy → Prop) : Nat → Int32 → Dy → Prop
  | 0 => fun _ _ => False
  | n + 1 => b_X11_image_7 E a0 K (l_X11_image_7 E a0 K n)
def w_X11_image (E : En) (a0 : Nat) (d : Dy) (K : Dy → Prop) : Prop := okO E a0 11 ∧ (∃ n_10 : Nat, l_X11_image_7 E a0 K n_10 0 (pI d a0 0 0))
abbrev rm_X11_image : Room := { frames := 0, cells := 0, slots := 0, locals := 0 }
set_option maxRecDepth 100000 in
set_option maxHeartbeats 4000000 in
theorem m_X11_image (l : Launch) (D : va_G) (cs : Nat → ClassId) (E : En) (d : Dy) (sz : Nat) (a0 : Nat) (K : Dy → Prop) : CV l yX11_image (.code yX11_image cX11_image 2 none :: wsL_law) rm_X11_image D cs E d sz [.ref a0] (w_X11_image E a0 d K) K := by
  refine e_of (cc := cX11_image) (maxL := 2) (ret := none) (own := RX11) (by decide) rfl rfl (Nat.le_of_ble_eq_true rfl) ?_
  intro p e s m below meth c S hr hlocks hsz H locs hw h ls hl
  have hl : lv_has ls 2 [(0, .ref a0)] := hl
  unfold w_X11_image at h
  obtain ⟨ha0, h⟩ := h
  have tl7 : ∀ (n : Nat) (v1 : Int32) (d : Dy) (H : Heap) (locs : List Loc) (ls : Array Slot), l_X11_image_7 E a0 K n v1 d → Wd D cs (AW E sz) s.heap s E d H locs → lv_has ls 2 [(0, .ref a0), (1, .int v1)] → W p l e rm_X11_image s m ([.ref a0] : List Value).toArray below meth c H locs 0 0 (MQ below (va_Qv K (OutW D cs E (AW E sz)) (AW E sz)) ([.ref a0] : List Value).toArray s rm_X11_image.cells rm_X11_image.slots (AW E sz)) (F0 m 7 ls []) := by
    intro n7
    induction n7 with
    | zero => intro v1 d H locs ls h; exact absurd h id
    | succ n7 ih7 =>
      intro v1 d H locs ls h hw hl
      have h : b_X11_image_7 E a0 K (l_X11_image_7 E a0 K n7) v1 d := h
      unfold b_X11_image_7 at h
      refine lv_iload_n S.1 S.2.1 (dd_at ddX11_image 5 rfl) rfl (lv_at hl 1 rfl) ?_
      refine lv_sipush (v := 4000) S.1 S.2.1 (dd_at ddX11_image 6 rfl) (by decide) ?_
      refine lv_icmp_ge (tgt := 32) S.1 S.2.1 (dd_at ddX11_image 7 rfl) (by decide) (fun hc_1 => ?_) (fun hc_1 => ?_)
      · have h := h.1 hc_1
        refine lv_aload_n S.1 S.2.1 (dd_at ddX11_image 18 rfl) rfl (lv_at hl 0 rfl) ?_
        refine lv_iconst (v := 1) S.1 S.2.1 (dd_at ddX11_image 19 rfl) (by decide) ?_
        refine r_putI S hw 11 3 (ty := .boolean) (v := 1) rfl inG11 tyX11 tyX11_ok nmX11 (by decide) (List.mem_cons_of_mem _ wg1508) (by decide) rfl (by decide +kernel) (by decide) (by decide) ha0 (dd_at ddX11_image 20 rfl) (fun H locs hw => ?_)
        exact e_V S hr hlocks hw h (dd_at ddX11_image 21 rfl)
      · have h := h.2 hc_1
        refine lv_aload_n S.1 S.2.1 (dd_at ddX11_image 8 rfl) rfl (lv_at hl 0 rfl) ?_
        obtain ⟨b_2, hb_3, ho_4, h⟩ := h
        refine r_getR S hw 11 2 rfl inG11 (by decide) (List.mem_cons_of_mem _ wg151) (by decide) ha0 hb_3 (dd_at ddX11_image 9 rfl) ?_
        refine lv_iload_n S.1 S.2.1 (dd_at ddX11_image 10 rfl) rfl (lv_at hl 1 rfl) ?_
        refine lv_aload_n S.1 S.2.1 (dd_at ddX11_image 11 rfl) rfl (lv_at hl 0 rfl) ?_
        obtain ⟨b_5, hb_6, ho_7, h⟩ := h
        refine r_getR S hw 11 1 rfl inG11 (by decide) (List.mem_cons_of_mem _ wg150) (by decide) ha0 hb_6 (dd_at ddX11_image 12 rfl) ?_
        refine lv_iload_n S.1 S.2.1 (dd_at ddX11_image 13 rfl) rfl (lv_at hl 1 rfl) ?_
        obtain ⟨hx_8, h⟩ := h
        refine r_iald S hw ho_7 hx_8 (dd_at ddX11_image 14 rfl) ?_
        obtain ⟨hx_9, h⟩ := h
        refine r_iast S hw ho_4 hx_9 (dd_at ddX11_image 15 rfl) (fun H locs hw => ?_)
        refine lv_iinc (v := v1 + 1) (lv' := [(1, .int (v1 + 1)), (0, .ref a0)]) S.1 S.2.1 (dd_at ddX11_image 16 rfl) hl (k := 1) rfl rfl (by decide) rfl (fun ls hl => ?_)
        refine lv_goto (tgt := 7) S.1 S.2.1 (dd_at ddX11_image 17 rfl) (by decide) ?_
        exact ih7 (v1 + 1) (pA d b_2 (v1).toNatClampNeg (gA d b_5 (v1).toNatClampNeg)) H locs ls h hw (lv_sub hl [1, 0] rfl)
  refine lv_aload_n S.1 S.2.1 (dd_at ddX11_image 0 rfl) rfl (lv_at hl 0 rfl) ?_
  refine lv_iconst (v := 0) S.1 S.2.1 (dd_at ddX11_image 1 rfl) (by decide) ?_
  refine r_putI S hw 11 0 (ty := .int) (v := 0) rfl inG11 tyX11 tyX11_ok nmX11 (by decide) (List.mem_cons_of_mem _ wg201) (by decide) rfl (by decide +kernel) rfl rfl ha0 (dd_at ddX11_image 2 rfl) (fun H locs hw => ?_)
  refine lv_iconst (v := 0) S.1 S.2.1 (dd_at ddX11_image 3 rfl) (by decide) ?_
  refine lv_istore_n (lv' := [(1, .int 0), (0, .ref a0)]) S.1 S.2.1 (dd_at ddX11_image 4 rfl) rfl hl (by decide) rfl (fun ls hl => ?_)
  obtain ⟨n_10, h⟩ := h
  exact tl7 n_10 0 (pI d a0 0 0) H locs ls h hw (lv_sub hl [1, 0] rfl)

def b_X11_back_16 (E : En) (a0 : Nat) (K : Int32 → Dy → Prop) (k16 : Int32 → Dy → Prop) (v1 : Int32) (d : Dy) : Prop := ((4000 ≤ v1 → K 1 d) ∧ (¬ 4000 ≤ v1 → ∃ b_2 : Nat, eR E a0 1 = some b_2 ∧ okA E b_2 13 ∧ ∃ b_5 : Nat, eR E a0 2 = some b_5 ∧ okA E b_5 13 ∧ vp_in v1 (eN E b_5) ∧ vp_in v1 (eN E b_2) ∧ k16 (v1 + 1) (pA d b_2 (v1).toNatClampNeg (gA d b_5 (v1).toNatClampNeg))))
def l_X11_back_16 (E : En) (a0 : Nat) (K : Int32 → Dy → Prop) : Nat → Int32 → Dy → Prop
  | 0 => fun _ _ => False
  | n + 1 => b_X11_back_16 E a0 K (l_X11_back_16 E a0 K n)
def w_X11_back (E : En) (a0 : Nat) (d : Dy) (K : Int32 → Dy → Prop) : Prop := okO E a0 11 ∧ ((¬ (gI (pI d a0 0 0) a0 3) = 0 → (∃ n_11 : Nat, l_X11_back_16 E a0 K n_11 0 (pI d a0 0 0))) ∧ ((gI (pI d a0 0 0) a0 3) = 0 → K 0 (pI d a0 0 0)))
abbrev rm_X11_back : Room := { frames := 0, cells := 0, slots := 0, locals := 0 }
set_option maxRecDepth 100000 in
set_option maxHeartbeats 4000000 in
theorem m_X11_back (l : Launch) (D : va_G) (cs : Nat → ClassId) (E : En) (d : Dy) (sz : Nat) (a0 : Nat) (K : Int32 → Dy → Prop) : CI l yX11_back (.code yX11_back cX11_back 2 (some .boolean) :: wsL_law) rm_X11_back D cs E d sz [.ref a0] (w_X11_back E a0 d K) K := by
  refine e_of (cc := cX11_back) (maxL := 2) (ret := (some .boolean)) (own := RX11) (by decide) rfl rfl (Nat.le_of_ble_eq_true rfl) ?_
  intro p e s m below meth c S hr hlocks hsz H locs hw h ls hl
  have hl : lv_has ls 2 [(0, .ref a0)] := hl
  unfold w_X11_back at h
  obtain ⟨ha0, h⟩ := h
  have tl16 : ∀ (n : Nat) (v1 : Int32) (d : Dy) (H : Heap) (locs : List Loc) (ls : Array Slot), l_X11_back_16 E a0 K n v1 d → Wd D cs (AW E sz) s.heap s E d H locs → lv_has ls 2 [(0, .ref a0), (1, .int v1)] → W p l e rm_X11_back s m ([.ref a0] : List Value).toArray below meth c H locs 0 0 (MQ below (va_Qi K (OutW D cs E (AW E sz)) (AW E sz)) ([.ref a0] : List Value).toArray s rm_X11_back.cells rm_X11_back.slots (AW E sz)) (F0 m 16 ls []) := by
    intro n16
    induction n16 with
    | zero => intro v1 d H locs ls h; exact absurd h id
    | succ n16 ih16 =>
      intro v1 d H locs ls h hw hl
      have h : b_X11_back_16 E a0 K (l_X11_back_16 E a0 K n16) v1 d := h
      unfold b_X11_back_16 at h
      refine lv_iload_n S.1 S.2.1 (dd_at ddX11_back 10 rfl) rfl (lv_at hl 1 rfl) ?_
      refine lv_sipush (v := 4000) S.1 S.2.1 (dd_at ddX11_back 11 rfl) (by decide) ?_
      refine lv_icmp_ge (tgt := 41) S.1 S.2.1 (dd_at ddX11_back 12 rfl) (by decide) (fun hc_1 => ?_) (fun hc_1 => ?_)
      · have h := h.1 hc_1
        refine lv_iconst (v := 1) S.1 S.2.1 (dd_at ddX11_back 23 rfl) (by decide) ?_
        exact e_Z S hr hlocks hw (Or.inr rfl) h (dd_at ddX11_back 24 rfl)
      · have h := h.2 hc_1
        refine lv_aload_n S.1 S.2.1 (dd_at ddX11_back 13 rfl) rfl (lv_at hl 0 rfl) ?_
        obtain ⟨b_2, hb_3, ho_4, h⟩ := h
        refine r_getR S hw 11 1 rfl inG11 (by decide) (List.mem_cons_of_mem _ wg150) (by decide) ha0 hb_3 (dd_at ddX11_back 14 rfl) ?_
        refine lv_iload_n S.1 S.2.1 (dd_at ddX11_back 15 rfl) rfl (lv_at hl 1 rfl) ?_
        refine lv_aload_n S.1 S.2.1 (dd_at ddX11_back 16 rfl) rfl (lv_at hl 0 rfl) ?_
        obtain ⟨b_5, hb_6, ho_7, h⟩ := h
        refine r_getR S hw 11 2 rfl inG11 (by decide) (List.mem_cons_of_mem _ wg151) (by decide) ha0 hb_6 (dd_at ddX11_back 17 rfl) ?_
        refine lv_iload_n S.1 S.2.1 (dd_at ddX11_back 18 rfl) rfl (lv_at hl 1 rfl) ?_
        obtain ⟨hx_8, h⟩ := h
        refine r_iald S hw ho_7 hx_8 (dd_at ddX11_back 19 rfl) ?_
        obtain ⟨hx_9, h⟩ := h
        refine r_iast S hw ho_4 hx_9 (dd_at ddX11_back 20 rfl) (fun H locs hw => ?_)
        refine lv_iinc (v := v1 + 1) (lv' := [(1, .int (v1 + 1)), (0, .ref a0)]) S.1 S.2.1 (dd_at ddX11_back 21 rfl) hl (k := 1) rfl rfl (by decide) rfl (fun ls hl => ?_)
        refine lv_goto (tgt := 16) S.1 S.2.1 (dd_at ddX11_back 22 rfl) (by decide) ?_
        exact ih16 (v1 + 1) (pA d b_2 (v1).toNatClampNeg (gA d b_5 (v1).toNatClampNeg)) H locs ls h hw (lv_sub hl [1, 0] rfl)
  refine lv_aload_n S.1 S.2.1 (dd_at ddX11_back 0 rfl) rfl (lv_at hl 0 rfl) ?_
  refine lv_iconst (v := 0) S.1 S.2.1 (dd_at ddX11_back 1 rfl) (by decide) ?_
  refine r_putI S hw 11 0 (ty := .int) (v := 0) rfl inG11 tyX11 tyX11_ok nmX11 (by decide) (List.mem_cons_of_mem _ wg201) (by decide) rfl (by decide +kernel) rfl rfl ha0 (dd_at ddX11_back 2 rfl) (fun H locs hw => ?_)
  refine lv_aload_n S.1 S.2.1 (dd_at ddX11_back 3 rfl) rfl (lv_at hl 0 rfl) ?_
  refine r_getI S hw 11 3 rfl inG11 (by decide) (List.mem_cons_of_mem _ wg1508) (by decide) ha0 (dd_at ddX11_back 4 rfl) ?_
  refine lv_if_ne (tgt := 14) S.1 S.2.1 (dd_at ddX11_back 5 rfl) (by decide) (fun hc_10 => ?_) (fun hc_10 => ?_)
  · have h := h.1 hc_10
    refine lv_iconst (v := 0) S.1 S.2.1 (dd_at ddX11_back 8 rfl) (by decide) ?_
    refine lv_istore_n (lv' := [(1, .int 0), (0, .ref a0)]) S.1 S.2.1 (dd_at ddX11_back 9 rfl) rfl hl (by decide) rfl (fun ls hl => ?_)
    obtain ⟨n_11, h⟩ := h
    exact tl16 n_11 0 (pI d a0 0 0) H locs ls h hw (lv_sub hl [1, 0] rfl)
  · have h := h.2 hc_10
    refine lv_iconst (v := 0) S.1 S.2.1 (dd_at ddX11_back 6 rfl) (by decide) ?_
    exact e_Z S hr hlocks hw (Or.inl rfl) h (dd_at ddX11_back 7 rfl)

def w_X11_none (E : En) (a0 : Nat) (p1 : Int32) (p2 : Int32) (d : Dy) (K : Int32 → Dy → Prop) : Prop := okO E a0 11 ∧ ∃ b_1 : Nat, eR E a0 1 = some b_1 ∧ okA E b_1 13 ∧ vp_in p2 (eN E b_1) ∧ w_X11_in E p1 0 ((gA d b_1 (p2).toNatClampNeg) - 1) d (fun r_6 d_5 => ((¬ r_6 = 0 → K 0 d_5) ∧ (r_6 = 0 → K 1 d_5)))
abbrev rm_X11_none : Room := { frames := 1, cells := 0, slots := 0, locals := 22 }
set_option maxRecDepth 100000 in
set_option maxHeartbeats 4000000 in
theorem m_X11_none (l : Launch) (D : va_G) (cs : Nat → ClassId) (E : En) (d : Dy) (sz : Nat) (a0 : Nat) (p1 : Int32) (p2 : Int32) (K : Int32 → Dy → Prop) : CI l yX11_none (.code yX11_none cX11_none 3 (some .boolean) :: wsL_law) rm_X11_none D cs E d sz [.ref a0, .int p1, .int p2] (w_X11_none E a0 p1 p2 d K) K := by
  refine e_of (cc := cX11_none) (maxL := 3) (ret := (some .boolean)) (own := RX11) (by decide) rfl rfl (Nat.le_of_ble_eq_true rfl) ?_
  intro p e s m below meth c S hr hlocks hsz H locs hw h ls hl
  have hl : lv_has ls 3 [(0, .ref a0), (1, .int p1), (2, .int p2)] := hl
  unfold w_X11_none at h
  obtain ⟨ha0, h⟩ := h
  refine lv_iload_n S.1 S.2.1 (dd_at ddX11_none 0 rfl) rfl (lv_at hl 1 rfl) ?_
  refine lv_iconst (v := 0) S.1 S.2.1 (dd_at ddX11_none 1 rfl) (by decide) ?_
  refine lv_aload_n S.1 S.2.1 (dd_at ddX11_none 2 rfl) rfl (lv_at hl 0 rfl) ?_
  obtain ⟨b_1, hb_2, ho_3, h⟩ := h
  refine r_getR S hw 11 1 rfl inG11 (by decide) (List.mem_cons_of_mem _ wg150) (by decide) ha0 hb_2 (dd_at ddX11_none 3 rfl) ?_
  refine lv_iload_n S.1 S.2.1 (dd_at ddX11_none 4 rfl) rfl (lv_at hl 2 rfl) ?_
  obtain ⟨hx_4, h⟩ := h
  refine r_iald S hw ho_3 hx_4 (dd_at ddX11_none 5 rfl) ?_
  refine lv_iconst (v := 1) S.1 S.2.1 (dd_at ddX11_none 6 rfl) (by decide) ?_
  refine lv_isub S.1 S.2.1 (dd_at ddX11_none 7 rfl) ?_
  refine r_callI hw (r_runS (As := [.int p1, .int 0, .int ((gA d b_1 (p2).toNatClampNeg) - 1)]) (rest := []) S hw (m_X11_in l D cs E d H.size p1 0 ((gA d b_1 (p2).toNatClampNeg) - 1) _) (va_cwS 3 S.2.2.2.2 (gS wg418 wg419 wg5 wg420) rfl rfl rfl (by decide +kernel) ⟨Nat.le_of_ble_eq_true rfl, Nat.le_of_ble_eq_true rfl⟩) h rfl hl.1 rfl (Nat.le_of_ble_eq_true rfl) (dd_at ddX11_none 8 rfl) ⟨Nat.le_of_ble_eq_true rfl, Nat.le_of_ble_eq_true rfl⟩) (fun r_6 d_5 H locs h hw => ?_)
  refine lv_if_ne (tgt := 20) S.1 S.2.1 (dd_at ddX11_none 9 rfl) (by decide) (fun hc_7 => ?_) (fun hc_7 => ?_)
  · have h := h.1 hc_7
    refine lv_iconst (v := 0) S.1 S.2.1 (dd_at ddX11_none 12 rfl) (by decide) ?_
    exact e_Z S hr hlocks hw (Or.inl rfl) h (dd_at ddX11_none 13 rfl)
  · have h := h.2 hc_7
    refine lv_iconst (v := 1) S.1 S.2.1 (dd_at ddX11_none 10 rfl) (by decide) ?_
    refine lv_goto (tgt := 21) S.1 S.2.1 (dd_at ddX11_none 11 rfl) (by decide) ?_
    exact e_Z S hr hlocks hw (Or.inr rfl) h (dd_at ddX11_none 13 rfl)

def w_X11_noPerson (E : En) (a0 : Nat) (p1 : Int32) (d : Dy) (K : Int32 → Dy → Prop) : Prop := okO E a0 11 ∧ w_X11_none E a0 p1 0 d (fun r_2 d_1 => (r_2 = 0 ∨ r_2 = 1) ∧ K r_2 d_1)
abbrev rm_X11_noPerson : Room := { frames := 2, cells := 0, slots := 0, locals := 44 }
set_option maxRecDepth 100000 in
set_option maxHeartbeats 4000000 in
theorem m_X11_noPerson (l : Launch) (D : va_G) (cs : Nat → ClassId) (E : En) (d : Dy) (sz : Nat) (a0 : Nat) (p1 : Int32) (K : Int32 → Dy → Prop) : CI l yX11_noPerson (.code yX11_noPerson cX11_noPerson 2 (some .boolean) :: wsL_law) rm_X11_noPerson D cs E d sz [.ref a0, .int p1] (w_X11_noPerson E a0 p1 d K) K := by
  refine e_of (cc := cX11_noPerson) (maxL := 2) (ret := (some .boolean)) (own := RX11) (by decide) rfl rfl (Nat.le_of_ble_eq_true rfl) ?_
  intro p e s m below meth c S hr hlocks hsz H locs hw h ls hl
  have hl : lv_has ls 2 [(0, .ref a0), (1, .int p1)] := hl
  unfold w_X11_noPerson at h
  obtain ⟨ha0, h⟩ := h
  refine lv_aload_n S.1 S.2.1 (dd_at ddX11_noPerson 0 rfl) rfl (lv_at hl 0 rfl) ?_
  refine lv_iload_n S.1 S.2.1 (dd_at ddX11_noPerson 1 rfl) rfl (lv_at hl 1 rfl) ?_
  refine lv_iconst (v := 0) S.1 S.2.1 (dd_at ddX11_noPerson 2 rfl) (by decide) ?_
  refine r_callI hw (r_runV (As := [.int p1, .int 0]) (rest := []) S hw (m_X11_none l D cs E d H.size a0 p1 0 _) (cwV 2 S.2.2.2.2 (gV wg592 wg593 wg594 wg5 wg595) rfl rfl rfl (by decide +kernel) ⟨Nat.le_of_ble_eq_true rfl, Nat.le_of_ble_eq_true rfl⟩) (ci := 11) rfl ha0 h rfl hl.1 rfl (Nat.le_of_ble_eq_true rfl) (dd_at ddX11_noPerson 3 rfl) ⟨Nat.le_of_ble_eq_true rfl, Nat.le_of_ble_eq_true rfl⟩) (fun r_2 d_1 H locs h hw => ?_)
  exact e_Z S hr hlocks hw h.1 h.2 (dd_at ddX11_noPerson 4 rfl)

def w_X11_noHut (E : En) (a0 : Nat) (p1 : Int32) (d : Dy) (K : Int32 → Dy → Prop) : Prop := okO E a0 11 ∧ w_X11_none E a0 p1 1 d (fun r_2 d_1 => (r_2 = 0 ∨ r_2 = 1) ∧ K r_2 d_1)
abbrev rm_X11_noHut : Room := { frames := 2, cells := 0, slots := 0, locals := 44 }
set_option maxRecDepth 100000 in
set_option maxHeartbeats 4000000 in
theorem m_X11_noHut (l : Launch) (D : va_G) (cs : Nat → ClassId) (E : En) (d : Dy) (sz : Nat) (a0 : Nat) (p1 : Int32) (K : Int32 → Dy → Prop) : CI l yX11_noHut (.code yX11_noHut cX11_noHut 2 (some .boolean) :: wsL_law) rm_X11_noHut D cs E d sz [.ref a0, .int p1] (w_X11_noHut E a0 p1 d K) K := by
  refine e_of (cc := cX11_noHut) (maxL := 2) (ret := (some .boolean)) (own := RX11) (by decide) rfl rfl (Nat.le_of_ble_eq_true rfl) ?_
  intro p e s m below meth c S hr hlocks hsz H locs hw h ls hl
  have hl : lv_has ls 2 [(0, .ref a0), (1, .int p1)] := hl
  unfold w_X11_noHut at h
  obtain ⟨ha0, h⟩ := h
  refine lv_aload_n S.1 S.2.1 (dd_at ddX11_noHut 0 rfl) rfl (lv_at hl 0 rfl) ?_
  refine lv_iload_n S.1 S.2.1 (dd_at ddX11_noHut 1 rfl) rfl (lv_at hl 1 rfl) ?_
  refine lv_iconst (v := 1) S.1 S.2.1 (dd_at ddX11_noHut 2 rfl) (by decide) ?_
  refine r_callI hw (r_runV (As := [.int p1, .int 1]) (rest := []) S hw (m_X11_none l D cs E d H.size a0 p1 1 _) (cwV 2 S.2.2.2.2 (gV wg592 wg593 wg594 wg5 wg595) rfl rfl rfl (by decide +kernel) ⟨Nat.le_of_ble_eq_true rfl, Nat.le_of_ble_eq_true rfl⟩) (ci := 11) rfl ha0 h rfl hl.1 rfl (Nat.le_of_ble_eq_true rfl) (dd_at ddX11_noHut 3 rfl) ⟨Nat.le_of_ble_eq_true rfl, Nat.le_of_ble_eq_true rfl⟩) (fun r_2 d_1 H locs h hw => ?_)
  exact e_Z S hr hlocks hw h.1 h.2 (dd_at ddX11_noHut 4 rfl)

def w_X11_noYear (E : En) (p0 : Int32) (d : Dy) (K : Int32 → Dy → Prop) : Prop := w_X11_in E p0 1900 2099 d (fun r_2 d_1 => ((¬ r_2 = 0 → K 0 d_1) ∧ (r_2 = 0 → K 1 d_1)))
abbrev rm_X11_noYear : Room := { frames := 1, cells := 0, slots := 0, locals := 22 }
set_option maxRecDepth 100000 in
set_option maxHeartbeats 4000000 in
theorem m_X11_noYear (l : Launch) (D : va_G) (cs : Nat → ClassId) (E : En) (d : Dy) (sz : Nat) (p0 : Int32) (K : Int32 → Dy → Prop) : CI l yX11_noYear (.code yX11_noYear cX11_noYear 1 (some .boolean) :: wsL_law) rm_X11_noYear D cs E d sz [.int p0] (w_X11_noYear E p0 d K) K := by
  refine e_of (cc := cX11_noYear) (maxL := 1) (ret := (some .boolean)) (own := RX11) (by decide) rfl rfl (Nat.le_of_ble_eq_true rfl) ?_
  intro p e s m below meth c S hr hlocks hsz H locs hw h ls hl
  have hl : lv_has ls 1 [(0, .int p0)] := hl
  unfold w_X11_noYear at h
  refine lv_iload_n S.1 S.2.1 (dd_at ddX11_noYear 0 rfl) rfl (lv_at hl 0 rfl) ?_
  refine lv_sipush (v := 1900) S.1 S.2.1 (dd_at ddX11_noYear 1 rfl) (by decide) ?_
  refine lv_sipush (v := 2099) S.1 S.2.1 (dd_at ddX11_noYear 2 rfl) (by decide) ?_
  refine r_callI hw (r_runS (As := [.int p0, .int 1900, .int 2099]) (rest := []) S hw (m_X11_in l D cs E d H.size p0 1900 2099 _) (va_cwS 3 S.2.2.2.2 (gS wg418 wg419 wg5 wg420) rfl rfl rfl (by decide +kernel) ⟨Nat.le_of_ble_eq_true rfl, Nat.le_of_ble_eq_true rfl⟩) h rfl hl.1 rfl (Nat.le_of_ble_eq_true rfl) (dd_at ddX11_noYear 3 rfl) ⟨Nat.le_of_ble_eq_true rfl, Nat.le_of_ble_eq_true rfl⟩) (fun r_2 d_1 H locs h hw => ?_)
  refine lv_if_ne (tgt := 17) S.1 S.2.1 (dd_at ddX11_noYear 4 rfl) (by decide) (fun hc_3 => ?_) (fun hc_3 => ?_)
  · have h := h.1 hc_3
    refine lv_iconst (v := 0) S.1 S.2.1 (dd_at ddX11_noYear 7 rfl) (by decide) ?_
    exact e_Z S hr hlocks hw (Or.inl rfl) h (dd_at ddX11_noYear 8 rfl)
  · have h := h.2 hc_3
    refine lv_iconst (v := 1) S.1 S.2.1 (dd_at ddX11_noYear 5 rfl) (by decide) ?_
    refine lv_goto (tgt := 18) S.1 S.2.1 (dd_at ddX11_noYear 6 rfl) (by decide) ?_
    exact e_Z S hr hlocks hw (Or.inr rfl) h (dd_at ddX11_noYear 8 rfl)

def w_X11_persons (E : En) (a0 : Nat) (d : Dy) (K : Int32 → Dy → Prop) : Prop := okO E a0 11 ∧ ∃ b_1 : Nat, eR E a0 1 = some b_1 ∧ okA E b_1 13 ∧ vp_in 0 (eN E b_1) ∧ K (gA d b_1 ((0 : Int32)).toNatClampNeg) d
abbrev rm_X11_persons : Room := { frames := 0, cells := 0, slots := 0, locals := 0 }
set_option maxRecDepth 100000 in
set_option maxHeartbeats 4000000 in
theorem m_X11_persons (l : Launch) (D : va_G) (cs : Nat → ClassId) (E : En) (d : Dy) (sz : Nat) (a0 : Nat) (K : Int32 → Dy → Prop) : CI l yX11_persons (.code yX11_persons cX11_persons 1 (some .int) :: wsL_law) rm_X11_persons D cs E d sz [.ref a0] (w_X11_persons E a0 d K) K := by
  refine e_of (cc := cX11_persons) (maxL := 1) (ret := (some .int)) (own := RX11) (by decide) rfl rfl (Nat.le_of_ble_eq_true rfl) ?_
  intro p e s m below meth c S hr hlocks hsz H locs hw h ls hl
  have hl : lv_has ls 1 [(0, .ref a0)] := hl
  unfold w_X11_persons at h
  obtain ⟨ha0, h⟩ := h
  refine lv_aload_n S.1 S.2.1 (dd_at ddX11_persons 0 rfl) rfl (lv_at hl 0 rfl) ?_
  obtain ⟨b_1, hb_2, ho_3, h⟩ := h
  refine r_getR S hw 11 1 rfl inG11 (by decide) (List.mem_cons_of_mem _ wg150) (by decide) ha0 hb_2 (dd_at ddX11_persons 1 rfl) ?_
  refine lv_iconst (v := 0) S.1 S.2.1 (dd_at ddX11_persons 2 rfl) (by decide) ?_
  obtain ⟨hx_4, h⟩ := h
  refine r_iald S hw ho_3 hx_4 (dd_at ddX11_persons 3 rfl) ?_
  exact e_I S hr hlocks hw h (dd_at ddX11_persons 4 rfl)

def w_X11_huts (E : En) (a0 : Nat) (d : Dy) (K : Int32 → Dy → Prop) : Prop := okO E a0 11 ∧ ∃ b_1 : Nat, eR E a0 1 = some b_1 ∧ okA E b_1 13 ∧ vp_in 1 (eN E b_1) ∧ K (gA d b_1 ((1 : Int32)).toNatClampNeg) d
abbrev rm_X11_huts : Room := { frames := 0, cells := 0, slots := 0, locals := 0 }
set_option maxRecDepth 100000 in
set_option maxHeartbeats 4000000 in
theorem m_X11_huts (l : Launch) (D : va_G) (cs : Nat → ClassId) (E : En) (d : Dy) (sz : Nat) (a0 : Nat) (K : Int32 → Dy → Prop) : CI l yX11_huts (.code yX11_huts cX11_huts 1 (some .int) :: wsL_law) rm_X11_huts D cs E d sz [.ref a0] (w_X11_huts E a0 d K) K := by
  refine e_of (cc := cX11_huts) (maxL := 1) (ret := (some .int)) (own := RX11) (by decide) rfl rfl (Nat.le_of_ble_eq_true rfl) ?_
  intro p e s m below meth c S hr hlocks hsz H locs hw h ls hl
  have hl : lv_has ls 1 [(0, .ref a0)] := hl
  unfold w_X11_huts at h
  obtain ⟨ha0, h⟩ := h
  refine lv_aload_n S.1 S.2.1 (dd_at ddX11_huts 0 rfl) rfl (lv_at hl 0 rfl) ?_
  obtain ⟨b_1, hb_2, ho_3, h⟩ := h
  refine r_getR S hw 11 1 rfl inG11 (by decide) (List.mem_cons_of_mem _ wg150) (by decide) ha0 hb_2 (dd_at ddX11_huts 1 rfl) ?_
  refine lv_iconst (v := 1) S.1 S.2.1 (dd_at ddX11_huts 2 rfl) (by decide) ?_
  obtain ⟨hx_4, h⟩ := h
  refine r_iald S hw ho_3 hx_4 (dd_at ddX11_huts 3 rfl) ?_
  exact e_I S hr hlocks hw h (dd_at ddX11_huts 4 rfl)

def w_X11_ofPerson (E : En) (a0 : Nat) (p1 : Int32) (p2 : Int32) (d : Dy) (K : Int32 → Dy → Prop) : Prop := okO E a0 11 ∧ ∃ b_1 : Nat, eR E a0 1 = some b_1 ∧ okA E b_1 13 ∧ vp_in ((14 + (3 * p1)) + p2) (eN E b_1) ∧ K (gA d b_1 ((14 + (3 * p1)) + p2).toNatClampNeg) d
abbrev rm_X11_ofPerson : Room := { frames := 0, cells := 0, slots := 0, locals := 0 }
set_option maxRecDepth 100000 in
set_option maxHeartbeats 4000000 in
theorem m_X11_ofPerson (l : Launch) (D : va_G) (cs : Nat → ClassId) (E : En) (d : Dy) (sz : Nat) (a0 : Nat) (p1 : Int32) (p2 : Int32) (K : Int32 → Dy → Prop) : CI l yX11_ofPerson (.code yX11_ofPerson cX11_ofPerson 3 (some .int) :: wsL_law) rm_X11_ofPerson D cs E d sz [.ref a0, .int p1, .int p2] (w_X11_ofPerson E a0 p1 p2 d K) K := by
  refine e_of (cc := cX11_ofPerson) (maxL := 3) (ret := (some .int)) (own := RX11) (by decide) rfl rfl (Nat.le_of_ble_eq_true rfl) ?_
  intro p e s m below meth c S hr hlocks hsz H locs hw h ls hl
  have hl : lv_has ls 3 [(0, .ref a0), (1, .int p1), (2, .int p2)] := hl
  unfold w_X11_ofPerson at h
  obtain ⟨ha0, h⟩ := h
  refine lv_aload_n S.1 S.2.1 (dd_at ddX11_ofPerson 0 rfl) rfl (lv_at hl 0 rfl) ?_
  obtain ⟨b_1, hb_2, ho_3, h⟩ := h
  refine r_getR S hw 11 1 rfl inG11 (by decide) (List.mem_cons_of_mem _ wg150) (by decide) ha0 hb_2 (dd_at ddX11_ofPerson 1 rfl) ?_
  refine lv_bipush (v := 14) S.1 S.2.1 (dd_at ddX11_ofPerson 2 rfl) (by decide) ?_
  refine lv_iconst (v := 3) S.1 S.2.1 (dd_at ddX11_ofPerson 3 rfl) (by decide) ?_
  refine lv_iload_n S.1 S.2.1 (dd_at ddX11_ofPerson 4 rfl) rfl (lv_at hl 1 rfl) ?_
  refine lv_imul S.1 S.2.1 (dd_at ddX11_ofPerson 5 rfl) ?_
  refine lv_iadd S.1 S.2.1 (dd_at ddX11_ofPerson 6 rfl) ?_
  refine lv_iload_n S.1 S.2.1 (dd_at ddX11_ofPerson 7 rfl) rfl (lv_at hl 2 rfl) ?_
  refine lv_iadd S.1 S.2.1 (dd_at ddX11_ofPerson 8 rfl) ?_
  obtain ⟨hx_4, h⟩ := h
  refine r_iald S hw ho_3 hx_4 (dd_at ddX11_ofPerson 9 rfl) ?_
  exact e_I S hr hlocks hw h (dd_at ddX11_ofPerson 10 rfl)
