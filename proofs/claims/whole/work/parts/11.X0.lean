def w_X0_init (E : En) (a0 : Nat) (d : Dy) (K : En → Dy → Prop) : Prop := okO E a0 0 ∧ ∀ q_1 : Nat, q_1 ∉ eL E → ∀ q_4 : Nat, q_4 ∉ eL (sR (nE E q_1 13 ((9 : Int32)).toNatClampNeg) a0 0 (some q_1)) → K (sR (nE (sR (nE E q_1 13 ((9 : Int32)).toNatClampNeg) a0 0 (some q_1)) q_4 13 ((24 : Int32)).toNatClampNeg) a0 1 (some q_4)) (nD (nD d q_1) q_4)
abbrev rm_X0_init : Room := { frames := 1, cells := 2, slots := 33, locals := 24 }
set_option maxRecDepth 100000 in
set_option maxHeartbeats 4000000 in
theorem m_X0_init (l : Launch) (D : va_G) (cs : Nat → ClassId) (E : En) (d : Dy) (sz : Nat) (a0 : Nat) (K : En → Dy → Prop) : LV l yX0_init (.code yX0_init cX0_init 1 none :: wsL_law) rm_X0_init D cs E d sz [.ref a0] (w_X0_init E a0 d K) K := by
  refine e_ofN (cc := cX0_init) (maxL := 1) (ret := none) (own := RX0) (by decide) rfl rfl (Nat.le_of_ble_eq_true rfl) ?_
  intro p e s m below meth c S hr hlocks hinit hsz H locs hw h ls hl
  have hx : Ext E E := Ext_rf E
  have hinit : meth.name = "<init>" := hinit
  have hl : lv_has ls 1 [(0, .ref a0)] := hl
  unfold w_X0_init at h
  obtain ⟨ha0, h⟩ := h
  refine lv_aload_n S.1 S.2.1 (dd_at ddX0_init 0 rfl) rfl (lv_at hl 0 rfl) ?_
  refine W.objInit S.1 S.2.1 S.2.2.2.1 (S.2.2.2.2 _ (List.mem_cons_of_mem _ wg109)) (S.2.2.2.2 _ (List.mem_cons_of_mem _ wg11)) (S.2.2.2.2 _ (List.mem_cons_of_mem _ wg12)) rfl (by rw [S.2.2.1]; exact hl.1) rfl (dd_at ddX0_init 1 rfl) (Nat.le_of_ble_eq_true rfl) (Nat.le_of_ble_eq_true rfl) ?_
  refine W.eq (g2 := F0 m 4 ls []) rfl ?_
  refine lv_aload_n S.1 S.2.1 (dd_at ddX0_init 2 rfl) rfl (lv_at hl 0 rfl) ?_
  refine lv_bipush (v := 9) S.1 S.2.1 (dd_at ddX0_init 3 rfl) (by decide) ?_
  refine r_newI S hw (List.mem_cons_of_mem _ wg74) (n := 9) (by decide) (by decide) (Nat.le_of_ble_eq_true rfl) (by show _ ≤ _; exact Nat.le_of_ble_eq_true rfl) (dd_at ddX0_init 4 rfl) (fun q_1 H hq_2 hw => ?_)
  refine W.widen (k := 1) (n := 9) (Nat.le_of_ble_eq_true rfl) (Nat.le_of_ble_eq_true rfl) ?_
  have h := h q_1 hq_2
  have ha0 := Ext_O (Ext_nE 13 ((9 : Int32)).toNatClampNeg hq_2) ha0
  have hx := Ext_tr hx (Ext_nE 13 ((9 : Int32)).toNatClampNeg hq_2)
  have ho_3 := okA_new E q_1 ((9 : Int32)).toNatClampNeg (t := 13) (by decide)
  refine r_putRF S hw hinit 0 0 (ty := (.array .int)) rfl inG0 tyX0 tyX0_ok nmX0 (by decide) (List.mem_cons_of_mem _ wg110) (by decide) rfl rfl (by decide +kernel) rfl rfl ha0 (dd_at ddX0_init 5 rfl) (fun H locs hw => ?_)
  have ha0 := Ext_O (Ext_sR _ a0 0 (some q_1)) ha0
  have ho_3 := Ext_A (Ext_sR _ a0 0 (some q_1)) ho_3
  have hx := Ext_tr hx (Ext_sR _ a0 0 (some q_1))
  refine lv_aload_n S.1 S.2.1 (dd_at ddX0_init 6 rfl) rfl (lv_at hl 0 rfl) ?_
  refine lv_bipush (v := 24) S.1 S.2.1 (dd_at ddX0_init 7 rfl) (by decide) ?_
  refine r_newI S hw (List.mem_cons_of_mem _ wg74) (n := 24) (by decide) (by decide) (Nat.le_of_ble_eq_true rfl) (by show _ ≤ _; exact Nat.le_of_ble_eq_true rfl) (dd_at ddX0_init 8 rfl) (fun q_4 H hq_5 hw => ?_)
  refine W.widen (k := 2) (n := 33) (Nat.le_of_ble_eq_true rfl) (Nat.le_of_ble_eq_true rfl) ?_
  have h := h q_4 hq_5
  have ha0 := Ext_O (Ext_nE 13 ((24 : Int32)).toNatClampNeg hq_5) ha0
  have ho_3 := Ext_A (Ext_nE 13 ((24 : Int32)).toNatClampNeg hq_5) ho_3
  have hx := Ext_tr hx (Ext_nE 13 ((24 : Int32)).toNatClampNeg hq_5)
  have ho_6 := okA_new (sR (nE E q_1 13 ((9 : Int32)).toNatClampNeg) a0 0 (some q_1)) q_4 ((24 : Int32)).toNatClampNeg (t := 13) (by decide)
  refine r_putRF S hw hinit 0 1 (ty := (.array .int)) rfl inG0 tyX0 tyX0_ok nmX0 (by decide) (List.mem_cons_of_mem _ wg111) (by decide) rfl rfl (by decide +kernel) rfl rfl ha0 (dd_at ddX0_init 9 rfl) (fun H locs hw => ?_)
  have ha0 := Ext_O (Ext_sR _ a0 1 (some q_4)) ha0
  have ho_3 := Ext_A (Ext_sR _ a0 1 (some q_4)) ho_3
  have ho_6 := Ext_A (Ext_sR _ a0 1 (some q_4)) ho_6
  have hx := Ext_tr hx (Ext_sR _ a0 1 (some q_4))
  exact e_VL S hr hlocks hw hx h (dd_at ddX0_init 10 rfl)

def w_X0_know (E : En) (a0 : Nat) (p1 : Int32) (p2 : Int32) (d : Dy) (K : Dy → Prop) : Prop := okO E a0 0 ∧ ((p1 < 0 → K d) ∧ (¬ p1 < 0 → ((9 ≤ p1 → K d) ∧ (¬ 9 ≤ p1 → ∃ b_3 : Nat, eR E a0 0 = some b_3 ∧ okA E b_3 13 ∧ vp_in p1 (eN E b_3) ∧ K (pA d b_3 (p1).toNatClampNeg p2)))))
abbrev rm_X0_know : Room := { frames := 0, cells := 0, slots := 0, locals := 0 }
set_option maxRecDepth 100000 in
set_option maxHeartbeats 4000000 in
theorem m_X0_know (l : Launch) (D : va_G) (cs : Nat → ClassId) (E : En) (d : Dy) (sz : Nat) (a0 : Nat) (p1 : Int32) (p2 : Int32) (K : Dy → Prop) : CV l yX0_know (.code yX0_know cX0_know 3 none :: wsL_law) rm_X0_know D cs E d sz [.ref a0, .int p1, .int p2] (w_X0_know E a0 p1 p2 d K) K := by
  refine e_of (cc := cX0_know) (maxL := 3) (ret := none) (own := RX0) (by decide) rfl rfl (Nat.le_of_ble_eq_true rfl) ?_
  intro p e s m below meth c S hr hlocks hsz H locs hw h ls hl
  have hl : lv_has ls 3 [(0, .ref a0), (1, .int p1), (2, .int p2)] := hl
  unfold w_X0_know at h
  obtain ⟨ha0, h⟩ := h
  refine lv_iload_n S.1 S.2.1 (dd_at ddX0_know 0 rfl) rfl (lv_at hl 1 rfl) ?_
  refine lv_if_lt (tgt := 17) S.1 S.2.1 (dd_at ddX0_know 1 rfl) (by decide) (fun hc_1 => ?_) (fun hc_1 => ?_)
  · have h := h.1 hc_1
    exact e_V S hr hlocks hw h (dd_at ddX0_know 10 rfl)
  · have h := h.2 hc_1
    refine lv_iload_n S.1 S.2.1 (dd_at ddX0_know 2 rfl) rfl (lv_at hl 1 rfl) ?_
    refine lv_bipush (v := 9) S.1 S.2.1 (dd_at ddX0_know 3 rfl) (by decide) ?_
    refine lv_icmp_ge (tgt := 17) S.1 S.2.1 (dd_at ddX0_know 4 rfl) (by decide) (fun hc_2 => ?_) (fun hc_2 => ?_)
    · have h := h.1 hc_2
      exact e_V S hr hlocks hw h (dd_at ddX0_know 10 rfl)
    · have h := h.2 hc_2
      refine lv_aload_n S.1 S.2.1 (dd_at ddX0_know 5 rfl) rfl (lv_at hl 0 rfl) ?_
      obtain ⟨b_3, hb_4, ho_5, h⟩ := h
      refine r_getR S hw 0 0 rfl inG0 (by decide) (List.mem_cons_of_mem _ wg110) (by decide) ha0 hb_4 (dd_at ddX0_know 6 rfl) ?_
      refine lv_iload_n S.1 S.2.1 (dd_at ddX0_know 7 rfl) rfl (lv_at hl 1 rfl) ?_
      refine lv_iload_n S.1 S.2.1 (dd_at ddX0_know 8 rfl) rfl (lv_at hl 2 rfl) ?_
      obtain ⟨hx_6, h⟩ := h
      refine r_iast S hw ho_5 hx_6 (dd_at ddX0_know 9 rfl) (fun H locs hw => ?_)
      exact e_V S hr hlocks hw h (dd_at ddX0_know 10 rfl)

def w_X0_of (E : En) (a0 : Nat) (p1 : Int32) (d : Dy) (K : Int32 → Dy → Prop) : Prop := okO E a0 0 ∧ ((p1 < 0 → K 0 d) ∧ (¬ p1 < 0 → ((9 ≤ p1 → K 0 d) ∧ (¬ 9 ≤ p1 → ∃ b_3 : Nat, eR E a0 0 = some b_3 ∧ okA E b_3 13 ∧ vp_in p1 (eN E b_3) ∧ K (gA d b_3 (p1).toNatClampNeg) d))))
abbrev rm_X0_of : Room := { frames := 0, cells := 0, slots := 0, locals := 0 }
set_option maxRecDepth 100000 in
set_option maxHeartbeats 4000000 in
theorem m_X0_of (l : Launch) (D : va_G) (cs : Nat → ClassId) (E : En) (d : Dy) (sz : Nat) (a0 : Nat) (p1 : Int32) (K : Int32 → Dy → Prop) : CI l yX0_of (.code yX0_of cX0_of 2 (some .int) :: wsL_law) rm_X0_of D cs E d sz [.ref a0, .int p1] (w_X0_of E a0 p1 d K) K := by
  refine e_of (cc := cX0_of) (maxL := 2) (ret := (some .int)) (own := RX0) (by decide) rfl rfl (Nat.le_of_ble_eq_true rfl) ?_
  intro p e s m below meth c S hr hlocks hsz H locs hw h ls hl
  have hl : lv_has ls 2 [(0, .ref a0), (1, .int p1)] := hl
  unfold w_X0_of at h
  obtain ⟨ha0, h⟩ := h
  refine lv_iload_n S.1 S.2.1 (dd_at ddX0_of 0 rfl) rfl (lv_at hl 1 rfl) ?_
  refine lv_if_lt (tgt := 19) S.1 S.2.1 (dd_at ddX0_of 1 rfl) (by decide) (fun hc_1 => ?_) (fun hc_1 => ?_)
  · have h := h.1 hc_1
    refine lv_iconst (v := 0) S.1 S.2.1 (dd_at ddX0_of 10 rfl) (by decide) ?_
    exact e_I S hr hlocks hw h (dd_at ddX0_of 11 rfl)
  · have h := h.2 hc_1
    refine lv_iload_n S.1 S.2.1 (dd_at ddX0_of 2 rfl) rfl (lv_at hl 1 rfl) ?_
    refine lv_bipush (v := 9) S.1 S.2.1 (dd_at ddX0_of 3 rfl) (by decide) ?_
    refine lv_icmp_ge (tgt := 19) S.1 S.2.1 (dd_at ddX0_of 4 rfl) (by decide) (fun hc_2 => ?_) (fun hc_2 => ?_)
    · have h := h.1 hc_2
      refine lv_iconst (v := 0) S.1 S.2.1 (dd_at ddX0_of 10 rfl) (by decide) ?_
      exact e_I S hr hlocks hw h (dd_at ddX0_of 11 rfl)
    · have h := h.2 hc_2
      refine lv_aload_n S.1 S.2.1 (dd_at ddX0_of 5 rfl) rfl (lv_at hl 0 rfl) ?_
      obtain ⟨b_3, hb_4, ho_5, h⟩ := h
      refine r_getR S hw 0 0 rfl inG0 (by decide) (List.mem_cons_of_mem _ wg110) (by decide) ha0 hb_4 (dd_at ddX0_of 6 rfl) ?_
      refine lv_iload_n S.1 S.2.1 (dd_at ddX0_of 7 rfl) rfl (lv_at hl 1 rfl) ?_
      obtain ⟨hx_6, h⟩ := h
      refine r_iald S hw ho_5 hx_6 (dd_at ddX0_of 8 rfl) ?_
      refine lv_goto (tgt := 20) S.1 S.2.1 (dd_at ddX0_of 9 rfl) (by decide) ?_
      exact e_I S hr hlocks hw h (dd_at ddX0_of 11 rfl)

def w_X0_clear (E : En) (a0 : Nat) (d : Dy) (K : Dy → Prop) : Prop := okO E a0 0 ∧ K (pI d a0 2 0)
abbrev rm_X0_clear : Room := { frames := 0, cells := 0, slots := 0, locals := 0 }
set_option maxRecDepth 100000 in
set_option maxHeartbeats 4000000 in
theorem m_X0_clear (l : Launch) (D : va_G) (cs : Nat → ClassId) (E : En) (d : Dy) (sz : Nat) (a0 : Nat) (K : Dy → Prop) : CV l yX0_clear (.code yX0_clear cX0_clear 1 none :: wsL_law) rm_X0_clear D cs E d sz [.ref a0] (w_X0_clear E a0 d K) K := by
  refine e_of (cc := cX0_clear) (maxL := 1) (ret := none) (own := RX0) (by decide) rfl rfl (Nat.le_of_ble_eq_true rfl) ?_
  intro p e s m below meth c S hr hlocks hsz H locs hw h ls hl
  have hl : lv_has ls 1 [(0, .ref a0)] := hl
  unfold w_X0_clear at h
  obtain ⟨ha0, h⟩ := h
  refine lv_aload_n S.1 S.2.1 (dd_at ddX0_clear 0 rfl) rfl (lv_at hl 0 rfl) ?_
  refine lv_iconst (v := 0) S.1 S.2.1 (dd_at ddX0_clear 1 rfl) (by decide) ?_
  refine r_putI S hw 0 2 (ty := .int) (v := 0) rfl inG0 tyX0 tyX0_ok nmX0 (by decide) (List.mem_cons_of_mem _ wg741) (by decide) rfl (by decide +kernel) rfl rfl ha0 (dd_at ddX0_clear 2 rfl) (fun H locs hw => ?_)
  exact e_V S hr hlocks hw h (dd_at ddX0_clear 3 rfl)

def w_X0_isTrue (E : En) (a0 : Nat) (d : Dy) (K : Int32 → Dy → Prop) : Prop := okO E a0 0 ∧ (((gI d a0 2) ≤ 0 → K 0 d) ∧ (¬ (gI d a0 2) ≤ 0 → ∃ b_2 : Nat, eR E a0 1 = some b_2 ∧ okA E b_2 13 ∧ vp_in 0 (eN E b_2) ∧ (((gA d b_2 ((0 : Int32)).toNatClampNeg) = 0 → K 0 d) ∧ (¬ (gA d b_2 ((0 : Int32)).toNatClampNeg) = 0 → K 1 d))))
abbrev rm_X0_isTrue : Room := { frames := 0, cells := 0, slots := 0, locals := 0 }
set_option maxRecDepth 100000 in
set_option maxHeartbeats 4000000 in
theorem m_X0_isTrue (l : Launch) (D : va_G) (cs : Nat → ClassId) (E : En) (d : Dy) (sz : Nat) (a0 : Nat) (K : Int32 → Dy → Prop) : CI l yX0_isTrue (.code yX0_isTrue cX0_isTrue 1 (some .boolean) :: wsL_law) rm_X0_isTrue D cs E d sz [.ref a0] (w_X0_isTrue E a0 d K) K := by
  refine e_of (cc := cX0_isTrue) (maxL := 1) (ret := (some .boolean)) (own := RX0) (by decide) rfl rfl (Nat.le_of_ble_eq_true rfl) ?_
  intro p e s m below meth c S hr hlocks hsz H locs hw h ls hl
  have hl : lv_has ls 1 [(0, .ref a0)] := hl
  unfold w_X0_isTrue at h
  obtain ⟨ha0, h⟩ := h
  refine lv_aload_n S.1 S.2.1 (dd_at ddX0_isTrue 0 rfl) rfl (lv_at hl 0 rfl) ?_
  refine r_getI S hw 0 2 rfl inG0 (by decide) (List.mem_cons_of_mem _ wg741) (by decide) ha0 (dd_at ddX0_isTrue 1 rfl) ?_
  refine lv_if_le (tgt := 20) S.1 S.2.1 (dd_at ddX0_isTrue 2 rfl) (by decide) (fun hc_1 => ?_) (fun hc_1 => ?_)
  · have h := h.1 hc_1
    refine lv_iconst (v := 0) S.1 S.2.1 (dd_at ddX0_isTrue 10 rfl) (by decide) ?_
    exact e_Z S hr hlocks hw (Or.inl rfl) h (dd_at ddX0_isTrue 11 rfl)
  · have h := h.2 hc_1
    refine lv_aload_n S.1 S.2.1 (dd_at ddX0_isTrue 3 rfl) rfl (lv_at hl 0 rfl) ?_
    obtain ⟨b_2, hb_3, ho_4, h⟩ := h
    refine r_getR S hw 0 1 rfl inG0 (by decide) (List.mem_cons_of_mem _ wg111) (by decide) ha0 hb_3 (dd_at ddX0_isTrue 4 rfl) ?_
    refine lv_iconst (v := 0) S.1 S.2.1 (dd_at ddX0_isTrue 5 rfl) (by decide) ?_
    obtain ⟨hx_5, h⟩ := h
    refine r_iald S hw ho_4 hx_5 (dd_at ddX0_isTrue 6 rfl) ?_
    refine lv_if_eq (tgt := 20) S.1 S.2.1 (dd_at ddX0_isTrue 7 rfl) (by decide) (fun hc_6 => ?_) (fun hc_6 => ?_)
    · have h := h.1 hc_6
      refine lv_iconst (v := 0) S.1 S.2.1 (dd_at ddX0_isTrue 10 rfl) (by decide) ?_
      exact e_Z S hr hlocks hw (Or.inl rfl) h (dd_at ddX0_isTrue 11 rfl)
    · have h := h.2 hc_6
      refine lv_iconst (v := 1) S.1 S.2.1 (dd_at ddX0_isTrue 8 rfl) (by decide) ?_
      refine lv_goto (tgt := 21) S.1 S.2.1 (dd_at ddX0_isTrue 9 rfl) (by decide) ?_
      exact e_Z S hr hlocks hw (Or.inr rfl) h (dd_at ddX0_isTrue 11 rfl)

def w_X0_push (E : En) (a0 : Nat) (p1 : Int32) (d : Dy) (K : Dy → Prop) : Prop := okO E a0 0 ∧ ∃ b_1 : Nat, eR E a0 1 = some b_1 ∧ okA E b_1 13 ∧ (((nI (eN E b_1)) ≤ (gI d a0 2) → K d) ∧ (¬ (nI (eN E b_1)) ≤ (gI d a0 2) → ∃ b_5 : Nat, eR E a0 1 = some b_5 ∧ okA E b_5 13 ∧ vp_in (gI d a0 2) (eN E b_5) ∧ K (pI (pA d b_5 (gI d a0 2).toNatClampNeg p1) a0 2 ((gI (pA d b_5 (gI d a0 2).toNatClampNeg p1) a0 2) + 1))))
abbrev rm_X0_push : Room := { frames := 0, cells := 0, slots := 0, locals := 0 }
set_option maxRecDepth 100000 in
set_option maxHeartbeats 4000000 in
theorem m_X0_push (l : Launch) (D : va_G) (cs : Nat → ClassId) (E : En) (d : Dy) (sz : Nat) (a0 : Nat) (p1 : Int32) (K : Dy → Prop) : CV l yX0_push (.code yX0_push cX0_push 2 none :: wsL_law) rm_X0_push D cs E d sz [.ref a0, .int p1] (w_X0_push E a0 p1 d K) K := by
  refine e_of (cc := cX0_push) (maxL := 2) (ret := none) (own := RX0) (by decide) rfl rfl (Nat.le_of_ble_eq_true rfl) ?_
  intro p e s m below meth c S hr hlocks hsz H locs hw h ls hl
  have hl : lv_has ls 2 [(0, .ref a0), (1, .int p1)] := hl
  unfold w_X0_push at h
  obtain ⟨ha0, h⟩ := h
  refine lv_aload_n S.1 S.2.1 (dd_at ddX0_push 0 rfl) rfl (lv_at hl 0 rfl) ?_
  refine r_getI S hw 0 2 rfl inG0 (by decide) (List.mem_cons_of_mem _ wg741) (by decide) ha0 (dd_at ddX0_push 1 rfl) ?_
  refine lv_aload_n S.1 S.2.1 (dd_at ddX0_push 2 rfl) rfl (lv_at hl 0 rfl) ?_
  obtain ⟨b_1, hb_2, ho_3, h⟩ := h
  refine r_getR S hw 0 1 rfl inG0 (by decide) (List.mem_cons_of_mem _ wg111) (by decide) ha0 hb_2 (dd_at ddX0_push 3 rfl) ?_
  refine r_alenI S hw ho_3 (dd_at ddX0_push 4 rfl) ?_
  refine lv_icmp_ge (tgt := 32) S.1 S.2.1 (dd_at ddX0_push 5 rfl) (by decide) (fun hc_4 => ?_) (fun hc_4 => ?_)
  · have h := h.1 hc_4
    exact e_V S hr hlocks hw h (dd_at ddX0_push 18 rfl)
  · have h := h.2 hc_4
    refine lv_aload_n S.1 S.2.1 (dd_at ddX0_push 6 rfl) rfl (lv_at hl 0 rfl) ?_
    obtain ⟨b_5, hb_6, ho_7, h⟩ := h
    refine r_getR S hw 0 1 rfl inG0 (by decide) (List.mem_cons_of_mem _ wg111) (by decide) ha0 hb_6 (dd_at ddX0_push 7 rfl) ?_
    refine lv_aload_n S.1 S.2.1 (dd_at ddX0_push 8 rfl) rfl (lv_at hl 0 rfl) ?_
    refine r_getI S hw 0 2 rfl inG0 (by decide) (List.mem_cons_of_mem _ wg741) (by decide) ha0 (dd_at ddX0_push 9 rfl) ?_
    refine lv_iload_n S.1 S.2.1 (dd_at ddX0_push 10 rfl) rfl (lv_at hl 1 rfl) ?_
    obtain ⟨hx_8, h⟩ := h
    refine r_iast S hw ho_7 hx_8 (dd_at ddX0_push 11 rfl) (fun H locs hw => ?_)
    refine lv_aload_n S.1 S.2.1 (dd_at ddX0_push 12 rfl) rfl (lv_at hl 0 rfl) ?_
    refine lv_dup S.1 S.2.1 (dd_at ddX0_push 13 rfl) rfl ?_
    refine r_getI S hw 0 2 rfl inG0 (by decide) (List.mem_cons_of_mem _ wg741) (by decide) ha0 (dd_at ddX0_push 14 rfl) ?_
    refine lv_iconst (v := 1) S.1 S.2.1 (dd_at ddX0_push 15 rfl) (by decide) ?_
    refine lv_iadd S.1 S.2.1 (dd_at ddX0_push 16 rfl) ?_
    refine r_putI S hw 0 2 (ty := .int) (v := (gI (pA d b_5 (gI d a0 2).toNatClampNeg p1) a0 2) + 1) rfl inG0 tyX0 tyX0_ok nmX0 (by decide) (List.mem_cons_of_mem _ wg741) (by decide) rfl (by decide +kernel) rfl rfl ha0 (dd_at ddX0_push 17 rfl) (fun H locs hw => ?_)
    exact e_V S hr hlocks hw h (dd_at ddX0_push 18 rfl)

def w_X0_join (E : En) (p0 : Int32) (p1 : Int32) (p2 : Int32) (d : Dy) (K : Int32 → Dy → Prop) : Prop := ((p0 = (-14) → K (p1 &&& p2) d) ∧ (p0 = (-13) → K (p1 ||| p2) d) ∧ (p0 = (-12) → ((p1 ≤ p2 → K 0 d) ∧ (¬ p1 ≤ p2 → K 1 d))) ∧ (p0 = (-11) → ((p2 ≤ p1 → K 0 d) ∧ (¬ p2 ≤ p1 → K 1 d))) ∧ (p0 = (-10) → K (p1 + p2) d) ∧ (¬ p0 = (-14) → ¬ p0 = (-13) → ¬ p0 = (-12) → ¬ p0 = (-11) → ¬ p0 = (-10) → K (p1 ||| p2) d))
abbrev rm_X0_join : Room := { frames := 0, cells := 0, slots := 0, locals := 0 }
set_option maxRecDepth 100000 in
set_option maxHeartbeats 4000000 in
theorem m_X0_join (l : Launch) (D : va_G) (cs : Nat → ClassId) (E : En) (d : Dy) (sz : Nat) (p0 : Int32) (p1 : Int32) (p2 : Int32) (K : Int32 → Dy → Prop) : CI l yX0_join (.code yX0_join cX0_join 3 (some .int) :: wsL_law) rm_X0_join D cs E d sz [.int p0, .int p1, .int p2] (w_X0_join E p0 p1 p2 d K) K := by
  refine e_of (cc := cX0_join) (maxL := 3) (ret := (some .int)) (own := RX0) (by decide) rfl rfl (Nat.le_of_ble_eq_true rfl) ?_
  intro p e s m below meth c S hr hlocks hsz H locs hw h ls hl
  have hl : lv_has ls 3 [(0, .int p0), (1, .int p1), (2, .int p2)] := hl
  unfold w_X0_join at h
  refine lv_iload_n S.1 S.2.1 (dd_at ddX0_join 0 rfl) rfl (lv_at hl 0 rfl) ?_
  by_cases hc_2 : p0 = (-14)
  · have h := h.1 hc_2
    refine lv_tableIn (off := 61) (tgt := 62) S.1 S.2.1 (dd_at ddX0_join 1 rfl) (by rw [hc_2]; decide) (by rw [hc_2]; decide) (by rw [hc_2]; rfl) (by decide) ?_
    refine lv_iload_n S.1 S.2.1 (dd_at ddX0_join 20 rfl) rfl (lv_at hl 1 rfl) ?_
    refine lv_iload_n S.1 S.2.1 (dd_at ddX0_join 21 rfl) rfl (lv_at hl 2 rfl) ?_
    refine lv_iand S.1 S.2.1 (dd_at ddX0_join 22 rfl) ?_
    exact e_I S hr hlocks hw h (dd_at ddX0_join 23 rfl)
  · skip
    by_cases hc_3 : p0 = (-13)
    · have h := h.2.1 hc_3
      refine lv_tableIn (off := 65) (tgt := 66) S.1 S.2.1 (dd_at ddX0_join 1 rfl) (by rw [hc_3]; decide) (by rw [hc_3]; decide) (by rw [hc_3]; rfl) (by decide) ?_
      refine lv_iload_n S.1 S.2.1 (dd_at ddX0_join 24 rfl) rfl (lv_at hl 1 rfl) ?_
      refine lv_iload_n S.1 S.2.1 (dd_at ddX0_join 25 rfl) rfl (lv_at hl 2 rfl) ?_
      refine lv_ior S.1 S.2.1 (dd_at ddX0_join 26 rfl) ?_
      exact e_I S hr hlocks hw h (dd_at ddX0_join 27 rfl)
    · skip
      by_cases hc_5 : p0 = (-12)
      · have h := h.2.2.1 hc_5
        refine lv_tableIn (off := 50) (tgt := 51) S.1 S.2.1 (dd_at ddX0_join 1 rfl) (by rw [hc_5]; decide) (by rw [hc_5]; decide) (by rw [hc_5]; rfl) (by decide) ?_
        refine lv_iload_n S.1 S.2.1 (dd_at ddX0_join 13 rfl) rfl (lv_at hl 1 rfl) ?_
        refine lv_iload_n S.1 S.2.1 (dd_at ddX0_join 14 rfl) rfl (lv_at hl 2 rfl) ?_
        refine lv_icmp_le (tgt := 60) S.1 S.2.1 (dd_at ddX0_join 15 rfl) (by decide) (fun hc_4 => ?_) (fun hc_4 => ?_)
        · have h := h.1 hc_4
          refine lv_iconst (v := 0) S.1 S.2.1 (dd_at ddX0_join 18 rfl) (by decide) ?_
          exact e_I S hr hlocks hw h (dd_at ddX0_join 19 rfl)
        · have h := h.2 hc_4
          refine lv_iconst (v := 1) S.1 S.2.1 (dd_at ddX0_join 16 rfl) (by decide) ?_
          refine lv_goto (tgt := 61) S.1 S.2.1 (dd_at ddX0_join 17 rfl) (by decide) ?_
          exact e_I S hr hlocks hw h (dd_at ddX0_join 19 rfl)
      · skip
        by_cases hc_7 : p0 = (-11)
        · have h := h.2.2.2.1 hc_7
          refine lv_tableIn (off := 39) (tgt := 40) S.1 S.2.1 (dd_at ddX0_join 1 rfl) (by rw [hc_7]; decide) (by rw [hc_7]; decide) (by rw [hc_7]; rfl) (by decide) ?_
          refine lv_iload_n S.1 S.2.1 (dd_at ddX0_join 6 rfl) rfl (lv_at hl 1 rfl) ?_
          refine lv_iload_n S.1 S.2.1 (dd_at ddX0_join 7 rfl) rfl (lv_at hl 2 rfl) ?_
          refine lv_icmp_ge (tgt := 49) S.1 S.2.1 (dd_at ddX0_join 8 rfl) (by decide) (fun hc_6 => ?_) (fun hc_6 => ?_)
          · have h := h.1 hc_6
            refine lv_iconst (v := 0) S.1 S.2.1 (dd_at ddX0_join 11 rfl) (by decide) ?_
            exact e_I S hr hlocks hw h (dd_at ddX0_join 12 rfl)
          · have h := h.2 hc_6
            refine lv_iconst (v := 1) S.1 S.2.1 (dd_at ddX0_join 9 rfl) (by decide) ?_
            refine lv_goto (tgt := 50) S.1 S.2.1 (dd_at ddX0_join 10 rfl) (by decide) ?_
            exact e_I S hr hlocks hw h (dd_at ddX0_join 12 rfl)
        · skip
          by_cases hc_8 : p0 = (-10)
          · have h := h.2.2.2.2.1 hc_8
            refine lv_tableIn (off := 35) (tgt := 36) S.1 S.2.1 (dd_at ddX0_join 1 rfl) (by rw [hc_8]; decide) (by rw [hc_8]; decide) (by rw [hc_8]; rfl) (by decide) ?_
            refine lv_iload_n S.1 S.2.1 (dd_at ddX0_join 2 rfl) rfl (lv_at hl 1 rfl) ?_
            refine lv_iload_n S.1 S.2.1 (dd_at ddX0_join 3 rfl) rfl (lv_at hl 2 rfl) ?_
            refine lv_iadd S.1 S.2.1 (dd_at ddX0_join 4 rfl) ?_
            exact e_I S hr hlocks hw h (dd_at ddX0_join 5 rfl)
          · skip
            have h := h.2.2.2.2.2 hc_2 hc_3 hc_5 hc_7 hc_8
            have thc_2 := lv_neT (k := (-14)) (a := (-14)) hc_2 (by decide)
            have thc_3 := lv_neT (k := (-13)) (a := (-13)) hc_3 (by decide)
            have thc_5 := lv_neT (k := (-12)) (a := (-12)) hc_5 (by decide)
            have thc_7 := lv_neT (k := (-11)) (a := (-11)) hc_7 (by decide)
            have thc_8 := lv_neT (k := (-10)) (a := (-10)) hc_8 (by decide)
            refine lv_tableOut (tgt := 66) S.1 S.2.1 (dd_at ddX0_join 1 rfl) (by omega) (by decide) ?_
            refine lv_iload_n S.1 S.2.1 (dd_at ddX0_join 24 rfl) rfl (lv_at hl 1 rfl) ?_
            refine lv_iload_n S.1 S.2.1 (dd_at ddX0_join 25 rfl) rfl (lv_at hl 2 rfl) ?_
            refine lv_ior S.1 S.2.1 (dd_at ddX0_join 26 rfl) ?_
            exact e_I S hr hlocks hw h (dd_at ddX0_join 27 rfl)

def b_X0_use_72 (E : En) (a0 : Nat) (p1 : Int32) (K : Dy → Prop) (d : Dy) : Prop := (((gI d a0 2) ≤ 1 → K d) ∧ (¬ (gI d a0 2) ≤ 1 → ∃ b_2 : Nat, eR E a0 1 = some b_2 ∧ okA E b_2 13 ∧ ∃ b_5 : Nat, eR E a0 1 = some b_5 ∧ okA E b_5 13 ∧ vp_in ((gI (pI d a0 2 ((gI d a0 2) - 1)) a0 2) - 1) (eN E b_5) ∧ ∃ b_9 : Nat, eR E a0 1 = some b_9 ∧ okA E b_9 13 ∧ vp_in (gI (pI d a0 2 ((gI d a0 2) - 1)) a0 2) (eN E b_9) ∧ w_X0_join E p1 (gA (pI d a0 2 ((gI d a0 2) - 1)) b_5 ((gI (pI d a0 2 ((gI d a0 2) - 1)) a0 2) - 1).toNatClampNeg) (gA (pI d a0 2 ((gI d a0 2) - 1)) b_9 (gI (pI d a0 2 ((gI d a0 2) - 1)) a0 2).toNatClampNeg) (pI d a0 2 ((gI d a0 2) - 1)) (fun r_14 d_13 => vp_in ((gI (pI d a0 2 ((gI d a0 2) - 1)) a0 2) - 1) (eN E b_2) ∧ K (pA d_13 b_2 ((gI (pI d a0 2 ((gI d a0 2) - 1)) a0 2) - 1).toNatClampNeg r_14))))
def w_X0_use (E : En) (a0 : Nat) (p1 : Int32) (d : Dy) (K : Dy → Prop) : Prop := okO E a0 0 ∧ ((p1 < 0 → ((p1 ≤ (-10) → ((¬ p1 = (-13) → b_X0_use_72 E a0 p1 K d) ∧ (p1 = (-13) → (((gI d a0 2) ≤ 0 → b_X0_use_72 E a0 p1 K d) ∧ (¬ (gI d a0 2) ≤ 0 → ∃ b_20 : Nat, eR E a0 1 = some b_20 ∧ okA E b_20 13 ∧ ∃ b_23 : Nat, eR E a0 1 = some b_23 ∧ okA E b_23 13 ∧ vp_in ((gI d a0 2) - 1) (eN E b_23) ∧ vp_in ((gI d a0 2) - 1) (eN E b_20) ∧ K (pA d b_20 ((gI d a0 2) - 1).toNatClampNeg (1 - (gA d b_23 ((gI d a0 2) - 1).toNatClampNeg)))))))) ∧ (¬ p1 ≤ (-10) → w_X0_of E a0 ((-1) - p1) d (fun r_29 d_28 => w_X0_push E a0 r_29 d_28 (fun d_30 => K d_30))))) ∧ (¬ p1 < 0 → w_X0_push E a0 p1 d (fun d_32 => K d_32)))
abbrev rm_X0_use : Room := { frames := 1, cells := 0, slots := 0, locals := 22 }
set_option maxRecDepth 100000 in
set_option maxHeartbeats 4000000 in
theorem m_X0_use (l : Launch) (D : va_G) (cs : Nat → ClassId) (E : En) (d : Dy) (sz : Nat) (a0 : Nat) (p1 : Int32) (K : Dy → Prop) : CV l yX0_use (.code yX0_use cX0_use 2 none :: wsL_law) rm_X0_use D cs E d sz [.ref a0, .int p1] (w_X0_use E a0 p1 d K) K := by
  refine e_of (cc := cX0_use) (maxL := 2) (ret := none) (own := RX0) (by decide) rfl rfl (Nat.le_of_ble_eq_true rfl) ?_
  intro p e s m below meth c S hr hlocks hsz H locs hw h ls hl
  have hl : lv_has ls 2 [(0, .ref a0), (1, .int p1)] := hl
  unfold w_X0_use at h
  obtain ⟨ha0, h⟩ := h
  have tb72 : ∀ (d : Dy) (H : Heap) (locs : List Loc) (ls : Array Slot), b_X0_use_72 E a0 p1 K d → Wd D cs (AW E sz) s.heap s E d H locs → lv_has ls 2 [(0, .ref a0), (1, .int p1)] → W p l e rm_X0_use s m ([.ref a0, .int p1] : List Value).toArray below meth c H locs 0 0 (MQ below (va_Qv K (OutW D cs E (AW E sz)) (AW E sz)) ([.ref a0, .int p1] : List Value).toArray s rm_X0_use.cells rm_X0_use.slots (AW E sz)) (F0 m 72 ls []) := by
    intro d H locs ls h hw hl
    unfold b_X0_use_72 at h
    refine lv_aload_n S.1 S.2.1 (dd_at ddX0_use 40 rfl) rfl (lv_at hl 0 rfl) ?_
    refine r_getI S hw 0 2 rfl inG0 (by decide) (List.mem_cons_of_mem _ wg741) (by decide) ha0 (dd_at ddX0_use 41 rfl) ?_
    refine lv_iconst (v := 1) S.1 S.2.1 (dd_at ddX0_use 42 rfl) (by decide) ?_
    refine lv_icmp_le (tgt := 125) S.1 S.2.1 (dd_at ddX0_use 43 rfl) (by decide) (fun hc_1 => ?_) (fun hc_1 => ?_)
    · have h := h.1 hc_1
      exact e_V S hr hlocks hw h (dd_at ddX0_use 71 rfl)
    · have h := h.2 hc_1
      refine lv_aload_n S.1 S.2.1 (dd_at ddX0_use 44 rfl) rfl (lv_at hl 0 rfl) ?_
      refine lv_dup S.1 S.2.1 (dd_at ddX0_use 45 rfl) rfl ?_
      refine r_getI S hw 0 2 rfl inG0 (by decide) (List.mem_cons_of_mem _ wg741) (by decide) ha0 (dd_at ddX0_use 46 rfl) ?_
      refine lv_iconst (v := 1) S.1 S.2.1 (dd_at ddX0_use 47 rfl) (by decide) ?_
      refine lv_isub S.1 S.2.1 (dd_at ddX0_use 48 rfl) ?_
      refine r_putI S hw 0 2 (ty := .int) (v := (gI d a0 2) - 1) rfl inG0 tyX0 tyX0_ok nmX0 (by decide) (List.mem_cons_of_mem _ wg741) (by decide) rfl (by decide +kernel) rfl rfl ha0 (dd_at ddX0_use 49 rfl) (fun H locs hw => ?_)
      refine lv_aload_n S.1 S.2.1 (dd_at ddX0_use 50 rfl) rfl (lv_at hl 0 rfl) ?_
      obtain ⟨b_2, hb_3, ho_4, h⟩ := h
      refine r_getR S hw 0 1 rfl inG0 (by decide) (List.mem_cons_of_mem _ wg111) (by decide) ha0 hb_3 (dd_at ddX0_use 51 rfl) ?_
      refine lv_aload_n S.1 S.2.1 (dd_at ddX0_use 52 rfl) rfl (lv_at hl 0 rfl) ?_
      refine r_getI S hw 0 2 rfl inG0 (by decide) (List.mem_cons_of_mem _ wg741) (by decide) ha0 (dd_at ddX0_use 53 rfl) ?_
      refine lv_iconst (v := 1) S.1 S.2.1 (dd_at ddX0_use 54 rfl) (by decide) ?_
      refine lv_isub S.1 S.2.1 (dd_at ddX0_use 55 rfl) ?_
      refine lv_iload_n S.1 S.2.1 (dd_at ddX0_use 56 rfl) rfl (lv_at hl 1 rfl) ?_
      refine lv_aload_n S.1 S.2.1 (dd_at ddX0_use 57 rfl) rfl (lv_at hl 0 rfl) ?_
      obtain ⟨b_5, hb_6, ho_7, h⟩ := h
      refine r_getR S hw 0 1 rfl inG0 (by decide) (List.mem_cons_of_mem _ wg111) (by decide) ha0 hb_6 (dd_at ddX0_use 58 rfl) ?_
      refine lv_aload_n S.1 S.2.1 (dd_at ddX0_use 59 rfl) rfl (lv_at hl 0 rfl) ?_
      refine r_getI S hw 0 2 rfl inG0 (by decide) (List.mem_cons_of_mem _ wg741) (by decide) ha0 (dd_at ddX0_use 60 rfl) ?_
      refine lv_iconst (v := 1) S.1 S.2.1 (dd_at ddX0_use 61 rfl) (by decide) ?_
      refine lv_isub S.1 S.2.1 (dd_at ddX0_use 62 rfl) ?_
      obtain ⟨hx_8, h⟩ := h
      refine r_iald S hw ho_7 hx_8 (dd_at ddX0_use 63 rfl) ?_
      refine lv_aload_n S.1 S.2.1 (dd_at ddX0_use 64 rfl) rfl (lv_at hl 0 rfl) ?_
      obtain ⟨b_9, hb_10, ho_11, h⟩ := h
      refine r_getR S hw 0 1 rfl inG0 (by decide) (List.mem_cons_of_mem _ wg111) (by decide) ha0 hb_10 (dd_at ddX0_use 65 rfl) ?_
      refine lv_aload_n S.1 S.2.1 (dd_at ddX0_use 66 rfl) rfl (lv_at hl 0 rfl) ?_
      refine r_getI S hw 0 2 rfl inG0 (by decide) (List.mem_cons_of_mem _ wg741) (by decide) ha0 (dd_at ddX0_use 67 rfl) ?_
      obtain ⟨hx_12, h⟩ := h
      refine r_iald S hw ho_11 hx_12 (dd_at ddX0_use 68 rfl) ?_
      refine r_callI hw (r_runS (As := [.int p1, .int (gA (pI d a0 2 ((gI d a0 2) - 1)) b_5 ((gI (pI d a0 2 ((gI d a0 2) - 1)) a0 2) - 1).toNatClampNeg), .int (gA (pI d a0 2 ((gI d a0 2) - 1)) b_9 (gI (pI d a0 2 ((gI d a0 2) - 1)) a0 2).toNatClampNeg)]) (rest := [.int ((gI (pI d a0 2 ((gI d a0 2) - 1)) a0 2) - 1), .ref b_2]) S hw (m_X0_join l D cs E (pI d a0 2 ((gI d a0 2) - 1)) H.size p1 (gA (pI d a0 2 ((gI d a0 2) - 1)) b_5 ((gI (pI d a0 2 ((gI d a0 2) - 1)) a0 2) - 1).toNatClampNeg) (gA (pI d a0 2 ((gI d a0 2) - 1)) b_9 (gI (pI d a0 2 ((gI d a0 2) - 1)) a0 2).toNatClampNeg) _) (va_cwS 3 S.2.2.2.2 (gS wg754 wg755 wg103 wg756) rfl rfl rfl (by decide +kernel) ⟨Nat.le_of_ble_eq_true rfl, Nat.le_of_ble_eq_true rfl⟩) h rfl hl.1 rfl (Nat.le_of_ble_eq_true rfl) (dd_at ddX0_use 69 rfl) ⟨Nat.le_of_ble_eq_true rfl, Nat.le_of_ble_eq_true rfl⟩) (fun r_14 d_13 H locs h hw => ?_)
      obtain ⟨hx_15, h⟩ := h
      refine r_iast S hw ho_4 hx_15 (dd_at ddX0_use 70 rfl) (fun H locs hw => ?_)
      exact e_V S hr hlocks hw h (dd_at ddX0_use 71 rfl)
  refine lv_iload_n S.1 S.2.1 (dd_at ddX0_use 0 rfl) rfl (lv_at hl 1 rfl) ?_
  refine lv_if_lt (tgt := 12) S.1 S.2.1 (dd_at ddX0_use 1 rfl) (by decide) (fun hc_16 => ?_) (fun hc_16 => ?_)
  · have h := h.1 hc_16
    refine lv_iload_n S.1 S.2.1 (dd_at ddX0_use 6 rfl) rfl (lv_at hl 1 rfl) ?_
    refine lv_bipush (v := -10) S.1 S.2.1 (dd_at ddX0_use 7 rfl) (by decide) ?_
    refine lv_icmp_le (tgt := 32) S.1 S.2.1 (dd_at ddX0_use 8 rfl) (by decide) (fun hc_17 => ?_) (fun hc_17 => ?_)
    · have h := h.1 hc_17
      refine lv_iload_n S.1 S.2.1 (dd_at ddX0_use 17 rfl) rfl (lv_at hl 1 rfl) ?_
      refine lv_bipush (v := -13) S.1 S.2.1 (dd_at ddX0_use 18 rfl) (by decide) ?_
      refine lv_icmp_ne (tgt := 72) S.1 S.2.1 (dd_at ddX0_use 19 rfl) (by decide) (fun hc_18 => ?_) (fun hc_18 => ?_)
      · have h := h.1 hc_18
        exact tb72 d H locs ls h hw (lv_sub hl [0, 1] rfl)
      · have h := h.2 hc_18
        refine lv_aload_n S.1 S.2.1 (dd_at ddX0_use 20 rfl) rfl (lv_at hl 0 rfl) ?_
        refine r_getI S hw 0 2 rfl inG0 (by decide) (List.mem_cons_of_mem _ wg741) (by decide) ha0 (dd_at ddX0_use 21 rfl) ?_
        refine lv_if_le (tgt := 72) S.1 S.2.1 (dd_at ddX0_use 22 rfl) (by decide) (fun hc_19 => ?_) (fun hc_19 => ?_)
        · have h := h.1 hc_19
          exact tb72 d H locs ls h hw (lv_sub hl [0, 1] rfl)
        · have h := h.2 hc_19
          refine lv_aload_n S.1 S.2.1 (dd_at ddX0_use 23 rfl) rfl (lv_at hl 0 rfl) ?_
          obtain ⟨b_20, hb_21, ho_22, h⟩ := h
          refine r_getR S hw 0 1 rfl inG0 (by decide) (List.mem_cons_of_mem _ wg111) (by decide) ha0 hb_21 (dd_at ddX0_use 24 rfl) ?_
          refine lv_aload_n S.1 S.2.1 (dd_at ddX0_use 25 rfl) rfl (lv_at hl 0 rfl) ?_
          refine r_getI S hw 0 2 rfl inG0 (by decide) (List.mem_cons_of_mem _ wg741) (by decide) ha0 (dd_at ddX0_use 26 rfl) ?_
          refine lv_iconst (v := 1) S.1 S.2.1 (dd_at ddX0_use 27 rfl) (by decide) ?_
          refine lv_isub S.1 S.2.1 (dd_at ddX0_use 28 rfl) ?_
          refine lv_iconst (v := 1) S.1 S.2.1 (dd_at ddX0_use 29 rfl) (by decide) ?_
          refine lv_aload_n S.1 S.2.1 (dd_at ddX0_use 30 rfl) rfl (lv_at hl 0 rfl) ?_
          obtain ⟨b_23, hb_24, ho_25, h⟩ := h
          refine r_getR S hw 0 1 rfl inG0 (by decide) (List.mem_cons_of_mem _ wg111) (by decide) ha0 hb_24 (dd_at ddX0_use 31 rfl) ?_
          refine lv_aload_n S.1 S.2.1 (dd_at ddX0_use 32 rfl) rfl (lv_at hl 0 rfl) ?_
          refine r_getI S hw 0 2 rfl inG0 (by decide) (List.mem_cons_of_mem _ wg741) (by decide) ha0 (dd_at ddX0_use 33 rfl) ?_
          refine lv_iconst (v := 1) S.1 S.2.1 (dd_at ddX0_use 34 rfl) (by decide) ?_
          refine lv_isub S.1 S.2.1 (dd_at ddX0_use 35 rfl) ?_
          obtain ⟨hx_26, h⟩ := h
          refine r_iald S hw ho_25 hx_26 (dd_at ddX0_use 36 rfl) ?_
          refine lv_isub S.1 S.2.1 (dd_at ddX0_use 37 rfl) ?_
          obtain ⟨hx_27, h⟩ := h
          refine r_iast S hw ho_22 hx_27 (dd_at ddX0_use 38 rfl) (fun H locs hw => ?_)
          refine lv_goto (tgt := 125) S.1 S.2.1 (dd_at ddX0_use 39 rfl) (by decide) ?_
          exact e_V S hr hlocks hw h (dd_at ddX0_use 71 rfl)
    · have h := h.2 hc_17
      refine lv_aload_n S.1 S.2.1 (dd_at ddX0_use 9 rfl) rfl (lv_at hl 0 rfl) ?_
      refine lv_aload_n S.1 S.2.1 (dd_at ddX0_use 10 rfl) rfl (lv_at hl 0 rfl) ?_
      refine lv_iconst (v := -1) S.1 S.2.1 (dd_at ddX0_use 11 rfl) (by decide) ?_
      refine lv_iload_n S.1 S.2.1 (dd_at ddX0_use 12 rfl) rfl (lv_at hl 1 rfl) ?_
      refine lv_isub S.1 S.2.1 (dd_at ddX0_use 13 rfl) ?_
      refine r_callI hw (r_runV (As := [.int ((-1) - p1)]) (rest := [.ref a0]) S hw (m_X0_of l D cs E d H.size a0 ((-1) - p1) _) (cwV 1 S.2.2.2.2 (gV wg750 wg751 wg752 wg103 wg753) rfl rfl rfl (by decide +kernel) ⟨Nat.le_of_ble_eq_true rfl, Nat.le_of_ble_eq_true rfl⟩) (ci := 0) rfl ha0 h rfl hl.1 rfl (Nat.le_of_ble_eq_true rfl) (dd_at ddX0_use 14 rfl) ⟨Nat.le_of_ble_eq_true rfl, Nat.le_of_ble_eq_true rfl⟩) (fun r_29 d_28 H locs h hw => ?_)
      refine r_callV hw (r_runV (As := [.int r_29]) (rest := []) S hw (m_X0_push l D cs E d_28 H.size a0 r_29 _) (cwV 1 S.2.2.2.2 (gV wg746 wg747 wg748 wg103 wg749) rfl rfl rfl (by decide +kernel) ⟨Nat.le_of_ble_eq_true rfl, Nat.le_of_ble_eq_true rfl⟩) (ci := 0) rfl ha0 h rfl hl.1 rfl (Nat.le_of_ble_eq_true rfl) (dd_at ddX0_use 15 rfl) ⟨Nat.le_of_ble_eq_true rfl, Nat.le_of_ble_eq_true rfl⟩) (fun d_30 H locs h hw => ?_)
      refine lv_goto (tgt := 125) S.1 S.2.1 (dd_at ddX0_use 16 rfl) (by decide) ?_
      exact e_V S hr hlocks hw h (dd_at ddX0_use 71 rfl)
  · have h := h.2 hc_16
    refine lv_aload_n S.1 S.2.1 (dd_at ddX0_use 2 rfl) rfl (lv_at hl 0 rfl) ?_
    refine lv_iload_n S.1 S.2.1 (dd_at ddX0_use 3 rfl) rfl (lv_at hl 1 rfl) ?_
    refine r_callV hw (r_runV (As := [.int p1]) (rest := []) S hw (m_X0_push l D cs E d H.size a0 p1 _) (cwV 1 S.2.2.2.2 (gV wg746 wg747 wg748 wg103 wg749) rfl rfl rfl (by decide +kernel) ⟨Nat.le_of_ble_eq_true rfl, Nat.le_of_ble_eq_true rfl⟩) (ci := 0) rfl ha0 h rfl hl.1 rfl (Nat.le_of_ble_eq_true rfl) (dd_at ddX0_use 4 rfl) ⟨Nat.le_of_ble_eq_true rfl, Nat.le_of_ble_eq_true rfl⟩) (fun d_32 H locs h hw => ?_)
    refine lv_goto (tgt := 125) S.1 S.2.1 (dd_at ddX0_use 5 rfl) (by decide) ?_
    exact e_V S hr hlocks hw h (dd_at ddX0_use 71 rfl)
