/-! constant texts: length and charAt -/
section
variable {p : Program} {l : Launch} {e : Env} {R : Room} {s : State} {m : MethodId} {args : Array Value} {below : List Frame} {meth : Method} {c : Code} {H : Heap} {locs : List Loc} {cells slots : Nat} {Q : State → Prop}
variable {cc : ByteArray} {nL : Nat} {Ts : List Cond} {own : String} {D : va_G} {cs : Nat → ClassId} {A : Nat → Prop} {H0 : Heap} {E : En} {d : Dy} {pc : Nat} {ls : Array Slot} {rest : List Value} {a b : Nat}
theorem e_N {K : Int32 → Dy → Prop} {sz : Nat} {v : Int32} {ty : FieldType} (S : CallFix p m c cc nL s args Ts own) (hr : meth.sig.returnType = some ty) (hlocks : meth.locks = false) (hw : Wd D cs (AW E sz) s.heap s E d H locs) (hv : narrow ty (.int v) = .int v) (hk : K v d) (hdg : decode cc pc = .ok (.ireturn, 1)) :
    W p l e R s m args below meth c H locs cells slots (MQ below (va_Qi K (OutW D cs E (AW E sz)) (AW E sz)) args s cells slots (AW E sz)) (F0 m pc ls [.int v]) :=
  W.zret S.1 S.2.1 hr hv (fun t ht hW => ⟨⟨v, d, rfl, hk, by rw [ht]; exact hw.2.1, va_K.moved hW.alike hw.1, hw.2.2.1⟩, hw.2.2.2.1.F ht⟩) hw.2.2.2.1.2.2 hdg
theorem Wd_S (hw : Wd D cs A H0 s E d H locs) : vk_S 22 skN skB (fun i => cs (100 + i)) (fun i => cs (200 + i)) A s s.heap := hw.2.2.2.2.2.2.2.2.2.2.2
theorem r_ldcS (S : CallFix p m c cc nL s args Ts own) (hw : Wd D cs A H0 s E d H locs) (i : Nat) {index : Nat} {tx : String} (hi : skW[i]? = some (own, index, tx)) (hdg : decode cc pc = .ok (.ldc index, 2))
    (kk : W p l e R s m args below meth c H locs cells slots Q (F0 m (pc + 2) ls (.ref (cs (100 + i)) :: rest))) : W p l e R s m args below meth c H locs cells slots Q (F0 m pc ls rest) :=
  va_ldcS S.1 S.2.1 S.2.2.2.1 (hw.2.2.2.2.2.2.2.2.2.2.1 i _ hi) hdg kk
theorem r_ldcSW (S : CallFix p m c cc nL s args Ts own) (hw : Wd D cs A H0 s E d H locs) (i : Nat) {index : Nat} {tx : String} (hi : skW[i]? = some (own, index, tx)) (hdg : decode cc pc = .ok (.ldc_w index, 3))
    (kk : W p l e R s m args below meth c H locs cells slots Q (F0 m (pc + 3) ls (.ref (cs (100 + i)) :: rest))) : W p l e R s m args below meth c H locs cells slots Q (F0 m pc ls rest) := by
  intro T hT X
  have hZ := hw.2.2.2.2.2.2.2.2.2.2.1 i _ hi
  obtain ⟨t, a1, b1⟩ := kk T hT X
  exact ⟨t, X.ldcStringW S.1 S.2.2.2.1 (text := tx) (a := cs (100 + i)) hZ.1 hZ.2 (g := F0 m pc ls rest) rfl (by rw [S.2.1]; exact hdg) t a1, b1⟩
theorem r_getV (S : CallFix p m c cc nL s args Ts own) (hw : Wd D cs A s.heap s E d H locs) {i : Nat} (hi : i < 22) {index : Nat} (hlink : Cond.fieldLink own index "java/lang/String" "value" "[B" ∈ Ts) (hdg : decode cc pc = .ok (.getfield index, 3))
    (kk : W p l e R s m args below meth c H locs cells slots Q (F0 m (pc + 3) ls (.ref (cs (200 + i)) :: rest))) : W p l e R s m args below meth c H locs cells slots Q (F0 m pc ls (.ref (cs (100 + i)) :: rest)) :=
  vk_getf S.1 S.2.1 ((Wd_S hw).1 i hi).2.2.1 hw.2.2.2.1 S.2.2.2.1 (S.2.2.2.2 _ hlink) (fun _ h => h) hdg kk
theorem r_getC (S : CallFix p m c cc nL s args Ts own) (hw : Wd D cs A s.heap s E d H locs) {i : Nat} (hi : i < 22) {index : Nat} (hlink : Cond.fieldLink own index "java/lang/String" "coder" "B" ∈ Ts) (hdg : decode cc pc = .ok (.getfield index, 3))
    (kk : W p l e R s m args below meth c H locs cells slots Q (F0 m (pc + 3) ls (.int 0 :: rest))) : W p l e R s m args below meth c H locs cells slots Q (F0 m pc ls (.ref (cs (100 + i)) :: rest)) :=
  vk_getf S.1 S.2.1 ((Wd_S hw).1 i hi).2.1 hw.2.2.2.1 S.2.2.2.1 (S.2.2.2.2 _ hlink) (fun _ h => h) hdg kk
variable {y : MethodName} {bytes : ByteArray} {maxL mc ms n index : Nat} {ret : Option FieldType} {ws : List Cond} {rm : Room} {As : List Value} {wp : Prop} {st0 : List Value}
theorem r_runVS {Qc : Array Value → State → Outcome → State → Prop} {free : Addr → Prop} (S : CallFix p m c cc nL s args Ts own) (hw : Wd D cs A s.heap s E d H locs) {i : Nat} (hi : i < 22) (hM : Met l y ws rm (PcM D cs E d H.size (.ref (cs (100 + i)) :: As) wp) Qc mc ms free) (cw : CallW R s args own "java/lang/String" index y bytes maxL ret ws rm mc ms n) (hwp : wp)
    (hn : As.length = n) (hsize : ls.size = nL) (hst : st0 = As.reverse ++ .ref (cs (100 + i)) :: rest) (hW : (rest.map fun v => v.category).sum ≤ 8) (hdg : decode cc pc = .ok (.invokevirtual index, 3)) (hf : cells + mc ≤ R.cells ∧ slots + ms ≤ R.slots) :
    va_Run p l e R s m args below meth c H locs cells slots mc ms (F0 m pc ls st0) rest (Qc (Value.ref (cs (100 + i)) :: As).toArray) free :=
  va_runV S hM cw ⟨PcM_blind, vk_recv (i := i) (adK := fun i => cs (100 + i)) (Wd_S hw) hi hw.2.2.2.1, fun U hU hW => ⟨rfl, Wd_In hw hU hW, hwp⟩⟩ rfl hn hsize hst (lv_room (rest := []) (m := m) (pc := pc) (ls := ls) hW) hdg hf
end
def w_J3_checkIndex_8e157 (E : En) (p0 p1 : Int32) (q2 : Option Nat) (d : Dy) (K : Int32 → Dy → Prop) : Prop := ¬ p0 < 0 ∧ p0 < p1 ∧ K p0 d
abbrev rm_J3_checkIndex_8e157 : Room := { frames := 0, cells := 0, slots := 0, locals := 0 }
set_option maxRecDepth 100000 in
set_option maxHeartbeats 4000000 in
theorem m_J3_checkIndex_8e157 (l : Launch) (D : va_G) (cs : Nat → ClassId) (E : En) (d : Dy) (sz : Nat) (p0 p1 : Int32) (q2 : Option Nat) (K : Int32 → Dy → Prop) : CI l yJ3_checkIndex_8e157 (.code yJ3_checkIndex_8e157 cJ3_checkIndex_8e157 3 (some .int) :: wsL_law) rm_J3_checkIndex_8e157 D cs E d sz [.int p0, .int p1, va_rf q2] (w_J3_checkIndex_8e157 E p0 p1 q2 d K) K := by
  cases q2 with
  | none =>
    refine e_of (cc := cJ3_checkIndex_8e157) (maxL := 3) (ret := (some .int)) (own := RJ3) (by decide) rfl rfl (Nat.le_of_ble_eq_true rfl) ?_
    intro p e s m below meth c S hr hlocks hsz H locs hw h ls hl
    have hl := lv_sub hl (l' := [(0, .int p0), (1, .int p1)]) [0, 1] rfl
    refine lv_iload_n S.1 S.2.1 (dd_at ddJ3_checkIndex_8e157 0 rfl) rfl (lv_at hl 0 rfl) ?_
    refine lv_if_lt (tgt := 9) S.1 S.2.1 (dd_at ddJ3_checkIndex_8e157 1 rfl) (by decide) (fun hc => absurd hc h.1) (fun _ => ?_)
    refine lv_iload_n S.1 S.2.1 (dd_at ddJ3_checkIndex_8e157 2 rfl) rfl (lv_at hl 0 rfl) ?_
    refine lv_iload_n S.1 S.2.1 (dd_at ddJ3_checkIndex_8e157 3 rfl) rfl (lv_at hl 1 rfl) ?_
    refine lv_icmp_lt (tgt := 16) S.1 S.2.1 (dd_at ddJ3_checkIndex_8e157 4 rfl) (by decide) (fun _ => ?_) (fun hc => absurd h.2.1 hc)
    refine lv_iload_n S.1 S.2.1 (dd_at ddJ3_checkIndex_8e157 10 rfl) rfl (lv_at hl 0 rfl) ?_
    exact e_I S hr hlocks hw h.2.2 (dd_at ddJ3_checkIndex_8e157 11 rfl)
  | some q2 =>
    refine e_of (cc := cJ3_checkIndex_8e157) (maxL := 3) (ret := (some .int)) (own := RJ3) (by decide) rfl rfl (Nat.le_of_ble_eq_true rfl) ?_
    intro p e s m below meth c S hr hlocks hsz H locs hw h ls hl
    have hl := lv_sub hl (l' := [(0, .int p0), (1, .int p1)]) [0, 1] rfl
    refine lv_iload_n S.1 S.2.1 (dd_at ddJ3_checkIndex_8e157 0 rfl) rfl (lv_at hl 0 rfl) ?_
    refine lv_if_lt (tgt := 9) S.1 S.2.1 (dd_at ddJ3_checkIndex_8e157 1 rfl) (by decide) (fun hc => absurd hc h.1) (fun _ => ?_)
    refine lv_iload_n S.1 S.2.1 (dd_at ddJ3_checkIndex_8e157 2 rfl) rfl (lv_at hl 0 rfl) ?_
    refine lv_iload_n S.1 S.2.1 (dd_at ddJ3_checkIndex_8e157 3 rfl) rfl (lv_at hl 1 rfl) ?_
    refine lv_icmp_lt (tgt := 16) S.1 S.2.1 (dd_at ddJ3_checkIndex_8e157 4 rfl) (by decide) (fun _ => ?_) (fun hc => absurd h.2.1 hc)
    refine lv_iload_n S.1 S.2.1 (dd_at ddJ3_checkIndex_8e157 10 rfl) rfl (lv_at hl 0 rfl) ?_
    exact e_I S hr hlocks hw h.2.2 (dd_at ddJ3_checkIndex_8e157 11 rfl)
def w_J0_checkIndex_df160 (E : En) (p0 p1 : Int32) (d : Dy) (K : Dy → Prop) : Prop := ¬ p0 < 0 ∧ p0 < p1 ∧ K d
abbrev rm_J0_checkIndex_df160 : Room := { frames := 1, cells := 0, slots := 0, locals := 22 }
set_option maxRecDepth 100000 in
set_option maxHeartbeats 4000000 in
theorem m_J0_checkIndex_df160 (l : Launch) (D : va_G) (cs : Nat → ClassId) (E : En) (d : Dy) (sz : Nat) (p0 p1 : Int32) (K : Dy → Prop) : CV l yJ0_checkIndex_df160 (.code yJ0_checkIndex_df160 cJ0_checkIndex_df160 2 none :: wsL_law) rm_J0_checkIndex_df160 D cs E d sz [.int p0, .int p1] (w_J0_checkIndex_df160 E p0 p1 d K) K := by
  refine e_of (cc := cJ0_checkIndex_df160) (maxL := 2) (ret := none) (own := RJ0) (by decide) rfl rfl (Nat.le_of_ble_eq_true rfl) ?_
  intro p e s m below meth c S hr hlocks hsz H locs hw h ls hl
  have hl : lv_has ls 2 [(0, .int p0), (1, .int p1)] := hl
  refine lv_iload_n S.1 S.2.1 (dd_at ddJ0_checkIndex_df160 0 rfl) rfl (lv_at hl 0 rfl) ?_
  refine lv_iload_n S.1 S.2.1 (dd_at ddJ0_checkIndex_df160 1 rfl) rfl (lv_at hl 1 rfl) ?_
  rcases hw.2.2.2.2.2.2.2.2.2.1.2.2.2.1 with hz | ⟨q, hz⟩
  · refine va_gets S.1 S.2.1 hz hw.2.2.2.1 S.2.2.2.1 (S.2.2.2.2 _ (List.mem_cons_of_mem _ wg283)) (fun _ h => h) (dd_at ddJ0_checkIndex_df160 2 rfl) ?_
    refine r_callI hw (r_runS (As := [.int p0, .int p1, va_rf none]) (rest := []) S hw (m_J3_checkIndex_8e157 l D cs E d H.size p0 p1 none (fun _ d1 => K d1)) (va_cwS 3 S.2.2.2.2 (gS wg284 wg285 wg286 wg287) rfl rfl rfl (by decide +kernel) ⟨Nat.le_of_ble_eq_true rfl, Nat.le_of_ble_eq_true rfl⟩) h rfl hl.1 rfl (Nat.le_of_ble_eq_true rfl) (dd_at ddJ0_checkIndex_df160 3 rfl) ⟨Nat.le_of_ble_eq_true rfl, Nat.le_of_ble_eq_true rfl⟩) (fun r d1 H locs h hw => ?_)
    refine lv_pop S.1 S.2.1 (dd_at ddJ0_checkIndex_df160 4 rfl) rfl ?_
    exact e_V S hr hlocks hw h (dd_at ddJ0_checkIndex_df160 5 rfl)
  · refine va_gets S.1 S.2.1 hz hw.2.2.2.1 S.2.2.2.1 (S.2.2.2.2 _ (List.mem_cons_of_mem _ wg283)) (fun _ h => h) (dd_at ddJ0_checkIndex_df160 2 rfl) ?_
    refine r_callI hw (r_runS (As := [.int p0, .int p1, va_rf (some q)]) (rest := []) S hw (m_J3_checkIndex_8e157 l D cs E d H.size p0 p1 (some q) (fun _ d1 => K d1)) (va_cwS 3 S.2.2.2.2 (gS wg284 wg285 wg286 wg287) rfl rfl rfl (by decide +kernel) ⟨Nat.le_of_ble_eq_true rfl, Nat.le_of_ble_eq_true rfl⟩) h rfl hl.1 rfl (Nat.le_of_ble_eq_true rfl) (dd_at ddJ0_checkIndex_df160 3 rfl) ⟨Nat.le_of_ble_eq_true rfl, Nat.le_of_ble_eq_true rfl⟩) (fun r d1 H locs h hw => ?_)
    refine lv_pop S.1 S.2.1 (dd_at ddJ0_checkIndex_df160 4 rfl) rfl ?_
    exact e_V S hr hlocks hw h (dd_at ddJ0_checkIndex_df160 5 rfl)
def w_J1_charAt_3b067 (E : En) (t0 : Nat) (p1 : Int32) (d : Dy) (K : Int32 → Dy → Prop) : Prop := t0 < 22 ∧ ¬ p1 < 0 ∧ p1 < nI (skN.getD t0 0) ∧ K ((((skB.getD t0 []).getD (p1).toNatClampNeg 0) &&& 255).toUInt32 % 65536).toInt32 d
abbrev rm_J1_charAt_3b067 : Room := { frames := 2, cells := 0, slots := 0, locals := 44 }
set_option maxRecDepth 100000 in
set_option maxHeartbeats 4000000 in
theorem m_J1_charAt_3b067 (l : Launch) (D : va_G) (cs : Nat → ClassId) (E : En) (d : Dy) (sz : Nat) (t0 : Nat) (p1 : Int32) (K : Int32 → Dy → Prop) : CI l yJ1_charAt_3b067 (.code yJ1_charAt_3b067 cJ1_charAt_3b067 2 (some .char) :: wsL_law) rm_J1_charAt_3b067 D cs E d sz [.ref (cs (200 + t0)), .int p1] (w_J1_charAt_3b067 E t0 p1 d K) K := by
  refine e_of (cc := cJ1_charAt_3b067) (maxL := 2) (ret := (some .char)) (own := RJ1) (by decide) rfl rfl (Nat.le_of_ble_eq_true rfl) ?_
  intro p e s m below meth c S hr hlocks hsz H locs hw h ls hl
  have hl : lv_has ls 2 [(0, .ref (cs (200 + t0))), (1, .int p1)] := hl
  obtain ⟨ht, h0, h1, hk⟩ := h
  have hN : skN.getD t0 0 < 2 ^ 31 := (show ∀ t, t < 22 → skN.getD t 0 < 2 ^ 31 by decide) t0 ht
  refine lv_iload_n S.1 S.2.1 (dd_at ddJ1_charAt_3b067 0 rfl) rfl (lv_at hl 1 rfl) ?_
  refine lv_aload_n S.1 S.2.1 (dd_at ddJ1_charAt_3b067 1 rfl) rfl (lv_at hl 0 rfl) ?_
  refine va_tlen S.1 S.2.1 ((Wd_S hw).1 t0 ht).2.2.2 hw.2.2.2.1 (v := nI (skN.getD t0 0)) rfl (dd_at ddJ1_charAt_3b067 2 rfl) ?_
  refine r_callV hw (r_runS (As := [.int p1, .int (nI (skN.getD t0 0))]) (rest := []) S hw (m_J0_checkIndex_df160 l D cs E d H.size p1 (nI (skN.getD t0 0)) (fun d1 => d1 = d)) (va_cwS 2 S.2.2.2.2 (gS wg280 wg281 wg259 wg282) rfl rfl rfl (by decide +kernel) ⟨Nat.le_of_ble_eq_true rfl, Nat.le_of_ble_eq_true rfl⟩) ⟨h0, h1, rfl⟩ rfl hl.1 rfl (Nat.le_of_ble_eq_true rfl) (dd_at ddJ1_charAt_3b067 3 rfl) ⟨Nat.le_of_ble_eq_true rfl, Nat.le_of_ble_eq_true rfl⟩) (fun d1 H locs h hw => ?_)
  rw [h] at hw
  refine lv_aload_n S.1 S.2.1 (dd_at ddJ1_charAt_3b067 4 rfl) rfl (lv_at hl 0 rfl) ?_
  refine lv_iload_n S.1 S.2.1 (dd_at ddJ1_charAt_3b067 5 rfl) rfl (lv_at hl 1 rfl) ?_
  refine va_tb S.1 S.2.1 ((Wd_S hw).1 t0 ht).2.2.2 hw.2.2.2.1 (i := p1) (vp_in_iff.mpr ⟨?_, ?_⟩) rfl (dd_at ddJ1_charAt_3b067 6 rfl) ?_
  · have := Int32.le_iff_toInt_le.mp (Int32.not_lt.mp h0); simpa using this
  · have := Int32.lt_iff_toInt_lt.mp h1; rw [nI_toInt hN] at this; exact this
  refine lv_sipush (v := 255) S.1 S.2.1 (dd_at ddJ1_charAt_3b067 7 rfl) (by decide) ?_
  refine lv_iand S.1 S.2.1 (dd_at ddJ1_charAt_3b067 8 rfl) ?_
  refine lv_i2c S.1 S.2.1 (dd_at ddJ1_charAt_3b067 9 rfl) rfl ?_
  exact e_N S hr hlocks hw (pk_nc _) hk (dd_at ddJ1_charAt_3b067 10 rfl)
def w_J0_isLatin1_aae02 (E : En) (t0 : Nat) (d : Dy) (K : Int32 → Dy → Prop) : Prop := t0 < 22 ∧ K 1 d
abbrev rm_J0_isLatin1_aae02 : Room := { frames := 0, cells := 0, slots := 0, locals := 0 }
set_option maxRecDepth 100000 in
set_option maxHeartbeats 4000000 in
theorem m_J0_isLatin1_aae02 (l : Launch) (D : va_G) (cs : Nat → ClassId) (E : En) (d : Dy) (sz : Nat) (t0 : Nat) (K : Int32 → Dy → Prop) : CI l yJ0_isLatin1_aae02 (.code yJ0_isLatin1_aae02 cJ0_isLatin1_aae02 1 (some .boolean) :: wsL_law) rm_J0_isLatin1_aae02 D cs E d sz [.ref (cs (100 + t0))] (w_J0_isLatin1_aae02 E t0 d K) K := by
  refine e_of (cc := cJ0_isLatin1_aae02) (maxL := 1) (ret := (some .boolean)) (own := RJ0) (by decide) rfl rfl (Nat.le_of_ble_eq_true rfl) ?_
  intro p e s m below meth c S hr hlocks hsz H locs hw h ls hl
  have hl : lv_has ls 1 [(0, .ref (cs (100 + t0)))] := hl
  refine va_gets S.1 S.2.1 hw.2.2.2.2.2.2.2.2.2.1.2.2.1 hw.2.2.2.1 S.2.2.2.1 (S.2.2.2.2 _ (List.mem_cons_of_mem _ wg266)) (fun _ h => h) (dd_at ddJ0_isLatin1_aae02 0 rfl) ?_
  refine lv_if_eq (tgt := 17) S.1 S.2.1 (dd_at ddJ0_isLatin1_aae02 1 rfl) (by decide) (fun hc => absurd hc (by decide)) (fun _ => ?_)
  refine lv_aload_n S.1 S.2.1 (dd_at ddJ0_isLatin1_aae02 2 rfl) rfl (lv_at hl 0 rfl) ?_
  refine r_getC S hw h.1 (List.mem_cons_of_mem _ wg267) (dd_at ddJ0_isLatin1_aae02 3 rfl) ?_
  refine lv_if_ne (tgt := 17) S.1 S.2.1 (dd_at ddJ0_isLatin1_aae02 4 rfl) (by decide) (fun hc => absurd rfl hc) (fun _ => ?_)
  refine lv_iconst (v := 1) S.1 S.2.1 (dd_at ddJ0_isLatin1_aae02 5 rfl) (by decide) ?_
  refine lv_goto (tgt := 18) S.1 S.2.1 (dd_at ddJ0_isLatin1_aae02 6 rfl) (by decide) ?_
  exact e_Z S hr hlocks hw (Or.inr rfl) h.2 (dd_at ddJ0_isLatin1_aae02 8 rfl)
def w_J0_coder_7d493 (E : En) (t0 : Nat) (d : Dy) (K : Int32 → Dy → Prop) : Prop := t0 < 22 ∧ K 0 d
abbrev rm_J0_coder_7d493 : Room := { frames := 0, cells := 0, slots := 0, locals := 0 }
set_option maxRecDepth 100000 in
set_option maxHeartbeats 4000000 in
theorem m_J0_coder_7d493 (l : Launch) (D : va_G) (cs : Nat → ClassId) (E : En) (d : Dy) (sz : Nat) (t0 : Nat) (K : Int32 → Dy → Prop) : CI l yJ0_coder_7d493 (.code yJ0_coder_7d493 cJ0_coder_7d493 1 (some .byte) :: wsL_law) rm_J0_coder_7d493 D cs E d sz [.ref (cs (100 + t0))] (w_J0_coder_7d493 E t0 d K) K := by
  refine e_of (cc := cJ0_coder_7d493) (maxL := 1) (ret := (some .byte)) (own := RJ0) (by decide) rfl rfl (Nat.le_of_ble_eq_true rfl) ?_
  intro p e s m below meth c S hr hlocks hsz H locs hw h ls hl
  have hl : lv_has ls 1 [(0, .ref (cs (100 + t0)))] := hl
  refine va_gets S.1 S.2.1 hw.2.2.2.2.2.2.2.2.2.1.2.2.1 hw.2.2.2.1 S.2.2.2.1 (S.2.2.2.2 _ (List.mem_cons_of_mem _ wg266)) (fun _ h => h) (dd_at ddJ0_coder_7d493 0 rfl) ?_
  refine lv_if_eq (tgt := 13) S.1 S.2.1 (dd_at ddJ0_coder_7d493 1 rfl) (by decide) (fun hc => absurd hc (by decide)) (fun _ => ?_)
  refine lv_aload_n S.1 S.2.1 (dd_at ddJ0_coder_7d493 2 rfl) rfl (lv_at hl 0 rfl) ?_
  refine r_getC S hw h.1 (List.mem_cons_of_mem _ wg267) (dd_at ddJ0_coder_7d493 3 rfl) ?_
  refine lv_goto (tgt := 14) S.1 S.2.1 (dd_at ddJ0_coder_7d493 4 rfl) (by decide) ?_
  exact e_N S hr hlocks hw (by decide) h.2 (dd_at ddJ0_coder_7d493 6 rfl)
def w_J0_length_8abf5 (E : En) (t0 : Nat) (d : Dy) (K : Int32 → Dy → Prop) : Prop := t0 < 22 ∧ K (nI (skN.getD t0 0)) d
abbrev rm_J0_length_8abf5 : Room := { frames := 1, cells := 0, slots := 0, locals := 20 }
set_option maxRecDepth 100000 in
set_option maxHeartbeats 4000000 in
theorem m_J0_length_8abf5 (l : Launch) (D : va_G) (cs : Nat → ClassId) (E : En) (d : Dy) (sz : Nat) (t0 : Nat) (K : Int32 → Dy → Prop) : CI l yJ0_length_8abf5 (.code yJ0_length_8abf5 cJ0_length_8abf5 1 (some .int) :: wsL_law) rm_J0_length_8abf5 D cs E d sz [.ref (cs (100 + t0))] (w_J0_length_8abf5 E t0 d K) K := by
  refine e_of (cc := cJ0_length_8abf5) (maxL := 1) (ret := (some .int)) (own := RJ0) (by decide) rfl rfl (Nat.le_of_ble_eq_true rfl) ?_
  intro p e s m below meth c S hr hlocks hsz H locs hw h ls hl
  have hl : lv_has ls 1 [(0, .ref (cs (100 + t0)))] := hl
  obtain ⟨ht, hk⟩ := h
  refine lv_aload_n S.1 S.2.1 (dd_at ddJ0_length_8abf5 0 rfl) rfl (lv_at hl 0 rfl) ?_
  refine r_getV S hw ht (List.mem_cons_of_mem _ wg261) (dd_at ddJ0_length_8abf5 1 rfl) ?_
  refine va_tlen S.1 S.2.1 ((Wd_S hw).1 t0 ht).2.2.2 hw.2.2.2.1 (v := nI (skN.getD t0 0)) rfl (dd_at ddJ0_length_8abf5 2 rfl) ?_
  refine lv_aload_n S.1 S.2.1 (dd_at ddJ0_length_8abf5 3 rfl) rfl (lv_at hl 0 rfl) ?_
  refine r_callI hw (r_runVS (As := []) (rest := [.int (nI (skN.getD t0 0))]) S hw ht (m_J0_coder_7d493 l D cs E d H.size t0 (fun r d1 => r = 0 ∧ d1 = d)) (cwV 0 S.2.2.2.2 (gV wg262 wg263 wg264 wg259 wg265) rfl rfl rfl (by decide +kernel) ⟨Nat.le_of_ble_eq_true rfl, Nat.le_of_ble_eq_true rfl⟩) ⟨ht, rfl, rfl⟩ rfl hl.1 rfl (Nat.le_of_ble_eq_true rfl) (dd_at ddJ0_length_8abf5 4 rfl) ⟨Nat.le_of_ble_eq_true rfl, Nat.le_of_ble_eq_true rfl⟩) (fun r d1 H locs h hw => ?_)
  rw [h.1]
  rw [h.2] at hw
  refine lv_ishr S.1 S.2.1 (dd_at ddJ0_length_8abf5 5 rfl) ?_
  rw [sb_shr0]
  exact e_I S hr hlocks hw hk (dd_at ddJ0_length_8abf5 6 rfl)
def w_J0_charAt_5068e (E : En) (t0 : Nat) (p1 : Int32) (d : Dy) (K : Int32 → Dy → Prop) : Prop := t0 < 22 ∧ ¬ p1 < 0 ∧ p1 < nI (skN.getD t0 0) ∧ K ((((skB.getD t0 []).getD (p1).toNatClampNeg 0) &&& 255).toUInt32 % 65536).toInt32 d
abbrev rm_J0_charAt_5068e : Room := { frames := 3, cells := 0, slots := 0, locals := 70 }
set_option maxRecDepth 100000 in
set_option maxHeartbeats 4000000 in
theorem m_J0_charAt_5068e (l : Launch) (D : va_G) (cs : Nat → ClassId) (E : En) (d : Dy) (sz : Nat) (t0 : Nat) (p1 : Int32) (K : Int32 → Dy → Prop) : CI l yJ0_charAt_5068e (.code yJ0_charAt_5068e cJ0_charAt_5068e 2 (some .char) :: wsL_law) rm_J0_charAt_5068e D cs E d sz [.ref (cs (100 + t0)), .int p1] (w_J0_charAt_5068e E t0 p1 d K) K := by
  refine e_of (cc := cJ0_charAt_5068e) (maxL := 2) (ret := (some .char)) (own := RJ0) (by decide) rfl rfl (Nat.le_of_ble_eq_true rfl) ?_
  intro p e s m below meth c S hr hlocks hsz H locs hw h ls hl
  have hl : lv_has ls 2 [(0, .ref (cs (100 + t0))), (1, .int p1)] := hl
  obtain ⟨ht, h0, h1, hk⟩ := h
  refine lv_aload_n S.1 S.2.1 (dd_at ddJ0_charAt_5068e 0 rfl) rfl (lv_at hl 0 rfl) ?_
  refine r_callI hw (r_runVS (As := []) (rest := []) S hw ht (m_J0_isLatin1_aae02 l D cs E d H.size t0 (fun r d1 => r = 1 ∧ d1 = d)) (cwV 0 S.2.2.2.2 (gV wg272 wg273 wg274 wg259 wg275) rfl rfl rfl (by decide +kernel) ⟨Nat.le_of_ble_eq_true rfl, Nat.le_of_ble_eq_true rfl⟩) ⟨ht, rfl, rfl⟩ rfl hl.1 rfl (Nat.le_of_ble_eq_true rfl) (dd_at ddJ0_charAt_5068e 1 rfl) ⟨Nat.le_of_ble_eq_true rfl, Nat.le_of_ble_eq_true rfl⟩) (fun r d1 H locs h hw => ?_)
  rw [h.1]
  rw [h.2] at hw
  refine lv_if_eq (tgt := 16) S.1 S.2.1 (dd_at ddJ0_charAt_5068e 2 rfl) (by decide) (fun hc => absurd hc (by decide)) (fun _ => ?_)
  refine lv_aload_n S.1 S.2.1 (dd_at ddJ0_charAt_5068e 3 rfl) rfl (lv_at hl 0 rfl) ?_
  refine r_getV S hw ht (List.mem_cons_of_mem _ wg261) (dd_at ddJ0_charAt_5068e 4 rfl) ?_
  refine lv_iload_n S.1 S.2.1 (dd_at ddJ0_charAt_5068e 5 rfl) rfl (lv_at hl 1 rfl) ?_
  refine r_callI hw (r_runS (As := [.ref (cs (200 + t0)), .int p1]) (rest := []) S hw (m_J1_charAt_3b067 l D cs E d H.size t0 p1 (fun r d2 => r = ((((skB.getD t0 []).getD (p1).toNatClampNeg 0) &&& 255).toUInt32 % 65536).toInt32 ∧ d2 = d)) (va_cwS 2 S.2.2.2.2 (gS wg276 wg277 wg278 wg279) rfl rfl rfl (by decide +kernel) ⟨Nat.le_of_ble_eq_true rfl, Nat.le_of_ble_eq_true rfl⟩) ⟨ht, h0, h1, rfl, rfl⟩ rfl hl.1 rfl (Nat.le_of_ble_eq_true rfl) (dd_at ddJ0_charAt_5068e 6 rfl) ⟨Nat.le_of_ble_eq_true rfl, Nat.le_of_ble_eq_true rfl⟩) (fun r d2 H locs h hw => ?_)
  rw [h.1]
  rw [h.2] at hw
  exact e_N S hr hlocks hw (pk_nc _) hk (dd_at ddJ0_charAt_5068e 7 rfl)
