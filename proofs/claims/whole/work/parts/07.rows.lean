/-! a row an instruction, a row a call, over the pool -/
section
variable {p : Program} {l : Launch} {e : Env} {R : Room} {s : State} {m : MethodId} {args : Array Value} {below : List Frame} {meth : Method} {c : Code} {H : Heap} {locs : List Loc} {cells slots : Nat} {Q : State → Prop}
variable {cc : ByteArray} {nL : Nat} {Ts : List Cond} {own : String} {D : va_G} {cs : Nat → ClassId} {A : Nat → Prop} {H0 : Heap} {E : En} {d : Dy} {pc : Nat} {ls : Array Slot} {rest : List Value} {a b : Nat}
theorem r_getI (S : CallFix p m c cc nL s args Ts own) (hw : Wd D cs A H0 s E d H locs) (ci k : Nat) {index : Nat} {C : String} {T : u_T} {N : Nat} (hc : vwCl[ci]? = some (C, T, N)) (hin : ∀ w ∈ u_ws C T N, w ∈ Ts) (hk : k < N) (hlink : Cond.fieldLink own index (T k).1 (T k).2.1 (T k).2.2.1 ∈ Ts) (hf : (fK ci)[k]? = some false) (ho : okO E a ci) (hdg : decode cc pc = .ok (.getfield index, 3))
    (kk : W p l e R s m args below meth c H locs cells slots Q (F0 m (pc + 3) ls (.int (gI d a k) :: rest))) : W p l e R s m args below meth c H locs cells slots Q (F0 m pc ls (.ref a :: rest)) := by
  obtain ⟨q0, he⟩ := pl_in (f := cE cs E d) ho.1
  rw [cE_o ho] at he
  exact va_get S.1 S.2.1 S.2.2.2.2 hin S.2.2.2.1 hw.1 hw.2.1 q0 he hc k hk (S.2.2.2.2 _ hlink) (fun _ h => h) (fO_int hf) hdg kk
theorem r_getR (S : CallFix p m c cc nL s args Ts own) (hw : Wd D cs A H0 s E d H locs) (ci k : Nat) {index : Nat} {C : String} {T : u_T} {N : Nat} (hc : vwCl[ci]? = some (C, T, N)) (hin : ∀ w ∈ u_ws C T N, w ∈ Ts) (hk : k < N) (hlink : Cond.fieldLink own index (T k).1 (T k).2.1 (T k).2.2.1 ∈ Ts) (hf : (fK ci)[k]? = some true) (ho : okO E a ci) (hr : eR E a k = some b) (hdg : decode cc pc = .ok (.getfield index, 3))
    (kk : W p l e R s m args below meth c H locs cells slots Q (F0 m (pc + 3) ls (.ref b :: rest))) : W p l e R s m args below meth c H locs cells slots Q (F0 m pc ls (.ref a :: rest)) := by
  obtain ⟨q0, he⟩ := pl_in (f := cE cs E d) ho.1
  rw [cE_o ho] at he
  exact va_get S.1 S.2.1 S.2.2.2.2 hin S.2.2.2.1 hw.1 hw.2.1 q0 he hc k hk (S.2.2.2.2 _ hlink) (fun _ h => h) (v := .ref b) (by rw [fO_ref hf, hr]; rfl) hdg kk
theorem r_putI (S : CallFix p m c cc nL s args Ts own) (hw : Wd D cs A H0 s E d H locs) (ci k : Nat) {index : Nat} {C : String} {T : u_T} {N : Nat} (hc : vwCl[ci]? = some (C, T, N)) (hin : ∀ w ∈ u_ws C T N, w ∈ Ts) (ty0 : Nat → FieldType) (hty : ∀ k, k < N → parseFieldDescriptor (T k).2.2.1 = some (ty0 k)) (hnm : ∀ a, a < N → ∀ b, b < N → a ≠ b → (T a).2.1 ≠ (T b).2.1) (hk : k < N) (hlink : Cond.fieldLink own index (T k).1 (T k).2.1 (T k).2.2.1 ∈ Ts) (hf : (fK ci)[k]? = some false) (hfin : (T k).2.2.2 = false) {ty : FieldType} {v : Int32} (hd : parseFieldDescriptor (T k).2.2.1 = some ty) (hn : narrow ty (.int v) = .int v) (hfit : fits ty (.int v) = true) (ho : okO E a ci) (hdg : decode cc pc = .ok (.putfield index, 3))
    (kk : ∀ (H1 : Heap) (locs1 : List Loc), Wd D cs A H0 s E (pI d a k v) H1 locs1 → W p l e R s m args below meth c H1 locs1 cells slots Q (F0 m (pc + 3) ls rest)) : W p l e R s m args below meth c H locs cells slots Q (F0 m pc ls (.int v :: .ref a :: rest)) := by
  obtain ⟨q0, he0⟩ := pl_in (f := cE cs E d) ho.1
  have he := he0
  rw [cE_o ho] at he
  refine va_put S.1 S.2.1 S.2.2.2.2 hin ty0 hty hnm S.2.2.2.1 hw.1 hw.2.1 hw.2.2.1 hw.2.2.2.1 q0 he hc k hk (S.2.2.2.2 _ hlink) (fun _ h => h) hfin hd hn hfit (by rw [fO_len]; exact (List.getElem?_eq_some_iff.mp hf).1) hdg (fun H1 locs1 hP hD hS => ?_)
  rw [pl_set hw.2.2.1 ho.1 he0 (cE_pI (k := k) (v := v) ho hf)] at hP hD
  exact kk H1 locs1 ⟨hw.1, hP, hD, hS, hw.2.2.2.2⟩
theorem r_iald (S : CallFix p m c cc nL s args Ts own) (hw : Wd D cs A H0 s E d H locs) (ho : okA E a 13) {i : Int32} (hin : vp_in i (eN E a)) (hdg : decode cc pc = .ok (.iaload, 1))
    (kk : W p l e R s m args below meth c H locs cells slots Q (F0 m (pc + 1) ls (.int (gA d a i.toNatClampNeg) :: rest))) : W p l e R s m args below meth c H locs cells slots Q (F0 m pc ls (.int i :: .ref a :: rest)) := by
  obtain ⟨q0, he⟩ := pl_in (f := cE cs E d) ho.1
  rw [cE_i ho (by decide) (by decide)] at he
  exact va_iald S.1 S.2.1 hw.1 hw.2.1 q0 1 he rfl hin hdg kk
theorem r_bald (S : CallFix p m c cc nL s args Ts own) (hw : Wd D cs A H0 s E d H locs) (ho : okA E a 12) {i : Int32} (hin : vp_in i (eN E a)) (hdg : decode cc pc = .ok (.baload, 1))
    (kk : W p l e R s m args below meth c H locs cells slots Q (F0 m (pc + 1) ls (.int (gA d a i.toNatClampNeg) :: rest))) : W p l e R s m args below meth c H locs cells slots Q (F0 m pc ls (.int i :: .ref a :: rest)) := by
  obtain ⟨q0, he⟩ := pl_in (f := cE cs E d) ho.1
  rw [cE_i ho (by decide) (by decide)] at he
  exact va_bald S.1 S.2.1 hw.1 hw.2.1 q0 0 he rfl hin hdg kk
theorem r_zald (S : CallFix p m c cc nL s args Ts own) (hw : Wd D cs A H0 s E d H locs) (ho : okA E a 15) {i : Int32} (hin : vp_in i (eN E a)) (hdg : decode cc pc = .ok (.baload, 1))
    (kk : W p l e R s m args below meth c H locs cells slots Q (F0 m (pc + 1) ls (.int (gA d a i.toNatClampNeg) :: rest))) : W p l e R s m args below meth c H locs cells slots Q (F0 m pc ls (.int i :: .ref a :: rest)) := by
  obtain ⟨q0, he⟩ := pl_in (f := cE cs E d) ho.1
  rw [cE_i ho (by decide) (by decide)] at he
  exact va_zald S.1 S.2.1 hw.1 hw.2.1 q0 3 he rfl hin hdg kk
theorem r_lald (S : CallFix p m c cc nL s args Ts own) (hw : Wd D cs A H0 s E d H locs) (ho : okA E a 14) {i : Int32} (hin : vp_in i (eN E a)) (hdg : decode cc pc = .ok (.laload, 1))
    (kk : W p l e R s m args below meth c H locs cells slots Q (F0 m (pc + 1) ls (.long (gJ d a i.toNatClampNeg) :: rest))) : W p l e R s m args below meth c H locs cells slots Q (F0 m pc ls (.int i :: .ref a :: rest)) := by
  obtain ⟨q0, he⟩ := pl_in (f := cE cs E d) ho.1
  rw [cE_j ho] at he
  exact va_lald S.1 S.2.1 hw.1 hw.2.1 q0 2 he rfl hin hdg kk
theorem r_aald (S : CallFix p m c cc nL s args Ts own) (hw : Wd D cs A H0 s E d H locs) (ho : okA E a 16) {i : Int32} (hin : vp_in i (eN E a)) (hdg : decode cc pc = .ok (.aaload, 1))
    (kk : W p l e R s m args below meth c H locs cells slots Q (F0 m (pc + 1) ls (va_rf (gQ d a i.toNatClampNeg) :: rest))) : W p l e R s m args below meth c H locs cells slots Q (F0 m pc ls (.int i :: .ref a :: rest)) := by
  obtain ⟨q0, he⟩ := pl_in (f := cE cs E d) ho.1
  rw [cE_q ho] at he
  exact va_aldq S.1 S.2.1 hw.1 hw.2.1 q0 4 he rfl hin hdg kk
theorem r_alenI (S : CallFix p m c cc nL s args Ts own) (hw : Wd D cs A H0 s E d H locs) (ho : okA E a 13) (hdg : decode cc pc = .ok (.arraylength, 1))
    (kk : W p l e R s m args below meth c H locs cells slots Q (F0 m (pc + 1) ls (.int (nI (eN E a)) :: rest))) : W p l e R s m args below meth c H locs cells slots Q (F0 m pc ls (.ref a :: rest)) := by
  obtain ⟨q0, he⟩ := pl_in (f := cE cs E d) ho.1
  rw [cE_i ho (by decide) (by decide)] at he
  exact va_alen S.1 S.2.1 hw.1 hw.2.1 q0 1 he rfl rfl hdg kk
theorem Wd_sA (hw : Wd D cs A H0 s E d H locs) {t : Nat} (ho : okA E a t) (h4 : t ≠ 14) (h6 : t ≠ 16) {q0 : Nat} (he0 : (wl cs E d)[q0]? = some (a, cE cs E d a)) {g : Nat → Int32} {d' : Dy} (hd : sA d a g = d') {H1 : Heap} {locs1 : List Loc}
    (hP : va_P D vwCl ((wl cs E d).set q0 (a, .inl (cs t, eN E a, .inl g))) H1) (hS : va_S A H0 H1 locs1) : Wd D cs A H0 s E d' H1 locs1 := by
  rw [pl_set hw.2.2.1 ho.1 he0 (cE_sA ho h4 h6), hd] at hP
  exact ⟨hw.1, hP, pl_D hw.2.2.1, hS, hw.2.2.2.2⟩
theorem r_iast (S : CallFix p m c cc nL s args Ts own) (hw : Wd D cs A H0 s E d H locs) (ho : okA E a 13) {i x : Int32} (hin : vp_in i (eN E a)) (hdg : decode cc pc = .ok (.iastore, 1))
    (kk : ∀ (H1 : Heap) (locs1 : List Loc), Wd D cs A H0 s E (pA d a i.toNatClampNeg x) H1 locs1 → W p l e R s m args below meth c H1 locs1 cells slots Q (F0 m (pc + 1) ls rest)) : W p l e R s m args below meth c H locs cells slots Q (F0 m pc ls (.int x :: .int i :: .ref a :: rest)) := by
  obtain ⟨q0, he0⟩ := pl_in (f := cE cs E d) ho.1
  have he := he0
  rw [cE_i ho (by decide) (by decide)] at he
  exact va_iast S.1 S.2.1 hw.1 hw.2.1 hw.2.2.1 hw.2.2.2.1 q0 1 he rfl hin hdg (fun H1 locs1 hP hD hS => kk H1 locs1 (Wd_sA hw ho (by decide) (by decide) he0 (sA_upd d a _ x) hP hS))
theorem r_zast (S : CallFix p m c cc nL s args Ts own) (hw : Wd D cs A H0 s E d H locs) (ho : okA E a 15) {i x : Int32} (hin : vp_in i (eN E a)) (hdg : decode cc pc = .ok (.bastore, 1))
    (kk : ∀ (H1 : Heap) (locs1 : List Loc), Wd D cs A H0 s E (pA d a i.toNatClampNeg (vp_nar .boolean x)) H1 locs1 → W p l e R s m args below meth c H1 locs1 cells slots Q (F0 m (pc + 1) ls rest)) : W p l e R s m args below meth c H locs cells slots Q (F0 m pc ls (.int x :: .int i :: .ref a :: rest)) := by
  obtain ⟨q0, he0⟩ := pl_in (f := cE cs E d) ho.1
  have he := he0
  rw [cE_i ho (by decide) (by decide)] at he
  exact va_zast S.1 S.2.1 hw.1 hw.2.1 hw.2.2.1 hw.2.2.2.1 q0 3 he rfl hin hdg (fun H1 locs1 hP hD hS => kk H1 locs1 (Wd_sA hw ho (by decide) (by decide) he0 (sA_upd d a _ _) hP hS))
theorem r_bast (S : CallFix p m c cc nL s args Ts own) (hw : Wd D cs A H0 s E d H locs) (ho : okA E a 12) {i x : Int32} (hin : vp_in i (eN E a)) (hdg : decode cc pc = .ok (.bastore, 1))
    (kk : ∀ (H1 : Heap) (locs1 : List Loc), Wd D cs A H0 s E (pA d a i.toNatClampNeg (vp_nar .byte x)) H1 locs1 → W p l e R s m args below meth c H1 locs1 cells slots Q (F0 m (pc + 1) ls rest)) : W p l e R s m args below meth c H locs cells slots Q (F0 m pc ls (.int x :: .int i :: .ref a :: rest)) := by
  obtain ⟨q0, he0⟩ := pl_in (f := cE cs E d) ho.1
  have he := he0
  rw [cE_i ho (by decide) (by decide)] at he
  exact va_bast S.1 S.2.1 hw.1 hw.2.1 hw.2.2.1 hw.2.2.2.1 q0 0 he rfl hin hdg (fun H1 locs1 hP hD hS => kk H1 locs1 (Wd_sA hw ho (by decide) (by decide) he0 (sA_upd d a _ _) hP hS))
theorem r_last (S : CallFix p m c cc nL s args Ts own) (hw : Wd D cs A H0 s E d H locs) (ho : okA E a 14) {i : Int32} {x : Int64} (hin : vp_in i (eN E a)) (hdg : decode cc pc = .ok (.lastore, 1))
    (kk : ∀ (H1 : Heap) (locs1 : List Loc), Wd D cs A H0 s E (pJ d a i.toNatClampNeg x) H1 locs1 → W p l e R s m args below meth c H1 locs1 cells slots Q (F0 m (pc + 1) ls rest)) : W p l e R s m args below meth c H locs cells slots Q (F0 m pc ls (.long x :: .int i :: .ref a :: rest)) := by
  obtain ⟨q0, he0⟩ := pl_in (f := cE cs E d) ho.1
  have he := he0
  rw [cE_j ho] at he
  refine va_last S.1 S.2.1 hw.1 hw.2.1 hw.2.2.1 hw.2.2.2.1 q0 2 he rfl hin hdg (fun H1 locs1 hP hD hS => ?_)
  rw [pl_set hw.2.2.1 ho.1 he0 (cE_sJ ho), sJ_upd] at hP
  exact kk H1 locs1 ⟨hw.1, hP, pl_D hw.2.2.1, hS, hw.2.2.2.2⟩
/-- the ends -/
theorem e_I {K : Int32 → Dy → Prop} {sz : Nat} {v : Int32} (S : CallFix p m c cc nL s args Ts own) (hr : meth.sig.returnType = some .int) (hlocks : meth.locks = false) (hw : Wd D cs (AW E sz) s.heap s E d H locs) (hk : K v d) (hdg : decode cc pc = .ok (.ireturn, 1)) :
    W p l e R s m args below meth c H locs cells slots (MQ below (va_Qi K (OutW D cs E (AW E sz)) (AW E sz)) args s cells slots (AW E sz)) (F0 m pc ls [.int v]) :=
  W.iret S.1 S.2.1 hr (fun t ht hW => ⟨⟨v, d, rfl, hk, by rw [ht]; exact hw.2.1, va_K.moved hW.alike hw.1, hw.2.2.1⟩, hw.2.2.2.1.F ht⟩) hw.2.2.2.1.2.2 hdg
theorem e_Z {K : Int32 → Dy → Prop} {sz : Nat} {v : Int32} (S : CallFix p m c cc nL s args Ts own) (hr : meth.sig.returnType = some .boolean) (hlocks : meth.locks = false) (hw : Wd D cs (AW E sz) s.heap s E d H locs) (hv : v = 0 ∨ v = 1) (hk : K v d) (hdg : decode cc pc = .ok (.ireturn, 1)) :
    W p l e R s m args below meth c H locs cells slots (MQ below (va_Qi K (OutW D cs E (AW E sz)) (AW E sz)) args s cells slots (AW E sz)) (F0 m pc ls [.int v]) :=
  W.zret S.1 S.2.1 hr (by rcases hv with h | h <;> subst h <;> decide) (fun t ht hW => ⟨⟨v, d, rfl, hk, by rw [ht]; exact hw.2.1, va_K.moved hW.alike hw.1, hw.2.2.1⟩, hw.2.2.2.1.F ht⟩) hw.2.2.2.1.2.2 hdg
theorem e_J {K : Int64 → Dy → Prop} {sz : Nat} {v : Int64} (S : CallFix p m c cc nL s args Ts own) (hr : meth.sig.returnType = some .long) (hlocks : meth.locks = false) (hw : Wd D cs (AW E sz) s.heap s E d H locs) (hk : K v d) (hdg : decode cc pc = .ok (.lreturn, 1)) :
    W p l e R s m args below meth c H locs cells slots (MQ below (va_Ql K (OutW D cs E (AW E sz)) (AW E sz)) args s cells slots (AW E sz)) (F0 m pc ls [.long v]) :=
  W.lret S.1 S.2.1 hr (fun t ht hW => ⟨⟨v, d, rfl, hk, by rw [ht]; exact hw.2.1, va_K.moved hW.alike hw.1, hw.2.2.1⟩, hw.2.2.2.1.F ht⟩) hw.2.2.2.1.2.2 hdg
theorem e_V {K : Dy → Prop} {sz : Nat} (S : CallFix p m c cc nL s args Ts own) (hr : meth.sig.returnType = none) (hlocks : meth.locks = false) (hw : Wd D cs (AW E sz) s.heap s E d H locs) (hk : K d) (hdg : decode cc pc = .ok (.return_, 1)) :
    W p l e R s m args below meth c H locs cells slots (MQ below (va_Qv K (OutW D cs E (AW E sz)) (AW E sz)) args s cells slots (AW E sz)) (F0 m pc ls []) :=
  W.vret S.1 S.2.1 hr (fun t ht hW => ⟨⟨d, rfl, hk, by rw [ht]; exact hw.2.1, va_K.moved hW.alike hw.1, hw.2.2.1⟩, hw.2.2.2.1.F ht⟩) hw.2.2.2.1.2.2 hdg
/-- calls -/
theorem Wd_A (hw : Wd D cs A H0 s E d H locs) : ∀ q, AW E H.size q → A q := fun q h => h.elim (fun h => pl_mem hw.2.2.1 h) (fun h => hw.2.2.2.2.1 q (Nat.le_trans hw.2.2.2.1.1 h))
theorem Wd_G (hw : Wd D cs A H0 s E d H locs) {U : State} (hU : U.heap = H) (hW : s.WarmedH U.vm) : Gx cs (AW E H.size) U U.heap := by
  have hA := Wd_A hw
  obtain ⟨-, -, -, hS, -, h0, hG⟩ := hw
  subst h0
  exact Gx_enter hG hS hA hU hW
theorem Wd_In (hw : Wd D cs A H0 s E d H locs) {U : State} (hU : U.heap = H) (hW : s.WarmedH U.vm) : InW D cs E d H.size U := ⟨by rw [hU], va_K.moved hW.alike hw.1, by rw [hU]; exact hw.2.1, pl_self hw.2.2.1 (fun _ _ => trivial), Wd_G hw hU hW⟩
theorem Wd_Out (hw : Wd D cs A H0 s E d H locs) {t : State} {H1 : Heap} {locs1 : List Loc} {d' : Dy} {A1 : Nat → Prop} (ht : t.heap = H1) (hB : OutW D cs E A1 d' t) (hS : va_S A H0 H1 locs1) : Wd D cs A H0 s E d' H1 locs1 := ⟨hw.1, by rw [← ht]; exact hB.1, pl_D hw.2.2.1, hS, hw.2.2.2.2⟩
variable {y : MethodName} {bytes : ByteArray} {maxL mc ms n index : Nat} {ret : Option FieldType} {ws : List Cond} {rm : Room} {As : List Value} {wp : Prop} {st0 : List Value}
theorem r_recv (hw : Wd D cs A H0 s E d H locs) {ci : Nat} {q : vw_C} (hc : vwCl[ci]? = some q) (ho : okO E b ci) : ∃ cell : Cell, H[b]? = some cell ∧ cell.vm.isStatics = false ∧ s.vm.findClass q.1 = some cell.cls := by
  obtain ⟨q0, he⟩ := pl_in (f := cE cs E d) ho.1
  rw [cE_o ho] at he
  exact va_recv hw.1 hw.2.1 hc he
/-- what a virtual call asks, whatever it answers -/
theorem r_runV {Qc : Array Value → State → Outcome → State → Prop} {free : Addr → Prop} (S : CallFix p m c cc nL s args Ts own) (hw : Wd D cs A H0 s E d H locs) (hM : Met l y ws rm (PcM D cs E d H.size (.ref b :: As) wp) Qc mc ms free) {ci : Nat} {q : vw_C} (cw : CallW R s args own q.1 index y bytes maxL ret ws rm mc ms n) (hc : vwCl[ci]? = some q) (ho : okO E b ci) (hwp : wp)
    (hn : As.length = n) (hsize : ls.size = nL) (hst : st0 = As.reverse ++ .ref b :: rest) (hW : (rest.map fun v => v.category).sum ≤ 8) (hdg : decode cc pc = .ok (.invokevirtual index, 3)) (hf : cells + mc ≤ R.cells ∧ slots + ms ≤ R.slots) :
    va_Run p l e R s m args below meth c H locs cells slots mc ms (F0 m pc ls st0) rest (Qc (Value.ref b :: As).toArray) free :=
  va_runV S hM cw ⟨PcM_blind, r_recv hw hc ho, fun U hU hW => ⟨rfl, Wd_In hw hU hW, hwp⟩⟩ rfl hn hsize hst (lv_room (rest := []) (m := m) (pc := pc) (ls := ls) hW) hdg hf
theorem r_runS {Qc : Array Value → State → Outcome → State → Prop} {free : Addr → Prop} (S : CallFix p m c cc nL s args Ts own) (hw : Wd D cs A H0 s E d H locs) (hM : Met l y ws rm (PcM D cs E d H.size As wp) Qc mc ms free) (cw : CallB R s args own index y bytes maxL ret ws rm mc ms n ∧ (Cond.static y).before args s = true) (hwp : wp)
    (hn : As.length = n) (hsize : ls.size = nL) (hst : st0 = As.reverse ++ rest) (hW : (rest.map fun v => v.category).sum ≤ 8) (hdg : decode cc pc = .ok (.invokestatic index, 3)) (hf : cells + mc ≤ R.cells ∧ slots + ms ≤ R.slots) :
    va_Run p l e R s m args below meth c H locs cells slots mc ms (F0 m pc ls st0) rest (Qc As.toArray) free :=
  va_runS S hM cw ⟨PcM_blind, fun U hU hW => ⟨rfl, Wd_In hw hU hW, hwp⟩⟩ rfl hn hsize hst (lv_room (rest := []) (m := m) (pc := pc) (ls := ls) hW) hdg hf
variable {av : Array Value}
theorem r_callI {K : Int32 → Dy → Prop} (hw : Wd D cs A H0 s E d H locs) (hr : va_Run p l e R s m args below meth c H locs cells slots mc ms (F0 m pc ls st0) rest (va_Qi K (OutW D cs E (AW E H.size)) (AW E H.size) av) (AW E H.size))
    (kk : ∀ (r : Int32) (d' : Dy) (H1 : Heap) (locs1 : List Loc), K r d' → Wd D cs A H0 s E d' H1 locs1 → W p l e R s m args below meth c H1 locs1 (cells + mc) (slots + ms) Q (F0 m (pc + 3) ls (.int r :: rest))) : W p l e R s m args below meth c H locs cells slots Q (F0 m pc ls st0) :=
  va_calli hr hw.2.2.2.1 (fun q _ h => Wd_A hw q h) (Wd_A hw) (fun r u t H1 locs1 ht _ hK hB _ _ hS => kk r u H1 locs1 hK (Wd_Out hw ht hB hS))
theorem r_callJ {K : Int64 → Dy → Prop} (hw : Wd D cs A H0 s E d H locs) (hr : va_Run p l e R s m args below meth c H locs cells slots mc ms (F0 m pc ls st0) rest (va_Ql K (OutW D cs E (AW E H.size)) (AW E H.size) av) (AW E H.size))
    (kk : ∀ (r : Int64) (d' : Dy) (H1 : Heap) (locs1 : List Loc), K r d' → Wd D cs A H0 s E d' H1 locs1 → W p l e R s m args below meth c H1 locs1 (cells + mc) (slots + ms) Q (F0 m (pc + 3) ls (.long r :: rest))) : W p l e R s m args below meth c H locs cells slots Q (F0 m pc ls st0) :=
  va_calll hr hw.2.2.2.1 (fun q _ h => Wd_A hw q h) (Wd_A hw) (fun r u t H1 locs1 ht _ hK hB _ _ hS => kk r u H1 locs1 hK (Wd_Out hw ht hB hS))
theorem r_callV {K : Dy → Prop} (hw : Wd D cs A H0 s E d H locs) (hr : va_Run p l e R s m args below meth c H locs cells slots mc ms (F0 m pc ls st0) rest (va_Qv K (OutW D cs E (AW E H.size)) (AW E H.size) av) (AW E H.size))
    (kk : ∀ (d' : Dy) (H1 : Heap) (locs1 : List Loc), K d' → Wd D cs A H0 s E d' H1 locs1 → W p l e R s m args below meth c H1 locs1 (cells + mc) (slots + ms) Q (F0 m (pc + 3) ls rest)) : W p l e R s m args below meth c H locs cells slots Q (F0 m pc ls st0) :=
  va_callv hr hw.2.2.2.1 (fun q _ h => Wd_A hw q h) (Wd_A hw) (fun u t H1 locs1 ht _ hK hB _ _ hS => kk u H1 locs1 hK (Wd_Out hw ht hB hS))
theorem r_callQ {K : Option Nat → Dy → Prop} (hw : Wd D cs A H0 s E d H locs) (hr : va_Run p l e R s m args below meth c H locs cells slots mc ms (F0 m pc ls st0) rest (va_Qq K (OutW D cs E (AW E H.size)) (AW E H.size) av) (AW E H.size))
    (kk : ∀ (r : Option Nat) (d' : Dy) (H1 : Heap) (locs1 : List Loc), K r d' → Wd D cs A H0 s E d' H1 locs1 → W p l e R s m args below meth c H1 locs1 (cells + mc) (slots + ms) Q (F0 m (pc + 3) ls (va_rf r :: rest))) : W p l e R s m args below meth c H locs cells slots Q (F0 m pc ls st0) :=
  va_callq hr hw.2.2.2.1 (fun q _ h => Wd_A hw q h) (Wd_A hw) (fun r u t H1 locs1 ht _ hK hB _ _ hS => kk r u H1 locs1 hK (Wd_Out hw ht hB hS))
/-- fields of nest mates -/
theorem r_nx (hw : Wd D cs A H0 s E d H locs) {w : Cond} (h : w ∈ nxW) (ho : w.onTables = true) : w.before args s = true := va_Nw.use ho (hw.2.2.2.2.2.2.1 w h)
theorem r_getIN (S : CallFix p m c cc nL s args Ts own) (hw : Wd D cs A H0 s E d H locs) (ci k : Nat) {index : Nat} {C host : String} {T : u_T} {N : Nat} (hc : vwCl[ci]? = some (C, T, N)) (hin : ∀ w ∈ u_ws C T N, w ∈ Ts) (hk : k < N) (hlink : Cond.fieldLinkNest own index (T k).1 (T k).2.1 (T k).2.2.1 host ∈ nxW) (hf : (fK ci)[k]? = some false) (ho : okO E a ci) (hdg : decode cc pc = .ok (.getfield index, 3))
    (kk : W p l e R s m args below meth c H locs cells slots Q (F0 m (pc + 3) ls (.int (gI d a k) :: rest))) : W p l e R s m args below meth c H locs cells slots Q (F0 m pc ls (.ref a :: rest)) := by
  obtain ⟨q0, he⟩ := pl_in (f := cE cs E d) ho.1
  rw [cE_o ho] at he
  exact va_getN S.1 S.2.1 S.2.2.2.2 hin S.2.2.2.1 hw.1 hw.2.1 q0 he hc k hk (r_nx hw hlink rfl) (fun _ h => h) (fO_int hf) hdg kk
theorem r_getRN (S : CallFix p m c cc nL s args Ts own) (hw : Wd D cs A H0 s E d H locs) (ci k : Nat) {index : Nat} {C host : String} {T : u_T} {N : Nat} (hc : vwCl[ci]? = some (C, T, N)) (hin : ∀ w ∈ u_ws C T N, w ∈ Ts) (hk : k < N) (hlink : Cond.fieldLinkNest own index (T k).1 (T k).2.1 (T k).2.2.1 host ∈ nxW) (hf : (fK ci)[k]? = some true) (ho : okO E a ci) (hr : eR E a k = some b) (hdg : decode cc pc = .ok (.getfield index, 3))
    (kk : W p l e R s m args below meth c H locs cells slots Q (F0 m (pc + 3) ls (.ref b :: rest))) : W p l e R s m args below meth c H locs cells slots Q (F0 m pc ls (.ref a :: rest)) := by
  obtain ⟨q0, he⟩ := pl_in (f := cE cs E d) ho.1
  rw [cE_o ho] at he
  exact va_getN S.1 S.2.1 S.2.2.2.2 hin S.2.2.2.1 hw.1 hw.2.1 q0 he hc k hk (r_nx hw hlink rfl) (fun _ h => h) (v := .ref b) (by rw [fO_ref hf, hr]; rfl) hdg kk
theorem r_putIN (S : CallFix p m c cc nL s args Ts own) (hw : Wd D cs A H0 s E d H locs) (ci k : Nat) {index : Nat} {C host : String} {T : u_T} {N : Nat} (hc : vwCl[ci]? = some (C, T, N)) (hin : ∀ w ∈ u_ws C T N, w ∈ Ts) (ty0 : Nat → FieldType) (hty : ∀ k, k < N → parseFieldDescriptor (T k).2.2.1 = some (ty0 k)) (hnm : ∀ a, a < N → ∀ b, b < N → a ≠ b → (T a).2.1 ≠ (T b).2.1) (hk : k < N) (hlink : Cond.fieldLinkNest own index (T k).1 (T k).2.1 (T k).2.2.1 host ∈ nxW) (hf : (fK ci)[k]? = some false) (hfin : (T k).2.2.2 = false) {ty : FieldType} {v : Int32} (hd : parseFieldDescriptor (T k).2.2.1 = some ty) (hn : narrow ty (.int v) = .int v) (hfit : fits ty (.int v) = true) (ho : okO E a ci) (hdg : decode cc pc = .ok (.putfield index, 3))
    (kk : ∀ (H1 : Heap) (locs1 : List Loc), Wd D cs A H0 s E (pI d a k v) H1 locs1 → W p l e R s m args below meth c H1 locs1 cells slots Q (F0 m (pc + 3) ls rest)) : W p l e R s m args below meth c H locs cells slots Q (F0 m pc ls (.int v :: .ref a :: rest)) := by
  obtain ⟨q0, he0⟩ := pl_in (f := cE cs E d) ho.1
  have he := he0
  rw [cE_o ho] at he
  refine va_putN S.1 S.2.1 S.2.2.2.2 hin ty0 hty hnm S.2.2.2.1 hw.1 hw.2.1 hw.2.2.1 hw.2.2.2.1 q0 he hc k hk (r_nx hw hlink rfl) (fun _ h => h) hfin hd hn hfit (by rw [fO_len]; exact (List.getElem?_eq_some_iff.mp hf).1) hdg (fun H1 locs1 hP hD hS => ?_)
  rw [pl_set hw.2.2.1 ho.1 he0 (cE_pI (k := k) (v := v) ho hf)] at hP hD
  exact kk H1 locs1 ⟨hw.1, hP, hD, hS, hw.2.2.2.2⟩
/-- rows of references: a Text is put in -/
theorem sQ_upd (d : Dy) (a i : Nat) (v : Option Nat) : (d.1, d.2.1, d.2.2.1, va_up d.2.2.2 a (va_up (gQ d a) i v)) = pQ d a i v := by
  simp only [pQ, gQ]
  congr 3
  funext b j
  by_cases hb : b = a
  · subst hb; simp [va_up, u2]
  · simp [va_up, u2, hb]
/-- a reference's load and store, be it null or not -/
theorem lv_aload_nQ (hexec : p.tables.exec = Jvm.exec) (hb : c.code = cc) {k : Fin 4} {i : Nat} {x : Option Nat} (hdg : decode cc pc = .ok (.aload_n k, 1)) (hi : (k : Nat) = i) (hl : ls[i]? = some (.val (va_rf x)))
    (kk : W p l e R s m args below meth c H locs cells slots Q (F0 m (pc + 1) ls (va_rf x :: rest))) : W p l e R s m args below meth c H locs cells slots Q (F0 m pc ls rest) := by
  cases x with
  | none => exact lv_aload_nN hexec hb hdg hi hl kk
  | some x => exact lv_aload_n hexec hb hdg hi hl kk
theorem lv_aloadQ (hexec : p.tables.exec = Jvm.exec) (hb : c.code = cc) {i : Nat} {x : Option Nat} (hdg : decode cc pc = .ok (.aload i, 2)) (hl : ls[i]? = some (.val (va_rf x)))
    (kk : W p l e R s m args below meth c H locs cells slots Q (F0 m (pc + 2) ls (va_rf x :: rest))) : W p l e R s m args below meth c H locs cells slots Q (F0 m pc ls rest) := by
  cases x with
  | none => exact lv_aloadN hexec hb hdg hl kk
  | some x => exact lv_aload hexec hb hdg hl kk
theorem lv_astore_nQ (hexec : p.tables.exec = Jvm.exec) (hb : c.code = cc) {k : Fin 4} {i nL : Nat} {x : Option Nat} {lv lv' : List (Nat × Value)} (hdg : decode cc pc = .ok (.astore_n k, 1)) (hi : (k : Nat) = i) (h : lv_has ls nL lv) (hn : i < nL) (hl : (i, va_rf x) :: lv.filter (fun q => !(q.1 == i) && !(q.1 + 1 == i && q.2.category == 2)) = lv')
    (kk : ∀ ls : Array Slot, lv_has ls nL lv' → W p l e R s m args below meth c H locs cells slots Q (F0 m (pc + 1) ls rest)) : W p l e R s m args below meth c H locs cells slots Q (F0 m pc ls (va_rf x :: rest)) := by
  cases x with
  | none => exact lv_astore_nN hexec hb hdg hi h hn hl kk
  | some x => exact lv_astore_n hexec hb hdg hi h hn hl kk
theorem lv_astoreQ (hexec : p.tables.exec = Jvm.exec) (hb : c.code = cc) {i nL : Nat} {x : Option Nat} {lv lv' : List (Nat × Value)} (hdg : decode cc pc = .ok (.astore i, 2)) (h : lv_has ls nL lv) (hn : i < nL) (hl : (i, va_rf x) :: lv.filter (fun q => !(q.1 == i) && !(q.1 + 1 == i && q.2.category == 2)) = lv')
    (kk : ∀ ls : Array Slot, lv_has ls nL lv' → W p l e R s m args below meth c H locs cells slots Q (F0 m (pc + 2) ls rest)) : W p l e R s m args below meth c H locs cells slots Q (F0 m pc ls (va_rf x :: rest)) := by
  cases x with
  | none => exact lv_astoreN hexec hb hdg h hn hl kk
  | some x => exact lv_astore hexec hb hdg h hn hl kk
end
