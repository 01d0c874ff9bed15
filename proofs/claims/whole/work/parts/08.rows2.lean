section
variable {p : Program} {l : Launch} {e : Env} {R : Room} {s : State} {m : MethodId} {args : Array Value} {below : List Frame} {meth : Method} {c : Code} {H : Heap} {locs : List Loc} {cells slots : Nat} {Q : State → Prop}
variable {cc : ByteArray} {nL : Nat} {Ts : List Cond} {own : String} {D : va_G} {cs : Nat → ClassId} {A : Nat → Prop} {H0 : Heap} {E : En} {d : Dy} {pc : Nat} {ls : Array Slot} {rest : List Value} {a b : Nat}
theorem e_Q {K : Option Nat → Dy → Prop} {sz : Nat} {v : Option Nat} {C : String} (S : CallFix p m c cc nL s args Ts own) (hr : meth.sig.returnType = some (.object C)) (hlocks : meth.locks = false) (hw : Wd D cs (AW E sz) s.heap s E d H locs) (hk : K v d) (hdg : decode cc pc = .ok (.areturn, 1)) :
    W p l e R s m args below meth c H locs cells slots (MQ below (va_Qq K (OutW D cs E (AW E sz)) (AW E sz)) args s cells slots (AW E sz)) (F0 m pc ls [va_rf v]) :=
  W.aret S.1 S.2.1 hr (Or.inl ⟨_, rfl⟩) (by cases v with | none => exact Or.inl rfl | some x => exact Or.inr ⟨x, rfl⟩) (fun t ht hW => ⟨⟨v, d, rfl, hk, by rw [ht]; exact hw.2.1, va_K.moved hW.alike hw.1, hw.2.2.1⟩, hw.2.2.2.1.F ht⟩) hw.2.2.2.1.2.2 hdg
theorem r_aast (S : CallFix p m c cc nL s args Ts own) (hw : Wd D cs A H0 s E d H locs) (ho : okA E a 16) {i : Int32} {x : Option Nat} (hx : ∀ b, x = some b → okO E b 7) (hin : vp_in i (eN E a)) (hdg : decode cc pc = .ok (.aastore, 1))
    (kk : ∀ (H1 : Heap) (locs1 : List Loc), Wd D cs A H0 s E (pQ d a i.toNatClampNeg x) H1 locs1 → W p l e R s m args below meth c H1 locs1 cells slots Q (F0 m (pc + 1) ls rest)) : W p l e R s m args below meth c H locs cells slots Q (F0 m pc ls (va_rf x :: .int i :: .ref a :: rest)) := by
  obtain ⟨q0, he0⟩ := pl_in (f := cE cs E d) ho.1
  have he := he0
  rw [cE_q ho] at he
  cases x with
  | none =>
    refine va_astqN S.1 S.2.1 hw.1 hw.2.1 hw.2.2.1 hw.2.2.2.1 q0 4 he rfl hin hdg (fun H1 locs1 hP hD hS => ?_)
    rw [pl_set hw.2.2.1 ho.1 he0 (cE_sQ ho), sQ_upd] at hP
    exact kk H1 locs1 ⟨hw.1, hP, pl_D hw.2.2.1, hS, hw.2.2.2.2⟩
  | some b =>
    have hb := hx b rfl
    obtain ⟨qk, hk0⟩ := pl_in (f := cE cs E d) hb.1
    rw [cE_o hb] at hk0
    refine va_astq S.1 S.2.1 hw.1 hw.2.1 hw.2.2.1 hw.2.2.2.1 q0 4 qk 7 (r := (RX7, TX7, 2)) he rfl hk0 rfl hin hdg (fun H1 locs1 hP hD hS => ?_)
    rw [pl_set hw.2.2.1 ho.1 he0 (cE_sQ ho), sQ_upd] at hP
    exact kk H1 locs1 ⟨hw.1, hP, pl_D hw.2.2.1, hS, hw.2.2.2.2⟩
theorem r_copyi (S : CallFix p m c cc nL s args Ts own) (hw : Wd D cs A H0 s E d H locs) (hsz : ls.size = nL) {index : Nat} (hlink : Cond.methodLink own index arraycopyName ∈ Ts) (hnat : Cond.native arraycopyName ∈ Ts) (hstat : Cond.static arraycopyName ∈ Ts) (hini : Cond.initialized "java/lang/System" ∈ Ts) {a0 : Nat} (ho0 : okA E a0 13) (ho : okA E a 13)
    {sp dp n : Int32} (h1 : ¬ sp < 0) (h2 : ¬ dp < 0) (h3 : ¬ n < 0) (h4 : sp.toNatClampNeg + n.toNatClampNeg ≤ eN E a0) (h5 : dp.toNatClampNeg + n.toNatClampNeg ≤ eN E a)
    (hframes : 1 ≤ R.frames) (hlocals : (rest.map fun v => v.category).sum + (nativeFrameWords "java/lang/System" "arraycopy" 5 + 11) ≤ R.locals) (hdg : decode cc pc = .ok (.invokestatic index, 3))
    (kk : ∀ (H1 : Heap) (locs1 : List Loc), Wd D cs A H0 s E (sA d a (va_cpy (gA d a0) (gA d a) sp.toNatClampNeg dp.toNatClampNeg n.toNatClampNeg)) H1 locs1 → W p l e R s m args below meth c H1 locs1 cells slots Q (F0 m (pc + 3) ls rest)) : W p l e R s m args below meth c H locs cells slots Q (F0 m pc ls (.int n :: .int dp :: .ref a :: .int sp :: .ref a0 :: rest)) := by
  obtain ⟨q0, he0⟩ := pl_in (f := cE cs E d) ho0.1
  rw [cE_i ho0 (by decide) (by decide)] at he0
  obtain ⟨q1, he1⟩ := pl_in (f := cE cs E d) ho.1
  have he := he1
  rw [cE_i ho (by decide) (by decide)] at he
  exact va_copyi S.1 S.2.1 (by rw [hsz]; exact S.2.2.1) S.2.2.2.1 (S.2.2.2.2 _ hlink) (S.2.2.2.2 _ hnat) (S.2.2.2.2 _ hstat) (S.2.2.2.2 _ hini) hw.1 hw.2.1 hw.2.2.1 hw.2.2.2.1 q0 q1 1 1 (ty := .int) he0 he rfl rfl rfl h1 h2 h3 h4 h5 (fun _ _ => rfl) hframes hlocals hdg
    (fun H1 locs1 hP hD hS => kk H1 locs1 (Wd_sA hw ho (by decide) (by decide) he1 rfl hP hS))
theorem r_alenJ (S : CallFix p m c cc nL s args Ts own) (hw : Wd D cs A H0 s E d H locs) (ho : okA E a 14) (hdg : decode cc pc = .ok (.arraylength, 1))
    (kk : W p l e R s m args below meth c H locs cells slots Q (F0 m (pc + 1) ls (.int (nI (eN E a)) :: rest))) : W p l e R s m args below meth c H locs cells slots Q (F0 m pc ls (.ref a :: rest)) := by
  obtain ⟨q0, he⟩ := pl_in (f := cE cs E d) ho.1
  rw [cE_j ho] at he
  exact va_alen S.1 S.2.1 hw.1 hw.2.1 q0 2 he rfl rfl hdg kk
/-- the row FACTS_OF_SORT -/
theorem r_gets (S : CallFix p m c cc nL s args Ts own) (hw : Wd D cs A s.heap s E d H locs) {index : Nat} {host : String} (hlink : Cond.fieldLinkNest own index "HutRow" "FACTS_OF_SORT" "[I" host ∈ nxW) (hdg : decode cc pc = .ok (.getstatic index, 3))
    (kk : W p l e R s m args below meth c H locs cells slots Q (F0 m (pc + 3) ls (.ref (cs 99) :: rest))) : W p l e R s m args below meth c H locs cells slots Q (F0 m pc ls rest) :=
  va_getsN S.1 S.2.1 hw.2.2.2.2.2.2.2.2.2.1.1 hw.2.2.2.1 S.2.2.2.1 (r_nx hw hlink rfl) (fun _ h => h) hdg kk
theorem r_getsl (S : CallFix p m c cc nL s args Ts own) (hw : Wd D cs A s.heap s E d H locs) (hdg : decode cc pc = .ok (.arraylength, 1))
    (kk : W p l e R s m args below meth c H locs cells slots Q (F0 m (pc + 1) ls (.int 4 :: rest))) : W p l e R s m args below meth c H locs cells slots Q (F0 m pc ls (.ref (cs 99) :: rest)) :=
  va_tlen S.1 S.2.1 hw.2.2.2.2.2.2.2.2.2.1.2.1 hw.2.2.2.1 rfl hdg kk
theorem r_getsi (S : CallFix p m c cc nL s args Ts own) (hw : Wd D cs A s.heap s E d H locs) {i : Int32} (hin : vp_in i 4) (hdg : decode cc pc = .ok (.iaload, 1))
    (kk : W p l e R s m args below meth c H locs cells slots Q (F0 m (pc + 1) ls (.int (fosV.getD i.toNatClampNeg 0) :: rest))) : W p l e R s m args below meth c H locs cells slots Q (F0 m pc ls (.int i :: .ref (cs 99) :: rest)) :=
  va_ti S.1 S.2.1 hw.2.2.2.2.2.2.2.2.2.1.2.1 hw.2.2.2.1 hin rfl hdg kk
/-- throws -/
theorem va_P_kept {D : va_G} {cl : List vw_C} {ws : va_W} {H H1 : Heap} (h : va_P D cl ws H) (hq : ∀ q : Nat, q < H.size → H1[q]? = H[q]?) : va_P D cl ws H1 := h.kept (fun k x hx => hq x.1 (h k x hx).lt)
def xnm : List String := ["java/lang/RuntimeException", "java/lang/Exception"]
theorem r_throw {Qc : Array Value → State → Outcome → State → Prop} {X : String → Dy → Prop} {T0 : Cond} {sz mc ms ik ic : Nat} {cls : String} (hst : l.stackTraces = false) (S : CallFix p m c cc nL s args (T0 :: wsL_law) own) (hT : ∀ x ∈ c.exceptionTable.toList, False) (hlocks : meth.locks = false) (hw : Wd D cs (AW E sz) s.heap s E d H locs)
    (hk : Cond.classLink own ik cls ∈ wsL_law) (hini : Cond.initialized cls ∈ wsL_law) (hat : ∀ w ∈ (vx_at0 own ic cls xnm).filter goodWord, w ∈ wsL_law) (hng : ∀ w ∈ (vx_at0 own ic cls xnm).filter (fun w => !goodWord w), w ∈ nxW) (hfit : Bundle.fit cls = true)
    (hgood : ∀ w ∈ Cond.classLink own ik cls :: Cond.initialized cls :: vx_at0 own ic cls xnm, vx_ot w = true) (hsize : ls.size = nL)
    (d0 : decode cc pc = .ok (.new ik, 3)) (d3 : decode cc (pc + 3) = .ok (.dup, 1)) (d4 : decode cc (pc + 4) = .ok (.invokespecial ic, 3)) (d7 : decode cc (pc + 7) = .ok (.athrow, 1))
    (hRframes : 5 < R.frames) (hRlocals : (rest.map fun v => v.category).sum + 81 ≤ R.locals) (hRcells : cells + 1 ≤ R.cells) (hRslots : slots + 6 ≤ R.slots) (hX : X cls d) (hc : cells + 1 ≤ mc) (hs : slots + 6 ≤ ms) :
    W p l e R s m args below meth c H locs cells slots (vx_MQ below Qc (XX D cs E sz X) args s mc ms (AW E sz)) (F0 m pc ls rest) := by
  have hG := hw.2.2.2.2.2.2
  refine vx_throw0 (names := xnm) (A := AW E sz) S.1 S.2.1 hst S.2.2.2.1 hfit (by decide) (S.2.2.2.2 _ (List.mem_cons_of_mem _ hk)) (S.2.2.2.2 _ (List.mem_cons_of_mem _ hini))
    (vx_hat (B := nxW) (fun w h => S.2.2.2.2 _ (List.mem_cons_of_mem _ (hat w h))) hng (fun w h => va_Nw.use ?_ (hG.1 w h))) hgood hG.2.1 hG.2.2.1 hw.2.2.2.1 (by rw [hsize]; exact S.2.2.1.symm) d0 d3 d4 d7 (fun x hx => absurd (hT x hx) id) hRframes hRlocals hRcells hRslots hlocks (fun t ha hz hq => ?_) hw.2.2.2.1.2.2 hc hs
  · have key : ∀ l : List Cond, (∀ w ∈ l, w.onTables = true) → ∀ w ∈ l, w.onTables = true := fun l q => q
    exact key nxW (by decide +kernel) w h
  · refine ⟨d, trivial, ⟨hX, va_P_kept hw.2.1 hq, va_K.moved ha hw.1, hw.2.2.1⟩, Nat.le_trans hw.2.2.2.1.1 hz, fun q h1 h2 => ?_⟩
    rw [hq q (Nat.lt_of_lt_of_le h1 hw.2.2.2.1.1)]
    exact hw.2.2.2.1.2.1 q h1 h2
variable {y : MethodName} {bytes : ByteArray} {maxL mc ms n index : Nat} {ret : Option FieldType} {ws : List Cond} {rm : Room} {As : List Value} {wp : Prop} {st0 : List Value}
theorem r_xrunV {Qc : Array Value → State → Outcome → State → Prop} {XC : String → State → State → Prop} {free : Addr → Prop} (S : CallFix p m c cc nL s args Ts own) (hw : Wd D cs A H0 s E d H locs) (hM : vx_Met l y ws rm (PcM D cs E d H.size (.ref b :: As) wp) Qc XC mc ms free) {ci : Nat} {q : vw_C} (cw : CallW R s args own q.1 index y bytes maxL ret ws rm mc ms n) (hc : vwCl[ci]? = some q) (ho : okO E b ci) (hwp : wp)
    (hn : As.length = n) (hsize : ls.size = nL) (hst : st0 = As.reverse ++ .ref b :: rest) (hW : (rest.map fun v => v.category).sum ≤ 8) (hdg : decode cc pc = .ok (.invokevirtual index, 3)) (hf : cells + mc ≤ R.cells ∧ slots + ms ≤ R.slots) :
    vx_Run p l e R s m args below meth c H locs cells slots mc ms (F0 m pc ls st0) rest (Qc (Value.ref b :: As).toArray) XC free :=
  vx_runV S hM cw ⟨PcM_blind, r_recv hw hc ho, fun U hU hW => ⟨rfl, Wd_In hw hU hW, hwp⟩⟩ rfl hn hsize hst (lv_room (rest := []) (m := m) (pc := pc) (ls := ls) hW) hdg hf
theorem r_xrunS {Qc : Array Value → State → Outcome → State → Prop} {XC : String → State → State → Prop} {free : Addr → Prop} (S : CallFix p m c cc nL s args Ts own) (hw : Wd D cs A H0 s E d H locs) (hM : vx_Met l y ws rm (PcM D cs E d H.size As wp) Qc XC mc ms free) (cw : CallB R s args own index y bytes maxL ret ws rm mc ms n ∧ (Cond.static y).before args s = true) (hwp : wp)
    (hn : As.length = n) (hsize : ls.size = nL) (hst : st0 = As.reverse ++ rest) (hW : (rest.map fun v => v.category).sum ≤ 8) (hdg : decode cc pc = .ok (.invokestatic index, 3)) (hf : cells + mc ≤ R.cells ∧ slots + ms ≤ R.slots) :
    vx_Run p l e R s m args below meth c H locs cells slots mc ms (F0 m pc ls st0) rest (Qc As.toArray) XC free :=
  vx_runS S hM cw ⟨PcM_blind, fun U hU hW => ⟨rfl, Wd_In hw hU hW, hwp⟩⟩ rfl hn hsize hst (lv_room (rest := []) (m := m) (pc := pc) (ls := ls) hW) hdg hf
variable {av : Array Value}
theorem r_xgo {Qc : Array Value → State → Outcome → State → Prop} {X : String → Dy → Prop} {sz MC MS : Nat} (hT : ∀ x ∈ c.exceptionTable.toList, False) (hlocks : meth.locks = false) (hw : Wd D cs (AW E sz) s.heap s E d H locs) {H1 : Heap} {locs1 : List Loc} {Ex : String} {ce : Cell} {q9 : Addr} {u : Dy} {t : State} (ht : t.heap = H1) (hB : X Ex u ∧ OutW D cs E (AW E H.size) u t) (hS : va_S (AW E sz) s.heap H1 locs1) (hce : H1[q9]? = some ce) (hv : ce.vm = .none) (hcl : s.vm.findClass Ex = some ce.cls) (hc : cells ≤ MC) (hs : slots ≤ MS) :
    vx_W p l e R s m args below meth c H1 locs1 cells slots (vx_MQ below Qc (XX D cs E sz X) args s MC MS (AW E sz)) (F0 m pc ls rest) q9 :=
  vx_out (fun x hx => absurd (hT x hx) id) hlocks hce hv hcl (fun t' ht' ha => ⟨u, trivial, ⟨hB.1, by rw [ht', ← ht]; exact hB.2.1, va_K.moved ha hw.1, pl_D hw.2.2.1⟩, hS.F ht'⟩) hS.2.2 hc hs
theorem r_xcallI {Qc : Array Value → State → Outcome → State → Prop} {K : Int32 → Dy → Prop} {X : String → Dy → Prop} {sz MC MS : Nat} (hT : ∀ x ∈ c.exceptionTable.toList, False) (hlocks : meth.locks = false) (hw : Wd D cs (AW E sz) s.heap s E d H locs) (hr : vx_Run p l e R s m args below meth c H locs cells slots mc ms (F0 m pc ls st0) rest (va_Qi K (OutW D cs E (AW E H.size)) (AW E H.size) av) (XX D cs E H.size X) (AW E H.size)) (hc : cells + mc ≤ MC) (hs : slots + ms ≤ MS)
    (kk : ∀ (r : Int32) (d' : Dy) (H1 : Heap) (locs1 : List Loc), K r d' → Wd D cs (AW E sz) s.heap s E d' H1 locs1 → W p l e R s m args below meth c H1 locs1 (cells + mc) (slots + ms) (vx_MQ below Qc (XX D cs E sz X) args s MC MS (AW E sz)) (F0 m (pc + 3) ls (.int r :: rest))) : W p l e R s m args below meth c H locs cells slots (vx_MQ below Qc (XX D cs E sz X) args s MC MS (AW E sz)) (F0 m pc ls st0) :=
  vx_calli hr hw.2.2.2.1 (fun q _ h => Wd_A hw q h) (Wd_A hw) (fun q _ h => Wd_A hw q h) (fun Ex ce q9 u t H1 locs1 ht _ _ hB _ _ hS hce hv hcl => r_xgo hT hlocks hw ht hB hS hce hv hcl hc hs) (fun r u t H1 locs1 ht _ hK hB _ _ hS => kk r u H1 locs1 hK (Wd_Out hw ht hB hS))
theorem r_xcallV {Qc : Array Value → State → Outcome → State → Prop} {K : Dy → Prop} {X : String → Dy → Prop} {sz MC MS : Nat} (hT : ∀ x ∈ c.exceptionTable.toList, False) (hlocks : meth.locks = false) (hw : Wd D cs (AW E sz) s.heap s E d H locs) (hr : vx_Run p l e R s m args below meth c H locs cells slots mc ms (F0 m pc ls st0) rest (va_Qv K (OutW D cs E (AW E H.size)) (AW E H.size) av) (XX D cs E H.size X) (AW E H.size)) (hc : cells + mc ≤ MC) (hs : slots + ms ≤ MS)
    (kk : ∀ (d' : Dy) (H1 : Heap) (locs1 : List Loc), K d' → Wd D cs (AW E sz) s.heap s E d' H1 locs1 → W p l e R s m args below meth c H1 locs1 (cells + mc) (slots + ms) (vx_MQ below Qc (XX D cs E sz X) args s MC MS (AW E sz)) (F0 m (pc + 3) ls rest)) : W p l e R s m args below meth c H locs cells slots (vx_MQ below Qc (XX D cs E sz X) args s MC MS (AW E sz)) (F0 m pc ls st0) :=
  vx_callv hr hw.2.2.2.1 (fun q _ h => Wd_A hw q h) (Wd_A hw) (fun q _ h => Wd_A hw q h) (fun Ex ce q9 u t H1 locs1 ht _ _ hB _ _ hS hce hv hcl => r_xgo hT hlocks hw ht hB hS hce hv hcl hc hs) (fun u t H1 locs1 ht _ hK hB _ _ hS => kk u H1 locs1 hK (Wd_Out hw ht hB hS))
end
/-- the words of the four throws of HutRow -/
theorem xa89 : ∀ w ∈ (vx_at0 RX10 89 "java/lang/IllegalArgumentException" xnm).filter goodWord, w ∈ wsL_law := fun _ h => List.mem_append_left _ (List.mem_append_left _ (List.mem_append_left _ (List.mem_append_right _ h)))
theorem xa347 : ∀ w ∈ (vx_at0 RX10 347 "java/lang/UnsupportedOperationException" xnm).filter goodWord, w ∈ wsL_law := fun _ h => List.mem_append_left _ (List.mem_append_left _ (List.mem_append_right _ h))
theorem xa340 : ∀ w ∈ (vx_at0 RX10 340 "java/lang/IndexOutOfBoundsException" xnm).filter goodWord, w ∈ wsL_law := fun _ h => List.mem_append_left _ (List.mem_append_right _ h)
theorem xa210 : ∀ w ∈ (vx_at0 RX10 210 "java/util/NoSuchElementException" xnm).filter goodWord, w ∈ wsL_law := fun _ h => List.mem_append_right _ h
theorem xn89 : ∀ w ∈ (vx_at0 RX10 89 "java/lang/IllegalArgumentException" xnm).filter (fun w => !goodWord w), w ∈ nxW := by decide +kernel
theorem xn347 : ∀ w ∈ (vx_at0 RX10 347 "java/lang/UnsupportedOperationException" xnm).filter (fun w => !goodWord w), w ∈ nxW := by decide +kernel
theorem xn340 : ∀ w ∈ (vx_at0 RX10 340 "java/lang/IndexOutOfBoundsException" xnm).filter (fun w => !goodWord w), w ∈ nxW := by decide +kernel
theorem xn210 : ∀ w ∈ (vx_at0 RX10 210 "java/util/NoSuchElementException" xnm).filter (fun w => !goodWord w), w ∈ nxW := by decide +kernel
theorem rl {a m F : Nat} (h : Nat.ble a F = true) : a ≤ m + F := Nat.le_trans (Nat.le_of_ble_eq_true h) (Nat.le_add_left F m)
/-- of a start that can't be, any contract -/
theorem e_false {l : Launch} {y : MethodName} {ws ws' : List Cond} {rm : Room} {D : va_G} {cs : Nat → ClassId} {E : En} {d : Dy} {sz : Nat} {av : List Value} {cc : ByteArray} {maxL : Nat} {ret : Option FieldType} {Qc : Array Value → State → Outcome → State → Prop} {mc ms : Nat} {free : Addr → Prop} (hy : plainName y.cls = true) (hw : ws = Cond.code y cc maxL ret :: ws') : Met l y ws rm (PcM D cs E d sz av False) Qc mc ms free :=
  Met.ofW (cc := cc) (maxL := maxL) (ret := ret) hy hw (fun p e s m args below meth c s₁ B hml hv => absurd hv.2.2 id)
