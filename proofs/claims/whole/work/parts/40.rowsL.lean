/-! methods with a table of handlers: the law's own -/
section
variable {l : Launch} {y : MethodName} {ws ws' : List Cond} {rm : Room} {D : va_G} {cs : Nat → ClassId} {E : En} {d : Dy} {sz : Nat} {av : List Value} {wp : Prop} {cc : ByteArray} {maxL : Nat} {ret : Option FieldType} {own : String}
theorem e_ofW {Qc : Array Value → State → Outcome → State → Prop} {mc ms : Nat} {free : Addr → Prop} {hh : List (Nat × Nat × Nat × Nat)} (hy : plainName y.cls = true) (hoy : y.cls = own) (hw : ws = Cond.codeWith y cc maxL ret hh :: ws') (hav : (lg_sl av).length ≤ maxL)
    (body : ∀ p e s m below meth c, CallFix p m c cc maxL s av.toArray ws own → meth.sig.returnType = ret → meth.locks = false → s.heap.size = sz → c.exceptionTable.toList = tableOf hh → ∀ (H : Heap) (locs : List Loc), Wd D cs (AW E sz) s.heap s E d H locs → wp → ∀ ls, lv_has ls maxL (lv_args 0 av) →
      W p l e rm s m av.toArray below meth c H locs 0 0 (MQ below Qc av.toArray s mc ms free) (F0 m 0 ls [])) : Met l y ws rm (PcM D cs E d sz av wp) Qc mc ms free := by
  refine va_MetW (cc := cc) (maxL := maxL) (ret := ret) (hh := hh) hy hw ?_
  intro p e s m args below meth c s₁ B hml hv
  obtain ⟨rfl, ⟨hsz, hK, hP, hD, hG⟩, hwp⟩ := hv
  have hl := lv_entry av (n := maxL) hav
  have hTb := vx_table (x := y) B (atoms_spec (ws := ws) B.pre _ (by rw [hw]; exact List.mem_cons_self))
  rw [lg_entry_eq]
  generalize (lg_sl av ++ List.replicate (maxL - (lg_sl av).length) Slot.unset).toArray = ls at hl ⊢
  exact body p e s m below meth c ⟨B.exec, B.bytes, hml, hoy ▸ findClass_of_methodNamed B.named, atoms_spec (ws := ws) B.pre⟩ B.returns B.notSynchronized hsz hTb s.heap []
    ⟨hK, hP, pl_self hD (fun q h => Or.inl h), va_S.rf, fun q h => Or.inr (by rw [← hsz]; exact h), rfl, hG⟩ hwp ls hl
end
section
variable {p : Program} {l : Launch} {e : Env} {R : Room} {s : State} {m : MethodId} {args : Array Value} {below : List Frame} {meth : Method} {c : Code} {H : Heap} {locs : List Loc} {cells slots : Nat} {Q : State → Prop}
variable {cc : ByteArray} {nL : Nat} {Ts : List Cond} {own : String} {D : va_G} {cs : Nat → ClassId} {A : Nat → Prop} {H0 : Heap} {E : En} {d : Dy} {pc : Nat} {ls : Array Slot} {rest : List Value} {a b : Nat}
variable {y : MethodName} {bytes : ByteArray} {maxL mc ms n index : Nat} {ret : Option FieldType} {ws : List Cond} {rm : Room} {As : List Value} {wp : Prop} {st0 : List Value} {av : Array Value}
theorem r_tcallI {K : Int32 → Dy → Prop} {X : String → Dy → Prop} (hw : Wd D cs A H0 s E d H locs) (hr : vx_Run p l e R s m args below meth c H locs cells slots mc ms (F0 m pc ls st0) rest (va_Qi K (OutW D cs E (AW E H.size)) (AW E H.size) av) (XX D cs E H.size X) (AW E H.size))
    (kx : ∀ (Ex : String) (ce : Cell) (q9 : Addr) (d' : Dy) (H1 : Heap) (locs1 : List Loc), X Ex d' → Wd D cs A H0 s E d' H1 locs1 → H1[q9]? = some ce → ce.vm = .none → s.vm.findClass Ex = some ce.cls → vx_W p l e R s m args below meth c H1 locs1 (cells + mc) (slots + ms) Q (F0 m pc ls rest) q9)
    (kk : ∀ (r : Int32) (d' : Dy) (H1 : Heap) (locs1 : List Loc), K r d' → Wd D cs A H0 s E d' H1 locs1 → W p l e R s m args below meth c H1 locs1 (cells + mc) (slots + ms) Q (F0 m (pc + 3) ls (.int r :: rest))) : W p l e R s m args below meth c H locs cells slots Q (F0 m pc ls st0) :=
  vx_calli hr hw.2.2.2.1 (fun q _ h => Wd_A hw q h) (Wd_A hw) (fun q _ h => Wd_A hw q h) (fun Ex ce q9 u t H1 locs1 ht _ _ hB _ _ hS hce hv hcl => kx Ex ce q9 u H1 locs1 hB.1 (Wd_Out hw ht hB.2 hS) hce hv hcl) (fun r u t H1 locs1 ht _ hK hB _ _ hS => kk r u H1 locs1 hK (Wd_Out hw ht hB hS))
theorem r_tcallV {K : Dy → Prop} {X : String → Dy → Prop} (hw : Wd D cs A H0 s E d H locs) (hr : vx_Run p l e R s m args below meth c H locs cells slots mc ms (F0 m pc ls st0) rest (va_Qv K (OutW D cs E (AW E H.size)) (AW E H.size) av) (XX D cs E H.size X) (AW E H.size))
    (kx : ∀ (Ex : String) (ce : Cell) (q9 : Addr) (d' : Dy) (H1 : Heap) (locs1 : List Loc), X Ex d' → Wd D cs A H0 s E d' H1 locs1 → H1[q9]? = some ce → ce.vm = .none → s.vm.findClass Ex = some ce.cls → vx_W p l e R s m args below meth c H1 locs1 (cells + mc) (slots + ms) Q (F0 m pc ls rest) q9)
    (kk : ∀ (d' : Dy) (H1 : Heap) (locs1 : List Loc), K d' → Wd D cs A H0 s E d' H1 locs1 → W p l e R s m args below meth c H1 locs1 (cells + mc) (slots + ms) Q (F0 m (pc + 3) ls rest)) : W p l e R s m args below meth c H locs cells slots Q (F0 m pc ls st0) :=
  vx_callv hr hw.2.2.2.1 (fun q _ h => Wd_A hw q h) (Wd_A hw) (fun q _ h => Wd_A hw q h) (fun Ex ce q9 u t H1 locs1 ht _ _ hB _ _ hS hce hv hcl => kx Ex ce q9 u H1 locs1 hB.1 (Wd_Out hw ht hB.2 hS) hce hv hcl) (fun u t H1 locs1 ht _ hK hB _ _ hS => kk u H1 locs1 hK (Wd_Out hw ht hB hS))
theorem r_tcallIL {K : Int32 → En → Dy → Prop} {X : String → Dy → Prop} (hw : Wd D cs A H0 s E d H locs) (hr : vx_Run p l e R s m args below meth c H locs cells slots mc ms (F0 m pc ls st0) rest (va_Qi (fun (r : Int32) (u : En × Dy) => K r u.1 u.2 ∧ Ext E u.1) (OutL D cs (AW E H.size)) (AW E H.size) av) (XX D cs E H.size X) (AW E H.size))
    (kx : ∀ (Ex : String) (ce : Cell) (q9 : Addr) (d' : Dy) (H1 : Heap) (locs1 : List Loc), X Ex d' → Wd D cs A H0 s E d' H1 locs1 → H1[q9]? = some ce → ce.vm = .none → s.vm.findClass Ex = some ce.cls → vx_W p l e R s m args below meth c H1 locs1 (cells + mc) (slots + ms) Q (F0 m pc ls rest) q9)
    (kk : ∀ (r : Int32) (E' : En) (d' : Dy) (H1 : Heap) (locs1 : List Loc), K r E' d' → Ext E E' → Wd D cs A H0 s E' d' H1 locs1 → W p l e R s m args below meth c H1 locs1 (cells + mc) (slots + ms) Q (F0 m (pc + 3) ls (.int r :: rest))) : W p l e R s m args below meth c H locs cells slots Q (F0 m pc ls st0) :=
  vx_calli hr hw.2.2.2.1 (fun q _ h => Wd_A hw q h) (Wd_A hw) (fun q _ h => Wd_A hw q h) (fun Ex ce q9 u t H1 locs1 ht _ _ hB _ _ hS hce hv hcl => kx Ex ce q9 u H1 locs1 hB.1 (Wd_Out hw ht hB.2 hS) hce hv hcl) (fun r u t H1 locs1 ht _ hK hB _ _ hS => kk r u.1 u.2 H1 locs1 hK.1 hK.2 (Wd_OutL hw ht hB hS))
theorem gSW {T : Cond} {own : String} {idx n : Nat} {y : MethodName} {c : ByteArray} {r : Option FieldType} {hh : List (Nat × Nat × Nat × Nat)} (h1 : Cond.methodLink own idx y ∈ wsL_law) (h2 : Cond.static y ∈ wsL_law) (h4 : Cond.initialized y.cls ∈ wsL_law) (h5 : Cond.codeWith y c n r hh ∈ wsL_law) : GoodIn (T :: wsL_law) (va_wsS own idx y (Cond.codeWith y c n r hh :: wsL_law)) := gG (fun w hw => by
  unfold va_wsS at hw
  rcases List.mem_append.mp hw with h | h
  · simp only [List.mem_cons, List.not_mem_nil, or_false] at h
    rcases h with h | h | h <;> subst h <;> assumption
  · rcases List.mem_cons.mp h with h | h
    · subst h; exact h5
    · exact h)
theorem r_runSW {Qc : Array Value → State → Outcome → State → Prop} {free : Addr → Prop} {hh : List (Nat × Nat × Nat × Nat)} (S : CallFix p m c cc nL s args Ts own) (hw : Wd D cs A H0 s E d H locs) (hM : Met l y ws rm (PcM D cs E d H.size As wp) Qc mc ms free) (cw : vx_CSW R s args own index y bytes maxL ret hh ws rm mc ms n) (hwp : wp)
    (hn : As.length = n) (hsize : ls.size = nL) (hst : st0 = As.reverse ++ rest) (hW : (rest.map fun v => v.category).sum ≤ 8) (hdg : decode cc pc = .ok (.invokestatic index, 3)) (hf : cells + mc ≤ R.cells ∧ slots + ms ≤ R.slots) :
    va_Run p l e R s m args below meth c H locs cells slots mc ms (F0 m pc ls st0) rest (Qc As.toArray) free :=
  vx_runSW S hM cw ⟨PcM_blind, fun U hU hW => ⟨rfl, Wd_In hw hU hW, hwp⟩⟩ rfl hn hsize hst (lv_room (rest := []) (m := m) (pc := pc) (ls := ls) hW) hdg hf
theorem r_cast (hw : Wd D cs A H0 s E d H locs) {x : String} (h : Cond.castable x x ∈ nxW) : (Cond.castable x x).before args s = true := va_Nw.use rfl (hw.2.2.2.2.2.2.1 _ h)
theorem r_nc (hw : Wd D cs A H0 s E d H locs) {x z : String} (hx : x ∈ exW) (hz : z ∈ exW) (hn : x ≠ z) : va_Nc x z s := hw.2.2.2.2.2.2.2.2.2.1.2.2.2.2.2 x hx z hz hn
end
theorem xc_ia : Cond.castable "java/lang/IllegalArgumentException" "java/lang/IllegalArgumentException" ∈ nxW := by decide +kernel
theorem xc_un : Cond.castable "java/lang/UnsupportedOperationException" "java/lang/UnsupportedOperationException" ∈ nxW := by decide +kernel
theorem xc_ix : Cond.castable "java/lang/IndexOutOfBoundsException" "java/lang/IndexOutOfBoundsException" ∈ nxW := by decide +kernel
theorem xc_no : Cond.castable "java/util/NoSuchElementException" "java/util/NoSuchElementException" ∈ nxW := by decide +kernel
