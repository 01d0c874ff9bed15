/-! methods that make cells or set references: the standing part changes too -/
def Ext (E E' : En) : Prop := ∀ b, b ∈ eL E → b ∈ eL E' ∧ eT E' b = eT E b
theorem Ext_rf (E : En) : Ext E E := fun _ h => ⟨h, rfl⟩
theorem Ext_tr {E E1 E2 : En} (h1 : Ext E E1) (h2 : Ext E1 E2) : Ext E E2 := fun b hb => ⟨(h2 b (h1 b hb).1).1, (h2 b (h1 b hb).1).2.trans (h1 b hb).2⟩
theorem Ext_O {E E' : En} {a ci : Nat} (h : Ext E E') (ho : okO E a ci) : okO E' a ci := ⟨(h a ho.1).1, (h a ho.1).2.trans ho.2.1, ho.2.2⟩
theorem Ext_A {E E' : En} {a t : Nat} (h : Ext E E') (ho : okA E a t) : okA E' a t := ⟨(h a ho.1).1, (h a ho.1).2.trans ho.2.1, ho.2.2⟩
def nE (E : En) (q t n : Nat) : En := (eL E ++ [q], va_up (eT E) q t, va_up (eN E) q n, va_up (eR E) q (fun _ => none))
def nD (d : Dy) (q : Nat) : Dy := (va_up (gI d) q (fun _ => 0), va_up (gA d) q (fun _ => 0), va_up (gJ d) q (fun _ => 0), va_up (gQ d) q (fun _ => none))
def sR (E : En) (a k : Nat) (v : Option Nat) : En := (eL E, eT E, eN E, u2 (eR E) a k v)
theorem Ext_nE {E : En} {q : Nat} (t n : Nat) (hq : q ∉ eL E) : Ext E (nE E q t n) := fun b hb => ⟨List.mem_append_left _ hb, va_up_ne _ _ (fun h => hq (h ▸ hb))⟩
theorem Ext_sR (E : En) (a k : Nat) (v : Option Nat) : Ext E (sR E a k v) := fun _ h => ⟨h, rfl⟩
theorem okO_new (E : En) (q n : Nat) {ci : Nat} (h : ci < 12) : okO (nE E q ci n) q ci := ⟨List.mem_append_right _ (List.mem_singleton.mpr rfl), va_up_self _ _ _, h⟩
theorem okA_new (E : En) (q n : Nat) {t : Nat} (h : 12 ≤ t) : okA (nE E q t n) q t := ⟨List.mem_append_right _ (List.mem_singleton.mpr rfl), va_up_self _ _ _, h⟩
def defF (ci : Nat) : List Value := (fK ci).map (fun b => if b = true then Value.null else .int 0)
theorem fO_def (E : En) (d : Dy) (q ci n : Nat) : fO (nE E q ci n) (nD d q) q ci = defF ci := by
  apply List.ext_getElem?
  intro j
  simp only [fO, defF, List.getElem?_map]
  by_cases hj : j < (fK ci).length
  · rw [List.getElem?_range hj, List.getElem?_eq_getElem hj]
    simp only [Option.map_some, List.getD, List.getElem?_eq_getElem hj, Option.getD_some, eR, nE, gI, nD, va_up_self]
    rfl
  · rw [List.getElem?_eq_none (by simp; omega), List.getElem?_eq_none (by omega)]
    rfl
theorem cE_old {cs : Nat → ClassId} {E : En} {d : Dy} {q t n b : Nat} (hb : b ≠ q) : cE cs (nE E q t n) (nD d q) b = cE cs E d b := by
  simp only [cE, fO, nE, nD, eT, eN, eR, gI, gA, gJ, gQ, va_up, if_neg hb]
  rfl
theorem wl_new {cs : Nat → ClassId} {E : En} {d : Dy} {q t n : Nat} {e : va_E} (hq : q ∉ eL E) (he : cE cs (nE E q t n) (nD d q) q = e) : wl cs E d ++ [(q, e)] = wl cs (nE E q t n) (nD d q) := by
  refine (va_pl_push hq).trans (va_pl_congr (fun b => ?_))
  by_cases hb : b = q
  · subst hb; rw [va_up_self, he]
  · rw [va_up_ne _ _ hb, cE_old hb]
theorem fO_setR {E : En} {d : Dy} {a ci k : Nat} {v : Option Nat} (h : (fK ci)[k]? = some true) : (fO E d a ci).set k (va_rf v) = fO (sR E a k v) d a ci := by
  have hk : k < (fK ci).length := (List.getElem?_eq_some_iff.mp h).1
  apply List.ext_getElem?
  intro j
  rw [List.getElem?_set]
  by_cases hj : k = j
  · subst hj
    rw [if_pos rfl, if_pos (by rw [fO_len]; exact hk), fO_ref h]
    simp [eR, sR, u2]
  · rw [if_neg hj]
    by_cases hl : j < (fK ci).length
    · simp only [fO, List.getElem?_map, List.getElem?_range hl, Option.map_some, eR, sR]
      rw [u2_k _ _ _ (fun q => hj q.symm)]
    · rw [List.getElem?_eq_none (by rw [fO_len]; omega), List.getElem?_eq_none (by rw [fO_len]; omega)]
theorem cE_sR {cs : Nat → ClassId} {E : En} {d : Dy} {a ci k : Nat} {v : Option Nat} (h : okO E a ci) (hk : (fK ci)[k]? = some true) (b : Nat) : va_up (cE cs E d) a (.inr (ci, (fO E d a ci).set k (va_rf v))) b = cE cs (sR E a k v) d b := by
  by_cases hb : b = a
  · subst hb
    rw [cE_o (E := sR E b k v) (show okO (sR E b k v) b ci from h), fO_setR hk]
    simp [va_up]
  · simp only [va_up, if_neg hb, cE, fO, sR, eT, eN, eR]
    rw [u2_a _ _ _ hb]
    rfl
def OutL (D : va_G) (cs : Nat → ClassId) (A : Nat → Prop) (u : En × Dy) (t : State) : Prop := va_P D vwCl (wl cs u.1 u.2) t.heap ∧ va_K D vwCl (tyl cs) t ∧ va_D A (wl cs u.1 u.2)
def LV (l : Launch) (y : MethodName) (ws : List Cond) (rm : Room) (D : va_G) (cs : Nat → ClassId) (E : En) (d : Dy) (sz : Nat) (av : List Value) (wp : Prop) (K : En → Dy → Prop) : Prop :=
  Met l y ws rm (PcM D cs E d sz av wp) (va_Qv (fun u : En × Dy => K u.1 u.2 ∧ Ext E u.1) (OutL D cs (AW E sz)) (AW E sz)) rm.cells rm.slots (AW E sz)
def LR (l : Launch) (y : MethodName) (ws : List Cond) (rm : Room) (D : va_G) (cs : Nat → ClassId) (E : En) (d : Dy) (sz : Nat) (av : List Value) (wp : Prop) (K : Nat → En → Dy → Prop) : Prop :=
  Met l y ws rm (PcM D cs E d sz av wp) (va_Qq (fun (r : Option Nat) (u : En × Dy) => (∃ b, r = some b ∧ K b u.1 u.2) ∧ Ext E u.1) (OutL D cs (AW E sz)) (AW E sz)) rm.cells rm.slots (AW E sz)
def LI (l : Launch) (y : MethodName) (ws : List Cond) (rm : Room) (D : va_G) (cs : Nat → ClassId) (E : En) (d : Dy) (sz : Nat) (av : List Value) (wp : Prop) (K : Int32 → En → Dy → Prop) : Prop :=
  Met l y ws rm (PcM D cs E d sz av wp) (va_Qi (fun (r : Int32) (u : En × Dy) => K r u.1 u.2 ∧ Ext E u.1) (OutL D cs (AW E sz)) (AW E sz)) rm.cells rm.slots (AW E sz)
def XLI (l : Launch) (y : MethodName) (ws : List Cond) (rm : Room) (D : va_G) (cs : Nat → ClassId) (E : En) (d : Dy) (sz : Nat) (av : List Value) (wp : Prop) (K : Int32 → En → Dy → Prop) (X : String → Dy → Prop) : Prop :=
  vx_Met l y ws rm (PcM D cs E d sz av wp) (va_Qi (fun (r : Int32) (u : En × Dy) => K r u.1 u.2 ∧ Ext E u.1) (OutL D cs (AW E sz)) (AW E sz)) (XX D cs E sz X) rm.cells rm.slots (AW E sz)
section
variable {l : Launch} {y : MethodName} {ws ws' : List Cond} {rm : Room} {D : va_G} {cs : Nat → ClassId} {E : En} {d : Dy} {sz : Nat} {av : List Value} {wp : Prop} {cc : ByteArray} {maxL : Nat} {ret : Option FieldType} {own : String}
/-- .. with the method's name -/
theorem e_ofN {Qc : Array Value → State → Outcome → State → Prop} {mc ms : Nat} {free : Addr → Prop} (hy : plainName y.cls = true) (hoy : y.cls = own) (hw : ws = Cond.code y cc maxL ret :: ws') (hav : (lg_sl av).length ≤ maxL)
    (body : ∀ p e s m below meth c, CallFix p m c cc maxL s av.toArray ws own → meth.sig.returnType = ret → meth.locks = false → meth.name = y.name → s.heap.size = sz → ∀ (H : Heap) (locs : List Loc), Wd D cs (AW E sz) s.heap s E d H locs → wp → ∀ ls, lv_has ls maxL (lv_args 0 av) →
      W p l e rm s m av.toArray below meth c H locs 0 0 (MQ below Qc av.toArray s mc ms free) (F0 m 0 ls [])) : Met l y ws rm (PcM D cs E d sz av wp) Qc mc ms free := by
  refine Met.ofW (cc := cc) (maxL := maxL) (ret := ret) hy hw ?_
  intro p e s m args below meth c s₁ B hml hv
  obtain ⟨rfl, ⟨hsz, hK, hP, hD, hG⟩, hwp⟩ := hv
  have hl := lv_entry av (n := maxL) hav
  rw [lg_entry_eq]
  generalize (lg_sl av ++ List.replicate (maxL - (lg_sl av).length) Slot.unset).toArray = ls at hl ⊢
  exact body p e s m below meth c ⟨B.exec, B.bytes, hml, hoy ▸ findClass_of_methodNamed B.named, atoms_spec (ws := ws) B.pre⟩ B.returns B.notSynchronized (name_of_methodNamed B.named B.method).1 hsz s.heap []
    ⟨hK, hP, pl_self hD (fun q h => Or.inl h), va_S.rf, fun q h => Or.inr (by rw [← hsz]; exact h), rfl, hG⟩ hwp ls hl
end
section
variable {p : Program} {l : Launch} {e : Env} {R : Room} {s : State} {m : MethodId} {args : Array Value} {below : List Frame} {meth : Method} {c : Code} {H : Heap} {locs : List Loc} {cells slots : Nat} {Q : State → Prop}
variable {cc : ByteArray} {nL : Nat} {Ts : List Cond} {own : String} {D : va_G} {cs : Nat → ClassId} {A : Nat → Prop} {H0 : Heap} {E : En} {d : Dy} {pc : Nat} {ls : Array Slot} {rest : List Value} {a b : Nat}
theorem r_new (S : CallFix p m c cc nL s args Ts own) (hw : Wd D cs A H0 s E d H locs) (ci : Nat) {index : Nat} {C : String} {T : u_T} {N : Nat} (hc : vwCl[ci]? = some (C, T, N)) (hci : ci < 12) (hin : ∀ w ∈ u_ws C T N, w ∈ Ts) (ty0 : Nat → FieldType) (hty : ∀ k, k < N → parseFieldDescriptor (T k).2.2.1 = some (ty0 k)) (hcl : Cond.classLink own index C ∈ Ts) (hinst : Cond.instantiable C N ∈ Ts) (hini : Cond.initialized C ∈ Ts) (hfs : ∀ j, j < N → defaultValue (ty0 j) = vp_V (defF ci) j) (hcells : cells + 1 ≤ R.cells) (hslots : slots + N ≤ R.slots) (hdg : decode cc pc = .ok (.new index, 3))
    (kk : ∀ (q : Nat) (H1 : Heap), q ∉ eL E → Wd D cs A H0 s (nE E q ci 0) (nD d q) H1 locs → W p l e R s m args below meth c H1 locs (cells + 1) (slots + N) Q (F0 m (pc + 3) ls (.ref q :: rest))) : W p l e R s m args below meth c H locs cells slots Q (F0 m pc ls rest) := by
  refine va_new S.1 S.2.1 S.2.2.2.2 hin ty0 hty S.2.2.2.1 (S.2.2.2.2 _ hcl) (S.2.2.2.2 _ hinst) (S.2.2.2.2 _ hini) hw.1 hw.2.1 hw.2.2.1 hw.2.2.2.1 hw.2.2.2.2.1 hc (fs := defF ci) hfs hcells hslots hdg (fun q H1 hP hD hS => ?_)
  have hq : q ∉ eL E := va_pl_fresh2 (X := []) hD
  have he : cE cs (nE E q ci 0) (nD d q) q = .inr (ci, defF ci) := by rw [cE_o (okO_new E q 0 hci), fO_def]
  rw [wl_new hq he] at hP hD
  exact kk q H1 hq ⟨hw.1, hP, hD, hS, hw.2.2.2.2⟩
theorem r_newa (S : CallFix p m c cc nL s args Ts own) (hw : Wd D cs A H0 s E d H locs) (t k : Nat) {atype : ArrayType} {ty : FieldType} (hty : newarray.typeOf atype = ty) (htk : (tyl cs)[k]? = some (cs t, ty)) (ht : 12 ≤ t) (h6 : t ≠ 16) (hra : ∀ (U : State) (cA : ClassId), va_RA U cA ty → U.vm.findClass ("[" ++ ty.toString) = some cA) (harr : Cond.arrayClass (newarray.typeOf atype) ∈ Ts)
    (ha : ∀ (q N' : Nat) (cA : ClassId), ∃ a0 : vp_A, (∀ cA : ClassId, vp_cell cA a0 = arrV cA N' (fun _ => defaultValue ty)) ∧ cE cs (nE E q t N') (nD d q) q = .inl (cs t, a0))
    {n : Int32} (hn : ¬ n < 0) (hbytes : n.toNatClampNeg * componentBytes ty ≤ 536870912) (hcells : cells + 1 ≤ R.cells) (hslots : slots + n.toNatClampNeg ≤ R.slots) (hdg : decode cc pc = .ok (.newarray atype, 2))
    (kk : ∀ (q : Nat) (H1 : Heap), q ∉ eL E → Wd D cs A H0 s (nE E q t n.toNatClampNeg) (nD d q) H1 locs → W p l e R s m args below meth c H1 locs (cells + 1) (slots + n.toNatClampNeg) Q (F0 m (pc + 2) ls (.ref q :: rest))) : W p l e R s m args below meth c H locs cells slots Q (F0 m pc ls (.int n :: rest)) := by
  obtain ⟨a0, h1, -⟩ := ha 0 n.toNatClampNeg 0
  refine va_newa S.1 S.2.1 (S.2.2.2.2 _ harr) hty hw.1 hw.2.1 hw.2.2.1 hw.2.2.2.1 hw.2.2.2.2.1 (a0 := a0) h1 hn rfl hbytes hcells hslots hdg (fun q cA H1 hK hP hD hS => ?_)
  have hq : q ∉ eL E := va_pl_fresh2 (X := []) hD
  have e1 := hra s cA (hK.2 5 (cA, ty) rfl).2
  have e2 := hra s (cs t) (hw.1.2 k (cs t, ty) htk).2
  have e3 : cA = cs t := Option.some.inj (e1.symm.trans e2)
  obtain ⟨a1, h2, h3⟩ := ha q n.toNatClampNeg 0
  have hP2 : va_P D vwCl (wl cs E d ++ [(q, .inl (cs t, a1))]) H1 := by
    intro i x hx
    by_cases hi : i < (wl cs E d).length
    · rw [List.getElem?_append_left hi] at hx
      exact hP i x (by rw [List.getElem?_append_left hi]; exact hx)
    · rw [List.getElem?_append_right (by omega)] at hx
      have hz : i - (wl cs E d).length = 0 := by
        have := (List.getElem?_eq_some_iff.mp hx).1
        simp at this
        omega
      rw [hz] at hx
      cases hx
      have hy := hP i (q, .inl (cA, a0)) (by rw [List.getElem?_append_right (by omega), hz]; rfl)
      show H1[q]? = some (vp_cell (cs t) a1)
      rw [h2, ← h1, ← e3]
      exact hy
  rw [wl_new hq h3] at hP2
  have hD2 : va_D A (wl cs (nE E q t n.toNatClampNeg) (nD d q)) := by
    rw [← wl_new hq h3]
    exact ⟨fun i j x z hi hj hxz => by
      have key : ∀ (i : Nat) (x : Nat × va_E), (wl cs E d ++ [(q, .inl (cs t, a1))])[i]? = some x → ∃ x', (wl cs E d ++ [(q, Sum.inl (cA, a0))])[i]? = some x' ∧ x'.1 = x.1 := by
        intro i x hx
        by_cases hi : i < (wl cs E d).length
        · rw [List.getElem?_append_left hi] at hx
          exact ⟨x, by rw [List.getElem?_append_left hi]; exact hx, rfl⟩
        · rw [List.getElem?_append_right (by omega)] at hx
          have hz : i - (wl cs E d).length = 0 := by
            have := (List.getElem?_eq_some_iff.mp hx).1
            simp at this
            omega
          rw [hz] at hx
          cases hx
          exact ⟨(q, .inl (cA, a0)), by rw [List.getElem?_append_right (by omega), hz]; rfl, rfl⟩
      obtain ⟨x', g1, g2⟩ := key i x hi
      obtain ⟨z', g3, g4⟩ := key j z hj
      exact hD.1 i j x' z' g1 g3 (by rw [g2, g4]; exact hxz), fun i x hi => by
      by_cases hl : i < (wl cs E d).length
      · rw [List.getElem?_append_left hl] at hi
        exact hD.2 i x (by rw [List.getElem?_append_left hl]; exact hi)
      · rw [List.getElem?_append_right (by omega)] at hi
        have hz : i - (wl cs E d).length = 0 := by
          have := (List.getElem?_eq_some_iff.mp hi).1
          simp at this
          omega
        rw [hz] at hi
        cases hi
        exact hD.2 i (q, .inl (cA, a0)) (by rw [List.getElem?_append_right (by omega), hz]; rfl)⟩
  exact kk q H1 hq ⟨hw.1, hP2, hD2, hS, hw.2.2.2.2⟩
theorem cE_newI (cs : Nat → ClassId) (E : En) (d : Dy) {t : Nat} (ht : 12 ≤ t) (h4 : t ≠ 14) (h6 : t ≠ 16) (q n : Nat) : cE cs (nE E q t n) (nD d q) q = .inl (cs t, n, .inl (fun _ => 0)) := by
  rw [cE_i (okA_new E q n ht) h4 h6]
  simp [eN, nE, gA, nD, va_up]
theorem cE_newJ (cs : Nat → ClassId) (E : En) (d : Dy) (q n : Nat) : cE cs (nE E q 14 n) (nD d q) q = .inl (cs 14, n, .inr (.inl (fun _ => 0))) := by
  rw [cE_j (okA_new E q n (by decide))]
  simp [eN, nE, gJ, nD, va_up]
theorem cE_newQ (cs : Nat → ClassId) (E : En) (d : Dy) (q n : Nat) : cE cs (nE E q 16 n) (nD d q) q = .inl (cs 16, n, .inr (.inr (.inr (.inr (fun _ => none))))) := by
  rw [cE_q (okA_new E q n (by decide))]
  simp [eN, nE, gQ, nD, va_up]
theorem r_newI (S : CallFix p m c cc nL s args Ts own) (hw : Wd D cs A H0 s E d H locs) (harr : Cond.arrayClass .int ∈ Ts) {n : Int32} (hn : ¬ n < 0) (hbytes : n.toNatClampNeg * 4 ≤ 536870912) (hcells : cells + 1 ≤ R.cells) (hslots : slots + n.toNatClampNeg ≤ R.slots) (hdg : decode cc pc = .ok (.newarray .int, 2))
    (kk : ∀ (q : Nat) (H1 : Heap), q ∉ eL E → Wd D cs A H0 s (nE E q 13 n.toNatClampNeg) (nD d q) H1 locs → W p l e R s m args below meth c H1 locs (cells + 1) (slots + n.toNatClampNeg) Q (F0 m (pc + 2) ls (.ref q :: rest))) : W p l e R s m args below meth c H locs cells slots Q (F0 m pc ls (.int n :: rest)) :=
  r_newa S hw 13 1 (atype := .int) (ty := .int) rfl rfl (by decide) (by decide) (fun _ _ h => h) harr (fun q N' _ => ⟨(N', .inl (fun _ => 0)), fun _ => rfl, cE_newI cs E d (by decide) (by decide) (by decide) q N'⟩) hn hbytes hcells hslots hdg kk
theorem r_newZ (S : CallFix p m c cc nL s args Ts own) (hw : Wd D cs A H0 s E d H locs) (harr : Cond.arrayClass .boolean ∈ Ts) {n : Int32} (hn : ¬ n < 0) (hbytes : n.toNatClampNeg * 1 ≤ 536870912) (hcells : cells + 1 ≤ R.cells) (hslots : slots + n.toNatClampNeg ≤ R.slots) (hdg : decode cc pc = .ok (.newarray .boolean, 2))
    (kk : ∀ (q : Nat) (H1 : Heap), q ∉ eL E → Wd D cs A H0 s (nE E q 15 n.toNatClampNeg) (nD d q) H1 locs → W p l e R s m args below meth c H1 locs (cells + 1) (slots + n.toNatClampNeg) Q (F0 m (pc + 2) ls (.ref q :: rest))) : W p l e R s m args below meth c H locs cells slots Q (F0 m pc ls (.int n :: rest)) :=
  r_newa S hw 15 3 (atype := .boolean) (ty := .boolean) rfl rfl (by decide) (by decide) (fun _ _ h => h) harr (fun q N' _ => ⟨(N', .inl (fun _ => 0)), fun _ => rfl, cE_newI cs E d (by decide) (by decide) (by decide) q N'⟩) hn hbytes hcells hslots hdg kk
theorem r_newB (S : CallFix p m c cc nL s args Ts own) (hw : Wd D cs A H0 s E d H locs) (harr : Cond.arrayClass .byte ∈ Ts) {n : Int32} (hn : ¬ n < 0) (hbytes : n.toNatClampNeg * 1 ≤ 536870912) (hcells : cells + 1 ≤ R.cells) (hslots : slots + n.toNatClampNeg ≤ R.slots) (hdg : decode cc pc = .ok (.newarray .byte, 2))
    (kk : ∀ (q : Nat) (H1 : Heap), q ∉ eL E → Wd D cs A H0 s (nE E q 12 n.toNatClampNeg) (nD d q) H1 locs → W p l e R s m args below meth c H1 locs (cells + 1) (slots + n.toNatClampNeg) Q (F0 m (pc + 2) ls (.ref q :: rest))) : W p l e R s m args below meth c H locs cells slots Q (F0 m pc ls (.int n :: rest)) :=
  r_newa S hw 12 0 (atype := .byte) (ty := .byte) rfl rfl (by decide) (by decide) (fun _ _ h => h) harr (fun q N' _ => ⟨(N', .inl (fun _ => 0)), fun _ => rfl, cE_newI cs E d (by decide) (by decide) (by decide) q N'⟩) hn hbytes hcells hslots hdg kk
theorem r_newJ (S : CallFix p m c cc nL s args Ts own) (hw : Wd D cs A H0 s E d H locs) (harr : Cond.arrayClass .long ∈ Ts) {n : Int32} (hn : ¬ n < 0) (hbytes : n.toNatClampNeg * 8 ≤ 536870912) (hcells : cells + 1 ≤ R.cells) (hslots : slots + n.toNatClampNeg ≤ R.slots) (hdg : decode cc pc = .ok (.newarray .long, 2))
    (kk : ∀ (q : Nat) (H1 : Heap), q ∉ eL E → Wd D cs A H0 s (nE E q 14 n.toNatClampNeg) (nD d q) H1 locs → W p l e R s m args below meth c H1 locs (cells + 1) (slots + n.toNatClampNeg) Q (F0 m (pc + 2) ls (.ref q :: rest))) : W p l e R s m args below meth c H locs cells slots Q (F0 m pc ls (.int n :: rest)) :=
  r_newa S hw 14 2 (atype := .long) (ty := .long) rfl rfl (by decide) (by decide) (fun _ _ h => h) harr (fun q N' _ => ⟨(N', .inr (.inl (fun _ => 0))), fun _ => rfl, cE_newJ cs E d q N'⟩) hn hbytes hcells hslots hdg kk
/-- a final field's first value, in the constructor -/
theorem r_putRF (S : CallFix p m c cc nL s args Ts own) (hw : Wd D cs A H0 s E d H locs) (hinit : meth.name = "<init>") (ci k : Nat) {index : Nat} {C : String} {T : u_T} {N : Nat} (hc : vwCl[ci]? = some (C, T, N)) (hin : ∀ w ∈ u_ws C T N, w ∈ Ts) (ty0 : Nat → FieldType) (hty : ∀ k, k < N → parseFieldDescriptor (T k).2.2.1 = some (ty0 k)) (hnm : ∀ a, a < N → ∀ b, b < N → a ≠ b → (T a).2.1 ≠ (T b).2.1) (hk : k < N) (hlink : Cond.fieldLink own index (T k).1 (T k).2.1 (T k).2.2.1 ∈ Ts) (hf : (fK ci)[k]? = some true) (hfin : (T k).2.2.2 = true) (hdecl : (T k).1 = own) {ty : FieldType} (hd : parseFieldDescriptor (T k).2.2.1 = some ty) (hn : narrow ty (.ref b) = .ref b) (hfit : fits ty (.ref b) = true) (ho : okO E a ci) (hdg : decode cc pc = .ok (.putfield index, 3))
    (kk : ∀ (H1 : Heap) (locs1 : List Loc), Wd D cs A H0 s (sR E a k (some b)) d H1 locs1 → W p l e R s m args below meth c H1 locs1 cells slots Q (F0 m (pc + 3) ls rest)) : W p l e R s m args below meth c H locs cells slots Q (F0 m pc ls (.ref b :: .ref a :: rest)) := by
  obtain ⟨q0, he0⟩ := pl_in (f := cE cs E d) ho.1
  have he := he0
  rw [cE_o ho] at he
  refine va_putF S.1 S.2.1 S.2.2.2.2 hin ty0 hty hnm S.2.2.2.1 hw.1 hw.2.1 hw.2.2.1 hw.2.2.2.1 q0 he hc k hk (S.2.2.2.2 _ hlink) (fun _ h => h) hfin hinit hdecl hd hn hfit (by rw [fO_len]; exact (List.getElem?_eq_some_iff.mp hf).1) hdg (fun H1 locs1 hP hD hS => ?_)
  have e9 := pl_set hw.2.2.1 ho.1 he0 (cE_sR (k := k) (v := some b) ho hf)
  rw [show ((.ref b : Value)) = va_rf (some b) from rfl, e9] at hP hD
  exact kk H1 locs1 ⟨hw.1, hP, hD, hS, hw.2.2.2.2⟩
theorem r_putIF (S : CallFix p m c cc nL s args Ts own) (hw : Wd D cs A H0 s E d H locs) (hinit : meth.name = "<init>") (ci k : Nat) {index : Nat} {C : String} {T : u_T} {N : Nat} (hc : vwCl[ci]? = some (C, T, N)) (hin : ∀ w ∈ u_ws C T N, w ∈ Ts) (ty0 : Nat → FieldType) (hty : ∀ k, k < N → parseFieldDescriptor (T k).2.2.1 = some (ty0 k)) (hnm : ∀ a, a < N → ∀ b, b < N → a ≠ b → (T a).2.1 ≠ (T b).2.1) (hk : k < N) (hlink : Cond.fieldLink own index (T k).1 (T k).2.1 (T k).2.2.1 ∈ Ts) (hf : (fK ci)[k]? = some false) (hfin : (T k).2.2.2 = true) (hdecl : (T k).1 = own) {ty : FieldType} {v : Int32} (hd : parseFieldDescriptor (T k).2.2.1 = some ty) (hn : narrow ty (.int v) = .int v) (hfit : fits ty (.int v) = true) (ho : okO E a ci) (hdg : decode cc pc = .ok (.putfield index, 3))
    (kk : ∀ (H1 : Heap) (locs1 : List Loc), Wd D cs A H0 s E (pI d a k v) H1 locs1 → W p l e R s m args below meth c H1 locs1 cells slots Q (F0 m (pc + 3) ls rest)) : W p l e R s m args below meth c H locs cells slots Q (F0 m pc ls (.int v :: .ref a :: rest)) := by
  obtain ⟨q0, he0⟩ := pl_in (f := cE cs E d) ho.1
  have he := he0
  rw [cE_o ho] at he
  refine va_putF S.1 S.2.1 S.2.2.2.2 hin ty0 hty hnm S.2.2.2.1 hw.1 hw.2.1 hw.2.2.1 hw.2.2.2.1 q0 he hc k hk (S.2.2.2.2 _ hlink) (fun _ h => h) hfin hinit hdecl hd hn hfit (by rw [fO_len]; exact (List.getElem?_eq_some_iff.mp hf).1) hdg (fun H1 locs1 hP hD hS => ?_)
  rw [pl_set hw.2.2.1 ho.1 he0 (cE_pI (k := k) (v := v) ho hf)] at hP hD
  exact kk H1 locs1 ⟨hw.1, hP, hD, hS, hw.2.2.2.2⟩
/-- ends -/
theorem e_VL {E0 : En} {K : En → Dy → Prop} {sz : Nat} (S : CallFix p m c cc nL s args Ts own) (hr : meth.sig.returnType = none) (hlocks : meth.locks = false) (hw : Wd D cs (AW E0 sz) s.heap s E d H locs) (hx : Ext E0 E) (hk : K E d) (hdg : decode cc pc = .ok (.return_, 1)) :
    W p l e R s m args below meth c H locs cells slots (MQ below (va_Qv (fun u : En × Dy => K u.1 u.2 ∧ Ext E0 u.1) (OutL D cs (AW E0 sz)) (AW E0 sz)) args s cells slots (AW E0 sz)) (F0 m pc ls []) :=
  W.vret S.1 S.2.1 hr (fun t ht hW => ⟨⟨(E, d), rfl, ⟨hk, hx⟩, by rw [ht]; exact hw.2.1, va_K.moved hW.alike hw.1, hw.2.2.1⟩, hw.2.2.2.1.F ht⟩) hw.2.2.2.1.2.2 hdg
theorem e_IL {E0 : En} {K : Int32 → En → Dy → Prop} {sz : Nat} {v : Int32} (S : CallFix p m c cc nL s args Ts own) (hr : meth.sig.returnType = some .int) (hlocks : meth.locks = false) (hw : Wd D cs (AW E0 sz) s.heap s E d H locs) (hx : Ext E0 E) (hk : K v E d) (hdg : decode cc pc = .ok (.ireturn, 1)) :
    W p l e R s m args below meth c H locs cells slots (MQ below (va_Qi (fun (r : Int32) (u : En × Dy) => K r u.1 u.2 ∧ Ext E0 u.1) (OutL D cs (AW E0 sz)) (AW E0 sz)) args s cells slots (AW E0 sz)) (F0 m pc ls [.int v]) :=
  W.iret S.1 S.2.1 hr (fun t ht hW => ⟨⟨v, (E, d), rfl, ⟨hk, hx⟩, by rw [ht]; exact hw.2.1, va_K.moved hW.alike hw.1, hw.2.2.1⟩, hw.2.2.2.1.F ht⟩) hw.2.2.2.1.2.2 hdg
theorem e_RL {E0 : En} {K : Nat → En → Dy → Prop} {sz : Nat} {v : Nat} {rt : FieldType} (S : CallFix p m c cc nL s args Ts own) (hr : meth.sig.returnType = some rt) (hrt : (∃ n, rt = .object n) ∨ ∃ t, rt = .array t) (hlocks : meth.locks = false) (hw : Wd D cs (AW E0 sz) s.heap s E d H locs) (hx : Ext E0 E) (hk : K v E d) (hdg : decode cc pc = .ok (.areturn, 1)) :
    W p l e R s m args below meth c H locs cells slots (MQ below (va_Qq (fun (r : Option Nat) (u : En × Dy) => (∃ b, r = some b ∧ K b u.1 u.2) ∧ Ext E0 u.1) (OutL D cs (AW E0 sz)) (AW E0 sz)) args s cells slots (AW E0 sz)) (F0 m pc ls [.ref v]) :=
  W.aret S.1 S.2.1 hr hrt (Or.inr ⟨v, rfl⟩) (fun t ht hW => ⟨⟨some v, (E, d), rfl, ⟨⟨v, rfl, hk⟩, hx⟩, by rw [ht]; exact hw.2.1, va_K.moved hW.alike hw.1, hw.2.2.1⟩, hw.2.2.2.1.F ht⟩) hw.2.2.2.1.2.2 hdg
/-- calls -/
theorem Wd_OutL (hw : Wd D cs A H0 s E d H locs) {t : State} {H1 : Heap} {locs1 : List Loc} {u : En × Dy} (ht : t.heap = H1) (hB : OutL D cs (AW E H.size) u t) (hS : va_S A H0 H1 locs1) : Wd D cs A H0 s u.1 u.2 H1 locs1 := ⟨hw.1, by rw [← ht]; exact hB.1, hB.2.2.weaken (fun _ q _ h => Wd_A hw q.1 h), hS, hw.2.2.2.2⟩
variable {y : MethodName} {bytes : ByteArray} {maxL mc ms n index : Nat} {ret : Option FieldType} {ws : List Cond} {rm : Room} {As : List Value} {wp : Prop} {st0 : List Value}
theorem r_runI {Qc : Array Value → State → Outcome → State → Prop} {free : Addr → Prop} (S : CallFix p m c cc nL s args Ts own) (hw : Wd D cs A H0 s E d H locs) (hM : Met l y ws rm (PcM D cs E d H.size (.ref b :: As) wp) Qc mc ms free) (cw : CallB R s args own index y bytes maxL none ws rm mc ms n ∧ y.name = "<init>" ∧ (Cond.instanceMethod y).before args s = true) (hwp : wp)
    (hn : As.length = n) (hsize : ls.size = nL) (hst : st0 = As.reverse ++ .ref b :: rest) (hW : (rest.map fun v => v.category).sum ≤ 8) (hdg : decode cc pc = .ok (.invokespecial index, 3)) (hf : cells + mc ≤ R.cells ∧ slots + ms ≤ R.slots) :
    va_Run p l e R s m args below meth c H locs cells slots mc ms (F0 m pc ls st0) rest (Qc (Value.ref b :: As).toArray) free :=
  va_runI S hM cw ⟨PcM_blind, fun U hU hW => ⟨rfl, Wd_In hw hU hW, hwp⟩⟩ rfl hn hsize hst (lv_room (rest := []) (m := m) (pc := pc) (ls := ls) hW) hdg hf
theorem r_runIN {Qc : Array Value → State → Outcome → State → Prop} {free : Addr → Prop} {host : String} (S : CallFix p m c cc nL s args Ts own) (hw : Wd D cs A H0 s E d H locs) (hM : Met l y ws rm (PcM D cs E d H.size (.ref b :: As) wp) Qc mc ms free) (cw : va_CN R s args own index y host bytes maxL none ws rm mc ms n ∧ y.name = "<init>" ∧ (Cond.instanceMethod y).before args s = true) (hwp : wp)
    (hn : As.length = n) (hsize : ls.size = nL) (hst : st0 = As.reverse ++ .ref b :: rest) (hW : (rest.map fun v => v.category).sum ≤ 8) (hdg : decode cc pc = .ok (.invokespecial index, 3)) (hf : cells + mc ≤ R.cells ∧ slots + ms ≤ R.slots) :
    va_Run p l e R s m args below meth c H locs cells slots mc ms (F0 m pc ls st0) rest (Qc (Value.ref b :: As).toArray) free :=
  va_runIN S hM cw ⟨PcM_blind, fun U hU hW => ⟨rfl, Wd_In hw hU hW, hwp⟩⟩ rfl hn hsize hst (lv_room (rest := []) (m := m) (pc := pc) (ls := ls) hW) hdg hf
variable {av : Array Value}
theorem r_callVL {K : En → Dy → Prop} (hw : Wd D cs A H0 s E d H locs) (hr : va_Run p l e R s m args below meth c H locs cells slots mc ms (F0 m pc ls st0) rest (va_Qv (fun u : En × Dy => K u.1 u.2 ∧ Ext E u.1) (OutL D cs (AW E H.size)) (AW E H.size) av) (AW E H.size))
    (kk : ∀ (E' : En) (d' : Dy) (H1 : Heap) (locs1 : List Loc), K E' d' → Ext E E' → Wd D cs A H0 s E' d' H1 locs1 → W p l e R s m args below meth c H1 locs1 (cells + mc) (slots + ms) Q (F0 m (pc + 3) ls rest)) : W p l e R s m args below meth c H locs cells slots Q (F0 m pc ls st0) :=
  va_callv hr hw.2.2.2.1 (fun q _ h => Wd_A hw q h) (Wd_A hw) (fun u t H1 locs1 ht _ hK hB _ _ hS => kk u.1 u.2 H1 locs1 hK.1 hK.2 (Wd_OutL hw ht hB hS))
theorem r_callIL {K : Int32 → En → Dy → Prop} (hw : Wd D cs A H0 s E d H locs) (hr : va_Run p l e R s m args below meth c H locs cells slots mc ms (F0 m pc ls st0) rest (va_Qi (fun (r : Int32) (u : En × Dy) => K r u.1 u.2 ∧ Ext E u.1) (OutL D cs (AW E H.size)) (AW E H.size) av) (AW E H.size))
    (kk : ∀ (r : Int32) (E' : En) (d' : Dy) (H1 : Heap) (locs1 : List Loc), K r E' d' → Ext E E' → Wd D cs A H0 s E' d' H1 locs1 → W p l e R s m args below meth c H1 locs1 (cells + mc) (slots + ms) Q (F0 m (pc + 3) ls (.int r :: rest))) : W p l e R s m args below meth c H locs cells slots Q (F0 m pc ls st0) :=
  va_calli hr hw.2.2.2.1 (fun q _ h => Wd_A hw q h) (Wd_A hw) (fun r u t H1 locs1 ht _ hK hB _ _ hS => kk r u.1 u.2 H1 locs1 hK.1 hK.2 (Wd_OutL hw ht hB hS))
theorem r_callRL {K : Nat → En → Dy → Prop} (hw : Wd D cs A H0 s E d H locs) (hr : va_Run p l e R s m args below meth c H locs cells slots mc ms (F0 m pc ls st0) rest (va_Qq (fun (r : Option Nat) (u : En × Dy) => (∃ b, r = some b ∧ K b u.1 u.2) ∧ Ext E u.1) (OutL D cs (AW E H.size)) (AW E H.size) av) (AW E H.size))
    (kk : ∀ (r : Nat) (E' : En) (d' : Dy) (H1 : Heap) (locs1 : List Loc), K r E' d' → Ext E E' → Wd D cs A H0 s E' d' H1 locs1 → W p l e R s m args below meth c H1 locs1 (cells + mc) (slots + ms) Q (F0 m (pc + 3) ls (.ref r :: rest))) : W p l e R s m args below meth c H locs cells slots Q (F0 m pc ls st0) :=
  va_callq hr hw.2.2.2.1 (fun q _ h => Wd_A hw q h) (Wd_A hw) (fun r u t H1 locs1 ht _ hK hB _ _ hS => by
    obtain ⟨⟨b, rfl, hK1⟩, hK2⟩ := hK
    exact kk b u.1 u.2 H1 locs1 hK1 hK2 (Wd_OutL hw ht hB hS))
end
theorem gC {T : Cond} {n : Nat} {y : MethodName} {c : ByteArray} {r : Option FieldType} (h5 : Cond.code y c n r ∈ wsL_law) : GoodIn (T :: wsL_law) (Cond.code y c n r :: wsL_law) := gG (fun w hw => (List.mem_cons.mp hw).elim (fun e => e ▸ h5) id)
section
variable {p : Program} {l : Launch} {e : Env} {R : Room} {s : State} {m : MethodId} {args : Array Value} {below : List Frame} {meth : Method} {c : Code} {H : Heap} {locs : List Loc} {cells slots : Nat} {Q : State → Prop}
variable {cc : ByteArray} {nL : Nat} {Ts : List Cond} {own : String} {D : va_G} {cs : Nat → ClassId} {A : Nat → Prop} {H0 : Heap} {E : En} {d : Dy} {pc : Nat} {ls : Array Slot} {rest : List Value} {a b : Nat}
theorem r_newT (S : CallFix p m c cc nL s args Ts own) (hw : Wd D cs A H0 s E d H locs) {index : Nat} (hcl : Cond.classLink own index "HutRow$Text" ∈ Ts) {n : Int32} (hn : ¬ n < 0) (hbytes : n.toNatClampNeg * 4 ≤ 536870912) (hcells : cells + 1 ≤ R.cells) (hslots : slots + n.toNatClampNeg ≤ R.slots) (hdg : decode cc pc = .ok (.anewarray index, 3))
    (kk : ∀ (q : Nat) (H1 : Heap), q ∉ eL E → Wd D cs A H0 s (nE E q 16 n.toNatClampNeg) (nD d q) H1 locs → W p l e R s m args below meth c H1 locs (cells + 1) (slots + n.toNatClampNeg) Q (F0 m (pc + 3) ls (.ref q :: rest))) : W p l e R s m args below meth c H locs cells slots Q (F0 m pc ls (.int n :: rest)) := by
  refine va_newq S.1 S.2.1 S.2.2.2.1 (S.2.2.2.2 _ hcl) hw.2.2.2.2.2.2.2.2.2.1.2.2.2.2.1 hw.1 hw.2.1 hw.2.2.1 hw.2.2.2.1 hw.2.2.2.2.1 hn rfl hbytes hcells hslots hdg (fun q cA H1 hK hP hD hS => ?_)
  have hq : q ∉ eL E := va_pl_fresh2 (X := []) hD
  obtain ⟨-, -, -, -, -, e1⟩ := (hK.2 5 (cA, .object "HutRow$Text") rfl).2
  obtain ⟨-, -, -, -, -, e2⟩ := (hw.1.2 4 (cs 16, .object "HutRow$Text") rfl).2
  have e3 : cA = cs 16 := Option.some.inj (e1.symm.trans e2)
  subst e3
  rw [wl_new hq (cE_newQ cs E d q n.toNatClampNeg)] at hP hD
  exact kk q H1 hq ⟨hw.1, hP, hD, hS, hw.2.2.2.2⟩
end
theorem dF0 : ∀ j, j < 3 → defaultValue (tyX0 j) = vp_V (defF 0) j := by decide
theorem dF1 : ∀ j, j < 3 → defaultValue (tyX1 j) = vp_V (defF 1) j := by decide
theorem dF2 : ∀ j, j < 10 → defaultValue (tyX2 j) = vp_V (defF 2) j := by decide
theorem dF3 : ∀ j, j < 9 → defaultValue (tyX3 j) = vp_V (defF 3) j := by decide
theorem dF4 : ∀ j, j < 5 → defaultValue (tyX4 j) = vp_V (defF 4) j := by decide
theorem dF5 : ∀ j, j < 6 → defaultValue (tyX5 j) = vp_V (defF 5) j := by decide
theorem dF6 : ∀ j, j < 4 → defaultValue (tyX6 j) = vp_V (defF 6) j := by decide
theorem dF7 : ∀ j, j < 2 → defaultValue (tyX7 j) = vp_V (defF 7) j := by decide
theorem dF8 : ∀ j, j < 12 → defaultValue (tyX8 j) = vp_V (defF 8) j := by decide
theorem dF9 : ∀ j, j < 9 → defaultValue (tyX9 j) = vp_V (defF 9) j := by decide
theorem dF10 : ∀ j, j < 11 → defaultValue (tyX10 j) = vp_V (defF 10) j := by decide
theorem dF11 : ∀ j, j < 40 → defaultValue (tyX11 j) = vp_V (defF 11) j := by decide
