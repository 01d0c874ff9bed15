/-! the pool of cells: what stands for good (En: addresses, kinds, lengths, references in fields) and what changes (Dy: int fields, int rows, long rows, rows of references) -/
abbrev En : Type := List Nat × (Nat → Nat) × (Nat → Nat) × (Nat → Nat → Option Nat)
abbrev Dy : Type := (Nat → Nat → Int32) × (Nat → Nat → Int32) × (Nat → Nat → Int64) × (Nat → Nat → Option Nat)
def eL (E : En) : List Nat := E.1
def eT (E : En) : Nat → Nat := E.2.1
def eN (E : En) : Nat → Nat := E.2.2.1
def eR (E : En) : Nat → Nat → Option Nat := E.2.2.2
def gI (d : Dy) : Nat → Nat → Int32 := d.1
def gA (d : Dy) : Nat → Nat → Int32 := d.2.1
def gJ (d : Dy) : Nat → Nat → Int64 := d.2.2.1
def gQ (d : Dy) : Nat → Nat → Option Nat := d.2.2.2
def u2 {α : Type} (f : Nat → Nat → α) (a k : Nat) (v : α) : Nat → Nat → α := fun b j => if b = a then (if j = k then v else f b j) else f b j
def pI (d : Dy) (a k : Nat) (v : Int32) : Dy := (u2 d.1 a k v, d.2)
def pA (d : Dy) (a k : Nat) (v : Int32) : Dy := (d.1, u2 d.2.1 a k v, d.2.2)
def pJ (d : Dy) (a k : Nat) (v : Int64) : Dy := (d.1, d.2.1, u2 d.2.2.1 a k v, d.2.2.2)
def pQ (d : Dy) (a k : Nat) (v : Option Nat) : Dy := (d.1, d.2.1, d.2.2.1, u2 d.2.2.2 a k v)
def sA (d : Dy) (a : Nat) (g : Nat → Int32) : Dy := (d.1, va_up d.2.1 a g, d.2.2)
def sJ (d : Dy) (a : Nat) (g : Nat → Int64) : Dy := (d.1, d.2.1, va_up d.2.2.1 a g, d.2.2.2)
/-- the fields of each kind: is it a reference -/
def fK (ci : Nat) : List Bool := match ci with
  | 0 => [true, true, false]
  | 1 => [true, true, true]
  | 2 => [true, false, false, false, false, false, false, true, true, false]
  | 3 => [true, false, false, false, false, true, true, true, true]
  | 4 => [true, true, true, false, false]
  | 5 => [true, true, true, true, true, false]
  | 6 => [false, false, true, false]
  | 7 => [true, true]
  | 8 => [false, true, true, true, true, true, true, true, true, true, true, true]
  | 9 => [true, true, true, true, true, true, false, false, false]
  | 10 => [true, true, false, true, false, true, true, true, true, true, true]
  | 11 => [false, true, true, false, true, false, false, false, false, false, false, true, false, false, true, true, true, false, true, true, true, true, true, true, true, true, true, true, true, false, true, true, true, false, true, true, true, true, true, true]
  | _ => []
def fO (E : En) (d : Dy) (a ci : Nat) : List Value := (List.range (fK ci).length).map (fun k => if (fK ci).getD k false = true then va_rf (eR E a k) else .int (gI d a k))
def cE (cs : Nat → ClassId) (E : En) (d : Dy) (a : Nat) : va_E :=
  if eT E a < 12 then .inr (eT E a, fO E d a (eT E a))
  else if eT E a = 14 then .inl (cs 14, eN E a, .inr (.inl (gJ d a)))
  else if eT E a = 16 then .inl (cs 16, eN E a, .inr (.inr (.inr (.inr (gQ d a)))))
  else .inl (cs (eT E a), eN E a, .inl (gA d a))
def okO (E : En) (a ci : Nat) : Prop := a ∈ eL E ∧ eT E a = ci ∧ ci < 12
def okA (E : En) (a t : Nat) : Prop := a ∈ eL E ∧ eT E a = t ∧ 12 ≤ t
theorem u2_s {α : Type} (f : Nat → Nat → α) (a k : Nat) (v : α) : u2 f a k v a k = v := by simp [u2]
theorem u2_k {α : Type} (f : Nat → Nat → α) (a : Nat) {k j : Nat} (v : α) (h : j ≠ k) : u2 f a k v a j = f a j := by simp [u2, h]
theorem u2_a {α : Type} (f : Nat → Nat → α) {a b : Nat} (k : Nat) (v : α) (h : b ≠ a) : u2 f a k v b = f b := by funext j; simp [u2, h]
theorem fO_int {E : En} {d : Dy} {a ci k : Nat} (h : (fK ci)[k]? = some false) : (fO E d a ci)[k]? = some (.int (gI d a k)) := by
  have hk : k < (fK ci).length := (List.getElem?_eq_some_iff.mp h).1
  simp [fO, List.getElem?_range hk, h]
theorem fO_ref {E : En} {d : Dy} {a ci k : Nat} (h : (fK ci)[k]? = some true) : (fO E d a ci)[k]? = some (va_rf (eR E a k)) := by
  have hk : k < (fK ci).length := (List.getElem?_eq_some_iff.mp h).1
  simp [fO, List.getElem?_range hk, h]
theorem fO_len {E : En} {d : Dy} {a ci : Nat} : (fO E d a ci).length = (fK ci).length := by simp [fO]
theorem fO_set {E : En} {d : Dy} {a ci k : Nat} {v : Int32} (h : (fK ci)[k]? = some false) : (fO E d a ci).set k (.int v) = fO E (pI d a k v) a ci := by
  have hk : k < (fK ci).length := (List.getElem?_eq_some_iff.mp h).1
  apply List.ext_getElem?
  intro j
  rw [List.getElem?_set]
  by_cases hj : k = j
  · subst hj
    rw [if_pos rfl, if_pos (by rw [fO_len]; exact hk), fO_int h]
    simp [gI, pI, u2]
  · rw [if_neg hj]
    by_cases hl : j < (fK ci).length
    · simp only [fO, List.getElem?_map, List.getElem?_range hl, Option.map_some, gI, pI]
      rw [u2_k _ _ _ (fun q => hj q.symm)]
    · rw [List.getElem?_eq_none (by rw [fO_len]; omega), List.getElem?_eq_none (by rw [fO_len]; omega)]
theorem fO_ne {E : En} {d : Dy} {a b ci k : Nat} {v : Int32} (h : b ≠ a) : fO E (pI d a k v) b ci = fO E d b ci := by
  simp only [fO, gI, pI]
  rw [u2_a _ _ _ h]
section
variable {cs : Nat → ClassId} {E : En} {d : Dy} {a ci t : Nat}
theorem cE_o (h : okO E a ci) : cE cs E d a = .inr (ci, fO E d a ci) := by
  obtain ⟨-, h2, h3⟩ := h
  simp [cE, h2, h3]
theorem cE_i (h : okA E a t) (h4 : t ≠ 14) (h6 : t ≠ 16) : cE cs E d a = .inl (cs t, eN E a, .inl (gA d a)) := by
  obtain ⟨-, h2, h3⟩ := h
  simp [cE, h2, h4, h6, Nat.not_lt.mpr h3]
theorem cE_j (h : okA E a 14) : cE cs E d a = .inl (cs 14, eN E a, .inr (.inl (gJ d a))) := by
  obtain ⟨-, h2, h3⟩ := h
  simp [cE, h2]
theorem cE_q (h : okA E a 16) : cE cs E d a = .inl (cs 16, eN E a, .inr (.inr (.inr (.inr (gQ d a))))) := by
  obtain ⟨-, h2, h3⟩ := h
  simp [cE, h2]
theorem cE_pI {k : Nat} {v : Int32} (h : okO E a ci) (hk : (fK ci)[k]? = some false) (b : Nat) : va_up (cE cs E d) a (.inr (ci, (fO E d a ci).set k (.int v))) b = cE cs E (pI d a k v) b := by
  by_cases hb : b = a
  · subst hb
    rw [cE_o h, fO_set hk]
    simp [va_up]
  · simp only [va_up, if_neg hb, cE]
    rw [fO_ne hb]
    rfl
theorem cE_sA {g : Nat → Int32} (h : okA E a t) (h4 : t ≠ 14) (h6 : t ≠ 16) (b : Nat) : va_up (cE cs E d) a (.inl (cs t, eN E a, .inl g)) b = cE cs E (sA d a g) b := by
  by_cases hb : b = a
  · subst hb
    rw [cE_i h h4 h6]
    simp [va_up, gA, sA]
  · simp only [va_up, if_neg hb, cE, gA, sA, gJ, gQ, gI, fO]
theorem cE_sJ {g : Nat → Int64} (h : okA E a 14) (b : Nat) : va_up (cE cs E d) a (.inl (cs 14, eN E a, .inr (.inl g))) b = cE cs E (sJ d a g) b := by
  by_cases hb : b = a
  · subst hb
    rw [cE_j h]
    simp [va_up, gJ, sJ]
  · simp only [va_up, if_neg hb, cE, gA, sJ, gJ, gQ, gI, fO]
theorem cE_sQ {g : Nat → Option Nat} (h : okA E a 16) (b : Nat) : va_up (cE cs E d) a (.inl (cs 16, eN E a, .inr (.inr (.inr (.inr g))))) b = cE cs E (d.1, d.2.1, d.2.2.1, va_up d.2.2.2 a g) b := by
  by_cases hb : b = a
  · subst hb
    rw [cE_q h]
    simp [va_up, gQ]
  · simp only [va_up, if_neg hb, cE, gA, gJ, gQ, gI, fO]
end
theorem sA_upd (d : Dy) (a i : Nat) (v : Int32) : sA d a (upd (gA d a) i v) = pA d a i v := by
  simp only [sA, pA, gA]
  congr 2
  funext b j
  by_cases hb : b = a
  · subst hb; simp [va_up, u2, upd]
  · simp [va_up, u2, hb]
theorem sJ_upd (d : Dy) (a i : Nat) (v : Int64) : sJ d a (vp_updL (gJ d a) i v) = pJ d a i v := by
  simp only [sJ, pJ, gJ]
  congr 3
  funext b j
  by_cases hb : b = a
  · subst hb; simp [va_up, u2, vp_updL]
  · simp [va_up, u2, hb]
theorem pl_in {L : List Nat} {f : Nat → va_E} {a : Nat} (h : a ∈ L) : ∃ k : Nat, (va_pl L f)[k]? = some (a, f a) := va_pl_get (X := []) h
theorem pl_set {A : Nat → Prop} {L : List Nat} {f g : Nat → va_E} {a k : Nat} {e : va_E} (hD : va_D A (va_pl L f)) (h : a ∈ L) (hk : (va_pl L f)[k]? = some (a, f a)) (hg : ∀ b, va_up f a e b = g b) : (va_pl L f).set k (a, e) = va_pl L g :=
  (va_pl_set (X := []) (e := e) hD h hk).trans (va_pl_congr hg)
theorem pl_D {A : Nat → Prop} {L : List Nat} {f g : Nat → va_E} (h : va_D A (va_pl L f)) : va_D A (va_pl L g) := by
  have key : ∀ (i : Nat) (x : Nat × va_E), (va_pl L g)[i]? = some x → (va_pl L f)[i]? = some (x.1, f x.1) := by
    intro i x hx
    simp only [va_pl, List.getElem?_map] at hx ⊢
    cases hi : L[i]? with
    | none => rw [hi] at hx; cases hx
    | some b => rw [hi] at hx; cases hx; rfl
  exact ⟨fun i j x y hi hj hxy => h.1 i j _ _ (key i x hi) (key j y hj) hxy, fun k q hk => h.2 k (q.1, f q.1) (key k q hk)⟩
theorem pl_mem {A : Nat → Prop} {L : List Nat} {f : Nat → va_E} (h : va_D A (va_pl L f)) {q : Nat} (hq : q ∈ L) : A q := by
  obtain ⟨k, hk⟩ := pl_in (f := f) hq
  exact h.2 k _ hk
theorem pl_self {A B : Nat → Prop} {L : List Nat} {f : Nat → va_E} (h : va_D A (va_pl L f)) (hB : ∀ q ∈ L, B q) : va_D B (va_pl L f) := by
  refine ⟨h.1, fun k q hk => ?_⟩
  simp only [va_pl, List.getElem?_map] at hk
  cases hi : L[k]? with
  | none => rw [hi] at hk; cases hk
  | some b => rw [hi] at hk; cases hk; exact hB b (List.mem_of_getElem? hi)
abbrev tyl (cs : Nat → ClassId) : List (ClassId × FieldType) := [(cs 12, .byte), (cs 13, .int), (cs 14, .long), (cs 15, .boolean), (cs 16, .object "HutRow$Text")]
abbrev wl (cs : Nat → ClassId) (E : En) (d : Dy) : va_W := va_pl (eL E) (cE cs E d)
/-- the world within a method: the classes, the cells, what may be written, what stayed -/
def Wd (D : va_G) (cs : Nat → ClassId) (A : Nat → Prop) (H0 : Heap) (s : State) (E : En) (d : Dy) (H : Heap) (locs : List Loc) : Prop :=
  va_K D vwCl (tyl cs) s ∧ va_P D vwCl (wl cs E d) H ∧ va_D A (wl cs E d) ∧ va_S A H0 H locs ∧ ∀ q, H0.size ≤ q → A q
/-- at a method's start, at its end -/
def InW (D : va_G) (cs : Nat → ClassId) (E : En) (d : Dy) (sz : Nat) (U : State) : Prop := U.heap.size = sz ∧ va_K D vwCl (tyl cs) U ∧ va_P D vwCl (wl cs E d) U.heap ∧ va_D (fun _ => True) (wl cs E d)
def AW (E : En) (sz : Nat) : Nat → Prop := fun q => q ∈ eL E ∨ sz ≤ q
def OutW (D : va_G) (cs : Nat → ClassId) (E : En) (A : Nat → Prop) (d : Dy) (t : State) : Prop := va_P D vwCl (wl cs E d) t.heap ∧ va_K D vwCl (tyl cs) t ∧ va_D A (wl cs E d)
def PcM (D : va_G) (cs : Nat → ClassId) (E : En) (d : Dy) (sz : Nat) (av : List Value) (wp : Prop) : Array Value → State → Prop := va_Pc av (fun U => InW D cs E d sz U ∧ wp)
/-- contracts of methods that make nothing and set no reference: answer an int, a long, nothing, a reference or null -/
def CI (l : Launch) (y : MethodName) (ws : List Cond) (rm : Room) (D : va_G) (cs : Nat → ClassId) (E : En) (d : Dy) (sz : Nat) (av : List Value) (wp : Prop) (K : Int32 → Dy → Prop) : Prop :=
  Met l y ws rm (PcM D cs E d sz av wp) (va_Qi K (OutW D cs E (AW E sz)) (AW E sz)) rm.cells rm.slots (AW E sz)
def CJ (l : Launch) (y : MethodName) (ws : List Cond) (rm : Room) (D : va_G) (cs : Nat → ClassId) (E : En) (d : Dy) (sz : Nat) (av : List Value) (wp : Prop) (K : Int64 → Dy → Prop) : Prop :=
  Met l y ws rm (PcM D cs E d sz av wp) (va_Ql K (OutW D cs E (AW E sz)) (AW E sz)) rm.cells rm.slots (AW E sz)
def CV (l : Launch) (y : MethodName) (ws : List Cond) (rm : Room) (D : va_G) (cs : Nat → ClassId) (E : En) (d : Dy) (sz : Nat) (av : List Value) (wp : Prop) (K : Dy → Prop) : Prop :=
  Met l y ws rm (PcM D cs E d sz av wp) (va_Qv K (OutW D cs E (AW E sz)) (AW E sz)) rm.cells rm.slots (AW E sz)
def CQ (l : Launch) (y : MethodName) (ws : List Cond) (rm : Room) (D : va_G) (cs : Nat → ClassId) (E : En) (d : Dy) (sz : Nat) (av : List Value) (wp : Prop) (K : Option Nat → Dy → Prop) : Prop :=
  Met l y ws rm (PcM D cs E d sz av wp) (va_Qq K (OutW D cs E (AW E sz)) (AW E sz)) rm.cells rm.slots (AW E sz)
theorem PcM_blind {D : va_G} {cs : Nat → ClassId} {E : En} {d : Dy} {sz : Nat} {av : List Value} {wp : Prop} : FrameBlind (PcM D cs E d sz av wp) := fun a U g mk q => by
  obtain ⟨q0, ⟨q1, qK, qP, qD⟩, qw⟩ := q
  exact ⟨q0, ⟨q1, va_K.moved (u := U) (U := U.calling g mk a) (Vm.Alike.refl U.vm) qK, qP, qD⟩, qw⟩
section
variable {l : Launch} {y : MethodName} {ws ws' : List Cond} {rm : Room} {D : va_G} {cs : Nat → ClassId} {E : En} {d : Dy} {sz : Nat} {av : List Value} {wp : Prop} {cc : ByteArray} {maxL : Nat} {ret : Option FieldType} {own : String}
/-- a body's start, whatever the method answers -/
theorem e_of {Qc : Array Value → State → Outcome → State → Prop} {mc ms : Nat} {free : Addr → Prop} (hy : plainName y.cls = true) (hoy : y.cls = own) (hw : ws = Cond.code y cc maxL ret :: ws') (hav : (lg_sl av).length ≤ maxL)
    (body : ∀ p e s m below meth c, CallFix p m c cc maxL s av.toArray ws own → meth.sig.returnType = ret → meth.locks = false → s.heap.size = sz → ∀ (H : Heap) (locs : List Loc), Wd D cs (AW E sz) s.heap s E d H locs → wp → ∀ ls, lv_has ls maxL (lv_args 0 av) →
      W p l e rm s m av.toArray below meth c H locs 0 0 (MQ below Qc av.toArray s mc ms free) (F0 m 0 ls [])) : Met l y ws rm (PcM D cs E d sz av wp) Qc mc ms free := by
  refine Met.ofW (cc := cc) (maxL := maxL) (ret := ret) hy hw ?_
  intro p e s m args below meth c s₁ B hml hv
  obtain ⟨rfl, ⟨hsz, hK, hP, hD⟩, hwp⟩ := hv
  have hl := lv_entry av (n := maxL) hav
  rw [lg_entry_eq]
  generalize (lg_sl av ++ List.replicate (maxL - (lg_sl av).length) Slot.unset).toArray = ls at hl ⊢
  exact body p e s m below meth c ⟨B.exec, B.bytes, hml, hoy ▸ findClass_of_methodNamed B.named, atoms_spec (ws := ws) B.pre⟩ B.returns B.notSynchronized hsz s.heap []
    ⟨hK, hP, pl_self hD (fun q h => Or.inl h), va_S.rf, fun q h => Or.inr (by rw [← hsz]; exact h)⟩ hwp ls hl
end
