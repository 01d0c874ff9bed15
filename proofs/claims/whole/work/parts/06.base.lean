/-! the pool of cells: what stands for good (En: addresses, kinds, lengths, references in fields) and what changes (Dy: int fields, int rows, long rows, rows of references) -/
abbrev En : Type := List Nat × (Nat → Nat) × (Nat → Nat) × (Nat → Nat → Option Nat)
abbrev Dy : Type := (Nat → Nat → Int32) × (Nat → Nat → Int32) × (Nat → Nat → Int64) × (Nat → Nat → Option Nat)
def eL (E : En) : List Nat := E.1
def eT (E : En) : Nat → Nat := E.2.1
def eN (E : En) : Nat → Nat := E.2.2.1
def eR (E : En) : Nat → Nat → Option Nat := E.2.2.2
def gI (d : Dy) : Nat → Nat → Int32 := d.1
def gA (d : Dy) : Nat → Nat → Int32 := d.2.1
def gJ (d : Dy) : Nat → Nat → Int64 := d.2.2.1
def gQ (d : Dy) : Nat → Nat → Option Nat := d.2.2.2
def u2 {α : Type} (f : Nat → Nat → α) (a k : Nat) (v : α) : Nat → Nat → α := fun b j => if b = a then (if j = k then v else f b j) else f b j
def pI (d : Dy) (a k : Nat) (v : Int32) : Dy := (u2 d.1 a k v, d.2)
def pA (d : Dy) (a k : Nat) (v : Int32) : Dy := (d.1, u2 d.2.1 a k v, d.2.2)
def pJ (d : Dy) (a k : Nat) (v : Int64) : Dy := (d.1, d.2.1, u2 d.2.2.1 a k v, d.2.2.2)
def pQ (d : Dy) (a k : Nat) (v : Option Nat) : Dy := (d.1, d.2.1, d.2.2.1, u2 d.2.2.2 a k v)
def sA (d : Dy) (a : Nat) (g : Nat → Int32) : Dy := (d.1, va_up d.2.1 a g, d.2.2)
def sJ (d : Dy) (a : Nat) (g : Nat → Int64) : Dy := (d.1, d.2.1, va_up d.2.2.1 a g, d.2.2.2)
/-- the fields of each kind: is it a reference -/
def fK (ci : Nat) : List Bool := match ci with
  | 0 => [true, true, false]
  | 1 => [true, true, true]
  | 2 => [true, false, false, false, false, false, false, true, true, false]
  | 3 => [true, false, false, false, false, true, true, true, true]
  | 4 => [true, true, true, false, false]
  | 5 => [true, true, true, true, true, false]
  | 6 => [false, false, true, false]
  | 7 => [true, true]
  | 8 => [false, true, true, true, true, true, true, true, true, true, true, true]
  | 9 => [true, true, true, true, true, true, false, false, false]
  | 10 => [true, true, false, true, false, true, true, true, true, true, true]
  | 11 => [false, true, true, false, true, false, false, false, false, false, false, true, false, false, true, true, true, false, true, true, true, true, true, true, true, true, true, true, true, false, true, true, true, false, true, true, true, true, true, true]
  | _ => []
def fO (E : En) (d : Dy) (a ci : Nat) : List Value := (List.range (fK ci).length).map (fun k => if (fK ci).getD k false = true then va_rf (eR E a k) else .int (gI d a k))
def cE (cs : Nat → ClassId) (E : En) (d : Dy) (a : Nat) : va_E :=
  if eT E a < 12 then .inr (eT E a, fO E d a (eT E a))
  else if eT E a = 14 then .inl (cs 14, eN E a, .inr (.inl (gJ d a)))
  else if eT E a = 16 then .inl (cs 16, eN E a, .inr (.inr (.inr (.inr (gQ d a)))))
  else .inl (cs (eT E a), eN E a, .inl (gA d a))
def okO (E : En) (a ci : Nat) : Prop := a ∈ eL E ∧ eT E a = ci ∧ ci < 12
def okA (E : En) (a t : Nat) : Prop := a ∈ eL E ∧ eT E a = t ∧ 12 ≤ t
theorem u2_s {α : Type} (f : Nat → Nat → α) (a k : Nat) (v : α) : u2 f a k v a k = v := by simp [u2]
theorem u2_k {α : Type} (f : Nat → Nat → α) (a : Nat) {k j : Nat} (v : α) (h : j ≠ k) : u2 f a k v a j = f a j := by simp [u2, h]
theorem u2_a {α : Type} (f : Nat → Nat → α) {a b : Nat} (k : Nat) (v : α) (h : b ≠ a) : u2 f a k v b = f b := by funext j; simp [u2, h]
theorem fO_int {E : En} {d : Dy} {a ci k : Nat} (h : (fK ci)[k]? = some false) : (fO E d a ci)[k]? = some (.int (gI d a k)) := by
  have hk : k < (fK ci).length := (List.getElem?_eq_some_iff.mp h).1
  simp [fO, List.getElem?_range hk, h]
theorem fO_ref {E : En} {d : Dy} {a ci k : Nat} (h : (fK ci)[k]? = some true) : (fO E d a ci)[k]? = some (va_rf (eR E a k)) := by
  have hk : k < (fK ci).length := (List.getElem?_eq_some_iff.mp h).1
  simp [fO, List.getElem?_range hk, h]
theorem fO_len {E : En} {d : Dy} {a ci : Nat} : (fO E d a ci).length = (fK ci).length := by simp [fO]
theorem fO_set {E : En} {d : Dy} {a ci k : Nat} {v : Int32} (h : (fK ci)[k]? = some false) : (fO E d a ci).set k (.int v) = fO E (pI d a k v) a ci := by
  have hk : k < (fK ci).length := (List.getElem?_eq_some_iff.mp h).1
  apply List.ext_getElem?
  intro j
  rw [List.getElem?_set]
  by_cases hj : k = j
  · subst hj
    rw [if_pos rfl, if_pos (by rw [fO_len]; exact hk), fO_int h]
    simp [gI, pI, u2]
  · rw [if_neg hj]
    by_cases hl : j < (fK ci).length
    · simp only [fO, List.getElem?_map, List.getElem?_range hl, Option.map_some, gI, pI]
      rw [u2_k _ _ _ (fun q => hj q.symm)]
    · rw [List.getElem?_eq_none (by rw [fO_len]; omega), List.getElem?_eq_none (by rw [fO_len]; omega)]
theorem fO_ne {E : En} {d : Dy} {a b ci k : Nat} {v : Int32} (h : b ≠ a) : fO E (pI d a k v) b ci = fO E d b ci := by
  simp only [fO, gI, pI]
  rw [u2_a _ _ _ h]
section
variable {cs : Nat → ClassId} {E : En} {d : Dy} {a ci t : Nat}
theorem cE_o (h : okO E a ci) : cE cs E d a = .inr (ci, fO E d a ci) := by
  obtain ⟨-, h2, h3⟩ := h
  simp [cE, h2, h3]
theorem cE_i (h : okA E a t) (h4 : t ≠ 14) (h6 : t ≠ 16) : cE cs E d a = .inl (cs t, eN E a, .inl (gA d a)) := by
  obtain ⟨-, h2, h3⟩ := h
  simp [cE, h2, h4, h6, Nat.not_lt.mpr h3]
theorem cE_j (h : okA E a 14) : cE cs E d a = .inl (cs 14, eN E a, .inr (.inl (gJ d a))) := by
  obtain ⟨-, h2, h3⟩ := h
  simp [cE, h2]
theorem cE_q (h : okA E a 16) : cE cs E d a = .inl (cs 16, eN E a, .inr (.inr (.inr (.inr (gQ d a))))) := by
  obtain ⟨-, h2, h3⟩ := h
  simp [cE, h2]
theorem cE_pI {k : Nat} {v : Int32} (h : okO E a ci) (hk : (fK ci)[k]? = some false) (b : Nat) : va_up (cE cs E d) a (.inr (ci, (fO E d a ci).set k (.int v))) b = cE cs E (pI d a k v) b := by
  by_cases hb : b = a
  · subst hb
    rw [cE_o h, fO_set hk]
    simp [va_up]
  · simp only [va_up, if_neg hb, cE]
    rw [fO_ne hb]
    rfl
theorem cE_sA {g : Nat → Int32} (h : okA E a t) (h4 : t ≠ 14) (h6 : t ≠ 16) (b : Nat) : va_up (cE cs E d) a (.inl (cs t, eN E a, .inl g)) b = cE cs E (sA d a g) b := by
  by_cases hb : b = a
  · subst hb
    rw [cE_i h h4 h6]
    simp [va_up, gA, sA]
  · simp only [va_up, if_neg hb, cE, gA, sA, gJ, gQ, gI, fO]
theorem cE_sJ {g : Nat → Int64} (h : okA E a 14) (b : Nat) : va_up (cE cs E d) a (.inl (cs 14, eN E a, .inr (.inl g))) b = cE cs E (sJ d a g) b := by
  by_cases hb : b = a
  · subst hb
    rw [cE_j h]
    simp [va_up, gJ, sJ]
  · simp only [va_up, if_neg hb, cE, gA, sJ, gJ, gQ, gI, fO]
theorem cE_sQ {g : Nat → Option Nat} (h : okA E a 16) (b : Nat) : va_up (cE cs E d) a (.inl (cs 16, eN E a, .inr (.inr (.inr (.inr g))))) b = cE cs E (d.1, d.2.1, d.2.2.1, va_up d.2.2.2 a g) b := by
  by_cases hb : b = a
  · subst hb
    rw [cE_q h]
    simp [va_up, gQ]
  · simp only [va_up, if_neg hb, cE, gA, gJ, gQ, gI, fO]
end
theorem sA_upd (d : Dy) (a i : Nat) (v : Int32) : sA d a (upd (gA d a) i v) = pA d a i v := by
  simp only [sA, pA, gA]
  congr 2
  funext b j
  by_cases hb : b = a
  · subst hb; simp [va_up, u2, upd]
  · simp [va_up, u2, hb]
theorem sJ_upd (d : Dy) (a i : Nat) (v : Int64) : sJ d a (vp_updL (gJ d a) i v) = pJ d a i v := by
  simp only [sJ, pJ, gJ]
  congr 3
  funext b j
  by_cases hb : b = a
  · subst hb; simp [va_up, u2, vp_updL]
  · simp [va_up, u2, hb]
theorem pl_in {L : List Nat} {f : Nat → va_E} {a : Nat} (h : a ∈ L) : ∃ k : Nat, (va_pl L f)[k]? = some (a, f a) := va_pl_get (X := []) h
theorem pl_set {A : Nat → Prop} {L : List Nat} {f g : Nat → va_E} {a k : Nat} {e : va_E} (hD : va_D A (va_pl L f)) (h : a ∈ L) (hk : (va_pl L f)[k]? = some (a, f a)) (hg : ∀ b, va_up f a e b = g b) : (va_pl L f).set k (a, e) = va_pl L g :=
  (va_pl_set (X := []) (e := e) hD h hk).trans (va_pl_congr hg)
theorem pl_D {A : Nat → Prop} {L : List Nat} {f g : Nat → va_E} (h : va_D A (va_pl L f)) : va_D A (va_pl L g) := by
  have key : ∀ (i : Nat) (x : Nat × va_E), (va_pl L g)[i]? = some x → (va_pl L f)[i]? = some (x.1, f x.1) := by
    intro i x hx
    simp only [va_pl, List.getElem?_map] at hx ⊢
    cases hi : L[i]? with
    | none => rw [hi] at hx; cases hx
    | some b => rw [hi] at hx; cases hx; rfl
  exact ⟨fun i j x y hi hj hxy => h.1 i j _ _ (key i x hi) (key j y hj) hxy, fun k q hk => h.2 k (q.1, f q.1) (key k q hk)⟩
theorem pl_mem {A : Nat → Prop} {L : List Nat} {f : Nat → va_E} (h : va_D A (va_pl L f)) {q : Nat} (hq : q ∈ L) : A q := by
  obtain ⟨k, hk⟩ := pl_in (f := f) hq
  exact h.2 k _ hk
theorem pl_self {A B : Nat → Prop} {L : List Nat} {f : Nat → va_E} (h : va_D A (va_pl L f)) (hB : ∀ q ∈ L, B q) : va_D B (va_pl L f) := by
  refine ⟨h.1, fun k q hk => ?_⟩
  simp only [va_pl, List.getElem?_map] at hk
  cases hi : L[k]? with
  | none => rw [hi] at hk; cases hk
  | some b => rw [hi] at hk; cases hk; exact hB b (List.mem_of_getElem? hi)
abbrev tyl (cs : Nat → ClassId) : List (ClassId × FieldType) := [(cs 12, .byte), (cs 13, .int), (cs 14, .long), (cs 15, .boolean), (cs 16, .object "HutRow$Text")]
abbrev wl (cs : Nat → ClassId) (E : En) (d : Dy) : va_W := va_pl (eL E) (cE cs E d)
/-! what stands outside the pool: links of nest mates, the two statics that a throw reads, the row FACTS_OF_SORT, the constant texts -/
def exW : List String := ["java/lang/IllegalArgumentException", "java/lang/UnsupportedOperationException", "java/lang/IndexOutOfBoundsException", "java/util/NoSuchElementException"]
def nxW : List Cond := [Cond.fieldLinkNest "HutRow" 113 "HutRow$Told" "today" "I" "HutRow", Cond.fieldLinkNest "HutRow$Replay" 53 "HutRow$Told" "persons" "LHutRow$Table;" "HutRow", Cond.fieldLinkNest "HutRow$Queue" 68 "HutRow$Told" "persons" "LHutRow$Table;" "HutRow", Cond.fieldLinkNest "HutRow" 120 "HutRow$Told" "persons" "LHutRow$Table;" "HutRow", Cond.fieldLinkNest "HutRow$Shore" 28 "HutRow$Told" "huts" "LHutRow$Table;" "HutRow", Cond.fieldLinkNest "HutRow$Road" 26 "HutRow$Told" "huts" "LHutRow$Table;" "HutRow", Cond.fieldLinkNest "HutRow$Replay" 69 "HutRow$Told" "huts" "LHutRow$Table;" "HutRow", Cond.fieldLinkNest "HutRow" 139 "HutRow$Told" "huts" "LHutRow$Table;" "HutRow", Cond.fieldLinkNest "HutRow$Replay" 79 "HutRow$Told" "events" "LHutRow$Table;" "HutRow", Cond.fieldLinkNest "HutRow" 157 "HutRow$Told" "events" "LHutRow$Table;" "HutRow", Cond.fieldLinkNest "HutRow$Queue" 31 "HutRow$Told" "waiters" "LHutRow$Table;" "HutRow", Cond.fieldLinkNest "HutRow$Replay" 174 "HutRow$Told" "waiters" "LHutRow$Table;" "HutRow", Cond.fieldLinkNest "HutRow" 228 "HutRow$Told" "waiters" "LHutRow$Table;" "HutRow", Cond.fieldLinkNest "HutRow" 234 "HutRow$Told" "freed" "LHutRow$Table;" "HutRow", Cond.fieldLinkNest "HutRow" 278 "HutRow$Told" "winds" "LHutRow$Table;" "HutRow", Cond.fieldLinkNest "HutRow$Shore" 58 "HutRow$Told" "storms" "LHutRow$Table;" "HutRow", Cond.fieldLinkNest "HutRow" 290 "HutRow$Told" "storms" "LHutRow$Table;" "HutRow", Cond.fieldLinkNest "HutRow$Road" 62 "HutRow$Told" "planks" "LHutRow$Table;" "HutRow", Cond.fieldLinkNest "HutRow" 303 "HutRow$Told" "planks" "LHutRow$Table;" "HutRow", Cond.fieldLinkNest "HutRow" 313 "HutRow$Told" "photos" "LHutRow$Table;" "HutRow", Cond.fieldLinkNest "HutRow" 319 "HutRow$Told" "nights" "LHutRow$Table;" "HutRow", Cond.fieldLinkNest "HutRow$Reader" 123 "HutRow" "FACTS_OF_SORT" "[I" "HutRow", Cond.methodLinkNest "HutRow" 21 ⟨"HutRow$Reader", "<init>", "()V"⟩ "HutRow", Cond.methodLinkNest "HutRow$Replay" 28 ⟨"HutRow$Facts", "<init>", "()V"⟩ "HutRow", Cond.methodLinkNest "HutRow" 53 ⟨"HutRow$Yard", "<init>", "()V"⟩ "HutRow"] ++ exW.map (fun x => Cond.castable x x) ++ [Cond.declares ⟨"java/lang/RuntimeException", "<init>", "()V"⟩, Cond.declares ⟨"java/lang/Exception", "<init>", "()V"⟩, Cond.declares ⟨"java/lang/Throwable", "<init>", "()V"⟩]
theorem nx0 : Cond.fieldLinkNest RX10 113 (TX8 0).1 (TX8 0).2.1 (TX8 0).2.2.1 "HutRow" ∈ nxW := List.mem_of_getElem? (i := 0) rfl
theorem nx1 : Cond.fieldLinkNest RX3 53 (TX8 1).1 (TX8 1).2.1 (TX8 1).2.2.1 "HutRow" ∈ nxW := List.mem_of_getElem? (i := 1) rfl
theorem nx2 : Cond.fieldLinkNest RX1 68 (TX8 1).1 (TX8 1).2.1 (TX8 1).2.2.1 "HutRow" ∈ nxW := List.mem_of_getElem? (i := 2) rfl
theorem nx3 : Cond.fieldLinkNest RX10 120 (TX8 1).1 (TX8 1).2.1 (TX8 1).2.2.1 "HutRow" ∈ nxW := List.mem_of_getElem? (i := 3) rfl
theorem nx4 : Cond.fieldLinkNest RX5 28 (TX8 2).1 (TX8 2).2.1 (TX8 2).2.2.1 "HutRow" ∈ nxW := List.mem_of_getElem? (i := 4) rfl
theorem nx5 : Cond.fieldLinkNest RX4 26 (TX8 2).1 (TX8 2).2.1 (TX8 2).2.2.1 "HutRow" ∈ nxW := List.mem_of_getElem? (i := 5) rfl
theorem nx6 : Cond.fieldLinkNest RX3 69 (TX8 2).1 (TX8 2).2.1 (TX8 2).2.2.1 "HutRow" ∈ nxW := List.mem_of_getElem? (i := 6) rfl
theorem nx7 : Cond.fieldLinkNest RX10 139 (TX8 2).1 (TX8 2).2.1 (TX8 2).2.2.1 "HutRow" ∈ nxW := List.mem_of_getElem? (i := 7) rfl
theorem nx8 : Cond.fieldLinkNest RX3 79 (TX8 3).1 (TX8 3).2.1 (TX8 3).2.2.1 "HutRow" ∈ nxW := List.mem_of_getElem? (i := 8) rfl
theorem nx9 : Cond.fieldLinkNest RX10 157 (TX8 3).1 (TX8 3).2.1 (TX8 3).2.2.1 "HutRow" ∈ nxW := List.mem_of_getElem? (i := 9) rfl
theorem nx10 : Cond.fieldLinkNest RX1 31 (TX8 4).1 (TX8 4).2.1 (TX8 4).2.2.1 "HutRow" ∈ nxW := List.mem_of_getElem? (i := 10) rfl
theorem nx11 : Cond.fieldLinkNest RX3 174 (TX8 4).1 (TX8 4).2.1 (TX8 4).2.2.1 "HutRow" ∈ nxW := List.mem_of_getElem? (i := 11) rfl
theorem nx12 : Cond.fieldLinkNest RX10 228 (TX8 4).1 (TX8 4).2.1 (TX8 4).2.2.1 "HutRow" ∈ nxW := List.mem_of_getElem? (i := 12) rfl
theorem nx13 : Cond.fieldLinkNest RX10 234 (TX8 5).1 (TX8 5).2.1 (TX8 5).2.2.1 "HutRow" ∈ nxW := List.mem_of_getElem? (i := 13) rfl
theorem nx14 : Cond.fieldLinkNest RX10 278 (TX8 6).1 (TX8 6).2.1 (TX8 6).2.2.1 "HutRow" ∈ nxW := List.mem_of_getElem? (i := 14) rfl
theorem nx15 : Cond.fieldLinkNest RX5 58 (TX8 7).1 (TX8 7).2.1 (TX8 7).2.2.1 "HutRow" ∈ nxW := List.mem_of_getElem? (i := 15) rfl
theorem nx16 : Cond.fieldLinkNest RX10 290 (TX8 7).1 (TX8 7).2.1 (TX8 7).2.2.1 "HutRow" ∈ nxW := List.mem_of_getElem? (i := 16) rfl
theorem nx17 : Cond.fieldLinkNest RX4 62 (TX8 8).1 (TX8 8).2.1 (TX8 8).2.2.1 "HutRow" ∈ nxW := List.mem_of_getElem? (i := 17) rfl
theorem nx18 : Cond.fieldLinkNest RX10 303 (TX8 8).1 (TX8 8).2.1 (TX8 8).2.2.1 "HutRow" ∈ nxW := List.mem_of_getElem? (i := 18) rfl
theorem nx19 : Cond.fieldLinkNest RX10 313 (TX8 9).1 (TX8 9).2.1 (TX8 9).2.2.1 "HutRow" ∈ nxW := List.mem_of_getElem? (i := 19) rfl
theorem nx20 : Cond.fieldLinkNest RX10 319 (TX8 10).1 (TX8 10).2.1 (TX8 10).2.2.1 "HutRow" ∈ nxW := List.mem_of_getElem? (i := 20) rfl
theorem nx21 : Cond.fieldLinkNest RX2 123 "HutRow" "FACTS_OF_SORT" "[I" "HutRow" ∈ nxW := List.mem_of_getElem? (i := 21) rfl
theorem nx22 : Cond.methodLinkNest RX10 21 ⟨RX2, "<init>", "()V"⟩ "HutRow" ∈ nxW := List.mem_of_getElem? (i := 22) rfl
theorem nx23 : Cond.methodLinkNest RX3 28 ⟨RX0, "<init>", "()V"⟩ "HutRow" ∈ nxW := List.mem_of_getElem? (i := 23) rfl
theorem nx24 : Cond.methodLinkNest RX10 53 ⟨RX9, "<init>", "()V"⟩ "HutRow" ∈ nxW := List.mem_of_getElem? (i := 24) rfl
def skW : List (String × Nat × String) := [("HutRow$Reader", 132, "held age children year size place weeks waited local spouse child parent brother to if add less allow or and not "), ("HutRowModel", 243, "to"), ("HutRowModel", 245, "spouse"), ("HutRowModel", 247, "child"), ("HutRowModel", 249, "parent"), ("HutRowModel", 251, "brother"), ("HutRowModel", 256, "allow"), ("HutRowModel", 258, "add"), ("HutRowModel", 260, "less"), ("HutRowModel", 185, "year"), ("HutRowModel", 187, "held"), ("HutRowModel", 189, "age"), ("HutRowModel", 191, "children"), ("HutRowModel", 193, "size"), ("HutRowModel", 195, "place"), ("HutRowModel", 197, "weeks"), ("HutRowModel", 199, "waited"), ("HutRowModel", 269, "if"), ("HutRowModel", 223, "not"), ("HutRowModel", 231, "local"), ("HutRowModel", 236, "and"), ("HutRowModel", 241, "or")]
def skN : List Nat := [113, 2, 6, 5, 6, 7, 5, 3, 4, 4, 4, 3, 8, 4, 5, 5, 6, 2, 3, 5, 3, 2]
def skB : List (List Int32) := [[104, 101, 108, 100, 32, 97, 103, 101, 32, 99, 104, 105, 108, 100, 114, 101, 110, 32, 121, 101, 97, 114, 32, 115, 105, 122, 101, 32, 112, 108, 97, 99, 101, 32, 119, 101, 101, 107, 115, 32, 119, 97, 105, 116, 101, 100, 32, 108, 111, 99, 97, 108, 32, 115, 112, 111, 117, 115, 101, 32, 99, 104, 105, 108, 100, 32, 112, 97, 114, 101, 110, 116, 32, 98, 114, 111, 116, 104, 101, 114, 32, 116, 111, 32, 105, 102, 32, 97, 100, 100, 32, 108, 101, 115, 115, 32, 97, 108, 108, 111, 119, 32, 111, 114, 32, 97, 110, 100, 32, 110, 111, 116, 32], [116, 111], [115, 112, 111, 117, 115, 101], [99, 104, 105, 108, 100], [112, 97, 114, 101, 110, 116], [98, 114, 111, 116, 104, 101, 114], [97, 108, 108, 111, 119], [97, 100, 100], [108, 101, 115, 115], [121, 101, 97, 114], [104, 101, 108, 100], [97, 103, 101], [99, 104, 105, 108, 100, 114, 101, 110], [115, 105, 122, 101], [112, 108, 97, 99, 101], [119, 101, 101, 107, 115], [119, 97, 105, 116, 101, 100], [105, 102], [110, 111, 116], [108, 111, 99, 97, 108], [97, 110, 100], [111, 114]]
def fosV : List Int32 := [31, 121, 142, 56]
def Gx (cs : Nat → ClassId) (A : Nat → Prop) (U : State) (H : Heap) : Prop :=
  (∀ w ∈ nxW, va_Nw w U) ∧ vx_Zq Bundle.tN "UNASSIGNED_STACK" Bundle.steD A U H ∧ vx_Zq Bundle.tN "SUPPRESSED_SENTINEL" Bundle.listD A U H
  ∧ (va_Z "HutRow" "FACTS_OF_SORT" "[I" (.ref (cs 99)) A U H ∧ va_T .int (cs 99) 4 (fun j => .int (fosV.getD j 0)) A U H ∧ va_Z "java/lang/String" "COMPACT_STRINGS" "Z" (.int 1) A U H ∧ va_Zq "jdk/internal/util/Preconditions" "SIOOBE_FORMATTER" "Ljava/util/function/BiFunction;" A U H ∧ va_AO "HutRow$Text" U ∧ ∀ x ∈ exW, ∀ z ∈ exW, x ≠ z → va_Nc x z U)
  ∧ (∀ (i : Nat) (q : String × Nat × String), skW[i]? = some q → vk_R q.1 q.2.1 q.2.2 (cs (100 + i)) U) ∧ vk_S 22 skN skB (fun i => cs (100 + i)) (fun i => cs (200 + i)) A U H
theorem nxW_warm {s U : State} (hW : s.WarmedH U.vm) (h : ∀ w ∈ nxW, va_Nw w s) : ∀ w ∈ nxW, va_Nw w U := by
  have key : ∀ l : List Cond, (∀ w ∈ l, (match w with | .fieldLinkNest _ _ _ _ _ _ => true | .methodLinkNest _ _ _ _ => true | .castable _ _ => true | .declares _ => true | _ => false) = true) → (∀ w ∈ l, va_Nw w s) → ∀ w ∈ l, va_Nw w U := by
    intro l h1 h2 w hw
    have q1 := h1 w hw
    have q2 := h2 w hw
    cases w with
    | fieldLinkNest a b c d e f => exact va_Nw.warmF hW q2
    | methodLinkNest a b c d => exact va_Nw.warmM hW q2
    | castable a b => exact va_Nw.warmC hW q2
    | declares a => exact va_Nw.warmD hW q2
    | _ => cases q1
  exact key nxW (by decide +kernel) h
theorem Gx_enter {cs : Nat → ClassId} {A B : Nat → Prop} {s U : State} {H : Heap} {locs : List Loc} (h : Gx cs A s s.heap) (hS : va_S A s.heap H locs) (hAB : ∀ q, B q → A q) (hU : U.heap = H) (hW : s.WarmedH U.vm) : Gx cs B U U.heap := by
  obtain ⟨h1, h2, h3, ⟨h4, h5, h8, h9, h10, h11⟩, h6, h7⟩ := h
  have hq : ∀ a : Nat, a < s.heap.size → ¬ A a → H[a]? = s.heap[a]? := hS.2.1
  rw [hU]
  exact ⟨nxW_warm hW h1, (vx_Zq.moved hW.alike (h2.kept hq)).narrow hAB, (vx_Zq.moved hW.alike (h3.kept hq)).narrow hAB, ⟨(va_Z.moved hW.alike (h4.kept hq)).narrow hAB, (va_T.moved hW.alike (h5.kept hq)).narrow hAB, (va_Z.moved hW.alike (h8.kept hq)).narrow hAB, (va_Zq.moved hW.alike (h9.kept hq)).narrow hAB, va_AO.moved hW.alike h10, fun x hx z hz hn => va_Nc.moved hW.alike (h11 x hx z hz hn)⟩, fun i q hi => vk_R.warm hW (h6 i q hi), (vk_S.moved hW.alike (h7.kept hq)).narrow hAB⟩
theorem Gx_same {cs : Nat → ClassId} {A : Nat → Prop} {U V : State} {H : Heap} (hv : U.vm = V.vm) (h : Gx cs A U H) : Gx cs A V H := by
  obtain ⟨h1, h2, h3, ⟨h4, h5, h8, h9, h10, h11⟩, h6, h7⟩ := h
  have ha : U.vm.Alike V.vm := by rw [hv]; exact Vm.Alike.refl _
  refine ⟨fun w hw => ?_, vx_Zq.moved ha h2, vx_Zq.moved ha h3, ⟨va_Z.moved ha h4, va_T.moved ha h5, va_Z.moved ha h8, va_Zq.moved ha h9, va_AO.moved ha h10, fun x hx z hz hn => va_Nc.moved ha (h11 x hx z hz hn)⟩, fun i q hi => vk_R.same hv.symm (h6 i q hi), vk_S.moved ha h7⟩
  have key : ∀ l : List Cond, (∀ w ∈ l, w.onTables = true) → (∀ w ∈ l, va_Nw w U) → ∀ w ∈ l, va_Nw w V := fun l q1 q2 w hw => va_Nw.same (q1 w hw) hv (q2 w hw)
  exact key nxW (by decide +kernel) h1 w hw
/-- the world within a method: the classes, the cells, what may be written, what stayed -/
def Wd (D : va_G) (cs : Nat → ClassId) (A : Nat → Prop) (H0 : Heap) (s : State) (E : En) (d : Dy) (H : Heap) (locs : List Loc) : Prop :=
  va_K D vwCl (tyl cs) s ∧ va_P D vwCl (wl cs E d) H ∧ va_D A (wl cs E d) ∧ va_S A H0 H locs ∧ (∀ q, H0.size ≤ q → A q) ∧ H0 = s.heap ∧ Gx cs A s s.heap
def AW (E : En) (sz : Nat) : Nat → Prop := fun q => q ∈ eL E ∨ sz ≤ q
/-- at a method's start, at its end -/
def InW (D : va_G) (cs : Nat → ClassId) (E : En) (d : Dy) (sz : Nat) (U : State) : Prop := U.heap.size = sz ∧ va_K D vwCl (tyl cs) U ∧ va_P D vwCl (wl cs E d) U.heap ∧ va_D (fun _ => True) (wl cs E d) ∧ Gx cs (AW E sz) U U.heap
def OutW (D : va_G) (cs : Nat → ClassId) (E : En) (A : Nat → Prop) (d : Dy) (t : State) : Prop := va_P D vwCl (wl cs E d) t.heap ∧ va_K D vwCl (tyl cs) t ∧ va_D A (wl cs E d)
def PcM (D : va_G) (cs : Nat → ClassId) (E : En) (d : Dy) (sz : Nat) (av : List Value) (wp : Prop) : Array Value → State → Prop := va_Pc av (fun U => InW D cs E d sz U ∧ wp)
/-- contracts of methods that make nothing and set no reference: answer an int, a long, nothing, a reference or null -/
def CI (l : Launch) (y : MethodName) (ws : List Cond) (rm : Room) (D : va_G) (cs : Nat → ClassId) (E : En) (d : Dy) (sz : Nat) (av : List Value) (wp : Prop) (K : Int32 → Dy → Prop) : Prop :=
  Met l y ws rm (PcM D cs E d sz av wp) (va_Qi K (OutW D cs E (AW E sz)) (AW E sz)) rm.cells rm.slots (AW E sz)
def CJ (l : Launch) (y : MethodName) (ws : List Cond) (rm : Room) (D : va_G) (cs : Nat → ClassId) (E : En) (d : Dy) (sz : Nat) (av : List Value) (wp : Prop) (K : Int64 → Dy → Prop) : Prop :=
  Met l y ws rm (PcM D cs E d sz av wp) (va_Ql K (OutW D cs E (AW E sz)) (AW E sz)) rm.cells rm.slots (AW E sz)
def CV (l : Launch) (y : MethodName) (ws : List Cond) (rm : Room) (D : va_G) (cs : Nat → ClassId) (E : En) (d : Dy) (sz : Nat) (av : List Value) (wp : Prop) (K : Dy → Prop) : Prop :=
  Met l y ws rm (PcM D cs E d sz av wp) (va_Qv K (OutW D cs E (AW E sz)) (AW E sz)) rm.cells rm.slots (AW E sz)
def CQ (l : Launch) (y : MethodName) (ws : List Cond) (rm : Room) (D : va_G) (cs : Nat → ClassId) (E : En) (d : Dy) (sz : Nat) (av : List Value) (wp : Prop) (K : Option Nat → Dy → Prop) : Prop :=
  Met l y ws rm (PcM D cs E d sz av wp) (va_Qq K (OutW D cs E (AW E sz)) (AW E sz)) rm.cells rm.slots (AW E sz)
theorem PcM_blind {D : va_G} {cs : Nat → ClassId} {E : En} {d : Dy} {sz : Nat} {av : List Value} {wp : Prop} : FrameBlind (PcM D cs E d sz av wp) := fun a U g mk q => by
  obtain ⟨q0, ⟨q1, qK, qP, qD, qG⟩, qw⟩ := q
  exact ⟨q0, ⟨q1, va_K.moved (u := U) (U := U.calling g mk a) (Vm.Alike.refl U.vm) qK, qP, qD, Gx_same (U := U) (V := U.calling g mk a) (H := U.heap) rfl qG⟩, qw⟩
section
variable {l : Launch} {y : MethodName} {ws ws' : List Cond} {rm : Room} {D : va_G} {cs : Nat → ClassId} {E : En} {d : Dy} {sz : Nat} {av : List Value} {wp : Prop} {cc : ByteArray} {maxL : Nat} {ret : Option FieldType} {own : String}
/-- a body's start, whatever the method answers -/
theorem e_of {Qc : Array Value → State → Outcome → State → Prop} {mc ms : Nat} {free : Addr → Prop} (hy : plainName y.cls = true) (hoy : y.cls = own) (hw : ws = Cond.code y cc maxL ret :: ws') (hav : (lg_sl av).length ≤ maxL)
    (body : ∀ p e s m below meth c, CallFix p m c cc maxL s av.toArray ws own → meth.sig.returnType = ret → meth.locks = false → s.heap.size = sz → ∀ (H : Heap) (locs : List Loc), Wd D cs (AW E sz) s.heap s E d H locs → wp → ∀ ls, lv_has ls maxL (lv_args 0 av) →
      W p l e rm s m av.toArray below meth c H locs 0 0 (MQ below Qc av.toArray s mc ms free) (F0 m 0 ls [])) : Met l y ws rm (PcM D cs E d sz av wp) Qc mc ms free := by
  refine Met.ofW (cc := cc) (maxL := maxL) (ret := ret) hy hw ?_
  intro p e s m args below meth c s₁ B hml hv
  obtain ⟨rfl, ⟨hsz, hK, hP, hD, hG⟩, hwp⟩ := hv
  have hl := lv_entry av (n := maxL) hav
  rw [lg_entry_eq]
  generalize (lg_sl av ++ List.replicate (maxL - (lg_sl av).length) Slot.unset).toArray = ls at hl ⊢
  exact body p e s m below meth c ⟨B.exec, B.bytes, hml, hoy ▸ findClass_of_methodNamed B.named, atoms_spec (ws := ws) B.pre⟩ B.returns B.notSynchronized hsz s.heap []
    ⟨hK, hP, pl_self hD (fun q h => Or.inl h), va_S.rf, fun q h => Or.inr (by rw [← hsz]; exact h), rfl, hG⟩ hwp ls hl
/-- .. of a method that may throw -/
theorem e_ofX {Qc : Array Value → State → Outcome → State → Prop} {XC : String → State → State → Prop} {mc ms : Nat} {free : Addr → Prop} (hy : plainName y.cls = true) (hoy : y.cls = own) (hw : ws = Cond.code y cc maxL ret :: ws') (hav : (lg_sl av).length ≤ maxL)
    (body : ∀ p e s m below meth c, CallFix p m c cc maxL s av.toArray ws own → meth.sig.returnType = ret → meth.locks = false → s.heap.size = sz → (∀ x ∈ c.exceptionTable.toList, False) → ∀ (H : Heap) (locs : List Loc), Wd D cs (AW E sz) s.heap s E d H locs → wp → ∀ ls, lv_has ls maxL (lv_args 0 av) →
      W p l e rm s m av.toArray below meth c H locs 0 0 (vx_MQ below Qc XC av.toArray s mc ms free) (F0 m 0 ls [])) : vx_Met l y ws rm (PcM D cs E d sz av wp) Qc XC mc ms free := by
  refine vx_ofW (cc := cc) (maxL := maxL) (ret := ret) hy hw ?_
  intro p e s m args below meth c s₁ B hml hT hv
  obtain ⟨rfl, ⟨hsz, hK, hP, hD, hG⟩, hwp⟩ := hv
  have hl := lv_entry av (n := maxL) hav
  rw [lg_entry_eq]
  generalize (lg_sl av ++ List.replicate (maxL - (lg_sl av).length) Slot.unset).toArray = ls at hl ⊢
  exact body p e s m below meth c ⟨B.exec, B.bytes, hml, hoy ▸ findClass_of_methodNamed B.named, atoms_spec (ws := ws) B.pre⟩ B.returns B.notSynchronized hsz hT s.heap []
    ⟨hK, hP, pl_self hD (fun q h => Or.inl h), va_S.rf, fun q h => Or.inr (by rw [← hsz]; exact h), rfl, hG⟩ hwp ls hl
end
abbrev XX (D : va_G) (cs : Nat → ClassId) (E : En) (sz : Nat) (X : String → Dy → Prop) : String → State → State → Prop := vx_X (S := Dy) (fun _ => True) (fun Ex u t => X Ex u ∧ OutW D cs E (AW E sz) u t) (AW E sz)
def XI (l : Launch) (y : MethodName) (ws : List Cond) (rm : Room) (D : va_G) (cs : Nat → ClassId) (E : En) (d : Dy) (sz : Nat) (av : List Value) (wp : Prop) (K : Int32 → Dy → Prop) (X : String → Dy → Prop) : Prop :=
  vx_Met l y ws rm (PcM D cs E d sz av wp) (va_Qi K (OutW D cs E (AW E sz)) (AW E sz)) (XX D cs E sz X) rm.cells rm.slots (AW E sz)
def XV (l : Launch) (y : MethodName) (ws : List Cond) (rm : Room) (D : va_G) (cs : Nat → ClassId) (E : En) (d : Dy) (sz : Nat) (av : List Value) (wp : Prop) (K : Dy → Prop) (X : String → Dy → Prop) : Prop :=
  vx_Met l y ws rm (PcM D cs E d sz av wp) (va_Qv K (OutW D cs E (AW E sz)) (AW E sz)) (XX D cs E sz X) rm.cells rm.slots (AW E sz)
