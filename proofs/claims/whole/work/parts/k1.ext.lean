/-! new objects beside the old -/
def ExE (E E' : En) : Prop := ∀ a, a ∈ eL E → a ∈ eL E' ∧ eT E' a = eT E a ∧ eN E' a = eN E a ∧ ∀ f, eR E' a f = eR E a f
def ExD (E : En) (d d' : Dy) : Prop := ∀ a, a ∈ eL E → gI d' a = gI d a ∧ gA d' a = gA d a ∧ gJ d' a = gJ d a ∧ gQ d' a = gQ d a
section
variable {σ : Nat → Nat} {E E' E2 : En} {d d' d2 : Dy} {q t n a f : Nat}
theorem xe_rf : ExE E E := fun _ h => ⟨h, rfl, rfl, fun _ => rfl⟩
theorem xe_tr (h : ExE E E') (h2 : ExE E' E2) : ExE E E2 := fun a ha => by
  obtain ⟨p1, p2, p3, p4⟩ := h a ha
  obtain ⟨r1, r2, r3, r4⟩ := h2 a p1
  exact ⟨r1, r2.trans p2, r3.trans p3, fun f => (r4 f).trans (p4 f)⟩
theorem xe_nE (h : ExE E E') (hq : q ∉ eL E') : ExE E (nE E' q t n) := fun a ha => by
  obtain ⟨p1, p2, p3, p4⟩ := h a ha
  have ne : a ≠ q := fun e => hq (e ▸ p1)
  refine ⟨List.mem_append_left _ p1, ?_, ?_, fun f => ?_⟩
  · show va_up (eT E') q t a = _; rw [va_up_ne _ _ ne]; exact p2
  · show va_up (eN E') q n a = _; rw [va_up_ne _ _ ne]; exact p3
  · show va_up (eR E') q (fun _ => none) a f = _; rw [va_up_ne _ _ ne]; exact p4 f
theorem xe_sR (h : ExE E E') (hq : q ∉ eL E) {k : Nat} {v : Option Nat} : ExE E (sR E' q k v) := fun a ha => by
  obtain ⟨p1, p2, p3, p4⟩ := h a ha
  have ne : a ≠ q := fun e => hq (e ▸ ha)
  refine ⟨p1, p2, p3, fun f => ?_⟩
  show u2 (eR E') q k v a f = _
  unfold u2; rw [if_neg ne]; exact p4 f
theorem xd_rf : ExD E d d := fun _ _ => ⟨rfl, rfl, rfl, rfl⟩
theorem xd_nD (h : ExD E d d') (hq : q ∉ eL E) : ExD E d (nD d' q) := fun a ha => by
  obtain ⟨p1, p2, p3, p4⟩ := h a ha
  have ne : a ≠ q := fun e => hq (e ▸ ha)
  refine ⟨?_, ?_, ?_, ?_⟩
  · show va_up (gI d') q (fun _ => 0) a = _; rw [va_up_ne _ _ ne]; exact p1
  · show va_up (gA d') q (fun _ => 0) a = _; rw [va_up_ne _ _ ne]; exact p2
  · show va_up (gJ d') q (fun _ => 0) a = _; rw [va_up_ne _ _ ne]; exact p3
  · show va_up (gQ d') q (fun _ => none) a = _; rw [va_up_ne _ _ ne]; exact p4
theorem xd_pI (h : ExD E d d') (hq : q ∉ eL E) {k : Nat} {v : Int32} : ExD E d (pI d' q k v) := fun a ha => by
  obtain ⟨p1, p2, p3, p4⟩ := h a ha
  have ne : a ≠ q := fun e => hq (e ▸ ha)
  exact ⟨(gI_pI_a d' k v ne).trans p1, p2, p3, p4⟩
theorem xd_sA (h : ExD E d d') (hq : q ∉ eL E) {g : Nat → Int32} : ExD E d (sA d' q g) := fun a ha => by
  obtain ⟨p1, p2, p3, p4⟩ := h a ha
  have ne : a ≠ q := fun e => hq (e ▸ ha)
  exact ⟨p1, (gA_sA_ne d' g ne).trans p2, p3, p4⟩
theorem xe_okO (h : ExE E E') {ci : Nat} (o : okO E a ci) : okO E' a ci := ⟨(h a o.1).1, (h a o.1).2.1.trans o.2.1, o.2.2⟩
theorem xe_okA (h : ExE E E') {ci : Nat} (o : okA E a ci) : okA E' a ci := ⟨(h a o.1).1, (h a o.1).2.1.trans o.2.1, o.2.2⟩
theorem xe_Env (e : Env σ E) (h : ExE E E') : Env σ E' := by
  obtain ⟨e1, e2, e3⟩ := e
  refine ⟨e1, fun i hi => ?_, fun i hi q hq => ?_⟩
  · obtain ⟨p1, p2, p3, p4⟩ := h (σ i) (e2 i hi).1
    exact ⟨p1, p2.trans (e2 i hi).2.1, p3.trans (e2 i hi).2.2⟩
  · rw [(h (σ i) (e2 i hi).1).2.2.2]; exact e3 i hi q hq
theorem xe_TX {W : Nat → Int32} {s : Nat} (h : ExE E E') (x : ExD E d d') (t : TX σ E d q W s) : TX σ E' d' q W s := by
  obtain ⟨tl, tb, tc, n, len, h0, h1, h2, h3, h4, h5, h6, h7, h8, h9, h10, h11, h12, h13⟩ := t
  obtain ⟨j1, j2, j3, j4, j5, j6⟩ := h4
  refine ⟨tl, tb, tc, n, len, h0, xe_okO h h1, by rw [(h q h1.1).2.2.2]; exact h2, by rw [(h q h1.1).2.2.2]; exact h3, ⟨xe_okO h j1, by rw [(h tl j1.1).2.2.2]; exact j2, xe_okA h j3, by rw [(h tb j3.1).2.2.1]; exact j4, j5, j6⟩, ?_, xe_okA h h6, by rw [(h tc h6.1).2.2.1]; exact h7, h8, h9, h10, ?_, ?_, h13⟩
  · unfold TD; rw [(x tl j1.1).1]; exact h5
  · rw [(x tb j3.1).2.1]; exact h11
  · rw [(x tc h6.1).2.1]; exact h12
end
