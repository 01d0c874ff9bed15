/-! how all begins: objects are made in the order of their labels -/
def PS (σ : Nat → Nat) (k : Nat) (rf : Nat → Nat → Option Nat) (vl : Nat → Nat → Int32) (E : En) (d : Dy) : Prop :=
  eL E = (List.range k).map σ ∧ (∀ i j, i < k → j < k → σ i = σ j → i = j) ∧ (∀ i, i < k → eT E (σ i) = kT.getD i 0 ∧ eN E (σ i) = nT.getD i 0)
  ∧ (∀ i, i < k → ∀ f, eR E (σ i) f = (rf i f).map σ) ∧ (∀ i f j, rf i f = some j → i < k ∧ j < k)
  ∧ (∀ a q, gA d a q = 0) ∧ (∀ a q, gQ d a q = none) ∧ (∀ i, i < k → ∀ f, gI d (σ i) f = vl i f) ∧ (∀ i, k ≤ i → ∀ f, vl i f = 0)
def upN (σ : Nat → Nat) (k q : Nat) : Nat → Nat := fun i => if i = k then q else σ i
section
variable {σ : Nat → Nat} {k b f : Nat} {rf : Nat → Nat → Option Nat} {vl : Nat → Nat → Int32} {E : En} {d : Dy}
theorem ps_in (p : PS σ k rf vl E d) {i : Nat} (hi : i < k) : σ i ∈ eL E := by rw [p.1]; exact List.mem_map.mpr ⟨i, List.mem_range.mpr hi, rfl⟩
theorem ps_new (p : PS σ k rf vl E d) {q t n : Nat} (hq : q ∉ eL E) (ht : kT.getD k 0 = t) (hn : nT.getD k 0 = n) : PS (upN σ k q) (k + 1) rf vl (nE E q t n) (nD d q) := by
  obtain ⟨h1, h2, h3, h4, h5, h6, h7, h8, h9⟩ := id p
  have ne : ∀ i, i < k → σ i ≠ q := fun i hi e => hq (e ▸ ps_in p hi)
  have lo : ∀ i, i < k → upN σ k q i = σ i := fun i hi => by unfold upN; rw [if_neg (by omega)]
  have hi' : upN σ k q k = q := by unfold upN; rw [if_pos rfl]
  refine ⟨?_, fun i j hi hj e => ?_, fun i hi => ?_, fun i hi f => ?_, fun i f j e => ?_, fun a c => ?_, fun a c => ?_, fun i hi f => ?_, fun i hi f => h9 i (by omega) f⟩
  · show eL E ++ [q] = _
    rw [h1, List.range_succ, List.map_append]
    congr 1
    · exact List.map_congr_left (fun i hi => (lo i (List.mem_range.mp hi)).symm)
    · show [q] = [upN σ k q k]; rw [hi']
  · by_cases e1 : i = k
    · by_cases e2 : j = k
      · omega
      · rw [e1, hi', lo j (by omega)] at e; exact absurd e.symm (ne j (by omega))
    · by_cases e2 : j = k
      · rw [e2, hi', lo i (by omega)] at e; exact absurd e (ne i (by omega))
      · rw [lo i (by omega), lo j (by omega)] at e; exact h2 i j (by omega) (by omega) e
  · show va_up (eT E) q t _ = _ ∧ va_up (eN E) q n _ = _
    by_cases e : i = k
    · subst e; rw [hi', va_up_self, va_up_self]; exact ⟨ht.symm, hn.symm⟩
    · rw [lo i (by omega), va_up_ne _ _ (ne i (by omega)), va_up_ne _ _ (ne i (by omega))]; exact h3 i (by omega)
  · show va_up (eR E) q (fun _ => none) _ f = _
    by_cases e : i = k
    · subst e
      rw [hi', va_up_self]
      cases hr : rf i f with
      | none => rfl
      | some j => have := (h5 i f j hr).1; omega
    · rw [lo i (by omega), va_up_ne _ _ (ne i (by omega)), h4 i (by omega)]
      cases hr : rf i f with
      | none => rfl
      | some j => show some (σ j) = some (upN σ k q j); rw [lo j (h5 i f j hr).2]
  · have := h5 i f j e; omega
  · show va_up (gA d) q (fun _ => 0) a c = 0
    unfold va_up; split
    · rfl
    · exact h6 a c
  · show va_up (gQ d) q (fun _ => none) a c = none
    unfold va_up; split
    · rfl
    · exact h7 a c
  · show va_up (gI d) q (fun _ => 0) _ f = _
    by_cases e : i = k
    · subst e; rw [hi', va_up_self, h9 i (Nat.le_refl _)]
    · rw [lo i (by omega), va_up_ne _ _ (ne i (by omega))]; exact h8 i (by omega) f
theorem ps_ref (p : PS σ k rf vl E d) {j a c : Nat} (hb : b < k) (hj : j < k) (ea : a = σ b) (ec : c = σ j) : PS σ k (u2 rf b f (some j)) vl (sR E a f (some c)) d := by
  subst ea ec
  obtain ⟨h1, h2, h3, h4, h5, h6, h7, h8, h9⟩ := id p
  refine ⟨h1, h2, h3, fun i hi g => ?_, fun i g j2 e => ?_, h6, h7, h8, h9⟩
  · show u2 (eR E) (σ b) f (some (σ j)) (σ i) g = (u2 rf b f (some j) i g).map σ
    unfold u2
    by_cases e : i = b
    · subst e
      rw [if_pos rfl, if_pos rfl]
      by_cases e2 : g = f
      · rw [if_pos e2, if_pos e2]; rfl
      · rw [if_neg e2, if_neg e2]; exact h4 i hi g
    · rw [if_neg (fun z => e (h2 i b hi hb z)), if_neg e]; exact h4 i hi g
  · unfold u2 at e
    split at e
    · split at e
      · next z _ => cases e; omega
      · exact h5 i g j2 e
    · exact h5 i g j2 e
theorem ps_pI (p : PS σ k rf vl E d) {a : Nat} {v : Int32} (hb : b < k) (ea : a = σ b) : PS σ k rf (u2 vl b f v) E (pI d a f v) := by
  subst ea
  obtain ⟨h1, h2, h3, h4, h5, h6, h7, h8, h9⟩ := id p
  refine ⟨h1, h2, h3, h4, h5, h6, h7, fun i hi g => ?_, fun i hi g => ?_⟩
  · show u2 (gI d) (σ b) f v (σ i) g = u2 vl b f v i g
    unfold u2
    by_cases e : i = b
    · subst e
      rw [if_pos rfl, if_pos rfl]
      by_cases e2 : g = f
      · rw [if_pos e2, if_pos e2]
      · rw [if_neg e2, if_neg e2]; exact h8 i hi g
    · rw [if_neg (fun z => e (h2 i b hi hb z)), if_neg e]; exact h8 i hi g
  · unfold u2; rw [if_neg (by omega)]; exact h9 i hi g
theorem ps_okO (p : PS σ k rf vl E d) {i ci : Nat} (hi : i < k) (hk : kT.getD i 0 = ci) (hc : ci < 12) : okO E (σ i) ci := ⟨ps_in p hi, (p.2.2.1 i hi).1.trans hk, hc⟩
theorem ps_okA (p : PS σ k rf vl E d) {i ci : Nat} (hi : i < k) (hk : kT.getD i 0 = ci) (hc : 12 ≤ ci) : okA E (σ i) ci := ⟨ps_in p hi, (p.2.2.1 i hi).1.trans hk, hc⟩
theorem ps_R (p : PS σ k rf vl E d) {i j : Nat} (hi : i < k) (e : rf i f = some j) : eR E (σ i) f = some (σ j) := by rw [p.2.2.2.1 i hi, e]; rfl
/-- a table is made -/
theorem i_X6 {K : En → Dy → Prop} {a0 m w : Nat} (p : PS σ (k + 1) rf vl E d) (ea : a0 = σ k) (hk : kT.getD k 0 = 6) (ht : kT.getD (k + 1) 0 = 13) (hn : nT.getD (k + 1) 0 = m * w) (hw : 1 ≤ w) (hm : m * w ≤ 400) (hm4 : m ≤ 400) (hw4 : w ≤ 400)
    (kk : ∀ q E' d', PS (upN σ (k + 1) q) (k + 2) (u2 rf k 2 (some (k + 1))) (u2 (u2 vl k 1 (nI m)) k 0 (nI w)) E' d' → K E' d') : w_X6_init E a0 (nI m) (nI w) d K := by
  have e1 : (if nI m < 0 then 0 else nI m) = nI m := if_neg (z_pos (by omega))
  have e2 : (if nI w < 1 then 1 else nI w) = nI w := if_neg (by rw [show (1 : Int32) = nI 1 from rfl, z_lt (by omega) (by decide)]; omega)
  have p1 := ps_pI (f := 0) (v := nI w) (ps_pI (f := 1) (v := nI m) p (show k < k + 1 by omega) ea) (show k < k + 1 by omega) ea
  have g1 : gI (pI (pI d a0 1 (nI m)) a0 0 (nI w)) a0 1 = nI m := by rw [gI_pI_k _ _ _ (by decide), gI_pI]
  have g0 : gI (pI (pI d a0 1 (nI m)) a0 0 (nI w)) a0 0 = nI w := gI_pI _ _ _ _
  simp only [w_X6_init, e1, e2, g1, g0, z_mul]
  rw [z_nn (by omega)]
  refine ⟨by rw [ea]; exact ps_okO p (by omega) hk (by decide), z_pos (by omega), hm, fun q hq => kk q _ _ ?_⟩
  have p2 := ps_new p1 hq ht hn
  have lo : upN σ (k + 1) q k = σ k := by unfold upN; rw [if_neg (by omega)]
  have hi' : upN σ (k + 1) q (k + 1) = q := by unfold upN; rw [if_pos rfl]
  exact ps_ref p2 (show k < k + 1 + 1 by omega) (show k + 1 < k + 1 + 1 by omega) (by rw [lo]; exact ea) hi'.symm
/-- tables one behind another, in fields that follow each other -/
def tabs (a0 : Nat) : List (Nat × Nat) → Nat → En → Dy → (En → Dy → Prop) → Prop
  | [], _, E, d, K => K E d
  | (m, w) :: l, f, E, d, K => ∀ q, q ∉ eL E → w_X6_init (nE E q 6 0) q (nI m) (nI w) (nD d q) (fun E4 d5 => tabs a0 l (f + 1) (sR E4 a0 f (some q)) d5 K)
def tbR (b : Nat) : List (Nat × Nat) → Nat → Nat → (Nat → Nat → Option Nat) → Nat → Nat → Option Nat
  | [], _, _, rf => rf
  | _ :: l, f, k, rf => tbR b l (f + 1) (k + 2) (u2 (u2 rf k 2 (some (k + 1))) b f (some k))
def tbV : List (Nat × Nat) → Nat → (Nat → Nat → Int32) → Nat → Nat → Int32
  | [], _, vl => vl
  | (m, w) :: l, k, vl => tbV l (k + 2) (u2 (u2 vl k 1 (nI m)) k 0 (nI w))
def tbOK : List (Nat × Nat) → Nat → Prop
  | [], _ => True
  | (m, w) :: l, k => (kT.getD k 0 = 6 ∧ nT.getD k 0 = 0 ∧ kT.getD (k + 1) 0 = 13 ∧ nT.getD (k + 1) 0 = m * w ∧ 1 ≤ w ∧ m * w ≤ 400 ∧ m ≤ 400 ∧ w ≤ 400) ∧ tbOK l (k + 2)
end
theorem i_tabs {K : En → Dy → Prop} {a0 b : Nat} : ∀ (l : List (Nat × Nat)) (f : Nat) (σ : Nat → Nat) (k : Nat) (rf : Nat → Nat → Option Nat) (vl : Nat → Nat → Int32) (E : En) (d : Dy), PS σ k rf vl E d → b < k → a0 = σ b → tbOK l k →
    (∀ σ' E' d', PS σ' (k + 2 * l.length) (tbR b l f k rf) (tbV l k vl) E' d' → (∀ i, i < k → σ' i = σ i) → K E' d') → tabs a0 l f E d K
  | [], f, σ, k, rf, vl, E, d, p, hb, ea, ok, kk => kk σ E d p (fun _ _ => rfl)
  | (m, w) :: l, f, σ, k, rf, vl, E, d, p, hb, ea, ok, kk => by
    intro q hq
    obtain ⟨⟨o1, o2, o3, o4, o5, o6, o7, o8⟩, ok⟩ := ok
    have p1 := ps_new p hq o1 o2
    have hi' : upN σ k q k = q := by unfold upN; rw [if_pos rfl]
    have lo : ∀ i, i < k → upN σ k q i = σ i := fun i hi => by unfold upN; rw [if_neg (by omega)]
    refine i_X6 p1 hi'.symm o1 o3 o4 o5 o6 o7 o8 (fun q2 E2 d2 p2 => ?_)
    have lo2 : ∀ i, i < k + 1 → upN (upN σ k q) (k + 1) q2 i = upN σ k q i := fun i hi => by unfold upN; rw [if_neg (by omega)]
    have p3 := ps_ref (f := f) p2 (show b < k + 2 by omega) (show k < k + 2 by omega) (a := a0) (c := q) (by rw [lo2 b (by omega), lo b hb]; exact ea) (by rw [lo2 k (by omega), hi'])
    refine i_tabs (b := b) l (f + 1) _ (k + 2) _ _ _ _ p3 (show b < k + 2 by omega) (by rw [lo2 b (by omega), lo b hb]; exact ea) ok (fun σ' E' d' p' a' => ?_)
    rw [show k + 2 + 2 * l.length = k + 2 * (l.length + 1) by omega] at p'
    exact kk σ' E' d' p' (fun i hi => by rw [a' i (by omega), lo2 i (by omega), lo i hi])
/-- arrays one behind another -/
def arrs (a0 : Nat) : List (Nat × Nat × Nat) → En → Dy → (En → Dy → Prop) → Prop
  | [], E, d, K => K E d
  | (f, t, n) :: l, E, d, K => ∀ q, q ∉ eL E → arrs a0 l (sR (nE E q t n) a0 f (some q)) (nD d q) K
def arR (b : Nat) : List (Nat × Nat × Nat) → Nat → (Nat → Nat → Option Nat) → Nat → Nat → Option Nat
  | [], _, rf => rf
  | (f, _, _) :: l, k, rf => arR b l (k + 1) (u2 rf b f (some k))
def arOK : List (Nat × Nat × Nat) → Nat → Prop
  | [], _ => True
  | (_, t, n) :: l, k => (kT.getD k 0 = t ∧ nT.getD k 0 = n) ∧ arOK l (k + 1)
theorem i_arrs {K : En → Dy → Prop} {a0 b : Nat} : ∀ (l : List (Nat × Nat × Nat)) (σ : Nat → Nat) (k : Nat) (rf : Nat → Nat → Option Nat) (vl : Nat → Nat → Int32) (E : En) (d : Dy), PS σ k rf vl E d → b < k → a0 = σ b → arOK l k →
    (∀ σ' E' d', PS σ' (k + l.length) (arR b l k rf) vl E' d' → (∀ i, i < k → σ' i = σ i) → K E' d') → arrs a0 l E d K
  | [], σ, k, rf, vl, E, d, p, hb, ea, ok, kk => kk σ E d p (fun _ _ => rfl)
  | (f, t, n) :: l, σ, k, rf, vl, E, d, p, hb, ea, ok, kk => by
    intro q hq
    obtain ⟨⟨o1, o2⟩, ok⟩ := ok
    have p1 := ps_new p hq o1 o2
    have hi' : upN σ k q k = q := by unfold upN; rw [if_pos rfl]
    have lo : ∀ i, i < k → upN σ k q i = σ i := fun i hi => by unfold upN; rw [if_neg (by omega)]
    have p3 := ps_ref (f := f) p1 (show b < k + 1 by omega) (show k < k + 1 by omega) (a := a0) (c := q) (by rw [lo b hb]; exact ea) hi'.symm
    refine i_arrs (b := b) l _ (k + 1) _ _ _ _ p3 (show b < k + 1 by omega) (by rw [lo b hb]; exact ea) ok (fun σ' E' d' p' a' => ?_)
    rw [show k + 1 + l.length = k + (l.length + 1) by omega] at p'
    exact kk σ' E' d' p' (fun i hi => by rw [a' i (by omega), lo i hi])
