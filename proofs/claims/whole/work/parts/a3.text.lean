/-! texts: what is meant by a line that holds -/
def ev2 (op a b : Int32) : Int32 := if op = 10 then a + b else if op = 11 then (if a < b then 1 else 0) else if op = 12 then (if b < a then 1 else 0) else if op = 14 then (if a + b = 2 then 1 else 0) else if 0 < a + b then 1 else 0
def ev1 (F : Nat → Int32) (op arg : Int32) (st : List Int32) : List Int32 :=
  if op = 9 then arg :: st else if op < 9 then F op.toNatClampNeg :: st else if op = 13 then (match st with
    | x :: r => (1 - x) :: r
    | [] => []) else (match st with
    | b :: a :: r => ev2 op a b :: r
    | _ => [])
def evK (F op ag : Nat → Int32) : Nat → Nat → List Int32 → List Int32
  | 0, _, st => st
  | k + 1, i, st => evK F op ag k (i + 1) (ev1 F (op i) (ag i) st)
def opW (W : Nat → Int32) (s : Nat) : Nat → Int32 := fun j => W (647 + 851 * s + 2 * j)
def agW (W : Nat → Int32) (s : Nat) : Nat → Int32 := fun j => W (648 + 851 * s + 2 * j)
def hdS (W : Nat → Int32) (s n : Nat) (F : Nat → Int32) : Bool :=
  if cnt W (600 + 851 * s + 5 * n) = cnt W (601 + 851 * s + 5 * n) then true
  else decide (evK F (opW W s) (agW W s) (cnt W (601 + 851 * s + 5 * n) - cnt W (600 + 851 * s + 5 * n)) (cnt W (600 + 851 * s + 5 * n)) [] = [1])
/-- what stands of a text in the world -/
def TW (W : Nat → Int32) (s n : Nat) : Prop :=
  W (596 + 851 * s) = nI n ∧ n ≤ 10 ∧ ∀ i, i < n → (∃ f t : Nat, W (600 + 851 * s + 5 * i) = nI f ∧ W (601 + 851 * s + 5 * i) = nI t ∧ f ≤ t ∧ t ≤ 400 ∧ (f = t ∨ chk s (opW W s) (t - f) f [] = some [true]))
    ∧ (if s = 0 then bw (W (597 + 851 * s + 5 * i)) 0 3 else if s = 3 then bw (W (598 + 851 * s + 5 * i)) 0 7 else ((W (597 + 851 * s + 5 * i) = 4 ∨ W (597 + 851 * s + 5 * i) = 5) ∧ bw (W (598 + 851 * s + 5 * i)) 0 9999 ∧ (W (599 + 851 * s + 5 * i) = -1 ∨ ∃ m : Nat, m < 8 ∧ W (599 + 851 * s + 5 * i) = nI m ∧ fsB s m = true)))
def tyR : List Int32 → List Bool → Prop
  | [], [] => True
  | x :: st, b :: ty => (b = true → x = 0 ∨ x = 1) ∧ tyR st ty
  | _, _ => False
theorem ty_len : ∀ {st : List Int32} {ty : List Bool}, tyR st ty → st.length = ty.length
  | [], [], _ => rfl
  | x :: st, b :: ty, h => by simp [ty_len h.2]
/-- the steps of a right text -/
theorem ck_cases {s : Nat} {op : Int32} {ty ty' : List Bool} (h : ck1 s op ty = some ty') :
    (((op = 9 ∨ (¬ op < 0 ∧ op < 8 ∧ fsB s op.toNatClampNeg = true)) ∧ ty.length < 20 ∧ ty' = false :: ty) ∨ (op = 8 ∧ s ≠ 3 ∧ ty.length < 20 ∧ ty' = true :: ty))
    ∨ (∃ r, op = 10 ∧ ty = false :: false :: r ∧ ty' = false :: r) ∨ (∃ r, (op = 11 ∨ op = 12) ∧ ty = false :: false :: r ∧ ty' = true :: r)
    ∨ (∃ r, op = 13 ∧ ty = true :: r ∧ ty' = true :: r) ∨ (∃ r, (op = 14 ∨ op = 15) ∧ ty = true :: true :: r ∧ ty' = true :: r) := by
  unfold ck1 at h
  split at h
  · next hc =>
    split at h
    · next hl => cases h; exact Or.inl (Or.inl ⟨hc, hl, rfl⟩)
    · cases h
  · split at h
    · next hc =>
      split at h
      · next hl => cases h; exact Or.inl (Or.inr ⟨hc.1, hc.2, hl, rfl⟩)
      · cases h
    · split at h
      · next hc =>
        split at h
        · cases h; exact Or.inr (Or.inl ⟨_, hc, rfl, rfl⟩)
        · cases h
      · split at h
        · next hc =>
          split at h
          · cases h; exact Or.inr (Or.inr (Or.inl ⟨_, hc, rfl, rfl⟩))
          · cases h
        · split at h
          · next hc =>
            split at h
            · cases h; exact Or.inr (Or.inr (Or.inr (Or.inl ⟨_, hc, rfl, rfl⟩)))
            · cases h
          · split at h
            · next hc =>
              split at h
              · cases h; exact Or.inr (Or.inr (Or.inr (Or.inr ⟨_, hc, rfl, rfl⟩)))
              · cases h
            · cases h
theorem e01 (c : Prop) [Decidable c] : (if c then (1 : Int32) else 0) = 0 ∨ (if c then (1 : Int32) else 0) = 1 := by
  by_cases h : c
  · exact Or.inr (if_pos h)
  · exact Or.inl (if_neg h)
theorem ev_ty {s : Nat} {op ag : Int32} {ty ty' : List Bool} {st : List Int32} {F : Nat → Int32} (h : ck1 s op ty = some ty') (t : tyR st ty) (hF : s ≠ 3 → F 8 = 0 ∨ F 8 = 1) : tyR (ev1 F op ag st) ty' := by
  rcases ck_cases h with (⟨h1, -, rfl⟩ | ⟨rfl, h2, -, rfl⟩) | ⟨r, rfl, rfl, rfl⟩ | ⟨r, h1, rfl, rfl⟩ | ⟨r, rfl, rfl, rfl⟩ | ⟨r, h1, rfl, rfl⟩
  · unfold ev1
    rcases h1 with rfl | ⟨h2, h3, -⟩
    · rw [if_pos rfl]; exact ⟨fun q => (nomatch q), t⟩
    · have h4 : op < 9 := Int32.lt_trans h3 (by decide)
      rw [if_neg (fun e => by rw [e] at h3; exact absurd h3 (by decide)), if_pos h4]; exact ⟨fun q => (nomatch q), t⟩
  · exact ⟨fun _ => hF h2, t⟩
  · match st, t with
    | b :: a :: st, t => exact ⟨fun q => (nomatch q), t.2.2⟩
  · match st, t with
    | b :: a :: st, t =>
      rcases h1 with rfl | rfl
      · exact ⟨fun _ => e01 (a < b), t.2.2⟩
      · exact ⟨fun _ => e01 (b < a), t.2.2⟩
  · match st, t with
    | x :: st, t =>
      refine ⟨fun _ => ?_, t.2⟩
      rcases t.1 rfl with rfl | rfl
      · exact Or.inr rfl
      · exact Or.inl rfl
  · match st, t with
    | b :: a :: st, t =>
      rcases h1 with rfl | rfl
      · exact ⟨fun _ => e01 (a + b = 2), t.2.2⟩
      · exact ⟨fun _ => e01 (0 < a + b), t.2.2⟩
/-- facts that a text of a sort may ask for -/
def fAg (s : Nat) (F G : Nat → Int32) : Prop := (∀ f, f < 8 → fsB s f = true → F f = G f) ∧ (s ≠ 3 → F 8 = G 8)
theorem ev_congr {s : Nat} {op ag : Int32} {ty ty' : List Bool} {st : List Int32} {F G : Nat → Int32} (h : ck1 s op ty = some ty') (a : fAg s F G) : ev1 F op ag st = ev1 G op ag st := by
  unfold ev1
  by_cases h9 : op = 9
  · rw [if_pos h9, if_pos h9]
  · rw [if_neg h9, if_neg h9]
    by_cases hl : op < 9
    · rw [if_pos hl, if_pos hl]
      rcases ck_cases h with (⟨h1, -, -⟩ | ⟨rfl, h2, -, -⟩) | ⟨r, rfl, -⟩ | ⟨r, h1, -⟩ | ⟨r, rfl, -⟩ | ⟨r, h1, -⟩
      · rcases h1 with h1 | ⟨h2, h3, h4⟩
        · exact absurd h1 h9
        · obtain ⟨m, hm, rfl⟩ := z_ex h2
          rw [show (8 : Int32) = nI 8 from rfl, z_lt hm (by decide)] at h3
          rw [z_nn hm] at h4 ⊢
          rw [a.1 m h3 h4]
      · show F 8 :: st = G 8 :: st
        rw [a.2 h2]
      · exact absurd hl (by decide)
      · rcases h1 with rfl | rfl <;> exact absurd hl (by decide)
      · exact absurd hl (by decide)
      · rcases h1 with rfl | rfl <;> exact absurd hl (by decide)
    · rw [if_neg hl, if_neg hl]
theorem evK_congr {s : Nat} {F G op ag : Nat → Int32} (a : fAg s F G) : ∀ (k i : Nat) (st : List Int32) (ty ty' : List Bool), chk s op k i ty = some ty' → evK F op ag k i st = evK G op ag k i st
  | 0, _, _, _, _, _ => rfl
  | k + 1, i, st, ty, ty', h => by
    unfold chk at h
    cases h1 : ck1 s (op i) ty with
    | none => rw [h1] at h; cases h
    | some t1 =>
      rw [h1] at h
      show evK F op ag k (i + 1) (ev1 F (op i) (ag i) st) = evK G op ag k (i + 1) (ev1 G (op i) (ag i) st)
      rw [ev_congr h1 a]
      exact evK_congr a k (i + 1) _ t1 ty' h
theorem hd_congr {W : Nat → Int32} {s n i : Nat} {F G : Nat → Int32} (t : TW W s n) (hi : i < n) (a : fAg s F G) : hdS W s i F = hdS W s i G := by
  obtain ⟨⟨f, e, h1, h2, h3, h4, h5⟩, -⟩ := t.2.2 i hi
  have e1 : cnt W (600 + 851 * s + 5 * i) = f := by unfold cnt; rw [h1, z_nn (by omega)]
  have e2 : cnt W (601 + 851 * s + 5 * i) = e := by unfold cnt; rw [h2, z_nn (by omega)]
  unfold hdS
  rw [e1, e2]
  rcases h5 with h5 | h5
  · rw [if_pos h5, if_pos h5]
  · rw [evK_congr a _ _ _ _ _ h5]
/-! a stack in a row -/
def stR (g : Nat → Int32) (st : List Int32) : Prop := ∀ q, q < st.length → g q = st.getD (st.length - 1 - q) 0
theorem st_push {g g' : Nat → Int32} {st : List Int32} {x : Int32} (h : stR g st) (e : ∀ j, g' j = if j = st.length then x else g j) : stR g' (x :: st) := by
  intro q hq
  rw [List.length_cons] at hq ⊢
  rw [e]
  by_cases hl : q = st.length
  · rw [if_pos hl, hl, show st.length + 1 - 1 - st.length = 0 by omega]; rfl
  · rw [if_neg hl, h q (by omega), show st.length + 1 - 1 - q = (st.length - 1 - q) + 1 by omega]; rfl
theorem st_top {g : Nat → Int32} {x : Int32} {r : List Int32} (h : stR g (x :: r)) : g r.length = x := by
  have := h r.length (by simp)
  rw [this, List.length_cons, show r.length + 1 - 1 - r.length = 0 by omega]; rfl
theorem st_tail {g : Nat → Int32} {x : Int32} {r : List Int32} (h : stR g (x :: r)) : stR g r := by
  intro q hq
  have := h q (by simp; omega)
  rw [this, List.length_cons, show r.length + 1 - 1 - q = (r.length - 1 - q) + 1 by omega]; rfl
theorem st_rep {g g' : Nat → Int32} {x y : Int32} {r : List Int32} (h : stR g (x :: r)) (e : ∀ j, g' j = if j = r.length then y else g j) : stR g' (y :: r) := st_push (st_tail h) e
