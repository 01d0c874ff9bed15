/-! events: what is meant -/
def ageS (W : Nat → Int32) (p : Nat) (y : Int32) : Int32 := if 0 < y - bn W p then y - bn W p else 0
def fRt (W : Nat → Int32) (S : RS) (np p h : Nat) (y : Int32) : Nat → Int32 := fun f => if f = 0 then y - rsF S h else if f = 1 then ageS W p y else if f = 2 then nI (cntN (chS S p) np) else if f = 3 then y else if f = 4 then W (50 + 7 * h) else if f = 8 then W (16 + 3 * p) else 0
def relS (W : Nat → Int32) (S : RS) (np p : Nat) (w : Int32) : Option Nat := if w = 0 then spS S p else if w = 1 then elS W S np p else if w = 2 then paS S np p else brS W S np p
def heN (W : Nat → Int32) (S : RS) (np p : Nat) (F : Nat → Int32) : Nat → Nat → Option Nat
  | 0, _ => none
  | m + 1, i => if hdS W 0 i F = true ∧ relS W S np p (W (597 + 5 * i)) ≠ none then relS W S np p (W (597 + 5 * i)) else heN W S np p F m (i + 1)
def heS (W : Nat → Int32) (S : RS) (np p h : Nat) (y : Int32) : Option Nat := if W 10 = 0 then none else heN W S np p (fRt W S np p h y) (cnt W 596) 0
def upB (f : Nat → Bool) (k : Nat) (b : Bool) : Nat → Bool := fun j => if j = k then b else f j
def upO (f : Nat → Option Nat) (k : Nat) (b : Option Nat) : Nat → Option Nat := fun j => if j = k then b else f j
def stL (S : RS) (f : Nat → Bool) : RS := (f, S.2)
def stP (S : RS) (f : Nat → Option Nat) : RS := (S.1, f, S.2.2)
def stC (S : RS) (f : Nat → Nat → Bool) : RS := (S.1, S.2.1, f, S.2.2.2)
def stH (S : RS) (f : Nat → Option Nat) (g : Nat → Int32) : RS := (S.1, S.2.1, S.2.2.1, f, g, S.2.2.2.2.2)
def stO (S : RS) (f : Nat → Nat) : RS := (S.1, S.2.1, S.2.2.1, S.2.2.2.1, S.2.2.2.2.1, f, S.2.2.2.2.2.2)
def stD (S : RS) (f g : Nat → Bool) : RS := (S.1, S.2.1, S.2.2.1, S.2.2.2.1, S.2.2.2.2.1, S.2.2.2.2.2.1, f, g)
def upI (f : Nat → Int32) (k : Nat) (x : Int32) : Nat → Int32 := fun j => if j = k then x else f j
def dieS (W : Nat → Int32) (S : RS) (np p : Nat) (y : Int32) : RS :=
  stH (stL S (upB (rsL S) p false)) (fun h => if rsH S h = some p then heS W (stL S (upB (rsL S) p false)) np p h y else rsH S h) (fun h => if rsH S h = some p ∧ heS W (stL S (upB (rsL S) p false)) np p h y ≠ none then y else rsF S h)
def hapS (W : Nat → Int32) (np nh : Nat) (S : RS) (e : Nat) : RS :=
  if W (121 + 6 * e) = 0 then (if rsL S (cnt W (122 + 6 * e)) = true then dieS W S np (cnt W (122 + 6 * e)) (W (120 + 6 * e)) else S)
  else if W (121 + 6 * e) = 1 then stP S (upO (upO (rsP S) (cnt W (122 + 6 * e)) (some (cnt W (123 + 6 * e)))) (cnt W (123 + 6 * e)) (some (cnt W (122 + 6 * e))))
  else if W (121 + 6 * e) = 2 then stP S (fun j => if j = cnt W (122 + 6 * e) ∧ rsP S j = some (cnt W (123 + 6 * e)) ∨ j = cnt W (123 + 6 * e) ∧ rsP S j = some (cnt W (122 + 6 * e)) then none else rsP S j)
  else if W (121 + 6 * e) = 3 then stC S (fun a b => if a = cnt W (122 + 6 * e) ∧ b = cnt W (123 + 6 * e) then true else rsC S a b)
  else if W (121 + 6 * e) = 4 then (match rsH S (cnt W (122 + 6 * e)) with
    | none => S
    | some o => if o = cnt W (123 + 6 * e) ∨ rsL S (cnt W (123 + 6 * e)) = false then S else
      stD (stH S (upO (rsH S) (cnt W (122 + 6 * e)) (some (cnt W (123 + 6 * e)))) (upI (rsF S) (cnt W (122 + 6 * e)) (W (120 + 6 * e)))) (upB (rsS S) e true) (upB (rsD S) e (!kinS S np o (cnt W (123 + 6 * e)))))
  else if W (121 + 6 * e) = 5 then (if rsH S (cnt W (122 + 6 * e)) = none ∧ rsL S (cnt W (123 + 6 * e)) = true then stH S (upO (rsH S) (cnt W (122 + 6 * e)) (some (cnt W (123 + 6 * e)))) (upI (rsF S) (cnt W (122 + 6 * e)) (W (120 + 6 * e))) else S)
  else stO S (mvN (rsO S) (cnt W (122 + 6 * e)) (rpS S nh (cnt W (122 + 6 * e))) (cnt W (123 + 6 * e)))
def rs0 (W : Nat → Int32) : RS := (fun _ => true, fun _ => none, fun _ _ => false, fun h => if W (51 + 7 * h) = -1 then none else some (cnt W (51 + 7 * h)), fun _ => 1900, fun h => h, fun _ => false, fun _ => false)
def evs (W : Nat → Int32) (Y : Nat) (kn : Int32) : List Nat := (upto (kyI W 2) (cnt W 2) Y).filter (fun e => decide (W (125 + 6 * e) ≤ kn))
def repS (W : Nat → Int32) (np nh Y : Nat) (kn : Int32) : RS := (evs W Y kn).foldl (hapS W np nh) (rs0 W)
def TWs (W : Nat → Int32) : Prop := ∀ s, s < 4 → W (10 + s) = 0 ∨ (W (10 + s) = 1 ∧ ∃ n, TW W s n)
theorem TX_TW {σ : Nat → Nat} {E : En} {d : Dy} {q s : Nat} {W : Nat → Int32} (h : TX σ E d q W s) : ∃ n, TW W s n := by
  obtain ⟨tl, tb, tc, n, len, h0, h1, h2, h3, h4, h5, h6, h7, h8, h9, h10, h11, h12, h13⟩ := h
  refine ⟨n, h10, h9, fun i hi => ?_⟩
  have hl := h11 i hi
  unfold LnR at hl
  obtain ⟨l1, l2, l3, f, t, l4, l5, l6, l7⟩ := hl
  rw [show 597 + 851 * s + 5 * i + 3 = 600 + 851 * s + 5 * i by omega] at l4
  rw [show 597 + 851 * s + 5 * i + 4 = 601 + 851 * s + 5 * i by omega] at l5
  refine ⟨⟨f, t, l4, l5, l6, by omega, h13 i f t hi l4 l5 (by omega) (by omega)⟩, ?_⟩
  rw [show 597 + 851 * s + 5 * i + 1 = 598 + 851 * s + 5 * i by omega, show 597 + 851 * s + 5 * i + 2 = 599 + 851 * s + 5 * i by omega] at l1
  by_cases s0 : s = 0
  · rw [if_pos s0] at l1 ⊢; exact l1.2
  · rw [if_neg s0] at l1 ⊢
    by_cases s3 : s = 3
    · rw [if_pos s3] at l1 ⊢; exact l1.2
    · rw [if_neg s3] at l1 ⊢
      refine ⟨l1.1.imp (fun q => q.1) (fun q => q.1), l1.2.2.1, ?_⟩
      rcases l1.2.2.2.2 with q | ⟨q1, q2⟩
      · exact Or.inl q
      · obtain ⟨m, hm1, hm2, e⟩ := bw_n (a := 0) (b := 7) q1 (by decide) (by decide)
        rw [e, z_nn (by omega)] at q2
        exact Or.inr ⟨m, by omega, e, q2⟩
theorem TXs_TWs {σ : Nat → Nat} {E : En} {d : Dy} {b : Nat} {W : Nat → Int32} (h : TXs σ E d b W) : TWs W := fun s hs => by
  rcases h s hs with ⟨_, h2⟩ | ⟨h1, q, _, h3⟩
  · exact Or.inl h2
  · exact Or.inr ⟨h1, TX_TW h3⟩
/-! all stays in its bounds -/
theorem sp_lt {S : RS} {np nh p q : Nat} (ok : rsOK np nh S) (hp : p < np) (h : spS S p = some q) : q < np := by
  unfold spS at h
  split at h
  · cases h
  · next r hr =>
    split at h
    · cases h; exact ok.1 p hp _ hr
    · cases h
theorem rel_lt {W : Nat → Int32} {S : RS} {np nh p b : Nat} {w : Int32} (ok : rsOK np nh S) (hp : p < np) (h : relS W S np p w = some b) : b < np := by
  unfold relS at h
  split at h
  · exact sp_lt ok hp h
  · split at h
    · exact (eld_lt h).1
    · split at h
      · exact (fst_lt h).1
      · exact (eld_lt h).1
theorem heN_lt {W : Nat → Int32} {S : RS} {np nh p b : Nat} {F : Nat → Int32} (ok : rsOK np nh S) (hp : p < np) : ∀ m i, heN W S np p F m i = some b → b < np
  | m + 1, i, h => by
    unfold heN at h
    split at h
    · exact rel_lt ok hp h
    · exact heN_lt ok hp m (i + 1) h
theorem heS_lt {W : Nat → Int32} {S : RS} {np nh p h b : Nat} {y : Int32} (ok : rsOK np nh S) (hp : p < np) (e : heS W S np p h y = some b) : b < np := by
  unfold heS at e
  split at e
  · cases e
  · exact heN_lt ok hp _ _ e
theorem ok_stL {S : RS} {np nh : Nat} {f : Nat → Bool} (ok : rsOK np nh S) : rsOK np nh (stL S f) := ok
theorem mv_ok {r : Nat → Nat} {nh h k to : Nat} (h1 : ∀ i, i < nh → r i < nh) (h2 : ∀ x, x < nh → ∃ i, i < nh ∧ r i = x) (hh : h < nh) (hk : k < nh) (hr : r k = h) (ht : to < nh) : (∀ i, i < nh → mvN r h k to i < nh) ∧ (∀ x, x < nh → ∃ i, i < nh ∧ mvN r h k to i = x) := by
  refine ⟨fun i hi => ?_, fun x hx => ?_⟩
  · unfold mvN
    split
    · split
      · exact h1 i hi
      · split
        · exact hh
        · split
          · exact h1 _ (by omega)
          · exact h1 i hi
    · split
      · exact h1 i hi
      · split
        · exact h1 _ (by omega)
        · split
          · exact hh
          · exact h1 i hi
  · by_cases e : x = h
    · refine ⟨to, ht, ?_⟩
      unfold mvN
      split
      · rw [if_neg (by omega), if_pos rfl, e]
      · rw [if_neg (by omega), if_neg (by omega), if_pos rfl, e]
    · obtain ⟨i, hi, ei⟩ := h2 x hx
      have hik : i ≠ k := fun q => e (by rw [← ei, q, hr])
      unfold mvN
      by_cases hto : to ≤ k
      · by_cases q1 : i < to
        · exact ⟨i, hi, by rw [if_pos hto, if_pos q1, ei]⟩
        · by_cases q2 : i < k
          · exact ⟨i + 1, by omega, by rw [if_pos hto, if_neg (by omega), if_neg (by omega), if_pos (by omega), show i + 1 - 1 = i by omega, ei]⟩
          · exact ⟨i, hi, by rw [if_pos hto, if_neg q1, if_neg (by omega), if_neg (by omega), ei]⟩
      · by_cases q1 : i < k
        · exact ⟨i, hi, by rw [if_neg hto, if_pos q1, ei]⟩
        · by_cases q2 : i ≤ to
          · exact ⟨i - 1, by omega, by rw [if_neg hto, if_neg (by omega), if_pos (by omega), show i - 1 + 1 = i by omega, ei]⟩
          · exact ⟨i, hi, by rw [if_neg hto, if_neg q1, if_neg (by omega), if_neg (by omega), ei]⟩
theorem rp_spec {S : RS} {np nh i : Nat} (ok : rsOK np nh S) (hi : i < nh) : rsO S (rpS S nh i) = i ∧ rpS S nh i < nh := by
  obtain ⟨m, hm, em⟩ := ok.2.2.2 i hi
  obtain ⟨a, b, c⟩ := pl_at (r := rsO S) (h := i) nh 0 m (by omega) (by omega) em
  exact ⟨a, by unfold rpS; omega⟩
/-- an event's numbers -/
theorem ev_nums {W : Nat → Int32} (hW : WI W) {e : Nat} (he : e < cnt W 2) : (∃ m, 1900 ≤ m ∧ m ≤ 2099 ∧ W (120 + 6 * e) = nI m) ∧ (∃ k, k ≤ 6 ∧ W (121 + 6 * e) = nI k ∧
    (k ≤ 3 → cnt W (122 + 6 * e) < cnt W 0 ∧ W (122 + 6 * e) = nI (cnt W (122 + 6 * e))) ∧ (4 ≤ k → cnt W (122 + 6 * e) < cnt W 1 ∧ W (122 + 6 * e) = nI (cnt W (122 + 6 * e)))
    ∧ (1 ≤ k → k ≤ 5 → cnt W (123 + 6 * e) < cnt W 0 ∧ W (123 + 6 * e) = nI (cnt W (123 + 6 * e))) ∧ (k = 6 → cnt W (123 + 6 * e) < cnt W 1 ∧ W (123 + 6 * e) = nI (cnt W (123 + 6 * e)))) := by
  have hp := (hW.1 0 (by decide) (by decide)).2
  have hh := (hW.1 1 (by decide) (by decide)).2
  have hp : cnt W 0 ≤ 12 := hp
  have hh : cnt W 1 ≤ 10 := hh
  obtain ⟨o1, o2, -, o3, o4⟩ := hW.2.2 2 (by decide) e he
  have o1 : bw (W (120 + 6 * e)) 1900 2099 := o1
  have o2 : bw (W (120 + 6 * e + 1)) 0 6 := o2
  have lxn : ∀ {x : Int32} {n : Nat}, n ≤ 12 → lx x n → x.toNatClampNeg < n ∧ x = nI x.toNatClampNeg := fun {x n} hn hl => by
    obtain ⟨k, hk, rfl⟩ := hl
    rw [z_nn (by omega)]; exact ⟨hk, rfl⟩
  refine ⟨bw_n (a := 1900) (b := 2099) o1 (by decide) (by decide), ?_⟩
  obtain ⟨k, -, hk, ek⟩ := bw_n (a := 0) (b := 6) o2 (by decide) (by decide)
  rw [show 120 + 6 * e + 1 = 121 + 6 * e by omega] at ek
  have kk : ∀ j : Nat, j ≤ 6 → (W (121 + 6 * e) = nI j ↔ k = j) := fun j hj => by rw [ek, z_eq (by omega) (by omega)]
  have o3 : (W (120 + 6 * e + 1) = 0 ∨ W (120 + 6 * e + 1) = 1 ∨ W (120 + 6 * e + 1) = 2 ∨ W (120 + 6 * e + 1) = 3) ∧ lx (W (120 + 6 * e + 2)) (cnt W 0) ∨ (W (120 + 6 * e + 1) = 4 ∨ W (120 + 6 * e + 1) = 5 ∨ W (120 + 6 * e + 1) = 6) ∧ lx (W (120 + 6 * e + 2)) (cnt W 1) := o3
  have o4 : W (120 + 6 * e + 1) = 0 ∨ W (120 + 6 * e + 1) = 6 ∧ lx (W (120 + 6 * e + 3)) (cnt W 1) ∨ (W (120 + 6 * e + 1) = 1 ∨ W (120 + 6 * e + 1) = 2 ∨ W (120 + 6 * e + 1) = 3 ∨ W (120 + 6 * e + 1) = 4 ∨ W (120 + 6 * e + 1) = 5) ∧ lx (W (120 + 6 * e + 3)) (cnt W 0) := o4
  rw [show 120 + 6 * e + 1 = 121 + 6 * e by omega, show 120 + 6 * e + 2 = 122 + 6 * e by omega] at o3
  rw [show 120 + 6 * e + 1 = 121 + 6 * e by omega, show 120 + 6 * e + 3 = 123 + 6 * e by omega] at o4
  have z0 : (0 : Int32) = nI 0 := rfl
  have z1 : (1 : Int32) = nI 1 := rfl
  have z2 : (2 : Int32) = nI 2 := rfl
  have z3 : (3 : Int32) = nI 3 := rfl
  have z4 : (4 : Int32) = nI 4 := rfl
  have z5 : (5 : Int32) = nI 5 := rfl
  have z6 : (6 : Int32) = nI 6 := rfl
  rw [z0, z1, z2, z3, z4, z5, z6, kk 0 (by omega), kk 1 (by omega), kk 2 (by omega), kk 3 (by omega), kk 4 (by omega), kk 5 (by omega), kk 6 (by omega)] at o3
  rw [z0, z1, z2, z3, z4, z5, z6, kk 0 (by omega), kk 1 (by omega), kk 2 (by omega), kk 3 (by omega), kk 4 (by omega), kk 5 (by omega), kk 6 (by omega)] at o4
  refine ⟨k, hk, ek, fun q => ?_, fun q => ?_, fun q q2 => ?_, fun q => ?_⟩
  · rcases o3 with ⟨_, o⟩ | ⟨o, _⟩
    · exact lxn (by omega) o
    · omega
  · rcases o3 with ⟨o, _⟩ | ⟨_, o⟩
    · omega
    · exact lxn (by omega) o
  · rcases o4 with o | ⟨o, _⟩ | ⟨_, o⟩
    · omega
    · omega
    · exact lxn (by omega) o
  · rcases o4 with o | ⟨_, o⟩ | ⟨o, _⟩
    · omega
    · exact lxn (by omega) o
    · omega
