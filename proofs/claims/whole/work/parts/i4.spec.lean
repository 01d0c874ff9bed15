/-! texts: how they are read, thing by thing -/
/-- where the thing behind the thing at b begins -/
def nB (B : Nat → Nat) (tl b : Nat) : Nat := blk B tl (afB B tl b)
def vB (B : Nat → Nat) (tl b : Nat) : Nat := vlN B b (afB B tl b - b)
abbrev Cd := List (Nat × Nat)
abbrev PR := Nat × Option Cd
def isF (s t : Nat) : Bool := decide (t < 8) && fsB s t
def pPt (B : Nat → Nat) (tl s b : Nat) : Option (Nat × Nat) := if thB B tl b = 30 then some (9, vB B tl b) else if isF s (thB B tl b) = true then some (thB B tl b, 0) else none
def pSm (B : Nat → Nat) (tl s : Nat) : Nat → Bool → Cd → Nat → PR
  | 0, _, _, b => (b, none)
  | n + 1, o, c, b => match pPt B tl s b with
    | none => (b, none)
    | some x => if thB B tl (nB B tl b) = 43 then pSm B tl s n false (if o = true then c ++ [x] else c ++ [x] ++ [(10, 0)]) (nB B tl (nB B tl b)) else (nB B tl b, some (if o = true then c ++ [x] else c ++ [x] ++ [(10, 0)]))
def bnP (r : PR) (f : Nat → Cd → PR) : PR := match r with
  | (b, none) => (b, none)
  | (b, some c) => f b c
def pCd (B : Nat → Nat) (tl : Nat) (A : Cd → Nat → PR) : Nat → Bool → Bool → Cd → Nat → PR
  | 0, _, _, _, b => (b, none)
  | n + 1, a, o, c, b => bnP (A c b) (fun b1 c1 =>
      if thB B tl b1 = 19 then pCd B tl A n true o (if a = true then c1 ++ [(14, 0)] else c1) (nB B tl b1)
      else if thB B tl b1 = 18 then pCd B tl A n false true (if o = true then (if a = true then c1 ++ [(14, 0)] else c1) ++ [(15, 0)] else (if a = true then c1 ++ [(14, 0)] else c1)) (nB B tl b1)
      else (b1, some (if o = true then (if a = true then c1 ++ [(14, 0)] else c1) ++ [(15, 0)] else (if a = true then c1 ++ [(14, 0)] else c1))))
def atF (B : Nat → Nat) (tl s : Nat) (U : Option (Cd → Nat → PR)) (c : Cd) (b : Nat) : PR :=
  if thB B tl b = 8 ∧ s ≠ 3 then (nB B tl b, some (c ++ [(8, 0)]))
  else if thB B tl b = 20 then (match U with
    | none => (b, none)
    | some A => bnP (A c (nB B tl b)) (fun b1 c1 => (b1, some (c1 ++ [(13, 0)]))))
  else if thB B tl b = 40 then (match U with
    | none => (b, none)
    | some A => bnP (pCd B tl A 401 false false c (nB B tl b)) (fun b1 c1 => if thB B tl b1 = 41 then (nB B tl b1, some c1) else (b1, none)))
  else bnP (pSm B tl s 401 true c b) (fun b1 c1 => if thB B tl b1 = 60 ∨ thB B tl b1 = 62 then bnP (pSm B tl s 401 true c1 (nB B tl b1)) (fun b2 c2 => (b2, some (c2 ++ [(if thB B tl b1 = 60 then 11 else 12, 0)]))) else (b1, none))
def pAt (B : Nat → Nat) (tl s : Nat) : Nat → Cd → Nat → PR
  | 0 => atF B tl s none
  | D + 1 => atF B tl s (some (pAt B tl s D))
abbrev Hd := Int32 × Int32 × Int32
def pHd (B : Nat → Nat) (tl s b : Nat) : Nat × Option Hd :=
  if s = 0 then (if thB B tl b = 13 then (if 9 ≤ thB B tl (nB B tl b) ∧ thB B tl (nB B tl b) ≤ 12 then (nB B tl (nB B tl b), some (nI (thB B tl (nB B tl b) - 9), 0, -1)) else (nB B tl b, none)) else (b, none))
  else if s = 3 then (if thB B tl b = 17 then (if thB B tl (nB B tl b) = 30 ∧ vB B tl (nB B tl b) ≤ 7 then (nB B tl (nB B tl b), some (6, nI (vB B tl (nB B tl b)), -1)) else (nB B tl b, none)) else (b, none))
  else if thB B tl b = 15 ∨ thB B tl b = 16 then (if thB B tl (nB B tl b) = 30 then (if thB B tl (nB B tl (nB B tl b)) = 42 then (if isF s (thB B tl (nB B tl (nB B tl (nB B tl b)))) = true then (nB B tl (nB B tl (nB B tl (nB B tl b))), some (if thB B tl b = 15 then 4 else 5, nI (vB B tl (nB B tl b)), nI (thB B tl (nB B tl (nB B tl (nB B tl b)))))) else (nB B tl (nB B tl (nB B tl b)), none)) else (nB B tl (nB B tl b), some (if thB B tl b = 15 then 4 else 5, nI (vB B tl (nB B tl b)), -1))) else (nB B tl b, none)) else (b, none)
abbrev Ln := Hd × Nat × Nat
def pLn (B : Nat → Nat) (tl s : Nat) (c : Cd) (b : Nat) : Nat × Option (Ln × Cd) := match pHd B tl s b with
  | (b1, none) => (b1, none)
  | (b1, some r) => if thB B tl b1 = 14 then (match pCd B tl (pAt B tl s 6) 401 false false c (nB B tl b1) with
      | (b2, none) => (b2, none)
      | (b2, some c2) => (b2, some ((r, c.length, c2.length), c2))) else (b1, some ((r, c.length, c.length), c))
def pAl (B : Nat → Nat) (tl s : Nat) : Nat → List Ln → Cd → Nat → Nat × Option (List Ln × Cd)
  | 0, _, _, b => (b, none)
  | k + 1, ls, c, b => match pLn B tl s c b with
    | (b1, none) => (b1, none)
    | (b1, some (l, c1)) => if thB B tl b1 = 31 then (b1, some (ls ++ [l], c1)) else if thB B tl b1 = 59 then pAl B tl s k (ls ++ [l]) c1 (nB B tl b1) else (b1, none)
def pTx (B : Nat → Nat) (tl s : Nat) : Nat × Option (List Ln × Cd) := if thB B tl (blk B tl 0) = 31 then (blk B tl 0, some ([], [])) else pAl B tl s 10 [] [] (blk B tl 0)
section
variable {B : Nat → Nat} {tl s b p : Nat}
theorem th_lt (h : thB B tl b ≠ 31) : b < tl := by
  by_cases z : tl ≤ b
  · unfold thB at h; rw [if_pos z] at h; exact absurd rfl h
  · omega
theorem nB_le (h : b ≤ tl) : nB B tl b ≤ tl := by
  by_cases z : b < tl
  · exact sk_le (af_gt z).2
  · have : afB B tl b = b := by unfold afB; rw [if_pos (by omega)]
    unfold nB; rw [this]; exact sk_le h
theorem nB_gt (h : b < tl) : b < nB B tl b := Nat.lt_of_lt_of_le (af_gt h).1 sk_ge
theorem nB_gt2 (h : thB B tl b ≠ 31) : b + 1 ≤ nB B tl b := nB_gt (th_lt h)
/-- a good reading goes on, and tells no more than it reads -/
def gdR (tl : Nat) (c : Cd) (b : Nat) (r : PR) : Prop := r.1 ≤ tl ∧ ∀ c', r.2 = some c' → b + 1 ≤ r.1 ∧ ∃ x : Cd, c' = c ++ x ∧ x.length + b ≤ r.1
theorem pPt_ne {x : Nat × Nat} (h : pPt B tl s b = some x) : thB B tl b ≠ 31 := by
  intro e
  unfold pPt at h
  rw [e, if_neg (by decide), if_neg (by unfold isF; simp)] at h
  exact nomatch h
theorem gd_Sm : ∀ n o c b, b ≤ tl → gdR tl c b (pSm B tl s n o c b) ∨ (o = false ∧ ((pSm B tl s n o c b).1 ≤ tl ∧ ∀ c', (pSm B tl s n o c b).2 = some c' → b + 1 ≤ (pSm B tl s n o c b).1 ∧ ∃ x : Cd, c' = c ++ x ∧ x.length + b ≤ (pSm B tl s n o c b).1 + 1))
  | 0, o, c, b, hb => Or.inl ⟨hb, fun _ h => (nomatch h)⟩
  | n + 1, o, c, b, hb => by
    unfold pSm
    cases hp : pPt B tl s b with
    | none => exact Or.inl ⟨hb, fun _ h => (nomatch h)⟩
    | some x =>
      have g1 := nB_gt2 (pPt_ne hp)
      have l1 := nB_le (B := B) hb
      simp only []
      by_cases h43 : thB B tl (nB B tl b) = 43
      · have g2 := nB_gt2 (B := B) (tl := tl) (b := nB B tl b) (by rw [h43]; decide)
        have l2 := nB_le (B := B) l1
        rw [if_pos h43]
        have ihn := gd_Sm n false (if o = true then c ++ [x] else c ++ [x] ++ [(10, 0)]) (nB B tl (nB B tl b)) l2
        have ihn : (pSm B tl s n false (if o = true then c ++ [x] else c ++ [x] ++ [(10, 0)]) (nB B tl (nB B tl b))).1 ≤ tl ∧ ∀ c', (pSm B tl s n false (if o = true then c ++ [x] else c ++ [x] ++ [(10, 0)]) (nB B tl (nB B tl b))).2 = some c' → nB B tl (nB B tl b) + 1 ≤ (pSm B tl s n false (if o = true then c ++ [x] else c ++ [x] ++ [(10, 0)]) (nB B tl (nB B tl b))).1 ∧ ∃ y : Cd, c' = (if o = true then c ++ [x] else c ++ [x] ++ [(10, 0)]) ++ y ∧ y.length + nB B tl (nB B tl b) ≤ (pSm B tl s n false (if o = true then c ++ [x] else c ++ [x] ++ [(10, 0)]) (nB B tl (nB B tl b))).1 + 1 := by
          rcases ihn with q | q
          · exact ⟨q.1, fun c' hc => ⟨(q.2 c' hc).1, by obtain ⟨y, y1, y2⟩ := (q.2 c' hc).2; exact ⟨y, y1, by omega⟩⟩⟩
          · exact q.2
        cases o with
        | true =>
          refine Or.inl ⟨ihn.1, fun c' hc => ?_⟩
          obtain ⟨z1, y, y1, y2⟩ := ihn.2 c' hc
          refine ⟨by omega, [x] ++ y, by rw [y1, if_pos rfl, List.append_assoc], ?_⟩
          rw [List.length_append]; show 1 + y.length + b ≤ _; omega
        | false =>
          refine Or.inr ⟨rfl, ihn.1, fun c' hc => ?_⟩
          obtain ⟨z1, y, y1, y2⟩ := ihn.2 c' hc
          refine ⟨by omega, [x] ++ [(10, 0)] ++ y, by rw [y1, if_neg (by decide), List.append_assoc, List.append_assoc, List.append_assoc], ?_⟩
          rw [List.length_append]; show 2 + y.length + b ≤ _; omega
      · rw [if_neg h43]
        cases o with
        | true => exact Or.inl ⟨l1, fun c' hc => ⟨g1, [x], by cases hc; rfl, by show 1 + b ≤ nB B tl b; omega⟩⟩
        | false => exact Or.inr ⟨rfl, l1, fun c' hc => ⟨g1, [x] ++ [(10, 0)], by cases hc; rw [if_neg (by decide), List.append_assoc], by show 2 + b ≤ nB B tl b + 1; omega⟩⟩
theorem gd_Sm1 (n c b) (hb : b ≤ tl) : gdR tl c b (pSm B tl s n true c b) := (gd_Sm n true c b hb).resolve_right (fun q => (nomatch q.1))
theorem gd_Cd {A : Cd → Nat → PR} (hA : ∀ c b, b ≤ tl → gdR tl c b (A c b)) : ∀ n a o c b, b ≤ tl → (pCd B tl A n a o c b).1 ≤ tl ∧ ∀ c', (pCd B tl A n a o c b).2 = some c' → b + 1 ≤ (pCd B tl A n a o c b).1 ∧ ∃ x : Cd, c' = c ++ x ∧ x.length + b ≤ (pCd B tl A n a o c b).1 + (if a = true then 1 else 0) + (if o = true then 1 else 0)
  | 0, a, o, c, b, hb => ⟨hb, fun _ h => (nomatch h)⟩
  | n + 1, a, o, c, b, hb => by
    unfold pCd
    have ga := hA c b hb
    revert ga
    generalize A c b = w
    obtain ⟨b1, r⟩ := w
    intro ga
    cases r with
    | none => exact ⟨ga.1, fun _ h => (nomatch h)⟩
    | some c1 =>
      obtain ⟨k1, x, k2, k3⟩ := ga.2 c1 rfl
      have k0 : b1 ≤ tl := ga.1
      have k1 : b + 1 ≤ b1 := k1
      have k3 : x.length + b ≤ b1 := k3
      unfold bnP
      simp only []
      obtain ⟨x2, y1, y2⟩ : ∃ x2 : Cd, (if a = true then c1 ++ [(14, 0)] else c1) = c ++ x2 ∧ x2.length + b ≤ b1 + (if a = true then 1 else 0) := by
        cases a
        · exact ⟨x, by rw [if_neg (by decide)]; exact k2, by rw [if_neg (by decide)]; omega⟩
        · exact ⟨x ++ [(14, 0)], by rw [if_pos rfl, k2, List.append_assoc], by rw [if_pos rfl, List.length_append]; show x.length + 1 + b ≤ _; omega⟩
      rw [y1]
      by_cases h19 : thB B tl b1 = 19
      · rw [if_pos h19]
        have g2 := nB_gt2 (B := B) (tl := tl) (b := b1) (by rw [h19]; decide)
        have q := gd_Cd hA n true o (c ++ x2) (nB B tl b1) (nB_le k0)
        refine ⟨q.1, fun c' hc => ?_⟩
        obtain ⟨q1, y, q2, q3⟩ := q.2 c' hc
        rw [if_pos rfl] at q3
        exact ⟨by omega, x2 ++ y, by rw [q2, List.append_assoc], by rw [List.length_append]; omega⟩
      · rw [if_neg h19]
        obtain ⟨x3, w1, w2⟩ : ∃ x3 : Cd, (if o = true then (c ++ x2) ++ [(15, 0)] else c ++ x2) = c ++ x3 ∧ x3.length + b ≤ b1 + (if a = true then 1 else 0) + (if o = true then 1 else 0) := by
          cases o
          · exact ⟨x2, by rw [if_neg (by decide)], by rw [if_neg (show ¬ false = true by decide)]; omega⟩
          · exact ⟨x2 ++ [(15, 0)], by rw [if_pos rfl, List.append_assoc], by rw [if_pos (show true = true from rfl), List.length_append]; show x2.length + 1 + b ≤ _; omega⟩
        rw [w1]
        by_cases h18 : thB B tl b1 = 18
        · rw [if_pos h18]
          have g2 := nB_gt2 (B := B) (tl := tl) (b := b1) (by rw [h18]; decide)
          have q := gd_Cd hA n false true (c ++ x3) (nB B tl b1) (nB_le k0)
          refine ⟨q.1, fun c' hc => ?_⟩
          obtain ⟨q1, y, q2, q3⟩ := q.2 c' hc
          rw [if_pos rfl, if_neg (show ¬ false = true by decide)] at q3
          exact ⟨by omega, x3 ++ y, by rw [q2, List.append_assoc], by rw [List.length_append]; omega⟩
        · rw [if_neg h18]
          exact ⟨k0, fun c' hc => ⟨k1, x3, by cases hc; rfl, w2⟩⟩
theorem gd_Cd1 {A : Cd → Nat → PR} (hA : ∀ c b, b ≤ tl → gdR tl c b (A c b)) (n c b) (hb : b ≤ tl) : gdR tl c b (pCd B tl A n false false c b) := gd_Cd hA n false false c b hb
theorem gd_bnd {r : PR} {f : Nat → Cd → PR} {c : Cd} {b b0 : Nat} (h1 : gdR tl c b0 r) (hb : b ≤ b0) (h2 : ∀ b1 c1 x, b1 ≤ tl → b0 + 1 ≤ b1 → c1 = c ++ x → x.length + b0 ≤ b1 → gdR tl c b (f b1 c1)) : gdR tl c b (bnP r f) := by
  obtain ⟨b1, r⟩ := r
  cases r with
  | none => exact ⟨h1.1, fun _ h => (nomatch h)⟩
  | some c1 =>
    obtain ⟨k1, x, k2, k3⟩ := h1.2 c1 rfl
    exact h2 b1 c1 x h1.1 k1 k2 k3
theorem gd_atF {U : Option (Cd → Nat → PR)} (hA : ∀ A, U = some A → ∀ c b, b ≤ tl → gdR tl c b (A c b)) (c b) (hb : b ≤ tl) : gdR tl c b (atF B tl s U c b) := by
  have bad : ∀ b1, b1 ≤ tl → gdR tl c b (b1, none) := fun b1 h => ⟨h, fun _ h => (nomatch h)⟩
  have good : ∀ b1 (x : Cd), b1 ≤ tl → b + 1 ≤ b1 → x.length + b ≤ b1 → gdR tl c b (b1, some (c ++ x)) := fun b1 x h1 h2 h3 => ⟨h1, fun c' hc => ⟨h2, x, by cases hc; rfl, h3⟩⟩
  unfold atF
  split
  · next q =>
    have g := nB_gt2 (B := B) (tl := tl) (b := b) (by rw [q.1]; decide)
    exact good _ _ (nB_le hb) g (by show 1 + b ≤ _; omega)
  · split
    · next q =>
      have g := nB_gt2 (B := B) (tl := tl) (b := b) (by rw [q]; decide)
      cases U with
      | none => exact bad b hb
      | some A =>
        refine gd_bnd (hA A rfl c (nB B tl b) (nB_le hb)) (by omega) (fun b1 c1 x h1 h2 h3 h4 => ?_)
        rw [h3, List.append_assoc]
        exact good _ _ h1 (by omega) (by rw [List.length_append]; show x.length + 1 + b ≤ _; omega)
    · split
      · next q =>
        have g := nB_gt2 (B := B) (tl := tl) (b := b) (by rw [q]; decide)
        cases U with
        | none => exact bad b hb
        | some A =>
          refine gd_bnd (gd_Cd1 (hA A rfl) 401 c (nB B tl b) (nB_le hb)) (by omega) (fun b1 c1 x h1 h2 h3 h4 => ?_)
          split
          · next q2 =>
            have g2 := nB_gt2 (B := B) (tl := tl) (b := b1) (by rw [q2]; decide)
            rw [h3]; exact good _ _ (nB_le h1) (by omega) (by omega)
          · exact bad b1 h1
      · refine gd_bnd (gd_Sm1 401 c b hb) (Nat.le_refl _) (fun b1 c1 x h1 h2 h3 h4 => ?_)
        split
        · next q2 =>
          have g2 := nB_gt2 (B := B) (tl := tl) (b := b1) (by rcases q2 with q | q <;> (rw [q]; decide))
          refine (?_ : gdR tl c b _)
          have z := gd_Sm1 (B := B) (s := s) 401 c1 (nB B tl b1) (nB_le h1)
          revert z
          generalize pSm B tl s 401 true c1 (nB B tl b1) = w
          obtain ⟨b2, r⟩ := w
          intro z
          cases r with
          | none => exact bad b2 z.1
          | some c2 =>
            obtain ⟨k1, y, k2, k3⟩ := z.2 c2 rfl
            have k1 : nB B tl b1 + 1 ≤ b2 := k1
            have k3 : y.length + nB B tl b1 ≤ b2 := k3
            show gdR tl c b (b2, some (c2 ++ [_]))
            rw [k2, h3, List.append_assoc, List.append_assoc]
            refine good b2 _ z.1 (by omega) ?_
            rw [List.length_append, List.length_append]; show x.length + (y.length + 1) + b ≤ _; omega
        · exact bad b1 h1
theorem gd_At : ∀ D c b, b ≤ tl → gdR tl c b (pAt B tl s D c b)
  | 0, c, b, hb => gd_atF (U := none) (fun A h => by cases h) c b hb
  | D + 1, c, b, hb => gd_atF (fun A h => by cases h; exact gd_At D) c b hb
end
