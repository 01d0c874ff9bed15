/-! texts: what is read is well made -/
def ckL (s : Nat) : Cd → List Bool → Option (List Bool)
  | [], st => some st
  | x :: l, st => (ck1 s (nI x.1) st).bind (ckL s l)
theorem ckL_app (s : Nat) : ∀ (l m : Cd) st, ckL s (l ++ m) st = (ckL s l st).bind (ckL s m)
  | [], m, st => rfl
  | x :: l, m, st => by
    show (ck1 s (nI x.1) st).bind (ckL s (l ++ m)) = ((ck1 s (nI x.1) st).bind (ckL s l)).bind (ckL s m)
    cases ck1 s (nI x.1) st with
    | none => rfl
    | some u => exact ckL_app s l m u
def cdok (x : Cd) : Prop := ∀ y ∈ x, y.1 ≤ 15 ∧ (y.1 = 9 → y.2 ≤ 9999)
theorem cdok_app {x y : Cd} (h : cdok x) (h2 : cdok y) : cdok (x ++ y) := fun z hz => by
  rcases List.mem_append.mp hz with q | q
  · exact h z q
  · exact h2 z q
theorem cdok_op {n : Nat} (h : n ≤ 15) (h2 : n ≠ 9) : cdok [(n, 0)] := fun z hz => by
  rw [List.mem_singleton] at hz; subst hz; exact ⟨h, fun q => absurd q h2⟩
theorem ck_no (s : Nat) (n : Nat) (h : 9 < n) (h2 : n < 16) : ¬ (nI n = 9 ∨ (¬ nI n < 0 ∧ nI n < 8 ∧ fsB s (nI n).toNatClampNeg = true)) := by
  rintro (q | ⟨_, q, _⟩)
  · have := (z_eq (b := 9) (by omega) (by decide)).mp q; omega
  · have := (z_lt (b := 8) (by omega) (by decide)).mp q; omega
theorem ck_8 (s : Nat) (h : s ≠ 3) (st : List Bool) (hl : st.length < 20) : ck1 s (nI 8) st = some (true :: st) := by
  unfold ck1
  rw [if_neg (by
    rintro (q | ⟨_, q, _⟩)
    · exact absurd q (by decide)
    · exact absurd q (by decide)), if_pos ⟨rfl, h⟩, if_pos hl]
theorem ck_10 (s : Nat) (r : List Bool) : ck1 s (nI 10) (false :: false :: r) = some (false :: r) := by
  unfold ck1
  rw [if_neg (ck_no s 10 (by decide) (by decide)), if_neg (fun q => absurd q.1 (by decide)), if_pos (show nI 10 = 10 from rfl)]
theorem ck_11 (s n : Nat) (h : n = 11 ∨ n = 12) (r : List Bool) : ck1 s (nI n) (false :: false :: r) = some (true :: r) := by
  unfold ck1
  rcases h with h | h <;> subst h
  · rw [if_neg (ck_no s 11 (by decide) (by decide)), if_neg (fun q => absurd q.1 (by decide)), if_neg (by decide), if_pos (show nI 11 = 11 ∨ nI 11 = 12 from Or.inl rfl)]
  · rw [if_neg (ck_no s 12 (by decide) (by decide)), if_neg (fun q => absurd q.1 (by decide)), if_neg (by decide), if_pos (show nI 12 = 11 ∨ nI 12 = 12 from Or.inr rfl)]
theorem ck_13 (s : Nat) (r : List Bool) : ck1 s (nI 13) (true :: r) = some (true :: r) := by
  unfold ck1
  rw [if_neg (ck_no s 13 (by decide) (by decide)), if_neg (fun q => absurd q.1 (by decide)), if_neg (by decide), if_neg (by decide), if_pos (show nI 13 = 13 from rfl)]
theorem ck_14 (s n : Nat) (h : n = 14 ∨ n = 15) (r : List Bool) : ck1 s (nI n) (true :: true :: r) = some (true :: r) := by
  unfold ck1
  rcases h with h | h <;> subst h
  · rw [if_neg (ck_no s 14 (by decide) (by decide)), if_neg (fun q => absurd q.1 (by decide)), if_neg (by decide), if_neg (by decide), if_neg (by decide), if_pos (show nI 14 = 14 ∨ nI 14 = 15 from Or.inl rfl)]
  · rw [if_neg (ck_no s 15 (by decide) (by decide)), if_neg (fun q => absurd q.1 (by decide)), if_neg (by decide), if_neg (by decide), if_neg (by decide), if_pos (show nI 15 = 14 ∨ nI 15 = 15 from Or.inr rfl)]
section
variable {B : Nat → Nat} {tl s b : Nat} {c : Cd}
theorem pPt_ok (hB : ∀ k, B k < 256) {x : Nat × Nat} (h : pPt B tl s b = some x) : cdok [x] ∧ ∀ st, st.length < 20 → ck1 s (nI x.1) st = some (false :: st) := by
  unfold pPt at h
  by_cases z : thB B tl b = 30
  · rw [if_pos z] at h
    cases h
    refine ⟨fun y hy => ?_, fun st hst => ?_⟩
    · rw [List.mem_singleton] at hy; subst hy
      exact ⟨by show 9 ≤ 15; decide, fun _ => by have := vB_lt hB z; show vB B tl b ≤ 9999; omega⟩
    · show ck1 s (nI 9) st = _
      unfold ck1; rw [if_pos (show nI 9 = 9 ∨ (¬ nI 9 < 0 ∧ nI 9 < 8 ∧ fsB s (nI 9).toNatClampNeg = true) from Or.inl rfl), if_pos hst]
  · rw [if_neg z] at h
    by_cases f : isF s (thB B tl b) = true
    · rw [if_pos f] at h
      cases h
      have f8 := isF_lt f
      unfold isF at f
      rw [Bool.and_eq_true] at f
      refine ⟨cdok_op (by omega) (by omega), fun st hst => ?_⟩
      unfold ck1
      rw [if_pos (Or.inr ⟨z_pos (by omega), (z_lt (b := 8) (by omega) (by decide)).mpr f8, by rw [z_nn (by omega)]; exact f.2⟩), if_pos hst]
    · rw [if_neg f] at h; exact nomatch h
def tyQ (s m : Nat) (p q : List Bool → List Bool) (c : Cd) (r : PR) : Prop := ∀ c', r.2 = some c' → ∃ x : Cd, c' = c ++ x ∧ cdok x ∧ ∀ st, st.length + m ≤ 20 → ckL s x (p st) = some (q st)
theorem ty_Sm (hB : ∀ k, B k < 256) : ∀ n o c b, tyQ s 2 (fun st => if o = true then st else false :: st) (fun st => false :: st) c (pSm B tl s n o c b)
  | 0, o, c, b => fun _ h => (nomatch h)
  | n + 1, o, c, b => by
    cases hp : pPt B tl s b with
    | none => rw [pSm_n hp]; exact fun _ h => (nomatch h)
    | some x =>
      obtain ⟨ok, ck⟩ := pPt_ok hB hp
      rw [pSm_s hp]
      obtain ⟨y, e, yo, yc⟩ : ∃ y : Cd, (if o = true then c ++ [x] else c ++ [x] ++ [(10, 0)]) = c ++ y ∧ cdok y ∧ ∀ st, st.length + 2 ≤ 20 → ckL s y (if o = true then st else false :: st) = some (false :: st) := by
        cases o
        · refine ⟨[x] ++ [(10, 0)], by rw [if_neg (by decide), List.append_assoc], cdok_app ok (cdok_op (by decide) (by decide)), fun st hst => ?_⟩
          rw [if_neg (by decide), ckL_app]
          show ((ck1 s (nI x.1) (false :: st)).bind (ckL s [])).bind _ = _
          rw [ck _ (by show st.length + 1 < 20; omega)]
          show (ck1 s (nI 10) (false :: false :: st)).bind (ckL s []) = _
          rw [ck_10]; rfl
        · refine ⟨[x], by rw [if_pos rfl], ok, fun st hst => ?_⟩
          rw [if_pos rfl]
          show (ck1 s (nI x.1) st).bind (ckL s []) = _
          rw [ck _ (by omega)]; rfl
      rw [e]
      unfold smT
      by_cases z : thB B tl (nB B tl b) = 43
      · rw [if_pos z]
        intro c' hc'
        obtain ⟨w, w1, w2, w3⟩ := ty_Sm hB n false (c ++ y) (nB B tl (nB B tl b)) c' hc'
        refine ⟨y ++ w, by rw [w1, List.append_assoc], cdok_app yo w2, fun st hst => ?_⟩
        rw [ckL_app, yc st hst]
        exact w3 st hst
      · rw [if_neg z]
        intro c' hc'
        cases hc'
        exact ⟨y, rfl, yo, yc⟩
def osk (o : Bool) (st : List Bool) : List Bool := if o = true then true :: st else st
theorem ty_Cd {A : Cd → Nat → PR} {m : Nat} (hA : ∀ c b, tyQ s m id (fun st => true :: st) c (A c b)) : ∀ n a o c b, tyQ s (m + 2) (fun st => osk a (osk o st)) (fun st => true :: st) c (pCd B tl A n a o c b)
  | 0, a, o, c, b => fun _ h => (nomatch h)
  | n + 1, a, o, c, b => by
    rw [pCd_s]
    have ga := hA c b
    revert ga
    generalize A c b = w
    obtain ⟨b1, q⟩ := w
    intro ga
    cases q with
    | none => exact fun _ h => (nomatch h)
    | some c1 =>
      obtain ⟨x, x1, x2, x3⟩ := ga c1 rfl
      obtain ⟨y, e, yo, yc⟩ : ∃ y : Cd, (if a = true then c1 ++ [(14, 0)] else c1) = c ++ y ∧ cdok y ∧ ∀ st, st.length + (m + 2) ≤ 20 → ckL s y (osk a (osk o st)) = some (true :: osk o st) := by
        have lo : ∀ st : List Bool, (osk o st).length ≤ st.length + 1 := fun st => by cases o <;> (unfold osk; simp)
        cases a
        · exact ⟨x, by rw [if_neg (by decide)]; exact x1, x2, fun st hst => x3 (osk o st) (by have := lo st; omega)⟩
        · refine ⟨x ++ [(14, 0)], by rw [if_pos rfl, x1, List.append_assoc], cdok_app x2 (cdok_op (by decide) (by decide)), fun st hst => ?_⟩
          rw [ckL_app, show osk true (osk o st) = true :: osk o st from rfl]
          have := x3 (true :: osk o st) (by have := lo st; rw [List.length_cons]; omega)
          rw [show ckL s x (true :: osk o st) = some (true :: true :: osk o st) from this]
          show (ck1 s (nI 14) (true :: true :: osk o st)).bind (ckL s []) = _
          rw [ck_14 s 14 (Or.inl rfl)]; rfl
      show tyQ s (m + 2) _ _ c (cdT B tl A n o (if a = true then c1 ++ [(14, 0)] else c1) b1)
      rw [e]
      unfold cdT
      by_cases z : thB B tl b1 = 19
      · rw [if_pos z]
        intro c' hc'
        obtain ⟨w, w1, w2, w3⟩ := ty_Cd hA n true o (c ++ y) (nB B tl b1) c' hc'
        refine ⟨y ++ w, by rw [w1, List.append_assoc], cdok_app yo w2, fun st hst => ?_⟩
        rw [ckL_app, yc st hst]
        exact w3 st hst
      · rw [if_neg z]
        obtain ⟨y2, e2, yo2, yc2⟩ : ∃ y2 : Cd, (if o = true then (c ++ y) ++ [(15, 0)] else c ++ y) = c ++ y2 ∧ cdok y2 ∧ ∀ st, st.length + (m + 2) ≤ 20 → ckL s y2 (osk a (osk o st)) = some (true :: st) := by
          cases o
          · exact ⟨y, by rw [if_neg (by decide)], yo, yc⟩
          · refine ⟨y ++ [(15, 0)], by rw [if_pos rfl, List.append_assoc], cdok_app yo (cdok_op (by decide) (by decide)), fun st hst => ?_⟩
            rw [ckL_app, yc st hst]
            show (ck1 s (nI 15) (true :: true :: st)).bind (ckL s []) = _
            rw [ck_14 s 15 (Or.inr rfl)]; rfl
        unfold orT
        rw [e2]
        by_cases z2 : thB B tl b1 = 18
        · rw [if_pos z2]
          intro c' hc'
          obtain ⟨w, w1, w2, w3⟩ := ty_Cd hA n false true (c ++ y2) (nB B tl b1) c' hc'
          refine ⟨y2 ++ w, by rw [w1, List.append_assoc], cdok_app yo2 w2, fun st hst => ?_⟩
          rw [ckL_app, yc2 st hst]
          exact w3 st hst
        · rw [if_neg z2]
          intro c' hc'
          cases hc'
          exact ⟨y2, rfl, yo2, yc2⟩
theorem ty_bnP {r : PR} {f : Nat → Cd → PR} {m m' : Nat} {p q p' q' : List Bool → List Bool} (h1 : tyQ s m p q c r) (h2 : ∀ b1 x, cdok x → (∀ st, st.length + m ≤ 20 → ckL s x (p st) = some (q st)) → tyQ s m' p' q' c (f b1 (c ++ x))) : tyQ s m' p' q' c (bnP r f) := by
  obtain ⟨b1, w⟩ := r
  cases w with
  | none => exact fun _ h => (nomatch h)
  | some c1 =>
    obtain ⟨x, x1, x2, x3⟩ := h1 c1 rfl
    show tyQ s m' p' q' c (f b1 c1)
    rw [x1]; exact h2 b1 x x2 x3
theorem ty_atF (hB : ∀ k, B k < 256) {U : Option (Cd → Nat → PR)} {m : Nat} (hm : 3 ≤ m) (hA : ∀ A, U = some A → 5 ≤ m ∧ ∀ c b, tyQ s (m - 2) id (fun st => true :: st) c (A c b)) (c b) : tyQ s m id (fun st => true :: st) c (atF B tl s U c b) := by
  unfold atF
  split
  · next q =>
    intro c' hc'
    cases hc'
    refine ⟨[(8, 0)], rfl, cdok_op (by decide) (by decide), fun st hst => ?_⟩
    show (ck1 s (nI 8) st).bind (ckL s []) = _
    rw [ck_8 s q.2 st (by omega)]; rfl
  · split
    · cases U with
      | none => exact fun _ h => (nomatch h)
      | some A =>
        obtain ⟨m5, hA⟩ := hA A rfl
        refine ty_bnP (hA c (nB B tl b)) (fun b1 x x2 x3 => ?_)
        intro c' hc'
        cases hc'
        refine ⟨x ++ [(13, 0)], by rw [List.append_assoc], cdok_app x2 (cdok_op (by decide) (by decide)), fun st hst => ?_⟩
        rw [ckL_app, x3 st (by omega)]
        show (ck1 s (nI 13) (true :: st)).bind (ckL s []) = _
        rw [ck_13]; rfl
    · split
      · cases U with
        | none => exact fun _ h => (nomatch h)
        | some A =>
          obtain ⟨m5, hA⟩ := hA A rfl
          refine ty_bnP (ty_Cd hA 401 false false c (nB B tl b)) (fun b1 x x2 x3 => ?_)
          split
          · intro c' hc'
            cases hc'
            exact ⟨x, rfl, x2, fun st hst => x3 st (by omega)⟩
          · exact fun _ h => (nomatch h)
      · refine ty_bnP (ty_Sm hB 401 true c b) (fun b1 x x2 x3 => ?_)
        split
        · next q2 =>
          have t2 := ty_Sm (tl := tl) (s := s) hB 401 true (c ++ x) (nB B tl b1)
          revert t2
          generalize pSm B tl s 401 true (c ++ x) (nB B tl b1) = w
          obtain ⟨b2, r2⟩ := w
          intro t2
          cases r2 with
          | none => exact fun _ h => (nomatch h)
          | some c2 =>
            obtain ⟨y, y1, y2, y3⟩ := t2 c2 rfl
            intro c' hc'
            cases hc'
            generalize hn : (if thB B tl b1 = 60 then 11 else 12) = n
            have hn : n = 11 ∨ n = 12 := by revert hn; split <;> omega
            refine ⟨x ++ (y ++ [(n, 0)]), by rw [y1, List.append_assoc, List.append_assoc], cdok_app x2 (cdok_app y2 (cdok_op (by omega) (by omega))), fun st hst => ?_⟩
            rw [ckL_app, show ckL s x (id st) = some (false :: st) from x3 st (by omega)]
            show ckL s (y ++ [(n, 0)]) (false :: st) = _
            rw [ckL_app, show ckL s y (false :: st) = some (false :: false :: st) from y3 (false :: st) (by rw [List.length_cons]; omega)]
            show (ck1 s (nI n) (false :: false :: st)).bind (ckL s []) = _
            rw [ck_11 s n hn]; rfl
        · exact fun _ h => (nomatch h)
theorem ty_At (hB : ∀ k, B k < 256) : ∀ D c b, tyQ s (3 + 2 * D) id (fun st => true :: st) c (pAt B tl s D c b)
  | 0, c, b => ty_atF hB (U := none) (by omega) (fun A h => by cases h) c b
  | D + 1, c, b => ty_atF hB (U := some (pAt B tl s D)) (by omega) (fun A h => by cases h; exact ⟨by omega, fun c b => ty_At hB D c b⟩) c b
def hdO (s : Nat) (r : Hd) : Prop := if s = 0 then bw r.1 0 3 else if s = 3 then bw r.2.1 0 7 else bw r.2.1 0 9999 ∧ (r.2.2 = -1 ∨ bw r.2.2 0 7 ∧ fsB s r.2.2.toNatClampNeg = true)
theorem bwNm {n m : Nat} (h : n ≤ m) (hm : m < 2147483648) : bw (nI n) 0 (nI m) := ⟨z_pos (by omega), fun q => by have := (z_lt (by omega) (by omega)).mp q; omega⟩
theorem hd_ok (hB : ∀ k, B k < 256) {r : Hd} {b1 : Nat} (h : pHd B tl s b = (b1, some r)) : hdO s r := by
  unfold pHd at h
  unfold hdO
  by_cases s0 : s = 0
  · rw [if_pos s0] at h ⊢
    split at h
    · split at h
      · next q2 => cases h; exact bwNm (m := 3) (by omega) (by decide)
      · exact absurd (congrArg Prod.snd h) (fun q => (nomatch q))
    · exact absurd (congrArg Prod.snd h) (fun q => (nomatch q))
  · rw [if_neg s0] at h ⊢
    by_cases s3 : s = 3
    · rw [if_pos s3] at h ⊢
      split at h
      · split at h
        · next q2 => cases h; exact bwNm (m := 7) q2.2 (by decide)
        · exact absurd (congrArg Prod.snd h) (fun q => (nomatch q))
      · exact absurd (congrArg Prod.snd h) (fun q => (nomatch q))
    · rw [if_neg s3] at h ⊢
      split at h
      · split at h
        · next q2 =>
          have hv := vB_lt hB q2
          split at h
          · split at h
            · next q4 =>
              have f8 := isF_lt q4
              unfold isF at q4
              rw [Bool.and_eq_true] at q4
              cases h
              exact ⟨bwNm (m := 9999) (by omega) (by decide), Or.inr ⟨bwNm (m := 7) (by omega) (by decide), by rw [z_nn (by omega)]; exact q4.2⟩⟩
            · exact absurd (congrArg Prod.snd h) (fun q => (nomatch q))
          · cases h; exact ⟨bwNm (m := 9999) (by omega) (by decide), Or.inl rfl⟩
        · exact absurd (congrArg Prod.snd h) (fun q => (nomatch q))
      · exact absurd (congrArg Prod.snd h) (fun q => (nomatch q))
def lnO (s : Nat) (c : Cd) (l : Ln) : Prop := hdO s l.1 ∧ l.2.1 ≤ l.2.2 ∧ l.2.2 ≤ c.length ∧ (l.2.1 = l.2.2 ∨ ckL s ((c.drop l.2.1).take (l.2.2 - l.2.1)) [] = some [true])
theorem lnO_app {x : Cd} {l : Ln} (h : lnO s c l) : lnO s (c ++ x) l := by
  obtain ⟨h1, h2, h3, h4⟩ := h
  refine ⟨h1, h2, by rw [List.length_append]; omega, ?_⟩
  rcases h4 with q | q
  · exact Or.inl q
  · refine Or.inr ?_
    rw [List.drop_append_of_le_length (by omega), List.take_append_of_le_length (by rw [List.length_drop]; omega)]
    exact q
theorem ty_Ln (hB : ∀ k, B k < 256) {l : Ln} {c1 : Cd} {b1 : Nat} (h : pLn B tl s c b = (b1, some (l, c1))) : lnO s c1 l ∧ ∃ x, c1 = c ++ x ∧ cdok x := by
  unfold pLn at h
  have ho := fun r b1 => hd_ok (s := s) (tl := tl) (b := b) hB (r := r) (b1 := b1)
  revert h ho
  generalize pHd B tl s b = w
  obtain ⟨b2, q⟩ := w
  intro h ho
  cases q with
  | none => exact absurd (congrArg Prod.snd h) (fun q => (nomatch q))
  | some r =>
    have hr := ho r b2 rfl
    simp only [] at h
    by_cases z : thB B tl b2 = 14
    · rw [if_pos z] at h
      have t := ty_Cd (B := B) (tl := tl) (ty_At (tl := tl) (s := s) hB 6) 401 false false c (nB B tl b2)
      revert h t
      generalize pCd B tl (pAt B tl s 6) 401 false false c (nB B tl b2) = w
      obtain ⟨b3, q⟩ := w
      intro h t
      cases q with
      | none => exact absurd (congrArg Prod.snd h) (fun q => (nomatch q))
      | some c2 =>
        obtain ⟨x, x1, x2, x3⟩ := t c2 rfl
        cases h
        subst x1
        refine ⟨⟨hr, by show c.length ≤ (c ++ x).length; rw [List.length_append]; exact Nat.le_add_right _ _, Nat.le_refl _, Or.inr ?_⟩, x, rfl, x2⟩
        show ckL s (((c ++ x).drop c.length).take ((c ++ x).length - c.length)) [] = _
        rw [List.drop_left, List.length_append, Nat.add_sub_cancel_left, List.take_length]
        exact x3 [] (by decide)
    · rw [if_neg z] at h
      cases h
      exact ⟨⟨hr, Nat.le_refl _, Nat.le_refl _, Or.inl rfl⟩, [], (List.append_nil _).symm, fun y hy => (nomatch hy)⟩
theorem ty_Al (hB : ∀ k, B k < 256) : ∀ k ls c b b1 ls' c', k + ls.length = 10 → (∀ l ∈ ls, lnO s c l) → cdok c → c.length ≤ b → b ≤ tl → pAl B tl s k ls c b = (b1, some (ls', c')) → (∀ l ∈ ls', lnO s c' l) ∧ cdok c' ∧ ls'.length ≤ 10 ∧ c'.length ≤ tl
  | 0, ls, c, b, b1, ls', c', _, _, _, _, _, h => absurd (congrArg Prod.snd h) (fun q => (nomatch q))
  | k + 1, ls, c, b, b1, ls', c', hk, hl, hc, hcb, hb, h => by
    unfold pAl at h
    have gl := gd_Ln (B := B) (s := s) (c := c) hb
    have tn := fun l c1 b1 => ty_Ln (tl := tl) (s := s) (c := c) (b := b) hB (l := l) (c1 := c1) (b1 := b1)
    revert h gl tn
    generalize pLn B tl s c b = w
    obtain ⟨b2, q⟩ := w
    intro h gl tn
    cases q with
    | none => exact absurd (congrArg Prod.snd h) (fun q => (nomatch q))
    | some q =>
      obtain ⟨l, c1⟩ := q
      obtain ⟨z1, -, -, x, z2, z3⟩ := gl.2 l c1 rfl
      have z1 : b + 1 ≤ b2 := z1
      have z3 : x.length + b ≤ b2 := z3
      have hb2 : b2 ≤ tl := gl.1
      obtain ⟨lo, x', z2', xo⟩ := tn l c1 b2 rfl
      have lc : c1.length ≤ b2 := by rw [z2, List.length_append]; omega
      have ll : (ls ++ [l]).length = ls.length + 1 := by rw [List.length_append]; rfl
      have hl2 : ∀ y ∈ ls ++ [l], lnO s c1 y := fun y hy => by
        rcases List.mem_append.mp hy with w | w
        · rw [z2']; exact lnO_app (hl y w)
        · rw [List.mem_singleton] at w; rw [w]; exact lo
      have hc1 : cdok c1 := by rw [z2']; exact cdok_app hc xo
      simp only [] at h
      by_cases e31 : thB B tl b2 = 31
      · rw [if_pos e31] at h
        cases h
        exact ⟨hl2, hc1, by omega, by omega⟩
      · rw [if_neg e31] at h
        by_cases e59 : thB B tl b2 = 59
        · rw [if_pos e59] at h
          have g3 := nB_gt2 (B := B) (tl := tl) (b := b2) e31
          exact ty_Al hB k (ls ++ [l]) c1 _ b1 ls' c' (by omega) hl2 hc1 (by omega) (nB_le hb2) h
        · rw [if_neg e59] at h
          exact absurd (congrArg Prod.snd h) (fun q => (nomatch q))
theorem ty_Tx (hB : ∀ k, B k < 256) {b1 : Nat} {ls' : List Ln} {c' : Cd} (h : pTx B tl s = (b1, some (ls', c'))) : (∀ l ∈ ls', lnO s c' l) ∧ cdok c' ∧ ls'.length ≤ 10 ∧ c'.length ≤ tl := by
  unfold pTx at h
  by_cases z : thB B tl (blk B tl 0) = 31
  · rw [if_pos z] at h
    cases h
    exact ⟨fun l hl => (nomatch hl), fun l hl => (nomatch hl), by decide, Nat.zero_le _⟩
  · rw [if_neg z] at h
    exact ty_Al hB 10 [] [] _ b1 ls' c' rfl (fun l hl => (nomatch hl)) (fun l hl => (nomatch hl)) (Nat.zero_le _) (sk_le (Nat.zero_le _)) h
end
/-- the check of a run of steps -/
theorem chk_L (s : Nat) (op : Nat → Int32) : ∀ (x : Cd) (i : Nat) (st : List Bool), (∀ j y, x[j]? = some y → op (i + j) = nI y.1) → chk s op x.length i st = ckL s x st
  | [], i, st, _ => rfl
  | y :: x, i, st, h => by
    show (ck1 s (op i) st).bind (chk s op x.length (i + 1)) = (ck1 s (nI y.1) st).bind (ckL s x)
    rw [show op i = nI y.1 from h 0 y rfl]
    congr 1
    funext u
    exact chk_L s op x (i + 1) u (fun j z hz => by rw [show i + 1 + j = i + (j + 1) by omega]; exact h (j + 1) z hz)
