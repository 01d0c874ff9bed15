/-! the pure layer: what a call leaves as it was -/
def prot : List (Nat × Nat) := [2, 4, 6, 8, 10, 12, 14, 16, 18, 20, 24, 26, 28, 30, 32, 34, 36, 38, 40, 42, 47, 51, 53, 55, 61, 63, 65, 71].flatMap (fun i => [(i, 0), (i, 1)]) ++ [(87, 3), (87, 5), (87, 10)]
/-- d' differs from d at the labels P alone, and not in the protected fields -/
def Ch (σ : Nat → Nat) (P : List Nat) (d d' : Dy) : Prop :=
  (∀ i, i < 116 → i ∉ P → gI d' (σ i) = gI d (σ i) ∧ gA d' (σ i) = gA d (σ i) ∧ gJ d' (σ i) = gJ d (σ i))
  ∧ (∀ q ∈ prot, gI d' (σ q.1) q.2 = gI d (σ q.1) q.2)
  ∧ (∀ a, (∀ i, i < 116 → a ≠ σ i) → gI d' a = gI d a ∧ gA d' a = gA d a) ∧ gQ d' = gQ d
section
variable {σ : Nat → Nat} {E : En} {P Q : List Nat} {d d' d'' : Dy}
theorem Ch_rf : Ch σ P d d := ⟨fun _ _ _ => ⟨rfl, rfl, rfl⟩, fun _ _ => rfl, fun _ _ => ⟨rfl, rfl⟩, rfl⟩
theorem Ch_tr (h : Ch σ P d d') (h2 : Ch σ P d' d'') : Ch σ P d d'' :=
  ⟨fun i hi hp => ⟨(h2.1 i hi hp).1.trans (h.1 i hi hp).1, (h2.1 i hi hp).2.1.trans (h.1 i hi hp).2.1, (h2.1 i hi hp).2.2.trans (h.1 i hi hp).2.2⟩,
   fun q hq => (h2.2.1 q hq).trans (h.2.1 q hq), fun a ha => ⟨(h2.2.2.1 a ha).1.trans (h.2.2.1 a ha).1, (h2.2.2.1 a ha).2.trans (h.2.2.1 a ha).2⟩, h2.2.2.2.trans h.2.2.2⟩
theorem Ch_w (h : Ch σ P d d') (hs : ∀ i ∈ P, i ∈ Q) : Ch σ Q d d' := ⟨fun i hi hp => h.1 i hi (fun hc => hp (hs i hc)), h.2⟩
theorem prot_lt : ∀ q ∈ prot, q.1 < 116 := by decide
theorem Ch_pI (en : Env σ E) {i k : Nat} {v : Int32} (hi : i < 116) (hp : (i, k) ∉ prot) (hP : i ∈ P) : Ch σ P d (pI d (σ i) k v) := by
  refine ⟨fun j hj hn => ⟨?_, rfl, rfl⟩, fun q hq => ?_, fun a ha => ⟨?_, rfl⟩, rfl⟩
  · exact gI_pI_a d k v (Env_ne en hj hi (fun e => hn (e ▸ hP)))
  · obtain ⟨a, b⟩ := q
    by_cases ha : a = i
    · subst ha
      exact gI_pI_k d _ v (fun e => hp (e ▸ hq))
    · exact congrFun (gI_pI_a d k v (Env_ne en (prot_lt _ hq) hi ha)) b
  · exact gI_pI_a d k v (ha i hi)
theorem Ch_sA (en : Env σ E) {i : Nat} {g : Nat → Int32} (hi : i < 116) (hP : i ∈ P) : Ch σ P d (sA d (σ i) g) :=
  ⟨fun j hj hn => ⟨rfl, gA_sA_ne d g (Env_ne en hj hi (fun e => hn (e ▸ hP))), rfl⟩, fun _ _ => rfl, fun a ha => ⟨rfl, gA_sA_ne d g (ha i hi)⟩, rfl⟩
theorem Ch_pA (en : Env σ E) {i k : Nat} {v : Int32} (hi : i < 116) (hP : i ∈ P) : Ch σ P d (pA d (σ i) k v) := by
  rw [pA_as]; exact Ch_sA en hi hP
theorem gJ_pJ_ne (d : Dy) {b c : Nat} (k : Nat) (v : Int64) (h : c ≠ b) : gJ (pJ d b k v) c = gJ d c := by funext j; simp [gJ, pJ, u2, h]
theorem gJ_pJ (d : Dy) (b k : Nat) (v : Int64) : gJ (pJ d b k v) b = fun j => if j = k then v else gJ d b j := by funext j; simp [gJ, pJ, u2]
theorem Ch_pJ (en : Env σ E) {i k : Nat} {v : Int64} (hi : i < 116) (hP : i ∈ P) : Ch σ P d (pJ d (σ i) k v) :=
  ⟨fun j hj hn => ⟨rfl, rfl, gJ_pJ_ne d k v (Env_ne en hj hi (fun e => hn (e ▸ hP)))⟩, fun _ _ => rfl, fun _ _ => ⟨rfl, rfl⟩, rfl⟩
theorem Ch_I (h : Ch σ P d d') {i : Nat} (hi : i < 116) (hp : i ∉ P) : gI d' (σ i) = gI d (σ i) := (h.1 i hi hp).1
theorem Ch_A (h : Ch σ P d d') {i : Nat} (hi : i < 116) (hp : i ∉ P) : gA d' (σ i) = gA d (σ i) := (h.1 i hi hp).2.1
end
/-! the world of the reference, and how the class keeps it -/
def cnt (W : Nat → Int32) (c : Nat) : Nat := (W c).toNatClampNeg
def bw (x a b : Int32) : Prop := ¬ x < a ∧ ¬ b < x
/-- rows by their years, those of one year as they were told -/
def ins (y : Nat → Int32) (n : Nat) (l : List Nat) : List Nat := l.take (yp (fun j => y (l.getD j 0)) 1 (y n) l.length) ++ n :: l.drop (yp (fun j => y (l.getD j 0)) 1 (y n) l.length)
def ordr (y : Nat → Int32) : Nat → List Nat
  | 0 => []
  | n + 1 => ins y n (ordr y n)
def evY (W : Nat → Int32) : Nat → Int32 := fun e => W (120 + 6 * e)
def phY (W : Nat → Int32) : Nat → Int32 := fun e => W (444 + 3 * e + 1)
def SP : List (Nat × Nat × Nat × Nat) := [(1, 3, 14, 0), (3, 7, 50, 1), (7, 3, 360, 4), (9, 1, 504, 8), (15, 3, 420, 6), (19, 1, 524, 9)]
def CN : List (Nat × Nat) := [(0, 12), (1, 10), (2, 40), (4, 10), (5, 10), (6, 8), (7, 20), (8, 20), (9, 12)]
/-- what holds of every world -/
def WI (W : Nat → Int32) : Prop :=
  (∀ q ∈ CN, W q.1 = nI (cnt W q.1) ∧ cnt W q.1 ≤ q.2) ∧ (W 3 = nI (cnt W 3) ∧ 1980 ≤ cnt W 3 ∧ cnt W 3 ≤ 2099)
  ∧ (∀ p, p < cnt W 0 → bw (W (14 + 3 * p)) 1900 2099 ∧ bw (W (14 + 3 * p + 1)) 0 9999 ∧ bw (W (14 + 3 * p + 2)) 0 1)
  ∧ (∀ h, h < cnt W 1 → bw (W (50 + 7 * h)) 1 9 ∧ (W (50 + 7 * h + 1) = -1 ∨ bw (W (50 + 7 * h + 1)) 0 (W 0 - 1)) ∧ bw (W (50 + 7 * h + 2)) 0 20 ∧ bw (W (50 + 7 * h + 3)) 0 99 ∧ bw (W (50 + 7 * h + 4)) (W (50 + 7 * h + 3)) 99 ∧ bw (W (50 + 7 * h + 5)) 0 4 ∧ bw (W (50 + 7 * h + 6)) 0 7)
  ∧ (∀ e, e < cnt W 2 → bw (W (120 + 6 * e)) 1900 2099 ∧ bw (W (120 + 6 * e + 1)) 0 6 ∧ bw (W (120 + 6 * e + 4)) 0 9999
      ∧ (if W (120 + 6 * e + 1) = 0 ∨ W (120 + 6 * e + 1) = 1 ∨ W (120 + 6 * e + 1) = 2 ∨ W (120 + 6 * e + 1) = 3 then bw (W (120 + 6 * e + 2)) 0 (W 0 - 1) else bw (W (120 + 6 * e + 2)) 0 (W 1 - 1))
      ∧ (W (120 + 6 * e + 1) = 0 ∨ if W (120 + 6 * e + 1) = 6 then bw (W (120 + 6 * e + 3)) 0 (W 1 - 1) else bw (W (120 + 6 * e + 3)) 0 (W 0 - 1)))
  ∧ (∀ k, k < cnt W 4 → bw (W (360 + 3 * k)) 0 (W 0 - 1) ∧ bw (W (360 + 3 * k + 1)) 1900 2099 ∧ bw (W (360 + 3 * k + 2)) 1900 2099)
  ∧ (∀ k, k < cnt W 5 → bw (W (390 + 3 * k)) 1900 2099)
  ∧ (∀ k, k < cnt W 6 → bw (W (420 + 3 * k)) 1 255 ∧ bw (W (420 + 3 * k + 1)) 0 9 ∧ bw (W (420 + 3 * k + 2)) 0 9)
  ∧ (∀ k, k < cnt W 7 → bw (W (444 + 3 * k)) 0 (W 1 - 1) ∧ bw (W (444 + 3 * k + 1)) 1900 2099 ∧ bw (W (444 + 3 * k + 2)) 0 7)
  ∧ (∀ k, k < cnt W 8 → bw (W (504 + k)) 0 9) ∧ (∀ k, k < cnt W 9 → bw (W (524 + k)) 0 365) ∧ (∀ k, k < 60 → bw (W (536 + k)) 0 9)
/-- the class's tables (told at label B) hold the world W -/
def TR (σ : Nat → Nat) (B : Nat) (d : Dy) (W : Nat → Int32) : Prop :=
  gI d (σ B) 0 = W 3 ∧ (∀ q ∈ SP, gI d (σ (B + q.1)) 3 = W q.2.2.2 ∧ ∀ k, k < cnt W q.2.2.2 * q.2.1 → gA d (σ (B + q.1 + 1)) k = W (q.2.2.1 + k))
  ∧ (gI d (σ (B + 11)) 3 = 60 ∧ ∀ k, k < 60 → gA d (σ (B + 12)) k = W (536 + k))
  ∧ (gI d (σ (B + 13)) 3 = W 5 ∧ ∀ s, s < cnt W 5 → gA d (σ (B + 14)) (s * 3) = W (390 + 3 * s) ∧ gA d (σ (B + 14)) (s * 3 + 1) = W (390 + 3 * s + 2) ∧ gA d (σ (B + 14)) (s * 3 + 2) = W (390 + 3 * s + 1))
  ∧ (gI d (σ (B + 5)) 3 = W 2 ∧ ∀ j, j < cnt W 2 → gA d (σ (B + 6)) (j * 6) = W (120 + 6 * (ordr (evY W) (cnt W 2)).getD j 0) ∧ gA d (σ (B + 6)) (j * 6 + 1) = W (120 + 6 * (ordr (evY W) (cnt W 2)).getD j 0 + 5) ∧ gA d (σ (B + 6)) (j * 6 + 2) = W (120 + 6 * (ordr (evY W) (cnt W 2)).getD j 0 + 1) ∧ gA d (σ (B + 6)) (j * 6 + 3) = W (120 + 6 * (ordr (evY W) (cnt W 2)).getD j 0 + 2) ∧ gA d (σ (B + 6)) (j * 6 + 4) = W (120 + 6 * (ordr (evY W) (cnt W 2)).getD j 0 + 3) ∧ gA d (σ (B + 6)) (j * 6 + 5) = W (120 + 6 * (ordr (evY W) (cnt W 2)).getD j 0 + 4))
  ∧ (gI d (σ (B + 17)) 3 = W 7 ∧ ∀ j, j < cnt W 7 → gA d (σ (B + 18)) (j * 3) = W (444 + 3 * (ordr (phY W) (cnt W 7)).getD j 0 + 1) ∧ gA d (σ (B + 18)) (j * 3 + 1) = W (444 + 3 * (ordr (phY W) (cnt W 7)).getD j 0) ∧ gA d (σ (B + 18)) (j * 3 + 2) = W (444 + 3 * (ordr (phY W) (cnt W 7)).getD j 0 + 2))
