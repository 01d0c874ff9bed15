/-! the pure layer: what a call leaves as it was -/
def prot : List (Nat × Nat) := [2, 4, 6, 8, 10, 12, 14, 16, 18, 20, 24, 26, 28, 30, 32, 34, 36, 38, 40, 42, 47, 51, 53, 55, 61, 63, 65, 71].flatMap (fun i => [(i, 0), (i, 1)]) ++ [(87, 3), (87, 5), (87, 10)]
/-- d' differs from d at the labels P alone, and not in the protected fields -/
def Ch (σ : Nat → Nat) (P : List Nat) (d d' : Dy) : Prop :=
  (∀ i, i < 116 → i ∉ P → gI d' (σ i) = gI d (σ i) ∧ gA d' (σ i) = gA d (σ i) ∧ gJ d' (σ i) = gJ d (σ i))
  ∧ (∀ q ∈ prot, gI d' (σ q.1) q.2 = gI d (σ q.1) q.2)
  ∧ (∀ a, (∀ i, i < 116 → a ≠ σ i) → gI d' a = gI d a ∧ gA d' a = gA d a) ∧ gQ d' = gQ d
section
variable {σ : Nat → Nat} {E : En} {P Q : List Nat} {d d' d'' : Dy}
theorem Ch_rf : Ch σ P d d := ⟨fun _ _ _ => ⟨rfl, rfl, rfl⟩, fun _ _ => rfl, fun _ _ => ⟨rfl, rfl⟩, rfl⟩
theorem Ch_tr (h : Ch σ P d d') (h2 : Ch σ P d' d'') : Ch σ P d d'' :=
  ⟨fun i hi hp => ⟨(h2.1 i hi hp).1.trans (h.1 i hi hp).1, (h2.1 i hi hp).2.1.trans (h.1 i hi hp).2.1, (h2.1 i hi hp).2.2.trans (h.1 i hi hp).2.2⟩,
   fun q hq => (h2.2.1 q hq).trans (h.2.1 q hq), fun a ha => ⟨(h2.2.2.1 a ha).1.trans (h.2.2.1 a ha).1, (h2.2.2.1 a ha).2.trans (h.2.2.1 a ha).2⟩, h2.2.2.2.trans h.2.2.2⟩
theorem Ch_w (h : Ch σ P d d') (hs : ∀ i ∈ P, i ∈ Q) : Ch σ Q d d' := ⟨fun i hi hp => h.1 i hi (fun hc => hp (hs i hc)), h.2⟩
theorem prot_lt : ∀ q ∈ prot, q.1 < 116 := by decide
theorem Ch_pI (en : Env σ E) {i k : Nat} {v : Int32} (hi : i < 116) (hp : (i, k) ∉ prot) (hP : i ∈ P) : Ch σ P d (pI d (σ i) k v) := by
  refine ⟨fun j hj hn => ⟨?_, rfl, rfl⟩, fun q hq => ?_, fun a ha => ⟨?_, rfl⟩, rfl⟩
  · exact gI_pI_a d k v (Env_ne en hj hi (fun e => hn (e ▸ hP)))
  · obtain ⟨a, b⟩ := q
    by_cases ha : a = i
    · subst ha
      exact gI_pI_k d _ v (fun e => hp (e ▸ hq))
    · exact congrFun (gI_pI_a d k v (Env_ne en (prot_lt _ hq) hi ha)) b
  · exact gI_pI_a d k v (ha i hi)
theorem Ch_sA (en : Env σ E) {i : Nat} {g : Nat → Int32} (hi : i < 116) (hP : i ∈ P) : Ch σ P d (sA d (σ i) g) :=
  ⟨fun j hj hn => ⟨rfl, gA_sA_ne d g (Env_ne en hj hi (fun e => hn (e ▸ hP))), rfl⟩, fun _ _ => rfl, fun a ha => ⟨rfl, gA_sA_ne d g (ha i hi)⟩, rfl⟩
theorem Ch_pA (en : Env σ E) {i k : Nat} {v : Int32} (hi : i < 116) (hP : i ∈ P) : Ch σ P d (pA d (σ i) k v) := by
  rw [pA_as]; exact Ch_sA en hi hP
theorem gJ_pJ_ne (d : Dy) {b c : Nat} (k : Nat) (v : Int64) (h : c ≠ b) : gJ (pJ d b k v) c = gJ d c := by funext j; simp [gJ, pJ, u2, h]
theorem gJ_pJ (d : Dy) (b k : Nat) (v : Int64) : gJ (pJ d b k v) b = fun j => if j = k then v else gJ d b j := by funext j; simp [gJ, pJ, u2]
theorem Ch_pJ (en : Env σ E) {i k : Nat} {v : Int64} (hi : i < 116) (hP : i ∈ P) : Ch σ P d (pJ d (σ i) k v) :=
  ⟨fun j hj hn => ⟨rfl, rfl, gJ_pJ_ne d k v (Env_ne en hj hi (fun e => hn (e ▸ hP)))⟩, fun _ _ => rfl, fun _ _ => ⟨rfl, rfl⟩, rfl⟩
theorem Ch_I (h : Ch σ P d d') {i : Nat} (hi : i < 116) (hp : i ∉ P) : gI d' (σ i) = gI d (σ i) := (h.1 i hi hp).1
theorem Ch_A (h : Ch σ P d d') {i : Nat} (hi : i < 116) (hp : i ∉ P) : gA d' (σ i) = gA d (σ i) := (h.1 i hi hp).2.1
end
/-! the world of the reference, and how the class keeps it -/
def cnt (W : Nat → Int32) (c : Nat) : Nat := (W c).toNatClampNeg
def bw (x a b : Int32) : Prop := ¬ x < a ∧ ¬ b < x
/-- rows by their years, those of one year as they were told -/
def ins (y : Nat → Int32) (n : Nat) (l : List Nat) : List Nat := l.take (yp (fun j => y (l.getD j 0)) 1 (y n) l.length) ++ n :: l.drop (yp (fun j => y (l.getD j 0)) 1 (y n) l.length)
def ordr (y : Nat → Int32) : Nat → List Nat
  | 0 => []
  | n + 1 => ins y n (ordr y n)
/-! ten tables: persons, huts, events, waiters, freed, winds, storms, planks, photos, nights -/
def wI (i : Nat) : Nat := ([3, 7, 6, 3, 1, 1, 3, 3, 3, 1] : List Nat).getD i 1
def mI (i : Nat) : Nat := ([12, 10, 40, 10, 20, 60, 10, 8, 20, 12] : List Nat).getD i 1
def oI (i : Nat) : Nat := ([14, 50, 120, 360, 504, 536, 390, 420, 444, 524] : List Nat).getD i 0
def cI (i : Nat) : Nat := ([0, 1, 2, 4, 8, 5000, 5, 6, 7, 9] : List Nat).getD i 0
def nR (W : Nat → Int32) (i : Nat) : Nat := if i = 5 then 60 else cnt W (cI i)
/-- where the class keeps the reference's column -/
def cmI (i c : Nat) : Nat := if i = 2 then ([0, 2, 3, 4, 5, 1] : List Nat).getD c 0 else if i = 6 then ([0, 2, 1] : List Nat).getD c 0 else if i = 8 then ([1, 0, 2] : List Nat).getD c 0 else c
def kyI (W : Nat → Int32) (i : Nat) : Nat → Int32 := if i = 2 then (fun e => W (120 + 6 * e)) else (fun e => W (444 + 3 * e + 1))
def roI (W : Nat → Int32) (i j : Nat) : Nat := if i = 2 ∨ i = 8 then (ordr (kyI W i) (nR W i)).getD j 0 else j
def lx (x : Int32) (n : Nat) : Prop := ∃ k : Nat, k < n ∧ x = nI k
/-- what holds of every row of a table -/
def okR (i np nh : Nat) (f : Nat → Int32) : Prop := match i with
  | 0 => bw (f 0) 1900 2099 ∧ bw (f 1) 0 9999 ∧ bw (f 2) 0 1
  | 1 => bw (f 0) 1 9 ∧ (f 1 = -1 ∨ lx (f 1) np) ∧ bw (f 2) 0 20 ∧ bw (f 3) 0 99 ∧ bw (f 4) (f 3) 99 ∧ bw (f 5) 0 4 ∧ bw (f 6) 0 7
  | 2 => bw (f 0) 1900 2099 ∧ bw (f 1) 0 6 ∧ bw (f 4) 0 9999 ∧ ((f 1 = 0 ∨ f 1 = 1 ∨ f 1 = 2 ∨ f 1 = 3) ∧ lx (f 2) np ∨ (f 1 = 4 ∨ f 1 = 5 ∨ f 1 = 6) ∧ lx (f 2) nh) ∧ (f 1 = 0 ∨ f 1 = 6 ∧ lx (f 3) nh ∨ (f 1 = 1 ∨ f 1 = 2 ∨ f 1 = 3 ∨ f 1 = 4 ∨ f 1 = 5) ∧ lx (f 3) np)
  | 3 => lx (f 0) np ∧ bw (f 1) 1900 2099
  | 4 => bw (f 0) 0 9
  | 5 => bw (f 0) 0 9
  | 6 => bw (f 0) 1900 2099
  | 7 => bw (f 0) 1 255 ∧ bw (f 1) 0 9 ∧ bw (f 2) 0 9
  | 8 => lx (f 0) nh ∧ bw (f 1) 1900 2099 ∧ bw (f 2) 0 7
  | 9 => bw (f 0) 0 365
  | _ => True
/-- what holds of every world -/
def WI (W : Nat → Int32) : Prop :=
  (∀ i, i < 10 → i ≠ 5 → W (cI i) = nI (cnt W (cI i)) ∧ cnt W (cI i) ≤ mI i) ∧ (W 3 = nI (cnt W 3) ∧ 1980 ≤ cnt W 3 ∧ cnt W 3 ≤ 2099)
  ∧ (∀ i, i < 10 → ∀ r, r < nR W i → okR i (cnt W 0) (cnt W 1) (fun c => W (oI i + wI i * r + c)))
/-- the class's tables (told at label B) hold the world W -/
def TR (σ : Nat → Nat) (B : Nat) (d : Dy) (W : Nat → Int32) : Prop :=
  gI d (σ B) 0 = W 3 ∧ ∀ i, i < 10 → gI d (σ (B + 1 + 2 * i)) 3 = nI (nR W i) ∧ ∀ j, j < nR W i → ∀ c, c < wI i → gA d (σ (B + 2 + 2 * i)) (j * wI i + cmI i c) = W (oI i + wI i * roI W i j + c)
