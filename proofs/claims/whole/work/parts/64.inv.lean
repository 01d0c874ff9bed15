def tabL : List (Nat × Nat × Nat) := [(2, 3, 12), (4, 7, 10), (6, 6, 40), (8, 3, 10), (10, 1, 20), (12, 1, 60), (14, 3, 10), (16, 3, 8), (18, 3, 20), (20, 1, 12), (24, 3, 12), (26, 7, 10), (28, 6, 40), (30, 3, 10), (32, 1, 20), (34, 1, 60), (36, 3, 10), (38, 3, 8), (40, 3, 20), (42, 1, 12), (47, 5, 10), (51, 3, 12), (53, 2, 10), (55, 1, 10), (61, 3, 12), (63, 2, 10), (65, 1, 10), (71, 4, 10)]
def St (σ : Nat → Nat) (d : Dy) : Prop := ∀ q ∈ tabL, gI d (σ q.1) 0 = nI q.2.1 ∧ gI d (σ q.1) 1 = nI q.2.2
/-! texts: what stands in the reference's rows of a text, checked by kinds: true of truths, false of numbers -/
def fsB (s f : Nat) : Bool := (([31, 121, 142, 56] : List Nat).getD s 0).testBit f
def ck1 (s : Nat) (op : Int32) (st : List Bool) : Option (List Bool) :=
  if op = 9 ∨ (¬ op < 0 ∧ op < 8 ∧ fsB s op.toNatClampNeg = true) then (if st.length < 20 then some (false :: st) else none)
  else if op = 8 ∧ s ≠ 3 then (if st.length < 20 then some (true :: st) else none)
  else if op = 10 then (match st with | false :: false :: r => some (false :: r) | _ => none)
  else if op = 11 ∨ op = 12 then (match st with | false :: false :: r => some (true :: r) | _ => none)
  else if op = 13 then (match st with | true :: r => some (true :: r) | _ => none)
  else if op = 14 ∨ op = 15 then (match st with | true :: true :: r => some (true :: r) | _ => none)
  else none
def chk (s : Nat) (op : Nat → Int32) : Nat → Nat → List Bool → Option (List Bool)
  | 0, _, st => some st
  | k + 1, i, st => (ck1 s (op i) st).bind (chk s op k (i + 1))
/-- the class's item of a step of the reference -/
def stp (s n : Int32) : Int32 := if s = 9 then n else if s < 9 then -1 - s else -s
/-- a line of the class (g: its table's cells from its row on) and of the reference (W from k on) -/
def LnR (s : Nat) (g : Nat → Int32) (j : Nat) (W : Nat → Int32) (k len : Nat) : Prop :=
  (if s = 0 then g j = W k ∧ bw (W k) 0 3 else if s = 3 then g j = W (k + 1) ∧ bw (W (k + 1)) 0 7 else (W k = 4 ∧ g j = 1 ∨ W k = 5 ∧ g j = -1) ∧ g (j + 1) = W (k + 1) ∧ bw (W (k + 1)) 0 9999 ∧ g (j + 2) = W (k + 2) ∧ (W (k + 2) = -1 ∨ bw (W (k + 2)) 0 7 ∧ fsB s (W (k + 2)).toNatClampNeg = true))
  ∧ g (j + 3) = W (k + 3) ∧ g (j + 4) = W (k + 4)
  ∧ ∃ f t : Nat, W (k + 3) = nI f ∧ W (k + 4) = nI t ∧ f ≤ t ∧ t ≤ len
def TX (σ : Nat → Nat) (E : En) (d : Dy) (q : Nat) (W : Nat → Int32) (s : Nat) : Prop :=
  ∃ tl tb tc n len : Nat, (∀ i, i < 116 → q ≠ σ i ∧ tl ≠ σ i ∧ tb ≠ σ i ∧ tc ≠ σ i) ∧ okO E q 7 ∧ eR E q 0 = some tl ∧ eR E q 1 = some tc ∧ TE E tl tb 5 n ∧ TD d tl 5 n n ∧ okA E tc 13 ∧ eN E tc = len ∧ len ≤ 400 ∧ n ≤ 10
    ∧ W (596 + 851 * s) = nI n ∧ (∀ i, i < n → LnR s (gA d tb) (i * 5) W (597 + 851 * s + 5 * i) len)
    ∧ (∀ i, i < len → gA d tc i = stp (W (647 + 851 * s + 2 * i)) (W (648 + 851 * s + 2 * i)) ∧ (W (647 + 851 * s + 2 * i) = 9 → bw (W (648 + 851 * s + 2 * i)) 0 9999))
    ∧ (∀ i f t, i < n → W (600 + 851 * s + 5 * i) = nI f → W (601 + 851 * s + 5 * i) = nI t → f < 2147483648 → t < 2147483648 → f = t ∨ chk s (fun j => W (647 + 851 * s + 2 * j)) (t - f) f [] = some [true])
def TXs (σ : Nat → Nat) (E : En) (d : Dy) (b : Nat) (W : Nat → Int32) : Prop :=
  ∀ s, s < 4 → (gQ d (σ b) s = none ∧ W (10 + s) = 0) ∨ (W (10 + s) = 1 ∧ ∃ q, gQ d (σ b) s = some q ∧ TX σ E d q W s)
def sx (x : Int32) : Int32 := if x < 128 then x else x - 256
def Tape (σ : Nat → Nat) (d : Dy) : Prop := ∃ tl : Nat, tl ≤ 400 ∧ gI d (σ 45) 1 = nI tl ∧ gI d (σ 87) 5 = nI tl ∧ ∀ k, k < tl → bw (gA d (σ 46) k) 0 255 ∧ gA d (σ 90) k = sx (gA d (σ 46) k)
def Inv (σ : Nat → Nat) (E : En) (d : Dy) : Prop :=
  Env σ E ∧ St σ d ∧ (WI (gA d (σ 88)) ∧ TR σ 1 d (gA d (σ 88)) ∧ TXs σ E d 22 (gA d (σ 88)))
  ∧ (gI d (σ 0) 2 = gI d (σ 87) 3 ∧ (gI d (σ 0) 2 = 0 ∨ gI d (σ 0) 2 = 1 ∧ WI (gA d (σ 89)) ∧ TR σ 23 d (gA d (σ 89)) ∧ TXs σ E d 44 (gA d (σ 89))))
  ∧ Tape σ d ∧ gI d (σ 0) 4 = gI d (σ 87) 10
/-- labels that hold nothing that lasts -/
def scr : List Nat := [47, 48, 49, 50, 51, 52, 53, 54, 55, 56, 57, 58, 59, 60, 61, 62, 63, 64, 65, 66, 67, 68, 69, 70, 71, 72, 73, 74, 75, 76, 77, 78, 79, 80, 81, 82, 83, 84, 85, 86, 87, 91, 92, 93, 94, 95, 96, 97, 98, 99, 100, 101, 102, 103, 104, 105, 106, 107, 108, 109, 110, 111, 112, 113, 114, 115]
section
variable {σ : Nat → Nat} {E : En} {d d' : Dy}
theorem St_ch {P : List Nat} (h : St σ d) (c : Ch σ P d d') : St σ d' := fun q hq => by
  have hp : (q.1, 0) ∈ prot ∧ (q.1, 1) ∈ prot := (show ∀ q ∈ tabL, (q.1, 0) ∈ prot ∧ (q.1, 1) ∈ prot by decide) q hq
  exact ⟨(c.2.1 _ hp.1).trans (h q hq).1, (c.2.1 _ hp.2).trans (h q hq).2⟩
theorem TX_d {q s : Nat} {W : Nat → Int32} (h : TX σ E d q W s) (c : ∀ a, (∀ i, i < 116 → a ≠ σ i) → gI d' a = gI d a ∧ gA d' a = gA d a) : TX σ E d' q W s := by
  obtain ⟨tl, tb, tc, n, len, h0, h1, h2, h3, h4, h5, h6, h7, h8, h9, h10, h11, h12, h13⟩ := h
  have c1 := c tl (fun i hi => (h0 i hi).2.1)
  have c2 := c tb (fun i hi => (h0 i hi).2.2.1)
  have c3 := c tc (fun i hi => (h0 i hi).2.2.2)
  refine ⟨tl, tb, tc, n, len, h0, h1, h2, h3, h4, ?_, h6, h7, h8, h9, h10, ?_, ?_, h13⟩
  · unfold TD; rw [c1.1]; exact h5
  · intro i hi; rw [c2.2]; exact h11 i hi
  · intro i hi; rw [c3.2]; exact h12 i hi
theorem TX_W {q s : Nat} {W W' : Nat → Int32} (h : TX σ E d q W s) (hs : s < 4) (c : ∀ k, 596 ≤ k → W' k = W k) : TX σ E d q W' s := by
  obtain ⟨tl, tb, tc, n, len, h0, h1, h2, h3, h4, h5, h6, h7, h8, h9, h10, h11, h12, h13⟩ := h
  refine ⟨tl, tb, tc, n, len, h0, h1, h2, h3, h4, h5, h6, h7, h8, h9, ?_, ?_, ?_, ?_⟩
  · rw [c _ (by omega)]; exact h10
  · intro i hi
    have := h11 i hi
    unfold LnR at this ⊢
    rw [c _ (by omega), c _ (by omega), c _ (by omega), c _ (by omega), c _ (by omega)]
    exact this
  · intro i hi
    rw [c _ (by omega), c _ (by omega)]; exact h12 i hi
  · intro i f t hi
    rw [c _ (by omega), c _ (by omega)]
    rw [show (fun j => W' (647 + 851 * s + 2 * j)) = (fun j => W (647 + 851 * s + 2 * j)) from funext fun j => c _ (by omega)]
    exact h13 i f t hi
theorem TXs_ch {P : List Nat} {b : Nat} {W : Nat → Int32} (h : TXs σ E d b W) (c : Ch σ P d d') : TXs σ E d' b W := fun s hs => by
  rcases h s hs with ⟨h1, h2⟩ | ⟨h1, q, h2, h3⟩
  · exact Or.inl ⟨by rw [c.2.2.2]; exact h1, h2⟩
  · exact Or.inr ⟨h1, q, by rw [c.2.2.2]; exact h2, TX_d h3 c.2.2.1⟩
theorem TR_same {B : Nat} {W : Nat → Int32} (h : TR σ B d W) (hB : B = 1 ∨ B = 23) (hI : ∀ i, B ≤ i → i ≤ B + 21 → gI d' (σ i) = gI d (σ i) ∧ gA d' (σ i) = gA d (σ i)) : TR σ B d' W := by
  obtain ⟨h1, h2⟩ := h
  refine ⟨?_, fun i hi => ⟨?_, fun j hj c hc => ?_⟩⟩
  · rw [(hI B (by omega) (by omega)).1]; exact h1
  · rw [(hI (B + 1 + 2 * i) (by omega) (by omega)).1]; exact (h2 i hi).1
  · rw [(hI (B + 2 + 2 * i) (by omega) (by omega)).2]; exact (h2 i hi).2 j hj c hc
theorem scr_lo : ∀ i, i ≤ 46 → i ∉ scr := by
  intro i hi hc
  have : ∀ j ∈ scr, 46 < j := by decide
  exact absurd (this i hc) (by omega)
theorem Inv_ch (h : Inv σ E d) (c : Ch σ scr d d') : Inv σ E d' := by
  obtain ⟨en, st, ⟨w1, w2, w3⟩, ⟨i1, i2⟩, tp, fa⟩ := h
  have cA : ∀ i, i < 116 → i ∉ scr → gA d' (σ i) = gA d (σ i) := fun i h1 h2 => (c.1 i h1 h2).2.1
  have cI : ∀ i, i < 116 → i ∉ scr → gI d' (σ i) = gI d (σ i) := fun i h1 h2 => (c.1 i h1 h2).1
  have e88 := cA 88 (by decide) (by decide)
  have e89 := cA 89 (by decide) (by decide)
  have e0 := cI 0 (by decide) (by decide)
  have p3 : gI d' (σ 87) 3 = gI d (σ 87) 3 := c.2.1 (87, 3) (by decide)
  have p5 : gI d' (σ 87) 5 = gI d (σ 87) 5 := c.2.1 (87, 5) (by decide)
  have p10 : gI d' (σ 87) 10 = gI d (σ 87) 10 := c.2.1 (87, 10) (by decide)
  have lo : ∀ B, B = 1 ∨ B = 23 → ∀ i, B ≤ i → i ≤ B + 21 → gI d' (σ i) = gI d (σ i) ∧ gA d' (σ i) = gA d (σ i) := fun B hB i h1 h2 => ⟨cI i (by omega) (scr_lo i (by omega)), cA i (by omega) (scr_lo i (by omega))⟩
  refine ⟨en, St_ch st c, ⟨?_, ?_, ?_⟩, ⟨?_, ?_⟩, ?_, ?_⟩
  · rw [e88]; exact w1
  · rw [e88]; exact TR_same w2 (Or.inl rfl) (lo 1 (Or.inl rfl))
  · rw [e88]; exact TXs_ch w3 c
  · rw [e0, p3]; exact i1
  · rw [e0, e89]
    rcases i2 with i2 | ⟨i2, i3, i4, i5⟩
    · exact Or.inl i2
    · exact Or.inr ⟨i2, i3, TR_same i4 (Or.inr rfl) (lo 23 (Or.inr rfl)), TXs_ch i5 c⟩
  · obtain ⟨tl, t1, t2, t3, t4⟩ := tp
    refine ⟨tl, t1, ?_, ?_, ?_⟩
    · rw [cI 45 (by decide) (by decide)]; exact t2
    · rw [p5]; exact t3
    · rw [cA 46 (by decide) (by decide), cA 90 (by decide) (by decide)]; exact t4
  · rw [e0, p10]; exact fa
end
