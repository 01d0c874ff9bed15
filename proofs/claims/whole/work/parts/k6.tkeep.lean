/-! text: what the call keeps -/
def txC : List Nat := [0, 45, 47, 48, 49, 87, 88, 115]
def txN (W W' : Nat → Int32) : Prop := ∀ k, k < 596 → (k < 10 ∨ 14 ≤ k) → W' k = W k
def Cx (σ : Nat → Nat) (E : En) (d D : Dy) : Prop :=
  (∀ i, i < 116 → i ∉ txC → gI D (σ i) = gI d (σ i) ∧ gA D (σ i) = gA d (σ i)) ∧ (∀ q ∈ prot, q ≠ (87, 5) → q ≠ (87, 10) → gI D (σ q.1) q.2 = gI d (σ q.1) q.2)
  ∧ (∀ a, a ∈ eL E → (∀ i, i < 116 → a ≠ σ i) → gI D a = gI d a ∧ gA D a = gA d a) ∧ gI D (σ 0) 2 = gI d (σ 0) 2 ∧ gQ D (σ 44) = gQ d (σ 44)
section
variable {σ : Nat → Nat} {E E' : En} {d d' d2 D : Dy} {W W' : Nat → Int32}
theorem cx_tr (a : Cx σ E d d') (b : Cx σ E d' D) : Cx σ E d D :=
  ⟨fun i h1 h2 => ⟨(b.1 i h1 h2).1.trans (a.1 i h1 h2).1, (b.1 i h1 h2).2.trans (a.1 i h1 h2).2⟩, fun q h1 h2 h3 => (b.2.1 q h1 h2 h3).trans (a.2.1 q h1 h2 h3), fun x h1 h2 => ⟨(b.2.2.1 x h1 h2).1.trans (a.2.2.1 x h1 h2).1, (b.2.2.1 x h1 h2).2.trans (a.2.2.1 x h1 h2).2⟩, b.2.2.2.1.trans a.2.2.2.1, b.2.2.2.2.trans a.2.2.2.2⟩
theorem cx_Ch {P : List Nat} (c : Ch σ P d D) (hP : ∀ i ∈ P, i ∈ txC) (h0 : 0 ∉ P) : Cx σ E d D :=
  ⟨fun i h1 h2 => ⟨(c.1 i h1 (fun q => h2 (hP i q))).1, (c.1 i h1 (fun q => h2 (hP i q))).2.1⟩, fun q h1 _ _ => c.2.1 q h1, fun x _ h2 => c.2.2.1 x h2, by rw [(c.1 0 (by decide) h0).1], by rw [c.2.2.2]⟩
theorem cx_pI (h : Env σ E) {i k : Nat} {v : Int32} (hi : i < 116) (hP : i ∈ txC) (hp : ∀ q ∈ prot, q ≠ (87, 5) → q ≠ (87, 10) → q ≠ (i, k)) (h0 : (0, 2) ≠ (i, k)) : Cx σ E d (pI d (σ i) k v) := by
  have key : ∀ j m, j < 116 → (j, m) ≠ (i, k) → gI (pI d (σ i) k v) (σ j) m = gI d (σ j) m := fun j m hj hne => by
    by_cases e : j = i
    · subst e
      exact gI_pI_k _ _ _ (fun e2 => hne (by rw [e2]))
    · rw [gI_pI_a _ _ _ (Env_ne h hj hi e)]
  refine ⟨fun j h1 h2 => ⟨gI_pI_a _ _ _ (Env_ne h h1 hi (fun e => h2 (e ▸ hP))), rfl⟩, fun q h1 h2 h3 => key q.1 q.2 (prot_lt _ h1) (hp q h1 h2 h3), fun x _ h2 => ⟨gI_pI_a _ _ _ (h2 i hi), rfl⟩, key 0 2 (by decide) h0, rfl⟩
theorem cx_x (h : Env σ E) (x : ExD E d D) : Cx σ E d D := by
  have m : ∀ i, i < 116 → σ i ∈ eL E := fun i hi => (h.2.1 i hi).1
  exact ⟨fun i h1 _ => ⟨(x _ (m i h1)).1, (x _ (m i h1)).2.1⟩, fun q h1 _ _ => by rw [(x _ (m q.1 (prot_lt _ h1))).1], fun a h1 _ => ⟨(x a h1).1, (x a h1).2.1⟩, by rw [(x _ (m 0 (by decide))).1], (x _ (m 44 (by decide))).2.2.2⟩
theorem cx_pQ (h : Env σ E) {k : Nat} {v : Option Nat} : Cx σ E d (pQ d (σ 22) k v) :=
  ⟨fun _ _ _ => ⟨rfl, rfl⟩, fun _ _ _ _ => rfl, fun _ _ _ => ⟨rfl, rfl⟩, rfl, by rw [gQ_pQ_x, if_neg (Env_ne h (by decide) (by decide) (by decide))]⟩
theorem cx_pJ {a k : Nat} {v : Int64} : Cx σ E d (pJ d a k v) := ⟨fun _ _ _ => ⟨rfl, rfl⟩, fun _ _ _ _ => rfl, fun _ _ _ => ⟨rfl, rfl⟩, rfl, rfl⟩
theorem nR_txN (c : txN W W') {i : Nat} (hi : i < 10) : nR W' i = nR W i := by
  unfold nR cnt; split
  · rfl
  · next h5 => rw [c _ (by have := cI_lt hi h5; omega) (by have := cI_lt hi h5; omega)]
theorem roI_txN (hW : WI W) (c : txN W W') {i j : Nat} (hi : i < 10) : roI W' i j = roI W i j := by
  unfold roI; split
  · next hc =>
    have hm := WI_n hW hi
    rw [nR_txN c hi, ordr_congr (y := kyI W' i) (y' := kyI W i)]
    intro k hk
    have q1 := reg_in (i := i) (r := k) (c := kcI i) (by omega) (by rcases hc with rfl | rfl <;> decide)
    have q2 := reg_lo hi
    rw [ky_at hc, ky_at hc, c _ (by omega) (by omega)]
  · rfl
theorem WI_txN (hW : WI W) (c : txN W W') : WI W' := by
  refine ⟨fun i hi h5 => ?_, ?_, fun i hi r hr => ?_⟩
  · have := cI_lt hi h5
    unfold cnt; rw [c _ (by omega) (by omega)]; exact hW.1 i hi h5
  · unfold cnt; rw [c _ (by decide) (by decide)]; exact hW.2.1
  · rw [nR_txN c hi] at hr
    unfold cnt; rw [c 0 (by decide) (by decide), c 1 (by decide) (by decide)]
    refine okR_ext (hW.2.2 i hi r hr) (fun cc hcc => ?_) hi
    have q1 := reg_in (i := i) (Nat.lt_of_lt_of_le hr (WI_n hW hi)) hcc
    have q2 := reg_lo hi
    exact c _ (by omega) (by omega)
theorem TR_txN {B : Nat} (hW : WI W) (t : TR σ B d W) (c : txN W W') : TR σ B d W' := by
  refine ⟨?_, fun i hi => ⟨?_, fun j hj cc hcc => ?_⟩⟩
  · rw [t.1, c 3 (by decide) (by decide)]
  · rw [(t.2 i hi).1, nR_txN c hi]
  · rw [nR_txN c hi] at hj
    have q1 := reg_in (i := i) (Nat.lt_of_lt_of_le (ro_lt hj) (WI_n hW hi)) hcc
    have q2 := reg_lo hi
    rw [(t.2 i hi).2 j hj cc hcc, roI_txN hW c hi, c _ (by omega) (by omega)]
/-- a text in its own cells -/
theorem TX_W1 {q s : Nat} (h : TX σ E d q W s) (hs : s < 4) (c : ∀ k, 596 + 851 * s ≤ k → k < 596 + 851 * s + 851 → W' k = W k) : TX σ E d q W' s := by
  obtain ⟨tl, tb, tc, n, len, h0, h1, h2, h3, h4, h5, h6, h7, h8, h9, h10, h11, h12, h13⟩ := h
  have cl : ∀ i, i < n → ∀ e, e < 5 → W' (597 + 851 * s + 5 * i + e) = W (597 + 851 * s + 5 * i + e) := fun i hi e he => c _ (by omega) (by omega)
  refine ⟨tl, tb, tc, n, len, h0, h1, h2, h3, h4, h5, h6, h7, h8, h9, ?_, ?_, ?_, ?_⟩
  · rw [c _ (by omega) (by omega)]; exact h10
  · intro i hi
    have := h11 i hi
    unfold LnR at this ⊢
    rw [show W' (597 + 851 * s + 5 * i) = W (597 + 851 * s + 5 * i) from cl i hi 0 (by omega), cl i hi 1 (by omega), cl i hi 2 (by omega), cl i hi 3 (by omega), cl i hi 4 (by omega)]
    exact this
  · intro i hi
    rw [c _ (by omega) (by omega), c _ (by omega) (by omega)]; exact h12 i hi
  · intro i f t hi hf ht hf2 ht2
    rw [c _ (by omega) (by omega)] at hf
    rw [c _ (by omega) (by omega)] at ht
    have hln := (h11 i hi).2.2.2
    obtain ⟨f', t', e1, e2, e3, e4⟩ := hln
    rw [show 597 + 851 * s + 5 * i + 3 = 600 + 851 * s + 5 * i by omega, hf] at e1
    rw [show 597 + 851 * s + 5 * i + 4 = 601 + 851 * s + 5 * i by omega, ht] at e2
    have e5 : t = t' := by
      have := congrArg Int32.toNatClampNeg e2
      rwa [z_nn ht2, z_nn (by omega)] at this
    rcases h13 i f t hi hf ht hf2 ht2 with h | h
    · exact Or.inl h
    · right
      rw [← h]
      exact chk_congr _ _ _ (fun j h1 h2 => c _ (by omega) (by omega))
/-- an old text beside what is new -/
theorem TX_x {q s : Nat} (h : TX σ E d q W s) (x : ExE E E') (c : ∀ a, a ∈ eL E → (∀ i, i < 116 → a ≠ σ i) → gI D a = gI d a ∧ gA D a = gA d a) : TX σ E' D q W s := by
  obtain ⟨tl, tb, tc, n, len, h0, h1, h2, h3, h4, h5, h6, h7, h8, h9, h10, h11, h12, h13⟩ := h
  obtain ⟨j1, j2, j3, j4, j5, j6⟩ := h4
  have c1 := c tl j1.1 (fun i hi => (h0 i hi).2.1)
  have c2 := c tb j3.1 (fun i hi => (h0 i hi).2.2.1)
  have c3 := c tc h6.1 (fun i hi => (h0 i hi).2.2.2)
  refine ⟨tl, tb, tc, n, len, h0, xe_okO x h1, by rw [(x q h1.1).2.2.2]; exact h2, by rw [(x q h1.1).2.2.2]; exact h3, ⟨xe_okO x j1, by rw [(x tl j1.1).2.2.2]; exact j2, xe_okA x j3, by rw [(x tb j3.1).2.2.1]; exact j4, j5, j6⟩, ?_, xe_okA x h6, by rw [(x tc h6.1).2.2.1]; exact h7, h8, h9, h10, ?_, ?_, h13⟩
  · unfold TD; rw [c1.1]; exact h5
  · rw [c2.2]; exact h11
  · rw [c3.2]; exact h12
theorem TX_x1 {b s : Nat} (t : TXs σ E d b W) (hs : s < 4) (x : ExE E E') (c : ∀ a, a ∈ eL E → (∀ i, i < 116 → a ≠ σ i) → gI D a = gI d a ∧ gA D a = gA d a) (q : gQ D (σ b) s = gQ d (σ b) s) (w : W' (10 + s) = W (10 + s)) (w2 : ∀ k, 596 + 851 * s ≤ k → k < 596 + 851 * s + 851 → W' k = W k) : (gQ D (σ b) s = none ∧ W' (10 + s) = 0) ∨ (W' (10 + s) = 1 ∧ ∃ q, gQ D (σ b) s = some q ∧ TX σ E' D q W' s) := by
  rcases t s hs with ⟨h1, h2⟩ | ⟨h1, p, h2, h3⟩
  · exact Or.inl ⟨q.trans h1, w.trans h2⟩
  · exact Or.inr ⟨w.trans h1, p, q.trans h2, TX_W1 (TX_x h3 x c) hs w2⟩
theorem Inv_x (I : Inv σ E d) (x : ExE E E') (c : Cx σ E d D) (e : txN (gA d (σ 88)) (gA D (σ 88))) (tx : TXs σ E' D 22 (gA D (σ 88))) (t45 : gI D (σ 45) 1 = 0) (t87 : gI D (σ 87) 5 = 0) (fa : gI D (σ 0) 4 = gI D (σ 87) 10) : Inv σ E' D := by
  obtain ⟨en, st, ⟨w1, w2, w3⟩, ⟨i1, i2⟩, tp, -⟩ := I
  obtain ⟨cI, cP, cO, c02, c44⟩ := c
  have e89 := (cI 89 (by decide) (by decide)).2
  have p3 : gI D (σ 87) 3 = gI d (σ 87) 3 := cP (87, 3) (by decide) (by decide) (by decide)
  have no : ∀ i, 1 ≤ i → i ≤ 44 → i ∉ txC := by
    have : ∀ i, i < 45 → 1 ≤ i → i ∉ txC := by decide
    exact fun i h1 h2 => this i (by omega) h1
  have lo : ∀ B, B = 1 ∨ B = 23 → ∀ i, B ≤ i → i ≤ B + 21 → gI D (σ i) = gI d (σ i) ∧ gA D (σ i) = gA d (σ i) := fun B hB i h1 h2 => cI i (by omega) (no i (by omega) (by omega))
  refine ⟨xe_Env en x, fun q hq => ?_, ⟨WI_txN w1 e, TR_txN w1 (TR_same w2 (Or.inl rfl) (lo 1 (Or.inl rfl))) e, tx⟩, ⟨by rw [c02, p3]; exact i1, ?_⟩, ⟨0, by decide, t45, t87, fun k hk => absurd hk (by omega)⟩, fa⟩
  · have hp : (q.1, 0) ∈ prot ∧ (q.1, 1) ∈ prot ∧ q.1 ≠ 87 := (show ∀ q ∈ tabL, (q.1, 0) ∈ prot ∧ (q.1, 1) ∈ prot ∧ q.1 ≠ 87 by decide) q hq
    have n0 : ∀ k m : Nat, (q.1, k) ≠ (87, m) := fun k m e => hp.2.2 (congrArg Prod.fst e)
    exact ⟨(cP _ hp.1 (n0 _ _) (n0 _ _)).trans (st q hq).1, (cP _ hp.2.1 (n0 _ _) (n0 _ _)).trans (st q hq).2⟩
  · rw [c02, e89]
    rcases i2 with i2 | ⟨i2, i3, i4, i5⟩
    · exact Or.inl i2
    · refine Or.inr ⟨i2, i3, TR_same i4 (Or.inr rfl) (lo 23 (Or.inr rfl)), fun s hs => ?_⟩
      exact TX_x1 i5 hs x cO (by rw [c44]) rfl (fun _ _ _ => rfl)
end
