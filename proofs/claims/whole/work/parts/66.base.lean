/-! the pure layer: how a call of the law ends; what of the world may change -/
def wor : List Nat := scr ++ [1, 2, 3, 4, 5, 6, 7, 8, 9, 10, 11, 12, 13, 14, 15, 16, 17, 18, 19, 20, 21, 88]
section
variable {σ : Nat → Nat} {E : En} {d d' : Dy}
theorem z_of {n : Nat} : (OfNat.ofNat n : Int32) = nI n := rfl
theorem vp_lt {k n : Nat} (h : k < n) (hn : n < 2147483648) : vp_in (nI k) n := vpi h hn
theorem wor_no : ∀ i, 22 ≤ i → i ≤ 46 → i ∉ wor := by
  have : ∀ i, i < 47 → 22 ≤ i → i ∉ wor := by decide
  exact fun i h1 h2 => this i (by omega) h1
theorem Inv_w (I : Inv σ E d) (c : Ch σ wor d d') {W : Nat → Int32} (e : gA d' (σ 88) = W) (w1 : WI W) (w2 : TR σ 1 d' W) (ht : ∀ k, (10 ≤ k ∧ k < 14 ∨ 596 ≤ k) → W k = gA d (σ 88) k) : Inv σ E d' := by
  obtain ⟨en, st, ⟨o1, o2, o3⟩, ⟨i1, i2⟩, tp, fa⟩ := I
  have cA : ∀ i, i < 116 → i ∉ wor → gA d' (σ i) = gA d (σ i) := fun i h1 h2 => (c.1 i h1 h2).2.1
  have cI : ∀ i, i < 116 → i ∉ wor → gI d' (σ i) = gI d (σ i) := fun i h1 h2 => (c.1 i h1 h2).1
  have e89 := cA 89 (by decide) (by decide)
  have e0 := cI 0 (by decide) (by decide)
  have p3 : gI d' (σ 87) 3 = gI d (σ 87) 3 := c.2.1 (87, 3) (by decide)
  have p5 : gI d' (σ 87) 5 = gI d (σ 87) 5 := c.2.1 (87, 5) (by decide)
  have p10 : gI d' (σ 87) 10 = gI d (σ 87) 10 := c.2.1 (87, 10) (by decide)
  have lo : ∀ i, 23 ≤ i → i ≤ 23 + 21 → gI d' (σ i) = gI d (σ i) ∧ gA d' (σ i) = gA d (σ i) := fun i h1 h2 => ⟨cI i (by omega) (wor_no i (by omega) (by omega)), cA i (by omega) (wor_no i (by omega) (by omega))⟩
  refine ⟨en, St_ch st c, ⟨?_, ?_, ?_⟩, ⟨?_, ?_⟩, ?_, ?_⟩
  · rw [e]; exact w1
  · rw [e]; exact w2
  · rw [e]
    intro s hs
    rcases TXs_ch o3 c s hs with ⟨h1, h2⟩ | ⟨h1, q, h2, h3⟩
    · exact Or.inl ⟨h1, (ht _ (by omega)).trans h2⟩
    · exact Or.inr ⟨(ht _ (by omega)).trans h1, q, h2, TX_W h3 hs (fun k hk => ht k (Or.inr hk))⟩
  · rw [e0, p3]; exact i1
  · rw [e0, e89]
    rcases i2 with i2 | ⟨i2, i3, i4, i5⟩
    · exact Or.inl i2
    · exact Or.inr ⟨i2, i3, TR_same i4 (Or.inr rfl) lo, TXs_ch i5 c⟩
  · obtain ⟨tl, t1, t2, t3, t4⟩ := tp
    refine ⟨tl, t1, ?_, ?_, ?_⟩
    · rw [cI 45 (by decide) (by decide)]; exact t2
    · rw [p5]; exact t3
    · rw [cA 46 (by decide) (by decide), cA 90 (by decide) (by decide)]; exact t4
  · rw [e0, p10]; exact fa
/-- the end of a call with an answer in 'out' -/
theorem tl_out (h : Env σ E) {kc : En → Dy → Prop} {c rb : Int32} (h1 : gI d (σ 87) 0 = c) (h2 : c = 0 → gJ d (σ 115) 0 = rb.toInt64) (k : kc E d) :
    w_X11_thrown E (σ 87) d (fun r_10 d_9 => ((r_10 = c → ((¬ c = 0 → kc E d_9) ∧ (c = 0 → vp_in 0 (eN E (σ 115)) ∧ (((lg_cmp (gJ d_9 (σ 115) ((0 : Int32)).toNatClampNeg) rb.toInt64) = 0 → kc E d_9) ∧ (¬ (lg_cmp (gJ d_9 (σ 115) ((0 : Int32)).toNatClampNeg) rb.toInt64) = 0 → False))))) ∧ (¬ r_10 = c → False))) := by
  refine ⟨eo_87 h, fun _ => ⟨fun _ => k, fun h0 => ⟨?_, fun _ => k, fun hn => hn ?_⟩⟩, fun hn => hn h1⟩
  · rw [en_115 h]; exact vpi (by decide) (by decide)
  · show lg_cmp (gJ d (σ 115) 0) rb.toInt64 = 0
    rw [h2 h0]; simp [lg_cmp]
theorem tl_void (h : Env σ E) {kc : En → Dy → Prop} {c : Int32} (h1 : gI d (σ 87) 0 = c) (k : kc E d) : w_X11_thrown E (σ 87) d (fun r_10 d_9 => ((r_10 = c → kc E d_9) ∧ (¬ r_10 = c → False))) :=
  ⟨eo_87 h, fun _ => k, fun hn => hn h1⟩
/-- the five numbers of a call -/
def v5 (v : Int32) (L : Nat) : Prop := vp_in (v + 1) L ∧ vp_in (v + 2) L ∧ vp_in (v + 3) L ∧ vp_in (v + 4) L ∧ vp_in (v + 5) L
variable {kc : En → Dy → Prop} {v4 : Int32} {xs : Nat → Int32} {L : Nat}
theorem c_fault (I : Inv σ E d) (k : ∀ E' d', Inv σ E' d' → kc E' d') : lw_382 E (σ 0) (σ 87) (σ 115) v4 xs L kc d := by
  have h := I.1
  have hf : gI d (σ 0) 4 = gI d (σ 87) 10 := I.2.2.2.2.2
  simp only [lw_382, w_X10_fault, w_X11_fault, eo_0 h, eo_87 h, eo_115 h, true_and, gA_pA_x, gA_pI_x, gA_pJ_x, gA_sA_x, gA_pQ_x, gI_pA_x, gI_pI_x, gI_pJ_x, gI_sA_x, gI_pQ_x, gJ_pA_x, gJ_pI_x, gJ_pJ_x, gJ_sA_x, gJ_pQ_x, gQ_pA_x, gQ_pI_x, gQ_pJ_x, gQ_sA_x, gQ_pQ_x, gA_sJ_x, gI_sJ_x, gJ_sJ_x, gQ_sJ_x, if_true, hf]
  simp only [show ((10 : Nat) = 0) = False from by simp, if_false, not_true, false_implies, and_true]
  exact fun _ => k _ _ (Inv_ch I (Ch_pI h (by decide) (by decide) (by decide)))
end
