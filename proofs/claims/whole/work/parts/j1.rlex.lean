/-! texts: the reference's things -/
def ixW (t : Nat) : Nat := ([0, 13, 9, 10, 11, 12, 17, 15, 16, 3, 0, 1, 2, 4, 5, 6, 7, 14, 20, 8, 19, 18] : List Nat).getD t 0
theorem ix_ln : ∀ t, t < 22 → 0 < t → (wdC.getD (ixW t) []).length = skN.getD t 0 ∧ skN.getD t 0 ≤ 8 ∧ ixW t < 21 := by decide
theorem ix_ch : ∀ t, t < 22 → 0 < t → ∀ i, i < skN.getD t 0 → ((((skB.getD t []).getD i 0) &&& 255).toUInt32 % 65536).toInt32 = nI ((wdC.getD (ixW t) []).getD i 0) ∧ (wdC.getD (ixW t) []).getD i 0 < 128 := by decide +kernel
theorem sx_neg : ∀ x, x < 256 → 128 ≤ x → sx (nI x) < 0 := by decide +kernel
theorem sx_lo {x : Nat} (h : x < 128) : sx (nI x) = nI x := by unfold sx; rw [if_pos (show nI x < 128 from (z_lt (b := 128) (by omega) (by decide)).mpr h)]
theorem sx_lt {x c : Nat} (hx : x < 256) (hc : c < 128) : (sx (nI x) < nI c ↔ x < c ∨ 128 ≤ x) ∧ (nI c < sx (nI x) ↔ c < x ∧ x < 128) ∧ (sx (nI x) = nI c ↔ x = c) := by
  by_cases h : x < 128
  · rw [sx_lo h]
    refine ⟨?_, ?_, ?_⟩
    · rw [z_lt (by omega) (by omega)]; omega
    · rw [z_lt (by omega) (by omega)]; omega
    · rw [z_eq (by omega) (by omega)]
  · have n := sx_neg x hx (by omega)
    have p := z_pos (show c < 2147483648 by omega)
    have p2 : (0 : Int32) ≤ nI c := Int32.not_lt.mp p
    refine ⟨⟨fun _ => Or.inr (by omega), fun _ => Int32.lt_of_lt_of_le n p2⟩, ⟨fun q => ?_, fun q => by omega⟩, ⟨fun q => ?_, fun q => by omega⟩⟩
    · exact absurd (Int32.lt_trans q n) p
    · rw [q] at n; exact absurd n p
def rfP (σ : Nat → Nat) (d : Dy) (B : Nat → Nat) (tl s : Nat) : Prop := tl ≤ 400 ∧ (∀ k, B k < 256) ∧ s < 4 ∧ gI d (σ 87) 7 = nI tl ∧ gI d (σ 87) 13 = nI s ∧ ∀ k, k < tl → gA d (σ 90) k = sx (nI (B k))
def rxS (σ : Nat → Nat) (d d' : Dy) : Prop := Ch σ [87] d d' ∧ ∀ j, j ≠ 6 → j ≠ 8 → gI d' (σ 87) j = gI d (σ 87) j
section
variable {σ : Nat → Nat} {E : En} {d0 d d' d2 d3 : Dy} {B : Nat → Nat} {tl s b q : Nat} {K0 : Dy → Prop} {K : Int32 → Dy → Prop}
theorem rx_rf : rxS σ d d := ⟨Ch_rf, fun _ _ _ => rfl⟩
theorem rx_tr (a : rxS σ d0 d) (b : rxS σ d d') : rxS σ d0 d' := ⟨Ch_tr a.1 b.1, fun j h1 h2 => (b.2 j h1 h2).trans (a.2 j h1 h2)⟩
theorem rx_6 (h : Env σ E) {v : Int32} : rxS σ d (pI d (σ 87) 6 v) := ⟨Ch_pI h (by decide) (by decide) (by decide), fun _ h1 _ => gI_pI_k _ _ _ h1⟩
theorem rx_8 (h : Env σ E) {v : Int32} : rxS σ d (pI d (σ 87) 8 v) := ⟨Ch_pI h (by decide) (by decide) (by decide), fun _ _ h2 => gI_pI_k _ _ _ h2⟩
theorem rf_rx (r : rfP σ d B tl s) (x : rxS σ d d') : rfP σ d' B tl s := by
  obtain ⟨r1, r2, r3, r4, r5, r6⟩ := r
  exact ⟨r1, r2, r3, by rw [x.2 7 (by decide) (by decide)]; exact r4, by rw [x.2 13 (by decide) (by decide)]; exact r5, by rw [Ch_A x.1 (by decide) (by decide)]; exact r6⟩
theorem r_isAt (h : Env σ E) (r : rfP σ d B tl s) {lo hi : Nat} (hlo : lo < 128) (hhi : hi < 128) (hq : q ≤ tl) (g6 : gI d (σ 87) 6 = nI q) (k1 : inR B tl lo hi q = true → K 1 d) (k0 : inR B tl lo hi q = false → K 0 d) : w_X11_isAt E (σ 87) (nI lo) (nI hi) d K := by
  obtain ⟨r1, r2, r3, r4, r5, r6⟩ := r
  simp only [w_X11_isAt, x_87_4 h, en_90 h, r4, g6]
  have no : ¬ (q < tl ∧ lo ≤ B q ∧ B q ≤ hi) → K 0 d := fun w => k0 (by
    cases z : inR B tl lo hi q
    · rfl
    · exact absurd (inR_iff.mp z) w)
  refine ⟨eo_87 h, fun z => no (fun w => ?_), fun z => ?_⟩
  · have := (z_le (by omega) (by omega)).mp z; omega
  · have hlt : q < tl := by
      by_cases w : q < tl
      · exact w
      · exact absurd ((z_le (by omega) (by omega)).mpr (by omega)) z
    have sl := sx_lt (r2 q) hlo
    have sh := sx_lt (r2 q) hhi
    rw [z_nn (by omega), r6 q hlt]
    refine ⟨vpi (by omega) (by decide), fun w => no (fun w2 => ?_), fun w => ⟨vpi (by omega) (by decide), fun w2 => no (fun w3 => ?_), fun w2 => k1 (inR_iff.mpr ⟨hlt, ?_⟩)⟩⟩
    · have := sl.1.mp w; omega
    · have := sh.2.1.mp w2; omega
    · have w : ¬ (B q < lo ∨ 128 ≤ B q) := fun w3 => w (sl.1.mpr w3)
      have w2 : ¬ (hi < B q ∧ B q < 128) := fun w3 => w2 (sh.2.1.mpr w3)
      omega
/-- a run of things of a kind -/
theorem r_run (h : Env σ E) (r : rfP σ d B tl s) {lo hi : Nat} {P : Nat → Dy → Prop} (hq : q ≤ tl) (st : ∀ n d1, rxS σ d d1 → gI d1 (σ 87) 6 = nI n → n ≤ tl → (inR B tl lo hi n = true → P (tl - n) (pI d1 (σ 87) 6 (nI (n + 1)))) → (inR B tl lo hi n = false → n = skG B tl lo hi q) → q ≤ n → P (tl - n + 1) d1) : ∀ m n d1, tl - n = m → q ≤ n → n ≤ skG B tl lo hi q → rxS σ d d1 → gI d1 (σ 87) 6 = nI n → P (tl - n + 1) d1 := by
  intro m
  induction m with
  | zero =>
    intro n d1 hm h1 h2 x g6
    have hsl := sk_le (B := B) (lo := lo) (hi := hi) hq
    refine st n d1 x g6 (by omega) (fun z => ?_) (fun z => ?_) h1
    · have := inR_lt z; omega
    · rw [← sk_mid h1 h2, skG_f z]
  | succ m ihm =>
    intro n d1 hm h1 h2 x g6
    have hsl := sk_le (B := B) (lo := lo) (hi := hi) hq
    refine st n d1 x g6 (by omega) (fun z => ?_) (fun z => ?_) h1
    · have lt : n < skG B tl lo hi q := by rw [← sk_mid h1 h2, sk_t z]; have := sk_ge (B := B) (tl := tl) (lo := lo) (hi := hi) (p := n + 1); omega
      have := ihm (n + 1) (pI d1 (σ 87) 6 (nI (n + 1))) (by omega) (by omega) (by omega) (rx_tr x (rx_6 h)) (gI_pI _ _ _ _)
      rw [show tl - (n + 1) + 1 = tl - n by omega] at this
      exact this
    · rw [← sk_mid h1 h2, skG_f z]
theorem r_blanks (h : Env σ E) (r : rfP σ d B tl s) (hq : q ≤ tl) (g6 : gI d (σ 87) 6 = nI q) (k : ∀ d', rxS σ d d' → gI d' (σ 87) 6 = nI (blk B tl q) → gI d' (σ 87) 8 = nI (blk B tl q) → K0 d') : w_X11_blanks E (σ 87) d K0 := by
  refine ⟨eo_87 h, tl - q + 1, r_run h r (lo := 32) (hi := 32) (P := fun n d => l_X11_blanks_0 E (σ 87) K0 n d) hq (fun n d1 x g6 hn k1 k0 _ => ?_) (tl - q) q d rfl (Nat.le_refl _) sk_ge rx_rf g6⟩
  show b_X11_blanks_0 E (σ 87) K0 (l_X11_blanks_0 E (σ 87) K0 (tl - n)) d1
  refine r_isAt (lo := 32) (hi := 32) h (rf_rx r x) (by decide) (by decide) hn g6 (fun z => ⟨fun w => absurd w (by decide), fun _ => ?_⟩) (fun z => ⟨fun _ => ?_, fun w => absurd rfl w⟩)
  · rw [g6, z_a1]; exact k1 z
  · have e := k0 z
    rw [g6]
    refine k _ (rx_tr x (rx_8 h)) ?_ ?_
    · rw [gI_pI_k _ _ _ (by decide), g6, e]; rfl
    · rw [gI_pI, e]; rfl
theorem r_letters (h : Env σ E) (r : rfP σ d B tl s) (hq : q ≤ tl) (g6 : gI d (σ 87) 6 = nI q) (k : ∀ d', rxS σ d d' → gI d' (σ 87) 6 = nI (skG B tl 97 122 (blk B tl q)) → gI d' (σ 87) 8 = nI (blk B tl q) → K0 d') : w_X11_letters E (σ 87) d K0 := by
  refine ⟨eo_87 h, r_blanks h r hq g6 (fun d1 x1 a6 a8 => ?_)⟩
  have hb : blk B tl q ≤ tl := sk_le hq
  refine ⟨tl - blk B tl q + 1, r_run (q := blk B tl q) h (rf_rx r x1) (lo := 97) (hi := 122) (P := fun n d => gI d (σ 87) 8 = nI (blk B tl q) → l_X11_letters_4 E (σ 87) K0 n d) hb (fun n d2 x g6 hn k1 k0 _ e8 => ?_) (tl - blk B tl q) _ d1 rfl (Nat.le_refl _) sk_ge rx_rf a6 a8⟩
  show b_X11_letters_4 E (σ 87) K0 (l_X11_letters_4 E (σ 87) K0 (tl - n)) d2
  refine r_isAt (lo := 97) (hi := 122) h (rf_rx r (rx_tr x1 x)) (by decide) (by decide) hn g6 (fun z => ⟨fun w => absurd w (by decide), fun _ => ?_⟩) (fun z => ⟨fun _ => ?_, fun w => absurd rfl w⟩)
  · rw [g6, z_a1]; exact k1 z (by rw [gI_pI_k _ _ _ (by decide)]; exact e8)
  · exact k _ (rx_tr x1 x) (by rw [g6, k0 z]) e8
theorem eqW_iff : ∀ (w : List Nat) (p : Nat), eqW B w p = true ↔ ∀ i, i < w.length → B (p + i) = w.getD i 0
  | [], p => ⟨fun _ i hi => absurd hi (Nat.not_lt_zero i), fun _ => rfl⟩
  | c :: w, p => by
    show (decide (B p = c) && eqW B w (p + 1)) = true ↔ _
    rw [Bool.and_eq_true, decide_eq_true_eq, eqW_iff w (p + 1)]
    refine ⟨fun q i hi => ?_, fun q => ⟨q 0 (by rw [List.length_cons]; omega), fun i hi => ?_⟩⟩
    · cases i with
      | zero => exact q.1
      | succ i => rw [show p + (i + 1) = p + 1 + i by omega]; exact q.2 i (by rw [List.length_cons] at hi; omega)
    · have := q (i + 1) (by rw [List.length_cons]; omega)
      rw [show p + 1 + i = p + (i + 1) by omega]; exact this
theorem r_isWord (h : Env σ E) (r : rfP σ d B tl s) {t e : Nat} (ht : t < 22) (ht0 : 0 < t) (hbe : b ≤ e) (he : e ≤ tl) (g6 : gI d (σ 87) 6 = nI e) (g8 : gI d (σ 87) 8 = nI b) (k1 : mtc B b e (wdC.getD (ixW t) []) = true → K 1 d) (k0 : mtc B b e (wdC.getD (ixW t) []) = false → K 0 d) : w_X11_isWord E (σ 87) t d K := by
  obtain ⟨r1, r2, r3, r4, r5, r6⟩ := r
  obtain ⟨il, il2, -⟩ := ix_ln t ht ht0
  have ich := ix_ch t ht ht0
  unfold mtc at k1 k0
  rw [il] at k1 k0
  generalize hN : skN.getD t 0 = N at *
  generalize wdC.getD (ixW t) [] = w at *
  have stop0 : ∀ v3 : Int32, eqW B w b = false ∨ e ≠ b + N → l_X11_isWord_24 E (σ 87) t K 1 0 v3 d := fun v3 q => by
    refine ⟨fun _ => ⟨Or.inl rfl, k0 ?_⟩, fun z => absurd rfl z⟩
    rcases q with q | q
    · rw [q, Bool.and_false]
    · rw [decide_eq_false q]; rfl
  refine ⟨eo_87 h, ht, ?_⟩
  rw [g6, g8, hN, z_sub hbe]
  refine ⟨fun z => ⟨1, stop0 0 (Or.inr (fun q => z (by rw [q]; congr 1; omega)))⟩, fun z => ⟨N + 2, ?_⟩⟩
  have z : e = b + N := by have := (z_eq (by omega) (by omega)).mp z; omega
  have lp : ∀ m i, i + m = N → (∀ j, j < i → B (b + j) = w.getD j 0) → l_X11_isWord_24 E (σ 87) t K (m + 2) 1 (nI i) d := by
    intro m
    induction m with
    | zero =>
      intro i hi hp
      refine ⟨fun q => absurd q (by decide), fun _ => ⟨ht, fun _ => ⟨Or.inr rfl, k1 ?_⟩, fun q => ?_⟩⟩
      · rw [decide_eq_true z, (eqW_iff w b).mpr (fun j hj => hp j (by omega))]; rfl
      · rw [hN] at q; exact absurd ((z_le (by omega) (by omega)).mpr (by omega)) q
    | succ m ihm =>
      intro i hi hp
      show b_X11_isWord_24 E (σ 87) t K (l_X11_isWord_24 E (σ 87) t K (m + 2)) 1 (nI i) d
      simp only [b_X11_isWord_24, x_87_4 h, en_90 h, w_J0_length_8abf5, w_J0_charAt_5068e, hN, g8, z_add, z_a1]
      have cc := ich i (by omega)
      rw [z_nn (by omega), z_nn (by omega), cc.1, r6 (b + i) (by omega)]
      have sl := sx_lt (r2 (b + i)) cc.2
      refine ⟨fun q => absurd q (by decide), fun _ => ⟨ht, fun q => absurd ((z_le (by omega) (by omega)).mp q) (by omega), fun _ => ⟨vpi (by omega) (by decide), ht, z_pos (by omega), (z_lt (by omega) (by omega)).mpr (by omega), fun q => ?_, fun q => ?_⟩⟩⟩
      · have q : ¬ B (b + i) = w.getD i 0 := fun w => q (sl.2.2.mpr w)
        refine ⟨fun _ => ⟨Or.inl rfl, k0 ?_⟩, fun z => absurd rfl z⟩
        have : eqW B w b = false := by
          cases y : eqW B w b
          · rfl
          · exact absurd ((eqW_iff w b).mp y i (by omega)) q
        rw [this, Bool.and_false]
      · refine ihm (i + 1) (by omega) (fun j hj => ?_)
        by_cases ej : j = i
        · subst ej; exact sl.2.2.mp q
        · exact hp j (by omega)
  exact lp N 0 (by omega) (fun j hj => absurd hj (Nat.not_lt_zero j))
end
