section
variable {B : Nat → Nat} {tl b a : Nat}
theorem mtc_inj {w w' : List Nat} (h : mtc B b a w = true) (h' : mtc B b a w' = true) : w = w' := by
  unfold mtc at h h'
  simp only [Bool.and_eq_true, decide_eq_true_eq] at h h'
  have l : w.length = w'.length := by omega
  have h1 := (eqW_iff w b).mp h.2
  have h2 := (eqW_iff w' b).mp h'.2
  refine List.ext_getElem l (fun i i1 i2 => ?_)
  have a1 := h1 i i1
  have a2 := h2 i i2
  rw [List.getD_eq_getElem?_getD, List.getElem?_eq_getElem i1, Option.getD_some] at a1
  rw [List.getD_eq_getElem?_getD, List.getElem?_eq_getElem i2, Option.getD_some] at a2
  rw [← a1, ← a2]
theorem tw_of : ∀ (ws : List (List Nat)) i j, j < ws.length → mtc B b a (ws.getD j []) = true → (∀ j', j' < j → mtc B b a (ws.getD j' []) = false) → twN B b a ws i = i + j
  | [], i, j, h, _, _ => absurd h (Nat.not_lt_zero j)
  | w :: ws, i, 0, _, h, _ => by unfold twN; rw [if_pos (show mtc B b a w = true from h)]; rfl
  | w :: ws, i, j + 1, hj, h, h2 => by
    unfold twN
    rw [if_neg (by rw [show mtc B b a w = false from h2 0 (Nat.succ_pos j)]; decide), tw_of ws (i + 1) j (by rw [List.length_cons] at hj; omega) h (fun j' hj' => h2 (j' + 1) (by omega))]
    omega
theorem tw_to : ∀ (ws : List (List Nat)) i j, i + ws.length ≤ 32 → j < ws.length → twN B b a ws i = i + j → mtc B b a (ws.getD j []) = true
  | [], i, j, _, h, _ => absurd h (Nat.not_lt_zero j)
  | w :: ws, i, j, hl, hj, h => by
    rw [List.length_cons] at hl hj
    unfold twN at h
    by_cases m : mtc B b a w = true
    · rw [if_pos m] at h
      have : j = 0 := by omega
      subst this; exact m
    · rw [if_neg m] at h
      cases j with
      | zero =>
        have q : i + 1 ≤ twN B b a ws (i + 1) := tw_ge ws (i + 1) (by omega)
        omega
      | succ j => exact tw_to ws (i + 1) j (by omega) (by omega) (by omega)
where
  tw_ge : ∀ (ws : List (List Nat)) i, i + ws.length ≤ 32 → i ≤ twN B b a ws i
    | [], i, h => by unfold twN; exact h
    | w :: ws, i, h => by
      rw [List.length_cons] at h
      unfold twN
      split
      · exact Nat.le_refl _
      · have := tw_ge ws (i + 1) (by omega); omega
theorem wd_nd : ∀ i, i < 21 → ∀ j, j < 21 → wdC.getD i [] = wdC.getD j [] → i = j := by decide
theorem wd_ne : ∀ i, i < 21 → 0 < (wdC.getD i []).length := by decide
theorem tw_iff {i : Nat} (hi : i < 21) : twN B b a wdC 0 = i ↔ mtc B b a (wdC.getD i []) = true := by
  refine ⟨fun h => tw_to wdC 0 i (by decide) hi (by omega), fun h => ?_⟩
  have := tw_of (B := B) (b := b) (a := a) wdC 0 i hi h (fun j hj => by
    cases z : mtc B b a (wdC.getD j [])
    · rfl
    · exact absurd (wd_nd i hi j (by omega) (mtc_inj h z)) (by omega))
  omega
theorem sg_cs {x : Nat} (h : sgB x = true) : x = 40 ∨ x = 41 ∨ x = 42 ∨ x = 43 ∨ x = 59 ∨ x = 60 ∨ x = 62 := by
  unfold sgB at h
  simp only [Bool.or_eq_true, Bool.and_eq_true, decide_eq_true_eq] at h
  omega
/-- the four kinds of things -/
theorem th_cs (hb : b ≤ tl) : (b = tl ∧ thB B tl b = 31 ∧ afB B tl b = b ∧ skG B tl 97 122 b = b ∧ skG B tl 48 57 b = b) ∨ (inR B tl 48 57 b = true ∧ thB B tl b = (if skG B tl 48 57 b - b ≤ 4 then 30 else 32) ∧ afB B tl b = skG B tl 48 57 b ∧ skG B tl 97 122 b = b ∧ b < skG B tl 48 57 b) ∨ (inR B tl 97 122 b = true ∧ thB B tl b = twN B b (skG B tl 97 122 b) wdC 0 ∧ afB B tl b = skG B tl 97 122 b ∧ skG B tl 48 57 b = b ∧ b < skG B tl 97 122 b) ∨ (b < tl ∧ skG B tl 48 57 b = b ∧ skG B tl 97 122 b = b ∧ thB B tl b = (if sgB (B b) = true then B b else 32) ∧ afB B tl b = b + 1) := by
  have ne : ∀ lo hi, inR B tl lo hi b ≠ true → skG B tl lo hi b = b := fun lo hi q => skG_f (by simpa using q)
  have gt : ∀ lo hi, inR B tl lo hi b = true → b < skG B tl lo hi b := fun lo hi q => by
    rw [sk_t q]; have := sk_ge (B := B) (tl := tl) (lo := lo) (hi := hi) (p := b + 1); omega
  by_cases z : tl ≤ b
  · left
    refine ⟨by omega, by unfold thB; rw [if_pos z], by unfold afB; rw [if_pos z], ne _ _ (fun q => ?_), ne _ _ (fun q => ?_)⟩
    · have := inR_lt q; omega
    · have := inR_lt q; omega
  · right
    by_cases i1 : inR B tl 48 57 b = true
    · left
      refine ⟨i1, by unfold thB; rw [if_neg z, if_pos i1], by unfold afB; rw [if_neg z, if_pos i1], ne _ _ (fun q => ?_), gt _ _ i1⟩
      have a1 := (inR_iff.mp i1).2; have a2 := (inR_iff.mp q).2; omega
    · right
      by_cases i2 : inR B tl 97 122 b = true
      · left
        exact ⟨i2, by unfold thB; rw [if_neg z, if_neg i1, if_pos i2], by unfold afB; rw [if_neg z, if_neg i1, if_pos i2], ne _ _ i1, gt _ _ i2⟩
      · right
        exact ⟨by omega, ne _ _ i1, ne _ _ i2, by unfold thB; rw [if_neg z, if_neg i1, if_neg i2], by unfold afB; rw [if_neg z, if_neg i1, if_neg i2]⟩
theorem th_wd (hb : b ≤ tl) {i : Nat} (hi : i < 21) : (mtc B b (skG B tl 97 122 b) (wdC.getD i []) = true ↔ thB B tl b = i) ∧ (thB B tl b = i → afB B tl b = skG B tl 97 122 b) := by
  have nm : skG B tl 97 122 b = b → ¬ mtc B b (skG B tl 97 122 b) (wdC.getD i []) = true := fun e q => by
    unfold mtc at q
    simp only [Bool.and_eq_true, decide_eq_true_eq] at q
    have := wd_ne i hi
    omega
  rcases th_cs (B := B) hb with ⟨_, h1, _, h2, _⟩ | ⟨_, h1, _, h2, _⟩ | ⟨_, h1, h3, _, _⟩ | ⟨_, _, h2, h1, _⟩
  · refine ⟨⟨fun q => absurd q (nm h2), fun q => by omega⟩, fun q => by omega⟩
  · have : ¬ thB B tl b = i := by rw [h1]; split <;> omega
    exact ⟨⟨fun q => absurd q (nm h2), fun q => absurd q this⟩, fun q => absurd q this⟩
  · rw [h1]
    exact ⟨(tw_iff hi).symm, fun _ => h3⟩
  · have : ¬ thB B tl b = i := by
      rw [h1]; split
      · next q => have := sg_cs q; omega
      · omega
    exact ⟨⟨fun q => absurd q (nm h2), fun q => absurd q this⟩, fun q => absurd q this⟩
theorem th_sg (hb : b ≤ tl) {c : Nat} (hc : sgB c = true) : (inR B tl c c b = true ↔ thB B tl b = c) ∧ (thB B tl b = c → afB B tl b = b + 1) := by
  have c0 := sg_cs hc
  have ii : inR B tl c c b = true ↔ b < tl ∧ B b = c := by rw [inR_iff]; omega
  rw [ii]
  rcases th_cs (B := B) hb with ⟨h0, h1, _, h2, _⟩ | ⟨h0, h1, _, h2, _⟩ | ⟨h0, h1, h3, _, _⟩ | ⟨h0, _, h2, h1, h4⟩
  · exact ⟨⟨fun q => by omega, fun q => by omega⟩, fun q => by omega⟩
  · have h0 := (inR_iff.mp h0).2
    have : ¬ thB B tl b = c := by rw [h1]; split <;> omega
    exact ⟨⟨fun q => by omega, fun q => absurd q this⟩, fun q => absurd q this⟩
  · have h0 := (inR_iff.mp h0).2
    have : ¬ thB B tl b = c := by
      rw [h1]
      have e : wdC.length = 21 := rfl
      rcases tw_lt (B := B) (b := b) (a := skG B tl 97 122 b) wdC 0 with q | q <;> omega
    exact ⟨⟨fun q => by omega, fun q => absurd q this⟩, fun q => absurd q this⟩
  · refine ⟨⟨fun q => ?_, fun q => ⟨h0, ?_⟩⟩, fun _ => h4⟩
    · rw [h1, q.2, if_pos hc]
    · rw [h1] at q
      by_cases w : sgB (B b) = true
      · rw [if_pos w] at q; exact q
      · rw [if_neg w] at q; omega
end
section
variable {σ : Nat → Nat} {E : En} {d0 d d' d2 d3 : Dy} {B : Nat → Nat} {tl s b q : Nat} {K0 : Dy → Prop} {K : Int32 → Dy → Prop}
theorem r_passes (h : Env σ E) (r : rfP σ d B tl s) {t : Nat} (ht : t < 22) (ht0 : 0 < t) (hq : q ≤ tl) (hqb : blk B tl q = b) (g6 : gI d (σ 87) 6 = nI q) (k1 : thB B tl b = ixW t → ∀ d', rxS σ d d' → gI d' (σ 87) 6 = nI (afB B tl b) → gI d' (σ 87) 8 = nI b → K 1 d') (k0 : ¬ thB B tl b = ixW t → ∀ d', rxS σ d d' → gI d' (σ 87) 6 = nI b → gI d' (σ 87) 8 = nI b → K 0 d') : w_X11_passes E (σ 87) t d K := by
  have hb : b ≤ tl := by rw [← hqb]; exact sk_le hq
  have tw := th_wd (B := B) hb (ix_ln t ht ht0).2.2
  refine ⟨eo_87 h, r_letters h r hq g6 (fun d1 x1 a6 a8 => ?_)⟩
  rw [hqb] at a6 a8
  refine r_isWord h (rf_rx r x1) ht ht0 sk_ge (sk_le hb) a6 a8 (fun m => ⟨fun w => absurd w (by decide), fun _ => ?_⟩) (fun m => ⟨fun _ => ?_, fun w => absurd rfl w⟩)
  · have e := tw.1.mp m
    exact k1 e d1 x1 (by rw [a6, tw.2 e]) a8
  · rw [a8]
    exact k0 (fun e => by rw [tw.1.mpr e] at m; exact nomatch m) _ (rx_tr x1 (rx_6 h)) (gI_pI _ _ _ _) (by rw [gI_pI_k _ _ _ (by decide)]; exact a8)
theorem r_sign (h : Env σ E) (r : rfP σ d B tl s) {c : Nat} (hc : sgB c = true) (hq : q ≤ tl) (hqb : blk B tl q = b) (g6 : gI d (σ 87) 6 = nI q) (k1 : thB B tl b = c → ∀ d', rxS σ d d' → gI d' (σ 87) 6 = nI (afB B tl b) → gI d' (σ 87) 8 = nI b → K 1 d') (k0 : ¬ thB B tl b = c → ∀ d', rxS σ d d' → gI d' (σ 87) 6 = nI b → gI d' (σ 87) 8 = nI b → K 0 d') : w_X11_sign E (σ 87) (nI c) d K := by
  have hb : b ≤ tl := by rw [← hqb]; exact sk_le hq
  have tw := th_sg (B := B) hb hc
  have c0 := sg_cs hc
  refine ⟨eo_87 h, r_blanks h r hq g6 (fun d1 x1 a6 a8 => ?_)⟩
  rw [hqb] at a6 a8
  refine r_isAt h (rf_rx r x1) (by omega) (by omega) hb a6 (fun m => ⟨fun _ => ?_, fun w => absurd w (by decide)⟩) (fun m => ⟨fun w => absurd rfl w, fun _ => ?_⟩)
  · have e := tw.1.mp m
    rw [a6, z_a1]
    exact k1 e _ (rx_tr x1 (rx_6 h)) (by rw [gI_pI, tw.2 e]) (by rw [gI_pI_k _ _ _ (by decide)]; exact a8)
  · exact k0 (fun e => by rw [tw.1.mpr e] at m; exact nomatch m) d1 x1 a6 a8
theorem r_number (h : Env σ E) (r : rfP σ d B tl s) {mx : Nat} (hmx : mx < 10000) (hq : q ≤ tl) (hqb : blk B tl q = b) (g6 : gI d (σ 87) 6 = nI q) (k1 : thB B tl b = 30 → vB B tl b ≤ mx → ∀ d', rxS σ d d' → gI d' (σ 87) 6 = nI (afB B tl b) → gI d' (σ 87) 8 = nI b → K (nI (vB B tl b)) d') (k0 : ¬ (thB B tl b = 30 ∧ vB B tl b ≤ mx) → ∀ d', rxS σ d d' → gI d' (σ 87) 8 = nI b → K (-1) d') : w_X11_number E (σ 87) (nI mx) d K := by
  have hb : b ≤ tl := by rw [← hqb]; exact sk_le hq
  have h400 := r.1
  have hB := r.2.1
  refine ⟨eo_87 h, r_blanks h r hq g6 (fun d1 x1 a6 a8 => ⟨tl - b + 1, ?_⟩)⟩
  rw [hqb] at a6 a8
  have z0 := r_run (q := b) h (rf_rx r x1) (lo := 48) (hi := 57) (P := fun N d2 => gI d2 (σ 87) 8 = nI b → rxS σ d d2 → ∀ n, gI d2 (σ 87) 6 = nI n → n ≤ tl → b ≤ n → l_X11_number_6 E (σ 87) (nI mx) K N (nI (vlN B b (min (n - b) 4))) d2) hb (fun n d2 x g6 hn kk1 kk0 hbn e8 xx n' g6' hn' hbn' => ?_) (tl - b) b d1 rfl (Nat.le_refl _) sk_ge rx_rf a6 a8 x1 b a6 hb (Nat.le_refl _)
  · rw [Nat.sub_self] at z0; exact z0
  have en : n' = n := (z_eq (by omega) (by omega)).mp (g6'.symm.trans g6)
  subst en
  show b_X11_number_6 E (σ 87) (nI mx) K (l_X11_number_6 E (σ 87) (nI mx) K (tl - n')) _ d2
  have rr := rf_rx r xx
  refine r_isAt (lo := 48) (hi := 57) h rr (by decide) (by decide) hn g6 (fun z => ⟨fun w => absurd w (by decide), fun _ => ?_⟩) (fun z => ⟨fun _ => ?_, fun w => absurd rfl w⟩)
  · have iz := inR_iff.mp z
    unfold b_X11_number_51
    rw [g6, e8, z_sub hbn, z_a1]
    have stp2 : ∀ v, v = vlN B b (min (n' + 1 - b) 4) → l_X11_number_6 E (σ 87) (nI mx) K (tl - n') (nI v) (pI d2 (σ 87) 6 (nI (n' + 1))) := fun v hv => by
      rw [hv]
      exact kk1 z (by rw [gI_pI_k _ _ _ (by decide)]; exact e8) (rx_tr xx (rx_6 h)) (n' + 1) (gI_pI _ _ _ _) (by omega) (by omega)
    refine ⟨fun w => ?_, fun w => ?_⟩
    · have w := (z_le (a := 4) (by decide) (by omega)).mp w
      refine stp2 _ ?_
      rw [Nat.min_eq_right (by omega), Nat.min_eq_right (by omega)]
    · have w : ¬ 4 ≤ n' - b := fun q => w ((z_le (a := 4) (by decide) (by omega)).mpr q)
      refine ((x_87_4 h).mpr ?_)
      rw [z_nn (by omega), rr.2.2.2.2.2 n' iz.1, sx_lo (by omega), en_90 h]
      refine ⟨vpi (by omega) (by decide), ?_⟩
      rw [show (10 : Int32) = nI 10 from rfl, show (48 : Int32) = nI 48 from rfl, z_mul, z_add, z_sub (by omega)]
      refine stp2 _ ?_
      rw [Nat.min_eq_left (by omega), Nat.min_eq_left (by omega), show n' + 1 - b = (n' - b) + 1 by omega]
      show _ = 10 * vlN B b (n' - b) + (B (b + (n' - b)) - 48)
      rw [show b + (n' - b) = n' by omega]; omega
  · have e := kk0 z
    rw [g6, e8, z_sub hbn]
    have th30 : thB B tl b = 30 ↔ b < n' ∧ n' - b ≤ 4 := by
      rcases th_cs (B := B) hb with ⟨_, h1, _, _, h2⟩ | ⟨_, h1, _, _, h2⟩ | ⟨_, h1, _, h2, _⟩ | ⟨_, h2, _, h1, _⟩
      · rw [h1]; omega
      · rw [h1, e]; split <;> omega
      · rw [h1]; refine ⟨fun q => absurd q (tw_ne30 wdC 0 (by decide)), fun q => by omega⟩
      · rw [h1]
        refine ⟨fun q => ?_, fun q => by omega⟩
        by_cases w : sgB (B b) = true
        · rw [if_pos w] at q; have := sg_cs w; omega
        · rw [if_neg w] at q; omega
    refine ⟨fun w => ?_, fun w => ⟨fun w2 => ?_, fun w2 => ?_⟩⟩
    · have w := (z_eq (by omega) (by omega)).mp w
      exact k0 (fun q => by have := th30.mp q.1; omega) d2 xx e8
    · have w2 := (z_lt (a := 4) (by decide) (by omega)).mp w2
      exact k0 (fun q => by have := th30.mp q.1; omega) d2 xx e8
    · have w : ¬ n' = b := fun q => w (by rw [q])
      have w2 : ¬ 4 < n' - b := fun q => w2 ((z_lt (a := 4) (by decide) (by omega)).mpr q)
      have t30 := th30.mpr ⟨by omega, by omega⟩
      have hv := vB_lt hB t30
      have ea : afB B tl b = n' := by
        rcases th_cs (B := B) hb with ⟨h0, _⟩ | ⟨_, _, h1, _⟩ | ⟨_, _, _, h2, _⟩ | ⟨_, h2, _⟩
        · omega
        · rw [h1, e]
        · omega
        · omega
      have ev : vlN B b (min (n' - b) 4) = vB B tl b := by unfold vB; rw [ea, Nat.min_eq_left (by omega)]
      rw [ev]
      refine ⟨fun w3 => k1 t30 ((z_le (by omega) (by omega)).mp w3) d2 xx (by rw [ea]; exact g6) e8, fun w3 => k0 (fun q => w3 ((z_le (by omega) (by omega)).mpr q.2)) d2 xx e8⟩
end
