def mdL : List (Nat × Nat × Nat) := [(1, 13, 4851), (2, 13, 4000), (4, 12, 400)]
def mdM : List (Nat × Nat × Nat) := [(11, 13, 5), (14, 13, 9), (15, 13, 400), (16, 13, 40), (18, 15, 12), (19, 13, 12), (20, 15, 144), (21, 13, 10), (22, 13, 10), (23, 13, 10), (24, 15, 40), (25, 15, 40), (26, 13, 10), (27, 13, 10), (28, 13, 10), (30, 15, 40), (31, 13, 10), (32, 13, 10), (34, 13, 10), (35, 13, 10), (36, 13, 10), (37, 13, 10), (38, 14, 256), (39, 14, 256)]
theorem arR_ne {b : Nat} : ∀ (l : List (Nat × Nat × Nat)) (k : Nat) (rf : Nat → Nat → Option Nat) (i f : Nat), i ≠ b → arR b l k rf i f = rf i f
  | [], _, _, _, _, _ => rfl
  | (f0, _, _) :: l, k, rf, i, f, h => by
    show arR b l (k + 1) (u2 rf b f0 (some k)) i f = _
    rw [arR_ne l _ _ i f h]; unfold u2; rw [if_neg h]
def W00 : Nat → Int32 := fun j => if j = 3 then 1980 else 0
section
variable {σ : Nat → Nat} {k : Nat} {rf : Nat → Nat → Option Nat} {vl : Nat → Nat → Int32} {E : En} {d : Dy} {K : En → Dy → Prop} {a0 : Nat}
theorem i_X11 (p : PS σ 88 rf vl E d) (ea : a0 = σ 87) (kk : ∀ σ' E' d', PS σ' 115 (arR 87 mdM 91 (arR 87 mdL 88 rf)) (u2 vl 87 10 (-1)) E' d' → (∀ i, i < 88 → σ' i = σ i) → K E' (pA d' (σ' 88) 3 1980)) : w_X11_init E a0 d K := by
  refine ⟨ps_O' (i := 87) p ea (by decide) rfl (by decide), ?_⟩
  show arrs a0 mdL E d (fun E d => arrs a0 mdM E (pI d a0 10 (-1)) (fun E d => ∃ b, eR E a0 1 = some b ∧ okA E b 13 ∧ vp_in 3 (eN E b) ∧ K E (pA d b (3 : Int32).toNatClampNeg 1980)))
  refine i_arrs (b := 87) mdL σ 88 _ _ E d p (by decide) ea (by simp only [mdL, arOK]; (repeat' apply And.intro) <;> first | exact trivial | rfl) (fun s1 E1 d1 p1 g1 => ?_)
  have o1 : a0 = s1 87 := by rw [g1 87 (by decide)]; exact ea
  have p2 := ps_pI (f := 10) (v := -1) p1 (show 87 < 91 by decide) o1
  refine i_arrs (b := 87) mdM s1 91 _ _ E1 _ p2 (by decide) o1 (by simp only [mdM, arOK]; (repeat' apply And.intro) <;> first | exact trivial | rfl) (fun s2 E2 d2 p3 g2 => ?_)
  have o2 : a0 = s2 87 := by rw [g2 87 (by decide)]; exact o1
  refine ⟨s2 88, ps_R' (f := 1) (j := 88) p3 o2 (by decide) rfl, ps_okA (i := 88) p3 (by decide) rfl (by decide), ?_, kk s2 E2 d2 p3 (fun i hi => by rw [g2 i (Nat.lt_trans hi (by decide)), g1 i hi])⟩
  rw [(p3.2.2.1 88 (by decide)).2]; exact vpi (k := 3) (by decide) (by decide)
theorem rf_all (h : rfOK rf 87) : rfOK (arR 87 mdM 91 (arR 87 mdL 88 rf)) 116 := by
  intro i hi q hq
  by_cases e : i < 87
  · rw [arR_ne _ _ _ _ _ (by omega), arR_ne _ _ _ _ _ (by omega)]; exact h i e q hq
  · by_cases e2 : i = 87
    · subst e2
      have all : ∀ q ∈ rT.getD 87 [], arR 87 mdM 91 (arR 87 mdL 88 rf) 87 q.1 = some q.2 := by
        show ∀ q ∈ [(1, 88), (2, 89), (4, 90), (11, 91), (14, 92), (15, 93), (16, 94), (18, 95), (19, 96), (20, 97), (21, 98), (22, 99), (23, 100), (24, 101), (25, 102), (26, 103), (27, 104), (28, 105), (30, 106), (31, 107), (32, 108), (34, 109), (35, 110), (36, 111), (37, 112), (38, 113), (39, 114)], _
        repeat' (refine List.forall_mem_cons.mpr ⟨rfl, ?_⟩)
        exact fun q hq => nomatch hq
      exact all q hq
    · have z : ∀ i, i < 116 → 87 < i → rT.getD i [] = [] := by decide
      rw [z i hi (by omega)] at hq; exact nomatch hq
theorem vl_all (h : vlOK vl) : vlOK (u2 vl 87 10 (-1)) := by
  have n : ∀ i f, i ≠ 87 → u2 vl 87 10 (-1) i f = vl i f := fun i f hi => by unfold u2; rw [if_neg hi]
  obtain ⟨h1, h2, h3, h4, h5, h6⟩ := h
  have t : ∀ q ∈ tabL, q.1 ≠ 87 := by decide
  refine ⟨fun q hq => ?_, ?_, fun i hi => ?_, ?_, ?_, ?_⟩
  · rw [n _ _ (t q hq), n _ _ (t q hq)]; exact h1 q hq
  · rw [n _ _ (by decide)]; exact h2
  · rw [n _ _ (by omega)]; exact h3 i hi
  · rw [n _ _ (by decide)]; exact h4
  · rw [n _ _ (by decide)]; exact h5
  · rw [n _ _ (by decide)]; exact h6
theorem WI_00 : WI W00 := by
  refine ⟨by decide, by decide, fun i hi r hr => ?_⟩
  by_cases e : i = 5
  · subst e
    have hr : r < 60 := hr
    show bw (W00 (536 + 1 * r + 0)) 0 9
    unfold W00; rw [if_neg (by omega)]; exact ⟨by decide, by decide⟩
  · have z : ∀ i, i < 10 → i ≠ 5 → nR W00 i = 0 := by decide
    rw [z i hi e] at hr; exact absurd hr (Nat.not_lt_zero _)
theorem inv_0 (p : PS σ 116 rf vl E d) (hr : rfOK rf 116) (hv : vlOK vl) (v3 : vl 87 3 = 0) (v5' : vl 87 5 = 0) (v10 : vl 87 10 = -1) : Inv σ E (pA d (σ 88) 3 1980) := by
  obtain ⟨h1, h2, h3, h4, h5, h6, h7, h8, h9⟩ := id p
  obtain ⟨w1, w2, w3, w4, w5, w6⟩ := hv
  have en : Env σ E := ⟨h2, fun i hi => ⟨ps_in p hi, h3 i hi⟩, fun i hi q hq => ps_R p hi (hr i hi q hq)⟩
  have e88 : gA (pA d (σ 88) 3 1980) (σ 88) = W00 := by
    funext j
    rw [gA_pA_x, if_pos rfl]
    unfold W00
    by_cases e : j = 3
    · rw [if_pos e, if_pos e]
    · rw [if_neg e, if_neg e]; exact h6 _ _
  have gI' : ∀ i, i < 116 → ∀ f, gI (pA d (σ 88) 3 1980) (σ i) f = vl i f := fun i hi f => h8 i hi f
  have tl : ∀ q ∈ tabL, q.1 < 116 := by decide
  refine ⟨en, fun q hq => ?_, ⟨?_, ?_, ?_⟩, ⟨?_, Or.inl ?_⟩, ⟨0, by decide, ?_, ?_, fun k hk => absurd hk (Nat.not_lt_zero _)⟩, ?_⟩
  · rw [gI' _ (tl q hq), gI' _ (tl q hq)]; exact w1 q hq
  · rw [e88]; exact WI_00
  · rw [e88]
    refine ⟨by rw [gI' 1 (by decide)]; exact w2, fun i hi => ⟨?_, fun j hj c hc => ?_⟩⟩
    · rw [show 1 + 1 + 2 * i = 2 + 2 * i by omega, gI' _ (by omega), w3 i hi]
      have z : ∀ i, i < 10 → (if i = 5 then nI 60 else 0) = nI (nR W00 i) := by decide
      exact z i hi
    · by_cases e : i = 5
      · subst e
        have hj : j < 60 := hj
        have hc : c < 1 := hc
        rw [gA_pA_ne _ _ _ (Env_ne en (by decide) (by decide) (by decide)), h6]
        show (0 : Int32) = W00 (536 + 1 * j + c)
        unfold W00; rw [if_neg (by omega)]
      · have z : ∀ i, i < 10 → i ≠ 5 → nR W00 i = 0 := by decide
        rw [z i hi e] at hj; exact absurd hj (Nat.not_lt_zero _)
  · rw [e88]
    refine fun s hs => Or.inl ⟨h7 _ _, ?_⟩
    have z : ∀ s, s < 4 → W00 (10 + s) = 0 := by decide
    exact z s hs
  · rw [gI' 0 (by decide), gI' 87 (by decide), w4, v3]
  · rw [gI' 0 (by decide)]; exact w4
  · rw [gI' 45 (by decide)]; exact w6
  · rw [gI' 87 (by decide)]; exact v5'
  · rw [gI' 0 (by decide), gI' 87 (by decide), w5, v10]
theorem nD_pA {q b k : Nat} {v : Int32} (h : b ≠ q) : nD (pA d b k v) q = pA (nD d q) b k v := by
  obtain ⟨d1, d2, d3⟩ := d
  show (va_up d1 q _, va_up (u2 d2 b k v) q _, _) = (va_up d1 q _, u2 (va_up d2 q _) b k v, _)
  congr 2
  funext c j
  unfold va_up u2
  by_cases e : c = q
  · subst e; simp [show ¬ c = b from fun z => h z.symm]
  · simp [e]
end
def TextOK : Prop := ∀ (σ : Nat → Nat) (E : En) (d : Dy) (kc : En → Dy → Prop) (v4 : Int32) (xs : Nat → Int32) (L : Nat), Inv σ E d → v5 v4 L → (∀ E' d', Inv σ E' d' → kc E' d') → lw_326 E (σ 0) (σ 87) (σ 115) v4 xs L kc d
theorem law_step (ht : TextOK) {σ : Nat → Nat} {E : En} {d : Dy} {K : En → Dy → Prop} {v4 : Int32} {xs : Nat → Int32} {L : Nat} (I : Inv σ E d) (h0 : ¬ (nI L - 6) < v4 → vp_in v4 L ∧ v5 v4 L) (kc : ¬ (nI L - 6) < v4 → ∀ E' d', Inv σ E' d' → K E' d') : lawT E (σ 0) (σ 87) (σ 115) v4 xs L K d := by
  intro hl
  obtain ⟨hv0, hv⟩ := h0 hl
  have kc := kc hl
  exact ⟨hv0, fun _ => c_feed I hv kc, fun _ => c_end I hv kc, fun _ => ht σ E d _ _ xs L I hv kc, fun _ => c_fault I kc, fun _ => c_years I hv kc, fun _ => c_person I hv kc, fun _ => c_hut I hv kc, fun _ => c_event I hv kc, fun _ => c_sale I hv kc, fun _ => c_holder I hv kc, fun _ => c_since I hv kc, fun _ => c_place I hv kc, fun _ => c_about I hv kc, fun _ => c_rent I hv kc, fun _ => c_leaves I hv kc, fun _ => c_income I hv kc, fun _ => c_waits I hv kc, fun _ => c_order I hv kc, fun _ => c_freed I hv kc, fun _ => c_howLong I hv kc, fun _ => c_toll I hv kc, fun _ => c_dodged I hv kc, fun _ => c_lift I hv kc, fun _ => c_wind I hv kc, fun _ => c_crane I hv kc, fun _ => c_line I hv kc, fun _ => c_storm I hv kc, fun _ => c_sea I hv kc, fun _ => c_level I hv kc, fun _ => c_flood I hv kc, fun _ => c_lost I hv kc, fun _ => c_plank I hv kc, fun _ => c_rows I hv kc, fun _ => c_whose I hv kc, fun _ => c_photo I hv kc, fun _ => c_allowed I hv kc, fun _ => c_breaches I hv kc, fun _ => c_painted I hv kc, fun _ => c_thief I hv kc, fun _ => c_thieves I hv kc, fun _ => c_image I kc, fun _ => c_back I kc, fun _ => c_count I hv kc, fun _ _ _ _ _ _ _ _ _ _ _ _ _ _ _ _ _ _ _ _ _ _ _ _ _ _ _ _ _ _ _ _ _ _ _ _ _ _ _ _ _ _ _ => kc E d I⟩
theorem law_all (ht : TextOK) {σ : Nat → Nat} {xs : Nat → Int32} {L : Nat} (hL : L ≤ 3072) : ∀ n t, n + t = 513 → 1 ≤ n → ∀ E d, Inv σ E d → lawL (σ 0) (σ 87) (σ 115) xs L n E d (nI (6 * t))
  | 0, t, h1, h2, E, d, I => by omega
  | n + 1, t, h1, h2, E, d, I => by
    show lawT E (σ 0) (σ 87) (σ 115) (nI (6 * t)) xs L (fun E' d' => lawL (σ 0) (σ 87) (σ 115) xs L n E' d' (nI (6 * t) + 6)) d
    have big : ¬ (nI L - 6) < nI (6 * t) → 6 * t + 6 ≤ L := fun q => by
      rw [Int32.lt_iff_toInt_lt, Int32.toInt_sub, z_int (by omega), z_int (by omega), show (6 : Int32).toInt = 6 from rfl, bm32 (by omega) (by omega)] at q
      omega
    refine law_step ht I (fun q => ?_) (fun q E' d' I' => ?_)
    · have b := big q
      have v : ∀ m, m < 6 → vp_in (nI (6 * t) + nI m) L := fun m hm => by rw [z_add]; exact vpi (by omega) (by omega)
      have v0 := v 0 (by decide)
      rw [z_add, Nat.add_zero] at v0
      exact ⟨v0, v 1 (by decide), v 2 (by decide), v 3 (by decide), v 4 (by decide), v 5 (by decide)⟩
    · have b := big q
      have e : nI (6 * t) + 6 = nI (6 * (t + 1)) := by rw [show (6 : Int32) = nI 6 from rfl, z_add]; congr 1
      rw [e]
      exact law_all ht hL n (t + 1) (by omega) (by omega) E' d' I'
theorem law0_of (ht : TextOK) (xs : Nat → Int32) (L : Nat) (hL : L ≤ 3072) : law0 xs L := by
  intro q1 h1
  have p0 : PS (fun _ => 0) 0 (fun _ _ => none) (fun _ _ => 0) E0 D0 := ⟨rfl, fun i j hi => absurd hi (Nat.not_lt_zero _), fun i hi => absurd hi (Nat.not_lt_zero _), fun i hi => absurd hi (Nat.not_lt_zero _), fun i f j e => (nomatch e), fun _ _ => rfl, fun _ _ => rfl, fun i hi => absurd hi (Nat.not_lt_zero _), fun _ _ _ => rfl⟩
  obtain ⟨s1, p1, e1, g1⟩ := ps_obj p0 h1 (t := 10) rfl rfl
  refine i_X10 p1 e1 (fun s2 E2 d2 rf vl p2 e2 rok vok => ?_)
  intro q7 h7
  obtain ⟨s3, p3, e3, g3⟩ := ps_obj p2 h7 (t := 11) rfl rfl
  refine i_X11 p3 e3 (fun s4 E4 d4 p4 g4 => ?_)
  intro q13 h13
  have ne : s4 88 ≠ q13 := fun e => h13 (e ▸ ps_in p4 (by decide))
  have p5 := ps_new p4 h13 (t := 14) (n := 1) rfl rfl
  have I0 := inv_0 p5 (rf_all rok) (vl_all vok) (by show vl 87 3 = 0; exact p2.2.2.2.2.2.2.2.2 87 (Nat.le_refl _) 3) (by show vl 87 5 = 0; exact p2.2.2.2.2.2.2.2.2 87 (Nat.le_refl _) 5) rfl
  have hi' : upN s4 115 q13 115 = q13 := rfl
  have lo : ∀ i, i < 115 → upN s4 115 q13 i = s4 i := fun i hi => by unfold upN; rw [if_neg (by omega)]
  have l0 : upN s4 115 q13 0 = q1 := by rw [lo 0 (by decide), g4 0 (by decide), g3 0 (by decide)]; exact e2.symm
  have l7 : upN s4 115 q13 87 = q7 := by rw [lo 87 (by decide), g4 87 (by decide)]; exact e3.symm
  have l8 : upN s4 115 q13 88 = s4 88 := lo 88 (by decide)
  rw [l8, ← nD_pA ne] at I0
  have fin := law_all (xs := xs) ht hL 513 0 rfl (by decide) _ _ I0
  rw [l0, l7, hi'] at fin
  exact fin
