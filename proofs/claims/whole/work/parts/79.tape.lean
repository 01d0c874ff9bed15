/-! the tape; years -/
section
variable {σ : Nat → Nat} {E : En} {d d' : Dy} {kc : En → Dy → Prop} {v4 : Int32} {xs : Nat → Int32} {L : Nat}
def tpl : List Nat := 45 :: 46 :: 90 :: scr
theorem tpl_lo : ∀ i, i ≤ 44 → i ∉ tpl := by
  have : ∀ i, i < 45 → i ∉ tpl := by decide
  exact fun i h => this i (by omega)
theorem Inv_t (I : Inv σ E d) (c : Ch σ tpl d d') {v : Int32} (tp : Tape σ (pI d' (σ 87) 5 v)) : Inv σ E (pI d' (σ 87) 5 v) := by
  obtain ⟨en, st, ⟨w1, w2, w3⟩, ⟨i1, i2⟩, -, fa⟩ := I
  have cA : ∀ i, i < 116 → i ∉ tpl → gA d' (σ i) = gA d (σ i) := fun i h1 h2 => (c.1 i h1 h2).2.1
  have cI : ∀ i, i < 116 → i ∉ tpl → gI d' (σ i) = gI d (σ i) := fun i h1 h2 => (c.1 i h1 h2).1
  have nI87 : ∀ i, i < 116 → i ≠ 87 → gI (pI d' (σ 87) 5 v) (σ i) = gI d' (σ i) := fun i h1 h2 => gI_pI_a d' 5 v (Env_ne en h1 (by decide) h2)
  have e88 : gA (pI d' (σ 87) 5 v) (σ 88) = gA d (σ 88) := cA 88 (by decide) (by decide)
  have e89 : gA (pI d' (σ 87) 5 v) (σ 89) = gA d (σ 89) := cA 89 (by decide) (by decide)
  have e0 : gI (pI d' (σ 87) 5 v) (σ 0) = gI d (σ 0) := (nI87 0 (by decide) (by decide)).trans (cI 0 (by decide) (by decide))
  have p3 : gI (pI d' (σ 87) 5 v) (σ 87) 3 = gI d (σ 87) 3 := (gI_pI_k d' _ v (by decide)).trans (c.2.1 (87, 3) (by decide))
  have p10 : gI (pI d' (σ 87) 5 v) (σ 87) 10 = gI d (σ 87) 10 := (gI_pI_k d' _ v (by decide)).trans (c.2.1 (87, 10) (by decide))
  have ex : ∀ a, (∀ i, i < 116 → a ≠ σ i) → gI (pI d' (σ 87) 5 v) a = gI d a ∧ gA (pI d' (σ 87) 5 v) a = gA d a := fun a ha => ⟨(gI_pI_a d' 5 v (ha 87 (by decide))).trans (c.2.2.1 a ha).1, (c.2.2.1 a ha).2⟩
  have tx : ∀ {b W}, TXs σ E d b W → TXs σ E (pI d' (σ 87) 5 v) b W := fun {b W} h s hs => by
    rcases h s hs with ⟨h1, h2⟩ | ⟨h1, q, h2, h3⟩
    · exact Or.inl ⟨(congrFun (congrFun c.2.2.2 _) _).trans h1, h2⟩
    · exact Or.inr ⟨h1, q, (congrFun (congrFun c.2.2.2 _) _).trans h2, TX_d h3 ex⟩
  have lo : ∀ B, B = 1 ∨ B = 23 → ∀ i, B ≤ i → i ≤ B + 21 → gI (pI d' (σ 87) 5 v) (σ i) = gI d (σ i) ∧ gA (pI d' (σ 87) 5 v) (σ i) = gA d (σ i) := fun B hB i h1 h2 => ⟨(nI87 i (by omega) (by omega)).trans (cI i (by omega) (tpl_lo i (by omega))), cA i (by omega) (tpl_lo i (by omega))⟩
  refine ⟨en, fun q hq => ?_, ⟨?_, ?_, ?_⟩, ⟨?_, ?_⟩, tp, ?_⟩
  · have h87 : q.1 ≠ 87 := (show ∀ q ∈ tabL, q.1 ≠ 87 by decide) q hq
    have h116 : q.1 < 116 := (show ∀ q ∈ tabL, q.1 < 116 by decide) q hq
    rw [nI87 _ h116 h87]; exact St_ch st c q hq
  · rw [e88]; exact w1
  · rw [e88]; exact TR_same w2 (Or.inl rfl) (lo 1 (Or.inl rfl))
  · rw [e88]; exact tx w3
  · rw [e0, p3]; exact i1
  · rw [e0, e89]
    rcases i2 with i2 | ⟨i2, i3, i4, i5⟩
    · exact Or.inl i2
    · exact Or.inr ⟨i2, i3, TR_same i4 (Or.inr rfl) (lo 23 (Or.inr rfl)), tx i5⟩
  · rw [e0, p10]; exact fa
theorem c_end (I : Inv σ E d) (hv : v5 v4 L) (k : ∀ E' d', Inv σ E' d' → kc E' d') : lw_301 E (σ 0) (σ 87) (σ 115) v4 xs L kc d := by
  have h := I.1
  obtain ⟨tl, t1, t2, t3, t4⟩ := I.2.2.2.2.1
  generalize hp : xs (v4 + 1).toNatClampNeg = p
  have noc : kc E (pI d (σ 87) 0 0) := k _ _ (Inv_ch I (Ch_pI h (by decide) (by decide) (by decide)))
  have e5 : gI (pI d (σ 87) 0 0) (σ 87) 5 = nI tl := (gI_pI_k d _ 0 (by decide)).trans t3
  simp only [lw_301, hp, w_X10_end, x_0_3 h, w_X2_length, w_X2_cut, t2]
  refine ⟨eo_0 h, eo_87 h, eo_115 h, hv.1, eo_0 h, fun h1 => ⟨hv.1, eo_87 h, fun _ => ⟨fun _ => noc, fun q => q rfl⟩, fun q => absurd h1 q⟩, fun h1 => ⟨eo_45 h, fun h2 => ⟨eo_45 h, hv.1, eo_87 h, fun q => absurd q h1, fun _ => ⟨fun _ => ⟨fun _ => ?_, fun q => q rfl⟩, fun q => absurd ?_ q⟩⟩, fun h2 => ⟨hv.1, eo_87 h, fun q => absurd q h1, fun _ => ⟨fun q => absurd (e5 ▸ q) h2, fun _ => ⟨fun _ => noc, fun q => q rfl⟩⟩⟩⟩⟩
  · obtain ⟨m, hm, rfl⟩ := z_ex h1
    rw [z_le hm (by omega)] at h2
    have e : (if 0 < (if nI tl < nI m then nI tl else nI m) then (if nI tl < nI m then nI tl else nI m) else 0) = nI m := by
      have hlt : ¬ nI tl < nI m := by rw [z_lt (by omega) hm]; omega
      simp only [if_neg hlt]
      by_cases h0 : m = 0
      · subst h0; rfl
      · rw [if_pos (by rw [show (0 : Int32) = nI 0 from rfl, z_lt (by decide) hm]; omega)]
    rw [e]
    refine k _ _ (Inv_t I (Ch_tr (Ch_pI h (by decide) (by decide) (by decide)) (Ch_pI h (by decide) (by decide) (by decide))) ⟨m, by omega, ?_, ?_, fun j hj => ?_⟩)
    · simp only [gA_pA_x, gA_pI_x, gA_pJ_x, gA_sA_x, gA_pQ_x, gI_pA_x, gI_pI_x, gI_pJ_x, gI_sA_x, gI_pQ_x, gJ_pA_x, gJ_pI_x, gJ_pJ_x, gJ_sA_x, gJ_pQ_x, gQ_pA_x, gQ_pI_x, gQ_pJ_x, gQ_sA_x, gQ_pQ_x, gA_sJ_x, gI_sJ_x, gJ_sJ_x, gQ_sJ_x, if_true, sg h, Nat.reduceLT, Nat.reduceEqDiff, if_false]
    · simp only [gA_pA_x, gA_pI_x, gA_pJ_x, gA_sA_x, gA_pQ_x, gI_pA_x, gI_pI_x, gI_pJ_x, gI_sA_x, gI_pQ_x, gJ_pA_x, gJ_pI_x, gJ_pJ_x, gJ_sA_x, gJ_pQ_x, gQ_pA_x, gQ_pI_x, gQ_pJ_x, gQ_sA_x, gQ_pQ_x, gA_sJ_x, gI_sJ_x, gJ_sJ_x, gQ_sJ_x, if_true]
    · exact t4 j (by omega)
  · have : ∀ w, gI (pI (pI d (σ 45) 1 w) (σ 87) 0 0) (σ 87) 5 = nI tl := fun w => by simp only [gA_pA_x, gA_pI_x, gA_pJ_x, gA_sA_x, gA_pQ_x, gI_pA_x, gI_pI_x, gI_pJ_x, gI_sA_x, gI_pQ_x, gJ_pA_x, gJ_pI_x, gJ_pJ_x, gJ_sA_x, gJ_pQ_x, gQ_pA_x, gQ_pI_x, gQ_pJ_x, gQ_sA_x, gQ_pQ_x, gA_sJ_x, gI_sJ_x, gJ_sJ_x, gQ_sJ_x, if_true, sg h, Nat.reduceLT, Nat.reduceEqDiff, if_false]; exact t3
    rw [this]; exact h2
theorem Inv_today (I : Inv σ E d) {t : Nat} (ht : 1980 ≤ t) (ht2 : t ≤ 2099) {jv : Int64} : Inv σ E (pA (pI (pJ (pI d (σ 1) 0 (nI t)) (σ 115) 0 jv) (σ 87) 0 0) (σ 88) 3 (nI t)) := by
  have h := I.1
  have w1 := I.2.2.1.1
  have w2 := I.2.2.1.2.1
  have c : Ch σ wor d (pA (pI (pJ (pI d (σ 1) 0 (nI t)) (σ 115) 0 jv) (σ 87) 0 0) (σ 88) 3 (nI t)) := Ch_tr (Ch_tr (Ch_tr (Ch_pI h (by decide) (by decide) (by decide)) (Ch_pJ h (by decide) (by decide))) (Ch_pI h (i := 87) (by decide) (by decide) (by decide))) (Ch_pA h (by decide) (by decide))
  have e88 : gA (pA (pI (pJ (pI d (σ 1) 0 (nI t)) (σ 115) 0 jv) (σ 87) 0 0) (σ 88) 3 (nI t)) (σ 88) = fun j => if j = 3 then nI t else gA d (σ 88) j := by simp only [gA_pA_x, gA_pI_x, gA_pJ_x, gA_sA_x, gA_pQ_x, gI_pA_x, gI_pI_x, gI_pJ_x, gI_sA_x, gI_pQ_x, gJ_pA_x, gJ_pI_x, gJ_pJ_x, gJ_sA_x, gJ_pQ_x, gQ_pA_x, gQ_pI_x, gQ_pJ_x, gQ_sA_x, gQ_pQ_x, gA_sJ_x, gI_sJ_x, gJ_sJ_x, gQ_sJ_x, if_true]
  have eA : ∀ j, j < 22 → gA (pA (pI (pJ (pI d (σ 1) 0 (nI t)) (σ 115) 0 jv) (σ 87) 0 0) (σ 88) 3 (nI t)) (σ j) = gA d (σ j) := fun j hj => by
    have hne : σ j ≠ σ 88 := Env_ne h (by omega) (by decide) (by omega)
    simp only [gA_pA_x, gA_pI_x, gA_pJ_x, gA_sA_x, gA_pQ_x, gI_pA_x, gI_pI_x, gI_pJ_x, gI_sA_x, gI_pQ_x, gJ_pA_x, gJ_pI_x, gJ_pJ_x, gJ_sA_x, gJ_pQ_x, gQ_pA_x, gQ_pI_x, gQ_pJ_x, gQ_sA_x, gQ_pQ_x, gA_sJ_x, gI_sJ_x, gJ_sJ_x, gQ_sJ_x, if_neg hne]
  have eI : ∀ j, j < 22 → j ≠ 1 → gI (pA (pI (pJ (pI d (σ 1) 0 (nI t)) (σ 115) 0 jv) (σ 87) 0 0) (σ 88) 3 (nI t)) (σ j) = gI d (σ j) := fun j hj hj1 => by
    have hne : σ j ≠ σ 87 := Env_ne h (by omega) (by decide) (by omega)
    have hne2 : σ j ≠ σ 1 := Env_ne h (by omega) (by decide) (by omega)
    simp only [gA_pA_x, gA_pI_x, gA_pJ_x, gA_sA_x, gA_pQ_x, gI_pA_x, gI_pI_x, gI_pJ_x, gI_sA_x, gI_pQ_x, gJ_pA_x, gJ_pI_x, gJ_pJ_x, gJ_sA_x, gJ_pQ_x, gQ_pA_x, gQ_pI_x, gQ_pJ_x, gQ_sA_x, gQ_pQ_x, gA_sJ_x, gI_sJ_x, gJ_sJ_x, gQ_sJ_x, if_neg hne, if_neg hne2]
  have q3 : ∀ j, j ≠ 3 → (fun j => if j = 3 then nI t else gA d (σ 88) j) j = gA d (σ 88) j := fun j hj => if_neg hj
  generalize hW : (fun j => if j = 3 then nI t else gA d (σ 88) j) = W at e88 q3
  have hW3 : W 3 = nI t := by rw [← hW]; rfl
  have hc : ∀ c, c ≠ 3 → cnt W c = cnt (gA d (σ 88)) c := fun c h => by unfold cnt; rw [q3 c h]
  have hn : ∀ i, i < 10 → nR W i = nR (gA d (σ 88)) i := fun i hi => by
    unfold nR; split
    · rfl
    · next h5 => exact hc _ (cI_lt hi h5).2
  have hr : ∀ i, i < 10 → ∀ r c, W (oI i + wI i * r + c) = gA d (σ 88) (oI i + wI i * r + c) := fun i hi r c => q3 _ (by have := reg_lo hi; omega)
  have hro : ∀ i, i < 10 → ∀ j, roI W i j = roI (gA d (σ 88)) i j := fun i hi j => by
    unfold roI; split
    · next hc =>
      rw [hn i hi, ordr_congr (y := kyI W i) (y' := kyI (gA d (σ 88)) i)]
      intro k _
      rw [ky_at hc, ky_at hc, hr i hi]
    · rfl
  refine Inv_w I c e88 ⟨fun i hi h5 => ?_, ?_, fun i hi r hr' => ?_⟩ ⟨?_, fun i hi => ⟨?_, fun j hj cc hcc => ?_⟩⟩ (fun k hk => q3 k (by omega))
  · rw [hc _ (cI_lt hi h5).2, q3 _ (cI_lt hi h5).2]; exact w1.1 i hi h5
  · unfold cnt; rw [hW3, z_nn (by omega)]; exact ⟨rfl, ht, ht2⟩
  · rw [hn i hi] at hr'
    rw [hc 0 (by decide), hc 1 (by decide)]
    exact okR_ext (w1.2.2 i hi r hr') (fun c _ => hr i hi r c) hi
  · rw [hW3]; simp only [gA_pA_x, gA_pI_x, gA_pJ_x, gA_sA_x, gA_pQ_x, gI_pA_x, gI_pI_x, gI_pJ_x, gI_sA_x, gI_pQ_x, gJ_pA_x, gJ_pI_x, gJ_pJ_x, gJ_sA_x, gJ_pQ_x, gQ_pA_x, gQ_pI_x, gQ_pJ_x, gQ_sA_x, gQ_pQ_x, gA_sJ_x, gI_sJ_x, gJ_sJ_x, gQ_sJ_x, if_true, sg h, Nat.reduceLT, Nat.reduceEqDiff, if_false]
  · rw [eI _ (by omega) (by omega), hn i hi]; exact (w2.2 i hi).1
  · rw [hn i hi] at hj
    rw [eA _ (by omega), hro i hi, hr i hi]; exact (w2.2 i hi).2 j hj cc hcc
theorem p_years (I : Inv σ E d) (x : Int32) (k : ∀ E' d', Inv σ E' d' → kc E' d') {K : Int32 → Dy → Prop} (hK : ∀ v d2, w_X11_years E (σ 87) x d2 (fun r d => cmpO σ E kc v r d) → K v d2) : w_L_years E (σ 0) x (σ 115) d K := by
  have h := I.1
  have w3 := td_3 I
  have wc := wc_3 I
  generalize hn : cnt (gA d (σ 88)) 3 = t at wc
  have e1 : (2099 : Int32) - nI t = nI (2099 - t) := z_sub (a := 2099) wc.2.2
  simp only [w_L_years, w_X10_years, x_0_0 h, w3, wc.1, e1]
  have f1 : b_X11_years_24 E (σ 87) x (fun r d => cmpO σ E kc 1 r d) (σ 87) (pI d (σ 87) 0 0) := ⟨eo_87 h, eo_87 h, rt1 h ⟨fun q => absurd q (by decide), fun _ => fail_O I (by decide) k⟩⟩
  by_cases b : bw x 0 (nI (2099 - t))
  · obtain ⟨m, hm1, hm2, rfl⟩ := bw_n (a := 0) b (by omega) (by decide)
    refine ⟨eo_0 h, eo_115 h, eo_0 h, nb1 b ⟨v0_115 h, hK _ _ ⟨eo_87 h, fun q => absurd q b.1, fun _ => ?_⟩⟩⟩
    have e2 : nI t + nI m = nI (t + m) := z_add t m
    have g3 : gA (pI (pJ (pI d (σ 1) 0 (nI (t + m))) (σ 115) 0 (nI (t + m)).toInt64) (σ 87) 0 0) (σ 88) 3 = nI t := wc.1
    have e0 : gI d (σ 1) 0 + nI m = nI (t + m) := by rw [w3, wc.1, e2]
    rw [e0]
    have gI1 : gI (pI d (σ 1) 0 (nI (t + m))) (σ 1) 0 = nI (t + m) := by simp only [gA_pA_x, gA_pI_x, gA_pJ_x, gA_sA_x, gA_pQ_x, gI_pA_x, gI_pI_x, gI_pJ_x, gI_sA_x, gI_pQ_x, gJ_pA_x, gJ_pI_x, gJ_pJ_x, gJ_sA_x, gJ_pQ_x, gQ_pA_x, gQ_pI_x, gQ_pJ_x, gQ_sA_x, gQ_pQ_x, gA_sJ_x, gI_sJ_x, gJ_sJ_x, gQ_sJ_x, if_true]
    rw [gI1]
    simp only [x_87_1 h, en_88 h]
    have lit : ((0 : Int32)).toNatClampNeg = 0 := rfl
    rw [lit]
    refine ⟨vpi (k := 3) (by decide) (by decide), fun _ => ⟨eo_87 h, rt0 h ⟨fun _ => ?_, fun q => absurd rfl q⟩⟩, fun q => absurd ?_ q⟩
    · simp only [x_87_1 h, en_88 h]
      refine ⟨vpi (k := 3) (by decide) (by decide), vpi (k := 3) (by decide) (by decide), vpi (k := 3) (by decide) (by decide), ?_⟩
      simp only [qn_3]
      rw [g3, e2]
      refine tl_out h ?_ (fun _ => ?_) (k _ _ (Inv_today I (by omega) (by omega)))
      · simp only [gA_pA_x, gA_pI_x, gA_pJ_x, gA_sA_x, gA_pQ_x, gI_pA_x, gI_pI_x, gI_pJ_x, gI_sA_x, gI_pQ_x, gJ_pA_x, gJ_pI_x, gJ_pJ_x, gJ_sA_x, gJ_pQ_x, gQ_pA_x, gQ_pI_x, gQ_pJ_x, gQ_sA_x, gQ_pQ_x, gA_sJ_x, gI_sJ_x, gJ_sJ_x, gQ_sJ_x, if_true]
      · simp only [gA_pA_x, gA_pI_x, gA_pJ_x, gA_sA_x, gA_pQ_x, gI_pA_x, gI_pI_x, gI_pJ_x, gI_sA_x, gI_pQ_x, gJ_pA_x, gJ_pI_x, gJ_pJ_x, gJ_sA_x, gJ_pQ_x, gQ_pA_x, gQ_pI_x, gQ_pJ_x, gQ_sA_x, gQ_pQ_x, gA_sJ_x, gI_sJ_x, gJ_sJ_x, gQ_sJ_x, if_true]
    · show nI m ≤ 2099 - gA _ (σ 88) 3
      rw [g3, e1]; exact Int32.not_lt.mp b.2
  · refine ⟨eo_0 h, eo_115 h, eo_0 h, nb0 b ⟨rfl, hK _ _ ⟨eo_87 h, fun _ => f1, fun q => ?_⟩⟩⟩
    simp only [x_87_1 h, en_88 h]
    refine ⟨vpi (k := 3) (by decide) (by decide), fun q2 => absurd ?_ b, fun _ => f1⟩
    have q3 : x ≤ 2099 - gA (pI d (σ 87) 0 0) (σ 88) 3 := q2
    have g3 : gA (pI d (σ 87) 0 0) (σ 88) 3 = nI t := wc.1
    rw [g3, e1] at q3
    exact ⟨q, Int32.not_lt.mpr q3⟩
theorem c_years (I : Inv σ E d) (hv : v5 v4 L) (k : ∀ E' d', Inv σ E' d' → kc E' d') : lw_395 E (σ 0) (σ 87) (σ 115) v4 xs L kc d :=
  ⟨eo_0 I.1, eo_87 I.1, eo_115 I.1, hv.1, p_years I _ k (fun v d2 hk => ⟨hv.1, hk⟩)⟩
end
