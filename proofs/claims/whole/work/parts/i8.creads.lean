section
variable {B : Nat → Nat} {tl s b : Nat} {c : Cd}
theorem isF_ne {t : Nat} (h : isF s t = true) : t ≠ 31 := by
  intro e; subst e; unfold isF at h; rw [decide_eq_false (by decide)] at h; exact nomatch h
theorem gd_Hd (hb : b ≤ tl) : (pHd B tl s b).1 ≤ tl ∧ ∀ r, (pHd B tl s b).2 = some r → b + 1 ≤ (pHd B tl s b).1 := by
  have l1 := nB_le (B := B) hb
  have l2 := nB_le (B := B) l1
  have l3 := nB_le (B := B) l2
  have l4 := nB_le (B := B) l3
  unfold pHd
  split
  · split
    · next q =>
      have g := nB_gt2 (B := B) (tl := tl) (b := b) (by rw [q]; decide)
      split
      · next q2 =>
        have g2 := nB_gt2 (B := B) (tl := tl) (b := nB B tl b) (by omega)
        exact ⟨l2, fun _ _ => by show b + 1 ≤ nB B tl (nB B tl b); omega⟩
      · exact ⟨l1, fun _ h => (nomatch h)⟩
    · exact ⟨hb, fun _ h => (nomatch h)⟩
  · split
    · split
      · next q =>
        have g := nB_gt2 (B := B) (tl := tl) (b := b) (by rw [q]; decide)
        split
        · next q2 =>
          have g2 := nB_gt2 (B := B) (tl := tl) (b := nB B tl b) (by omega)
          exact ⟨l2, fun _ _ => by show b + 1 ≤ nB B tl (nB B tl b); omega⟩
        · exact ⟨l1, fun _ h => (nomatch h)⟩
      · exact ⟨hb, fun _ h => (nomatch h)⟩
    · split
      · next q =>
        have g := nB_gt2 (B := B) (tl := tl) (b := b) (by omega)
        split
        · next q2 =>
          have g2 := nB_gt2 (B := B) (tl := tl) (b := nB B tl b) (by omega)
          split
          · next q3 =>
            have g3 := nB_gt2 (B := B) (tl := tl) (b := nB B tl (nB B tl b)) (by omega)
            split
            · next q4 =>
              have g4 := nB_gt2 (B := B) (tl := tl) (b := nB B tl (nB B tl (nB B tl b))) (isF_ne q4)
              exact ⟨l4, fun _ _ => by show b + 1 ≤ nB B tl (nB B tl (nB B tl (nB B tl b))); omega⟩
            · exact ⟨l3, fun _ h => (nomatch h)⟩
          · exact ⟨l2, fun _ _ => by show b + 1 ≤ nB B tl (nB B tl b); omega⟩
        · exact ⟨l1, fun _ h => (nomatch h)⟩
      · exact ⟨hb, fun _ h => (nomatch h)⟩
theorem gd_Ln (hb : b ≤ tl) : (pLn B tl s c b).1 ≤ tl ∧ ∀ l c1, (pLn B tl s c b).2 = some (l, c1) → b + 1 ≤ (pLn B tl s c b).1 ∧ l.2.1 = c.length ∧ l.2.2 = c1.length ∧ ∃ x : Cd, c1 = c ++ x ∧ x.length + b ≤ (pLn B tl s c b).1 := by
  have g := gd_Hd (B := B) (s := s) hb
  unfold pLn
  revert g
  generalize pHd B tl s b = w
  obtain ⟨b1, r⟩ := w
  intro g
  cases r with
  | none => exact ⟨g.1, fun _ _ h => (nomatch h)⟩
  | some r =>
    have g1 : b1 ≤ tl := g.1
    have g2 : b + 1 ≤ b1 := g.2 r rfl
    simp only []
    by_cases z : thB B tl b1 = 14
    · rw [if_pos z]
      have k := gd_Cd1 (B := B) (gd_At (B := B) (s := s) 6) 401 c (nB B tl b1) (nB_le g1)
      have g3 := nB_gt2 (B := B) (tl := tl) (b := b1) (by omega)
      revert k
      generalize pCd B tl (pAt B tl s 6) 401 false false c (nB B tl b1) = w
      obtain ⟨b2, r2⟩ := w
      intro k
      cases r2 with
      | none => exact ⟨k.1, fun _ _ h => (nomatch h)⟩
      | some c2 =>
        obtain ⟨q1, x, q2, q3⟩ := k.2 c2 rfl
        have q1 : nB B tl b1 + 1 ≤ b2 := q1
        have q3 : x.length + nB B tl b1 ≤ b2 := q3
        refine ⟨k.1, fun l c1 h => ?_⟩
        cases h
        exact ⟨by show b + 1 ≤ b2; omega, rfl, rfl, x, q2, by show x.length + b ≤ b2; omega⟩
    · rw [if_neg z]
      refine ⟨g1, fun l c1 h => ?_⟩
      cases h
      exact ⟨g2, rfl, rfl, [], (List.append_nil _).symm, by show 0 + b ≤ b1; omega⟩
end
section
variable {σ : Nat → Nat} {E : En} {d0 d d' d2 d3 : Dy} {B : Nat → Nat} {tl s b f : Nat} {c : Cd} {ls : List Ln} {r : PR} {R : Nat × Option Hd} {K0 : Dy → Prop} {K : Int32 → Dy → Prop}
theorem k_readCond (h : Env σ E) (cs : clS σ d B tl s c b) (hc : c.length + 1 ≤ b) (k : cKo σ d B tl s (pCd B tl (pAt B tl s 6) 401 false false c b) K) : w_X2_readCondition E (σ 45) 0 d K :=
  ⟨eo_45 h, 401, k_cond h (gd_At 6) (k_atom h 6 (by decide) 59 (by decide)) 401 false false c b d 0 cs (by have := cs.1.1; omega) (by omega) (by show c.length + 0 + 0 + 1 ≤ _; omega) k⟩
theorem k_setX (h : Env σ E) (hw : gI d (σ 47) 0 = nI 5) {n j : Nat} (hn : n < 10) (hj : j < 5) {x : Int32} (k : ∀ d', Ch σ [47, 48] d d' → K0 d') : w_X6_set E (σ 47) (nI n) (nI j) x d K0 := by
  have e2 : ∀ {P : Nat → Prop}, (∃ c, eR E (σ 47) 2 = some c ∧ okA E c 13 ∧ P c) ↔ P (σ 48) := fun {P} => xgA (er_47_2 h) (eo_48 h)
  simp only [w_X6_set, e2, hw]
  refine ⟨eo_47 h, fun _ => k d Ch_rf, fun _ => ⟨fun _ => k d Ch_rf, fun _ => ⟨fun _ => k d Ch_rf, fun _ => ⟨fun _ => k d Ch_rf, fun _ => ⟨?_, k _ (Ch_pA h (by decide) (by decide))⟩⟩⟩⟩⟩
  rw [z_mul, z_add, en_48 h]
  exact vpi (by omega) (by decide)
def lnK (σ : Nat → Nat) (d : Dy) (B : Nat → Nat) (tl s : Nat) (ls : List Ln) (R : Nat × Option (Ln × Cd)) (K : Int32 → Dy → Prop) : Prop := ∀ d', Ch σ txL d d' → (R.2 = none → gI d' (σ 45) 3 = nI R.1 → K 0 d') ∧ (∀ l c1, R.2 = some (l, c1) → clS σ d' B tl s c1 R.1 → ltS σ d' s (ls ++ [l]) (ls.length + 1) → K 1 d')
theorem k_line (h : Env σ E) (cs : clS σ d B tl s c b) (tb : ltS σ d s ls ls.length) (hl : ls.length < 10) (hc : c.length ≤ b) (k : lnK σ d B tl s ls (pLn B tl s c b) K) : w_X2_readLine E (σ 45) d K := by
  have hb := cs.2.1
  have h400 := cs.1.1
  have hB := cs.1.2.1
  have hs := cs.2.2.2.1
  simp only [w_X2_readLine, x_45_7 h]
  refine ⟨eo_45 h, T_open (te_47 h) tb.1 hl ?_⟩
  have c1 : Ch σ [47, 48] d (pI (sA d (σ 48) (opn (gA d (σ 48)) 5 ls.length ls.length)) (σ 47) 3 (nI (ls.length + 1))) := Ch_tr (Ch_sA h (by decide) (by decide)) (Ch_pI h (by decide) (by decide) (by decide))
  have o1 : ∀ j, j < ls.length * 5 → gA (pI (sA d (σ 48) (opn (gA d (σ 48)) 5 ls.length ls.length)) (σ 47) 3 (nI (ls.length + 1))) (σ 48) j = gA d (σ 48) j := fun j hj => by
    rw [gA_pI, gA_sA]; unfold opn; rw [if_pos hj]
  have t1 : TD (pI (sA d (σ 48) (opn (gA d (σ 48)) 5 ls.length ls.length)) (σ 47) 3 (nI (ls.length + 1))) (σ 47) 5 10 (ls.length + 1) := ⟨by rw [gI_pI_k _ _ _ (by decide)]; exact tb.1.1, by rw [gI_pI_k _ _ _ (by decide)]; exact tb.1.2.1, gI_pI _ _ _ _, by omega⟩
  generalize pI (sA d (σ 48) (opn (gA d (σ 48)) 5 ls.length ls.length)) (σ 47) 3 (nI (ls.length + 1)) = d1 at c1 o1 t1
  refine T_set (r := ls.length) (c := 2) (te_47 h) t1 (by omega) (by decide) (T_set (d := pA d1 (σ 48) (ls.length * 5 + 2) (-1)) (r := ls.length) (c := 3) (n := ls.length + 1) (te_47 h) (show TD (pA d1 (σ 48) (ls.length * 5 + 2) (-1)) (σ 47) 5 10 (ls.length + 1) from t1) (by omega) (by decide) ?_)
  have c2 : Ch σ [47, 48] d (pA (pA d1 (σ 48) (ls.length * 5 + 2) (-1)) (σ 48) (ls.length * 5 + 3) (gI (pA d1 (σ 48) (ls.length * 5 + 2) (-1)) (σ 45) 9)) := Ch_tr c1 (Ch_tr (Ch_pA h (by decide) (by decide)) (Ch_pA h (by decide) (by decide)))
  have e9 : gI (pA d1 (σ 48) (ls.length * 5 + 2) (-1)) (σ 45) 9 = nI c.length := by
    show gI d1 (σ 45) 9 = _
    rw [Ch_I c1 (by decide) (by decide)]; exact cs.2.2.2.2.1.1
  rw [e9] at c2 ⊢
  have o2 : ∀ j, gA (pA (pA d1 (σ 48) (ls.length * 5 + 2) (-1)) (σ 48) (ls.length * 5 + 3) (nI c.length)) (σ 48) j = if j = ls.length * 5 + 3 then nI c.length else if j = ls.length * 5 + 2 then -1 else gA d1 (σ 48) j := fun j => by
    rw [gA_pA]; dsimp only; rw [gA_pA]
  have t2 : TD (pA (pA d1 (σ 48) (ls.length * 5 + 2) (-1)) (σ 48) (ls.length * 5 + 3) (nI c.length)) (σ 47) 5 10 (ls.length + 1) := t1
  generalize pA (pA d1 (σ 48) (ls.length * 5 + 2) (-1)) (σ 48) (ls.length * 5 + 3) (nI c.length) = d2 at c2 o2 t2
  have H : lhS σ d2 B tl s c b ls c.length := by
    refine ⟨cl_fr c2 cs, ⟨t2, fun i l hl => lrC_g (tb.2 i l hl) (fun j h1 h2 => ?_)⟩, by omega, by rw [o2, if_pos rfl]⟩
    have : i < ls.length := (List.getElem?_eq_some_iff.mp hl).1
    rw [o2, if_neg (by omega), if_neg (by omega), o1 j (by omega)]
  have hm : gA d2 (σ 48) (ls.length * 5 + 2) = -1 := by rw [o2, if_neg (by omega), if_pos rfl]
  have g2 := H.1.2.2.1
  have k : lnK σ d2 B tl s ls (pLn B tl s c b) K := fun d' ch => k d' (Ch_tr (Ch_w c2 (by decide)) ch)
  clear o2 t2 c2 e9 o1 t1 c1
  have bad91 : ∀ d3 b1, Ch σ txL d2 d3 → flS σ d3 b1 → (∀ d4, Ch σ txL d2 d4 → gI d4 (σ 45) 3 = nI b1 → K 0 d4) → b_X2_readLine_91 E (σ 45) K (nI ls.length) 0 d3 := fun d3 b1 ch3 f3 kk => by
    simp only [b_X2_readLine_91, x_45_7 h]
    have w5 : gI d3 (σ 47) 0 = nI 5 := by rw [ch3.2.1 (47, 0) (by decide)]; exact H.2.1.1.1
    refine k_setX (j := 4) h w5 hl (by decide) (fun d4 ch4 => ⟨Or.inl trivial, kk d4 (Ch_tr ch3 (Ch_w ch4 (by decide))) ?_⟩)
    rw [Ch_I ch4 (by decide) (by decide)]; exact f3.1
  have hk : lhK σ d2 B tl s c ls c.length (pHd B tl s b) (fun r d => b_X2_readLine_67 E (σ 45) K (nI ls.length) r d) := by
    have gh := gd_Hd (B := B) (s := s) hb
    unfold pLn at k
    revert k gh
    generalize pHd B tl s b = w
    obtain ⟨b1, q⟩ := w
    intro k gh d3 ch3
    cases q with
    | none => exact ⟨fun _ f3 => ⟨fun _ => bad91 d3 b1 ch3 f3 (fun d4 ch4 e4 => (k d4 ch4).1 rfl e4), fun w => absurd rfl w⟩, fun r hr => (nomatch hr)⟩
    | some q =>
      refine ⟨fun w => (nomatch w), fun r hr H3 rH => ?_⟩
      cases hr
      have H3 : lhS σ d3 B tl s c b1 ls c.length := H3
      have gb : b + 1 ≤ b1 := gh.2 q rfl
      have gb1 : b1 ≤ tl := gh.1
      simp only [] at k
      have good91 : ∀ d4 c2 b2, Ch σ txL d2 d4 → clS σ d4 B tl s c2 b2 → ltS σ d4 s ls (ls.length + 1) → gA d4 (σ 48) = gA d3 (σ 48) → lnK σ d4 B tl s ls (b2, some ((q, c.length, c2.length), c2)) K → b_X2_readLine_91 E (σ 45) K (nI ls.length) 1 d4 := fun d4 c2 b2 ch4 cs4 tb4 e4 k4 => by
        simp only [b_X2_readLine_91, x_45_7 h]
        refine T_set (r := ls.length) (c := 4) (te_47 h) tb4.1 (by omega) (by decide) ⟨Or.inr trivial, ?_⟩
        rw [cs4.2.2.2.2.1.1]
        have ch5 : Ch σ [47, 48] d4 (pA d4 (σ 48) (ls.length * 5 + 4) (nI c2.length)) := Ch_pA h (by decide) (by decide)
        have o5 : ∀ j, gA (pA d4 (σ 48) (ls.length * 5 + 4) (nI c2.length)) (σ 48) j = if j = ls.length * 5 + 4 then nI c2.length else gA d4 (σ 48) j := fun j => by rw [gA_pA]
        have t5 : TD (pA d4 (σ 48) (ls.length * 5 + 4) (nI c2.length)) (σ 47) 5 10 (ls.length + 1) := tb4.1
        generalize pA d4 (σ 48) (ls.length * 5 + 4) (nI c2.length) = d5 at ch5 o5 t5
        refine (k4 d5 (Ch_w ch5 (by decide))).2 _ _ rfl (cl_fr ch5 cs4) ⟨t5, fun i l hl => ?_⟩
        by_cases hi : i < ls.length
        · rw [List.getElem?_append_left hi] at hl
          exact lrC_g (tb4.2 i l hl) (fun j h1 h2 => by rw [o5, if_neg (by omega)])
        · rw [List.getElem?_append_right (by omega)] at hl
          have hi2 : i = ls.length := by
            have := (List.getElem?_eq_some_iff.mp hl).1
            have : i - ls.length < 1 := this
            omega
          subst hi2
          rw [Nat.sub_self] at hl
          cases hl
          refine ⟨lrH_g5 rH (fun j h1 h2 => by rw [o5, if_neg (by omega), e4]), ?_, ?_⟩
          · rw [o5, if_neg (by omega), e4]; exact H3.2.2.2
          · rw [o5, if_pos rfl]
      have g5 := H3.1.2.2.2.2.2.2.2.1
      have ht := th_le hB (tl := tl) (b := b1)
      refine ⟨fun w => absurd w (by decide), fun _ => ⟨fun z => ?_, fun z => ?_⟩⟩
      · rw [if_neg (fun q => z (g5.trans (by rw [q]; rfl)))] at k
        exact good91 d3 c b1 ch3 H3.1 H3.2.1 rfl (fun d' ch => k d' (Ch_tr ch3 ch))
      · have z := (z_eq (b := 14) (by omega) (by decide)).mp (g5.symm.trans z)
        rw [if_pos z] at k
        have g3 := nB_gt2 (B := B) (tl := tl) (b := b1) (by omega)
        refine hd_next h H3 (fun d4 ch4 e4 H4 => k_readCond h H4.1 (by omega) ?_)
        revert k
        generalize pCd B tl (pAt B tl s 6) 401 false false c (nB B tl b1) = w
        obtain ⟨b2, r2⟩ := w
        intro k d5 ch5
        have ch35 : Ch σ txL d2 d5 := Ch_tr ch3 (Ch_tr ch4 (Ch_w ch5 (by decide)))
        cases r2 with
        | none => exact ⟨fun _ f5 => bad91 d5 b2 ch35 f5 (fun d6 ch6 e6 => (k d6 ch6).1 rfl e6), fun c' hc' => (nomatch hc')⟩
        | some c2 =>
          refine ⟨fun w => (nomatch w), fun c' hc' cs5 => ?_⟩
          cases hc'
          exact good91 d5 c2 b2 ch35 cs5 (tb_fr ch5 H4.2.1) (by rw [Ch_A ch5 (by decide) (by decide), e4]) (fun d' ch => k d' (Ch_tr ch35 ch))
  refine ⟨fun z => ⟨fun z2 => ?_, fun z2 => ?_⟩, fun z => ?_⟩
  · exact k_amount h (fun q => z (g2.trans (by rw [q]; rfl))) (fun q => z2 (g2.trans (by rw [q]; rfl))) H hm hk
  · have q := (z_eq (b := 3) (by omega) (by decide)).mp (g2.symm.trans z2)
    subst q
    exact k_colour h H hk
  · have q := (z_eq (b := 0) (by omega) (by decide)).mp (g2.symm.trans z)
    subst q
    exact k_right h H hk
end
