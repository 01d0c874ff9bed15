section
variable {σ : Nat → Nat} {E : En} {d0 d d' d2 d3 : Dy} {B : Nat → Nat} {tl s dep b q n : Nat} {c : Cd} {ls : List Ln} {K0 : Dy → Prop} {K : Int32 → Dy → Prop}
def rlnK (σ : Nat → Nat) (d : Dy) (B : Nat → Nat) (tl s : Nat) (ls : List Ln) (R : Nat × Option (Ln × Cd)) (K : Int32 → Dy → Prop) : Prop := ∀ d', ruS σ 0 d d' → (R.2 = none → gI d' (σ 87) 8 = nI R.1 → K 0 d') ∧ (∀ l c1, R.2 = some (l, c1) → (∃ dep, rtS σ d' B tl s dep c1 R.1) → rlS σ d' (ls ++ [l]) → K 1 d')
theorem ru_0 (a : ruS σ n d d') : ruS σ 0 d d' := ⟨a.1, fun k h => a.2.1 k (by omega), a.2.2⟩
theorem r_line (h : Env σ E) (a : rtS σ d B tl s dep c b) (rl : rlS σ d ls) (hl : ls.length < 10) (hc : c.length ≤ b) (k : rlnK σ d B tl s ls (pLn B tl s c b) K) : w_X11_readLine E (σ 87) (nI ls.length) d K := by
  have hb := rt_b a
  have h400 := a.1.1
  refine ⟨eo_87 h, rw_letters h a (fun d1 x1 a1 => ⟨fun _ => ?_, fun z => absurd ((z_eq (b := 10) (by omega) (by decide)).mp z) (by omega)⟩)⟩
  have e1 : ((596 + 851 * 4 : Int32) + 1) + 5 * nI ls.length = nI (4001 + 5 * ls.length) := by
    rw [show ((596 + 851 * 4 : Int32) + 1) = nI 4001 from rfl, show (5 : Int32) = nI 5 from rfl, z_mul, z_add]
  simp only [w_X11_lineAt, w_X11_textAt, e1]
  refine r_head h hl a1 ?_
  have gh := gd_Hd (B := B) (s := s) hb
  unfold pLn at k
  revert k gh
  generalize pHd B tl s b = w
  obtain ⟨b1, q⟩ := w
  intro k gh d2 y2
  have y12 : ruS σ ls.length d d2 := ru_tr (ru_rx x1) y2
  cases q with
  | none => exact ⟨fun _ g => ⟨fun w => absurd rfl w, fun _ => (k d2 (ru_0 y12)).1 rfl g⟩, fun r hr => (nomatch hr)⟩
  | some r =>
    refine ⟨fun w => (nomatch w), fun r' hr a2 cells => ⟨fun _ => ?_, fun w => absurd w (by decide)⟩⟩
    cases hr
    have a2 : rtS σ d2 B tl s dep c b1 := a2
    obtain ⟨c0, c1, c2⟩ := cells
    have gb1 : b1 ≤ tl := gh.1
    have gb : b + 1 ≤ b1 := gh.2 r rfl
    simp only [] at k
    simp only [x_87_1 h, en_88 h, z_a3]
    refine ⟨vpi (by omega) (by decide), ?_⟩
    rw [z_nn (by omega), a2.2.2.1.1]
    have y3 : ruS σ ls.length d2 (pA d2 (σ 88) (4001 + 5 * ls.length + 3) (nI c.length)) := ru_pA h (by omega)
    have a3 := rt_pA (k := 4001 + 5 * ls.length + 3) (x := nI c.length) h (by omega) a2
    have w3 : ∀ j, gA (pA d2 (σ 88) (4001 + 5 * ls.length + 3) (nI c.length)) (σ 88) j = if j = 4001 + 5 * ls.length + 3 then nI c.length else gA d2 (σ 88) j := fun j => w_pA
    generalize pA d2 (σ 88) (4001 + 5 * ls.length + 3) (nI c.length) = d3 at y3 a3 w3
    obtain ⟨y4, a4⟩ := rt_dep h a3 (dep2 := 0)
    have w4 : gA (pI d3 (σ 87) 9 0) (σ 88) = gA d3 (σ 88) := rfl
    have y14 : ruS σ ls.length d (pI d3 (σ 87) 9 0) := ru_tr y12 (ru_tr y3 (ru_ry (by omega) y4))
    have good : ∀ d5 c5 b5 dp, ryS σ (pI d3 (σ 87) 9 0) d5 → rtS σ d5 B tl s dp c5 b5 → (∀ d6, ruS σ 0 d d6 → (∃ dep, rtS σ d6 B tl s dep c5 b5) → rlS σ d6 (ls ++ [(r, c.length, c5.length)]) → K 1 d6) → b_X11_readLine_64 E (σ 87) (nI ls.length) K (nI (4001 + 5 * ls.length)) d5 := fun d5 c5 b5 dp y5 a5 kk => by
      simp only [b_X11_readLine_64, x_87_1 h, en_88 h, z_a4]
      refine ⟨vpi (by omega) (by decide), ?_⟩
      rw [z_nn (by omega), a5.2.2.1.1]
      refine kk _ (ru_0 (ru_tr y14 (ru_tr (ru_ry (by omega) y5) (ru_pA h (by omega))))) ⟨dp, rt_pA h (by omega) a5⟩ (fun i l hi => ?_)
      have w5 : ∀ j, j < 4051 → j ≠ 4001 + 5 * ls.length + 4 → gA (pA d5 (σ 88) (4001 + 5 * ls.length + 4) (nI c5.length)) (σ 88) j = gA d3 (σ 88) j := fun j hj1 hj2 => by
        rw [w_pA, if_neg hj2, y5.2.1 j hj1, w4]
      by_cases hlt : i < ls.length
      · rw [List.getElem?_append_left hlt] at hi
        have w6 : ∀ j, j < 4001 + 5 * ls.length → gA (pA d5 (σ 88) (4001 + 5 * ls.length + 4) (nI c5.length)) (σ 88) j = gA d (σ 88) j := fun j hj => by
          rw [w5 j (by omega) (by omega), w3, if_neg (by omega), y12.2.1 j hj]
        rw [w6 _ (by omega), w6 _ (by omega), w6 _ (by omega), w6 _ (by omega), w6 _ (by omega)]
        exact rl i l hi
      · rw [List.getElem?_append_right (by omega)] at hi
        have hi2 : i = ls.length := by
          have := (List.getElem?_eq_some_iff.mp hi).1
          have : i - ls.length < 1 := this
          omega
        subst hi2
        rw [Nat.sub_self] at hi
        cases hi
        rw [w5 _ (by omega) (by omega), w5 _ (by omega) (by omega), w5 _ (by omega) (by omega), w5 _ (by omega) (by omega), w3, if_neg (by omega), w3, if_neg (by omega), w3, if_neg (by omega), w3, if_pos rfl, w_pA, if_pos rfl]
        exact ⟨c0, c1, c2, rfl, rfl⟩
    refine rp_passes (t := 17) h a4 (by decide) (by decide) (fun e d5 x5 a5 g5 => ⟨fun w => absurd w (by decide), fun _ => ?_⟩) (fun e d5 x5 a5 g5 => ⟨fun _ => ?_, fun w => absurd rfl w⟩)
    · have e : thB B tl b1 = 14 := e
      have g1 := nB_gt2 (B := B) (tl := tl) (b := b1) (by omega)
      rw [if_pos e] at k
      refine r_readCond h a5 (by omega) ?_
      revert k
      generalize pCd B tl (pAt B tl s 6) 401 false false c (nB B tl b1) = w
      obtain ⟨b2, r2⟩ := w
      intro k d6 y6
      have y46 : ryS σ (pI d3 (σ 87) 9 0) d6 := ry_tr (ry_rx x5) y6
      cases r2 with
      | none => exact ⟨fun _ g => ⟨fun w => absurd rfl w, fun _ => (k d6 (ru_0 (ru_tr y14 (ru_ry (by omega) y46)))).1 rfl g⟩, fun c' hc' => (nomatch hc')⟩
      | some c2 =>
        refine ⟨fun w => (nomatch w), fun c' hc' a6 => ⟨fun _ => ?_, fun w => absurd w (by decide)⟩⟩
        cases hc'
        exact good d6 c2 b2 0 y46 a6 (fun d7 y7 a7 l7 => (k d7 y7).2 _ _ rfl a7 l7)
    · have e : ¬ thB B tl b1 = 14 := e
      rw [if_neg e] at k
      exact good d5 c b1 0 (ry_rx x5) a5 (fun d7 y7 a7 l7 => (k d7 y7).2 _ _ rfl a7 l7)
def raK (σ : Nat → Nat) (d : Dy) (B : Nat → Nat) (tl s : Nat) (R : Nat × Option (List Ln × Cd)) (K : Int32 → Dy → Prop) : Prop := ∀ d', ruS σ 0 d d' → (R.2 = none → gI d' (σ 87) 8 = nI R.1 → K (-1) d') ∧ (∀ ls' c', R.2 = some (ls', c') → rcS σ d' c' → rlS σ d' ls' → K (nI ls'.length) d')
theorem raK_ru {R : Nat × Option (List Ln × Cd)} (y : ruS σ 0 d d') (k : raK σ d B tl s R K) : raK σ d' B tl s R K := fun d2 h2 => k d2 (ru_tr y h2)
theorem r_all19 (h : Env σ E) : ∀ k ls c b dep d, k + ls.length = 10 → rtS σ d B tl s dep c b → rlS σ d ls → c.length ≤ b → raK σ d B tl s (pAl B tl s k ls c b) K → l_X11_readAll_19 E (σ 87) K (k + 1) (nI ls.length) d := by
  intro k
  induction k with
  | zero =>
    intro ls c b dep d hk a rl hc kk
    show b_X11_readAll_19 E (σ 87) K _ (nI ls.length) d
    refine ⟨eo_87 h, rw_letters h a (fun d1 x1 a1 => ⟨fun z => absurd (by rw [show ls.length = 10 by omega]; rfl) z, fun _ => ⟨fun w => absurd rfl w, fun _ => ?_⟩⟩)⟩
    exact (kk d1 (ru_rx x1)).1 rfl a1.2.2.2.2.2
  | succ k ihk =>
    intro ls c b dep d hk a rl hc kk
    have hb := rt_b a
    have h400 := a.1.1
    show b_X11_readAll_19 E (σ 87) K (l_X11_readAll_19 E (σ 87) K (k + 1)) (nI ls.length) d
    refine r_line h a rl (by omega) hc ?_
    have gl := gd_Ln (B := B) (s := s) (c := c) hb
    unfold pAl at kk
    revert kk gl
    generalize pLn B tl s c b = w
    obtain ⟨b1, q⟩ := w
    intro gl kk d1 y1
    cases q with
    | none => exact ⟨fun _ g => ⟨fun w => absurd rfl w, fun _ => (kk d1 y1).1 rfl g⟩, fun l c1 hc => (nomatch hc)⟩
    | some q =>
      obtain ⟨l, c1⟩ := q
      refine ⟨fun w => (nomatch w), fun l' c1' hq a1 rl1 => ⟨fun _ => ?_, fun w => absurd w (by decide)⟩⟩
      cases hq
      obtain ⟨dep1, a1⟩ := a1
      have a1 : rtS σ d1 B tl s dep1 c1 b1 := a1
      obtain ⟨z1, -, -, x, z2, z3⟩ := gl.2 l c1 rfl
      have z1 : b + 1 ≤ b1 := z1
      have z3 : x.length + b ≤ b1 := z3
      have hb1 : b1 ≤ tl := gl.1
      have lc : c1.length ≤ b1 := by rw [z2, List.length_append]; omega
      have ll : (ls ++ [l]).length = ls.length + 1 := by rw [List.length_append]; rfl
      have kk := raK_ru y1 kk
      simp only [] at kk
      obtain ⟨p1, p2, p3, q, q1, q2, q3⟩ := id a1
      refine r_blanks h p1 q1 q3 (fun d2 x2 g6 g8 => ?_)
      rw [q2] at g6 g8
      have a2 := rt_at a1 x2 g6
      have rl2 : rlS σ d2 (ls ++ [l]) := by unfold rlS at *; rw [w_rx x2]; exact rl1
      have kk := raK_ru (ru_rx x2) kk
      rw [g6, a2.1.2.2.2.1]
      refine ⟨fun z => ?_, fun z => ?_⟩
      · have n31 : ¬ thB B tl b1 = 31 := fun q => z (by
          rcases th_cs (B := B) hb1 with ⟨h0, _⟩ | ⟨_, h1, _⟩ | ⟨_, h1, _⟩ | ⟨_, _, _, h1, _⟩
          · rw [h0]
          · rw [h1] at q; exfalso; revert q; split <;> decide
          · rw [h1] at q; exfalso
            have e : wdC.length = 21 := rfl
            rcases tw_lt (B := B) (b := b1) (a := skG B tl 97 122 b1) wdC 0 with w | w <;> omega
          · rw [h1] at q; exfalso
            by_cases w : sgB (B b1) = true
            · rw [if_pos w] at q; have := sg_cs w; omega
            · rw [if_neg w] at q; omega)
        rw [if_neg n31] at kk
        have tw := th_sg (B := B) hb1 (c := 59) rfl
        refine r_isAt (lo := 59) (hi := 59) h a2.1 (by decide) (by decide) hb1 g6 (fun m => ⟨fun _ => ?_, fun w => absurd w (by decide)⟩) (fun m => ⟨fun w => absurd rfl w, fun _ => ?_⟩)
        · have e := tw.1.mp m
          rw [if_pos e] at kk
          have g3 := nB_gt2 (B := B) (tl := tl) (b := b1) n31
          have x3 : rxS σ d2 (pI d2 (σ 87) 6 (nI (b1 + 1))) := rx_6 h
          have a3 := rt_af a2 x3 (by rw [gI_pI, tw.2 e])
          rw [g6, z_a1, z_a1, ← ll]
          exact ihk (ls ++ [l]) c1 _ dep1 _ (by omega) a3 (by unfold rlS at *; rw [w_rx x3]; exact rl2) (by omega) (raK_ru (ru_rx x3) kk)
        · rw [if_neg (fun e => by rw [tw.1.mpr e] at m; exact nomatch m)] at kk
          exact (kk d2 ru_rf).1 rfl g8
      · have z := (z_eq (by omega) (by omega)).mp z
        have e31 : thB B tl b1 = 31 := by unfold thB; rw [if_pos (by omega)]
        rw [if_pos e31] at kk
        rw [z_a1, ← ll]
        exact (kk d2 ru_rf).2 _ _ rfl a2.2.2.1 rl2
theorem r_readAll (h : Env σ E) (r : rfP σ d B tl s) (g6 : gI d (σ 87) 6 = nI 0) (g12 : gI d (σ 87) 12 = nI 0) (k : raK σ d B tl s (pTx B tl s) K) : w_X11_readAll E (σ 87) d K := by
  obtain ⟨dep, g9⟩ := i_nat (gI d (σ 87) 9)
  have a : rtS σ d B tl s dep [] (blk B tl 0) := ⟨r, g9, ⟨g12, fun i x hx => (nomatch hx)⟩, 0, Nat.zero_le _, rfl, g6⟩
  have hb := rt_b a
  have h400 := r.1
  refine ⟨eo_87 h, r_blanks h r (Nat.zero_le _) g6 (fun d1 x1 b6 b8 => ?_)⟩
  have a1 := rt_at a x1 b6
  have k := raK_ru (ru_rx x1) k
  rw [b6, a1.1.2.2.2.1]
  unfold pTx at k
  refine ⟨fun z => ⟨11, ?_⟩, fun z => ?_⟩
  · have n31 : ¬ thB B tl (blk B tl 0) = 31 := fun q => z (by
      rcases th_cs (B := B) hb with ⟨h0, _⟩ | ⟨_, h1, _⟩ | ⟨_, h1, _⟩ | ⟨_, _, _, h1, _⟩
      · rw [h0]
      · rw [h1] at q; exfalso; revert q; split <;> decide
      · rw [h1] at q; exfalso
        have e : wdC.length = 21 := rfl
        rcases tw_lt (B := B) (b := blk B tl 0) (a := skG B tl 97 122 (blk B tl 0)) wdC 0 with w | w <;> omega
      · rw [h1] at q; exfalso
        by_cases w : sgB (B (blk B tl 0)) = true
        · rw [if_pos w] at q; have := sg_cs w; omega
        · rw [if_neg w] at q; omega)
    rw [if_neg n31] at k
    exact r_all19 h 10 [] [] _ dep d1 rfl a1 (fun i l hl => (nomatch hl)) (Nat.zero_le _) k
  · have z := (z_eq (by omega) (by omega)).mp z
    have e31 : thB B tl (blk B tl 0) = 31 := by unfold thB; rw [if_pos (by omega)]
    rw [if_pos e31] at k
    exact (k d1 ru_rf).2 [] [] rfl a1.2.2.1 (fun i l hl => (nomatch hl))
end
