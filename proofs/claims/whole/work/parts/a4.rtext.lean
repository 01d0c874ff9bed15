/-! the reference reckons a text -/
def sum1 (W : Nat → Int32) (s : Nat) (F : Nat → Int32) (i : Nat) : Int32 :=
  let v := W (598 + 851 * s + 5 * i) * (if 0 ≤ W (599 + 851 * s + 5 * i) then F (W (599 + 851 * s + 5 * i)).toNatClampNeg else 1)
  if W (597 + 851 * s + 5 * i) = 4 then v else -v
def sumS (W : Nat → Int32) (s : Nat) (F : Nat → Int32) : Nat → Int32
  | 0 => 0
  | i + 1 => if hdS W s i F = true then sumS W s F i + sum1 W s F i else sumS W s F i
section
variable {σ : Nat → Nat} {E : En} {d d' d2 d3 : Dy} {W : Nat → Int32} {K : Int32 → Dy → Prop}
theorem x_text {s : Nat} : (596 : Int32) + 851 * nI s = nI (596 + 851 * s) := by rw [show (851 : Int32) = nI 851 from rfl, z_mul]; exact z_add 596 _
theorem x_line {s n : Nat} : (596 : Int32) + 851 * nI s + 1 + 5 * nI n = nI (597 + 851 * s + 5 * n) := by
  rw [x_text, show (5 : Int32) = nI 5 from rfl, z_mul, show (1 : Int32) = nI 1 from rfl, z_add, z_add]; congr 1; omega
theorem x_step {s j : Nat} : nI (596 + 851 * s) + 51 + 2 * nI j = nI (647 + 851 * s + 2 * j) := by
  rw [show (2 : Int32) = nI 2 from rfl, z_mul, show (51 : Int32) = nI 51 from rfl, z_add, z_add]; congr 1; omega
set_option maxHeartbeats 1000000 in
theorem r_holds (h : Env σ E) {s n i : Nat} (hs : s < 4) (eW : gA d (σ 88) = W) (t : TW W s n) (hi : i < n) (hF : s ≠ 3 → gA d (σ 92) 8 = 0 ∨ gA d (σ 92) 8 = 1) (k : ∀ d', Ch σ [93] d d' → K (b2i (hdS W s i (gA d (σ 92)))) d') : w_X11_holdsLine E (σ 87) (nI s) (nI i) d K := by
  obtain ⟨⟨f, u, h1, h2, h3, h4, h5⟩, -⟩ := t.2.2 i hi
  have hn := t.2.1
  have e1 : cnt W (600 + 851 * s + 5 * i) = f := by unfold cnt; rw [h1, z_nn (by omega)]
  have e2 : cnt W (601 + 851 * s + 5 * i) = u := by unfold cnt; rw [h2, z_nn (by omega)]
  have hd : hdS W s i (gA d (σ 92)) = if f = u then true else decide (evK (gA d (σ 92)) (opW W s) (agW W s) (u - f) f [] = [1]) := by unfold hdS; rw [e1, e2]
  rw [hd] at k
  have a3 : nI (597 + 851 * s + 5 * i) + 3 = nI (600 + 851 * s + 5 * i) := by rw [show (3 : Int32) = nI 3 from rfl, z_add]; congr 1; omega
  have a4 : nI (597 + 851 * s + 5 * i) + 4 = nI (601 + 851 * s + 5 * i) := by rw [show (4 : Int32) = nI 4 from rfl, z_add]; congr 1; omega
  simp only [w_X11_holdsLine, w_X11_lineAt, w_X11_textAt, x_line, a3, x_87_1 h, en_88 h, z_nn (show 600 + 851 * s + 5 * i < 2147483648 by omega), eW, h1]
  refine ⟨eo_87 h, vpw (by omega), ?_⟩
  obtain ⟨ty0, hty0, hend⟩ : ∃ ty0, chk s (opW W s) (u - f) f [] = some ty0 ∧ (f ≠ u → ty0 = [true]) := by
    rcases h5 with h5 | h5
    · exact ⟨[], by rw [h5, Nat.sub_self]; rfl, fun q => absurd h5 q⟩
    · exact ⟨[true], h5, fun _ => rfl⟩
  refine ⟨u - f + 1, loopG (S := Int32 × Int32 × Int32 × Dy) (l := fun N z => l_X11_holdsLine_20 E (σ 87) (nI s) (nI i) K N z.1 z.2.1 z.2.2.1 z.2.2.2) (b := fun kk z => b_X11_holdsLine_20 E (σ 87) (nI s) (nI i) K (fun a b c e => kk (a, b, c, e)) z.1 z.2.1 z.2.2.1 z.2.2.2) (fun _ _ => rfl)
    (μ := fun z => u - z.2.2.1.toNatClampNeg) (P := fun z => nI (597 + 851 * s + 5 * i) = z.2.1 ∧ ∃ j st ty, f ≤ j ∧ j ≤ u ∧ nI j = z.2.2.1 ∧ nI st.length = z.1 ∧ st.length ≤ 20 ∧ Ch σ [93] d z.2.2.2 ∧ stR (gA z.2.2.2 (σ 93)) st ∧ tyR st ty ∧ chk s (opW W s) (u - j) j ty = some ty0 ∧ evK (gA d (σ 92)) (opW W s) (agW W s) (u - j) j st = evK (gA d (σ 92)) (opW W s) (agW W s) (u - f) f []) ?_ (u - f) (0, nI (597 + 851 * s + 5 * i), nI f, d) ⟨rfl, f, [], [], by omega, h3, rfl, rfl, by simp, Ch_rf, fun q hq => absurd hq (by simp), trivial, hty0, rfl⟩ (by rw [show ((0 : Int32), nI (597 + 851 * s + 5 * i), nI f, d).2.2.1 = nI f from rfl, z_nn (by omega)]; exact Nat.le_refl _)⟩
  rintro kk ⟨v3, v4, v5, d3⟩ ⟨rfl, j, st, ty, hj1, hj2, rfl, rfl, hl, c3, sR3, t3, hck, hev⟩ hk
  have c3 : Ch σ [93] d d3 := c3
  have sR3 : stR (gA d3 (σ 93)) st := sR3
  have e3 : gA d3 (σ 88) = W := (Ch_A c3 (by decide) (by decide)).trans eW
  have f3 : gA d3 (σ 92) = gA d (σ 92) := Ch_A c3 (by decide) (by decide)
  have hlt : st.length = ty.length := ty_len t3
  simp only [b_X11_holdsLine_20, w_X11_textAt, x_text, x_step, x_87_1 h, x_87_14 h, x_87_15 h, en_88 h, en_92 h, en_93 h, a4, z_nn (show 601 + 851 * s + 5 * i < 2147483648 by omega), z_nn (show 647 + 851 * s + 2 * j < 2147483648 by omega), e3, h2, f3]
  refine ⟨vpw (by omega), fun hc => ?_, fun hc => ⟨vpw (by omega), ?_⟩⟩
  · rw [z_le (by omega) (by omega)] at hc
    have hju : j = u := by omega
    subst hju
    rw [Nat.sub_self] at hck hev
    have hck : some ty = some ty0 := hck
    cases hck
    have hev : st = evK (gA d (σ 92)) (opW W s) (agW W s) (j - f) f [] := hev
    by_cases hfj : f = j
    · rw [if_pos hfj] at k
      have : st = [] := by rw [hev, hfj, Nat.sub_self]; rfl
      subst this
      exact ⟨fun _ => k d3 c3, fun q => absurd rfl q⟩
    · rw [if_neg hfj] at k
      have hty := hend hfj
      subst hty
      match st, t3, hev, sR3 with
      | [x], t3, hev, sR3 =>
        have hg : gA d3 (σ 93) 0 = x := st_top (r := []) sR3
        rw [← hev] at k
        refine ⟨fun q => absurd q (by show ¬ nI 1 = 0; decide), fun _ => ⟨vpi (k := 0) (by decide) (by decide), fun hx => ?_, fun hx => ?_⟩⟩
        · have hx : ¬ gA d3 (σ 93) 0 = 1 := hx
          rw [hg] at hx
          have := k d3 c3
          rw [show decide ([x] = [1]) = false from by simp [hx]] at this
          exact this
        · have hx : gA d3 (σ 93) 0 = 1 := hx
          rw [hg] at hx
          have := k d3 c3
          rw [show decide ([x] = [1]) = true from by simp [hx]] at this
          exact this
  · rw [z_le (by omega) (by omega)] at hc
    have hju : j < u := by omega
    rw [show u - j = (u - (j + 1)) + 1 by omega] at hck hev
    simp only [chk] at hck
    have hev : evK (gA d (σ 92)) (opW W s) (agW W s) (u - (j + 1)) (j + 1) (ev1 (gA d (σ 92)) (opW W s j) (agW W s j) st) = evK (gA d (σ 92)) (opW W s) (agW W s) (u - f) f [] := hev
    cases hc1 : ck1 s (opW W s j) ty with
    | none => rw [hc1] at hck; cases hck
    | some ty1 =>
      rw [hc1] at hck
      have hck : chk s (opW W s) (u - (j + 1)) (j + 1) ty1 = some ty0 := hck
      have t1 := ev_ty (ag := agW W s j) hc1 t3 hF
      have hop : W (647 + 851 * s + 2 * j) = opW W s j := rfl
      rw [hop]
      have nx : ∀ x (d4 : Dy), x = nI (ev1 (gA d (σ 92)) (opW W s j) (agW W s j) st).length → (ev1 (gA d (σ 92)) (opW W s j) (agW W s j) st).length ≤ 20 → Ch σ [93] d3 d4 → stR (gA d4 (σ 93)) (ev1 (gA d (σ 92)) (opW W s j) (agW W s j) st) → kk (x, nI (597 + 851 * s + 5 * i), nI j + 1, d4) := fun x d4 hx hl4 c4 s4 => by
        rw [z_a1]
        exact hk (x, _, nI (j + 1), d4) ⟨rfl, j + 1, _, ty1, by omega, by omega, rfl, hx.symm, hl4, Ch_tr c3 c4, s4, t1, hck, hev⟩ (by simp only [z_nn (show j + 1 < 2147483648 by omega), z_nn (show j < 2147483648 by omega)]; omega)
      have cA : ∀ {d4 : Dy} {q : Nat} {x : Int32}, Ch σ [93] d4 (pA d4 (σ 93) q x) := fun {d4 q x} => Ch_pA h (by decide) (by simp)
      have gq : ∀ (q : Nat) (x : Int32) (r : Nat), gA (pA d3 (σ 93) q x) (σ 93) r = if r = q then x else gA d3 (σ 93) r := fun q x r => by rw [gA_pA_x, if_pos rfl]
      generalize hoj : opW W s j = op at hc1 nx ⊢
      rcases ck_cases hc1 with (⟨ho, hlt2, -⟩ | ⟨rfl, hs3, hlt2, -⟩) | ⟨r, rfl, rfl, -⟩ | ⟨r, ho, rfl, -⟩ | ⟨r, rfl, rfl, -⟩ | ⟨r, ho, rfl, -⟩
      · rcases ho with rfl | ⟨o1, o2, -⟩
        · refine ⟨fun q => absurd q (by decide), fun _ => ⟨fun q => absurd rfl q, fun _ => ?_⟩⟩
          have e5 : nI (647 + 851 * s + 2 * j) + 1 = nI (648 + 851 * s + 2 * j) := by rw [z_a1]; congr 1; omega
          rw [e5, z_nn (by omega), z_nn (by omega), z_a1]
          exact ⟨vpw (by omega), vpi (by omega) (by decide), nx _ _ rfl (by show st.length + 1 ≤ 20; omega) cA (st_push sR3 (gq _ _))⟩
        · obtain ⟨m, hm, rfl⟩ := z_ex o1
          rw [show (8 : Int32) = nI 8 from rfl, z_lt hm (by decide)] at o2
          have n9 : ¬ nI m = 9 := by rw [show (9 : Int32) = nI 9 from rfl, z_eq hm (by decide)]; omega
          have l9 : nI m < 9 := by rw [show (9 : Int32) = nI 9 from rfl, z_lt hm (by decide)]; omega
          have ee : ev1 (gA d (σ 92)) (nI m) (agW W s j) st = gA d (σ 92) m :: st := by unfold ev1; rw [if_neg n9, if_pos l9, z_nn hm]
          rw [ee] at nx
          refine ⟨fun q => absurd (Int32.lt_trans q l9) (Int32.lt_irrefl), fun _ => ⟨fun _ => ?_, fun q => absurd q n9⟩⟩
          rw [z_nn hm, z_nn (by omega), z_a1]
          exact ⟨vpi (by omega) (by decide), vpi (by omega) (by decide), nx _ _ rfl (by show st.length + 1 ≤ 20; omega) cA (st_push sR3 (gq _ _))⟩
      · refine ⟨fun q => absurd q (by decide), fun _ => ⟨fun _ => ?_, fun q => absurd q (by decide)⟩⟩
        rw [z_nn (show st.length < 2147483648 by omega), z_a1]
        exact ⟨vpi (k := 8) (by decide) (by decide), vpi (by omega) (by decide), nx _ _ rfl (by show st.length + 1 ≤ 20; omega) cA (st_push sR3 (gq _ _))⟩
      · match st, t3, sR3, hl, nx, hlt with
        | b :: a :: r', t3, sR3, hl, nx, hlt =>
          simp only [List.length_cons] at hl hlt
          have g1 : gA d3 (σ 93) r'.length = a := st_top (st_tail sR3)
          have g2 : gA d3 (σ 93) (r'.length + 1) = b := st_top sR3
          rw [show (b :: a :: r').length = r'.length + 1 + 1 from rfl, z_am1, z_m1, z_nn (show r'.length < 2147483648 by omega), z_nn (show r'.length + 1 < 2147483648 by omega), g1, g2]
          refine ⟨fun _ => ⟨fun _ => ⟨vpi (by omega) (by decide), vpi (by omega) (by decide), fun _ => ⟨fun _ => ⟨fun _ => ⟨fun _ => ?_, fun _ => ?_⟩, fun q => absurd q (by decide)⟩, fun q => absurd q (by decide)⟩, fun q => absurd q (by decide)⟩, fun q => absurd q (by decide)⟩, fun q => absurd (by decide) q⟩
          all_goals
            simp only [b_X11_holdsLine_238, x_87_15 h, en_93 h, z_m1, z_nn (show r'.length < 2147483648 by omega)]
            refine ⟨fun q => absurd trivial q, fun _ => ?_⟩
            exact ⟨vpi (by omega) (by decide), nx _ _ rfl (by show r'.length + 1 ≤ 20; omega) cA (st_rep (st_tail sR3) (gq _ _))⟩
      · match st, t3, sR3, hl, nx, hlt with
        | b :: a :: r', t3, sR3, hl, nx, hlt =>
          simp only [List.length_cons] at hl hlt
          have g1 : gA d3 (σ 93) r'.length = a := st_top (st_tail sR3)
          have g2 : gA d3 (σ 93) (r'.length + 1) = b := st_top sR3
          rw [show (b :: a :: r').length = r'.length + 1 + 1 from rfl, z_am1, z_m1, z_nn (show r'.length < 2147483648 by omega), z_nn (show r'.length + 1 < 2147483648 by omega), g1, g2]
          rcases ho with rfl | rfl
          · refine ⟨fun _ => ⟨fun _ => ⟨vpi (by omega) (by decide), vpi (by omega) (by decide), fun q => absurd rfl q, fun _ => ⟨fun hq => ?_, fun hq => ?_⟩⟩, fun q => absurd q (by decide)⟩, fun q => absurd (by decide) q⟩
            · simp only [b_X11_holdsLine_238, x_87_15 h, en_93 h, z_m1, z_nn (show r'.length < 2147483648 by omega)]
              refine ⟨fun _ => ⟨fun _ => ?_, fun q => absurd trivial q⟩, fun q => absurd q (by decide)⟩
              have : ev1 (gA d (σ 92)) 11 (agW W s j) (b :: a :: r') = 0 :: r' := by show (if a < b then (1 : Int32) else 0) :: r' = _; rw [if_neg (Int32.not_lt.mpr hq)]
              rw [this] at nx
              exact ⟨vpi (by omega) (by decide), nx _ _ rfl (by show r'.length + 1 ≤ 20; omega) cA (st_rep (st_tail sR3) (gq _ _))⟩
            · simp only [b_X11_holdsLine_238, x_87_15 h, en_93 h, z_m1, z_nn (show r'.length < 2147483648 by omega)]
              refine ⟨fun _ => ⟨fun q => absurd q (by decide), fun _ => ?_⟩, fun q => absurd q (by decide)⟩
              have : ev1 (gA d (σ 92)) 11 (agW W s j) (b :: a :: r') = 1 :: r' := by show (if a < b then (1 : Int32) else 0) :: r' = _; rw [if_pos (Int32.not_le.mp hq)]
              rw [this] at nx
              exact ⟨vpi (by omega) (by decide), nx _ _ rfl (by show r'.length + 1 ≤ 20; omega) cA (st_rep (st_tail sR3) (gq _ _))⟩
          · refine ⟨fun _ => ⟨fun _ => ⟨vpi (by omega) (by decide), vpi (by omega) (by decide), fun _ => ⟨fun q => absurd rfl q, fun _ => ⟨fun hq => ?_, fun hq => ?_⟩⟩, fun q => absurd q (by decide)⟩, fun q => absurd q (by decide)⟩, fun q => absurd (by decide) q⟩
            · simp only [b_X11_holdsLine_238, x_87_15 h, en_93 h, z_m1, z_nn (show r'.length < 2147483648 by omega)]
              refine ⟨fun _ => ⟨fun _ => ?_, fun q => absurd trivial q⟩, fun q => absurd q (by decide)⟩
              have : ev1 (gA d (σ 92)) 12 (agW W s j) (b :: a :: r') = 0 :: r' := by show (if b < a then (1 : Int32) else 0) :: r' = _; rw [if_neg (Int32.not_lt.mpr hq)]
              rw [this] at nx
              exact ⟨vpi (by omega) (by decide), nx _ _ rfl (by show r'.length + 1 ≤ 20; omega) cA (st_rep (st_tail sR3) (gq _ _))⟩
            · simp only [b_X11_holdsLine_238, x_87_15 h, en_93 h, z_m1, z_nn (show r'.length < 2147483648 by omega)]
              refine ⟨fun _ => ⟨fun q => absurd q (by decide), fun _ => ?_⟩, fun q => absurd q (by decide)⟩
              have : ev1 (gA d (σ 92)) 12 (agW W s j) (b :: a :: r') = 1 :: r' := by show (if b < a then (1 : Int32) else 0) :: r' = _; rw [if_pos (Int32.not_le.mp hq)]
              rw [this] at nx
              exact ⟨vpi (by omega) (by decide), nx _ _ rfl (by show r'.length + 1 ≤ 20; omega) cA (st_rep (st_tail sR3) (gq _ _))⟩
      · match st, t3, sR3, hl, nx, hlt with
        | x :: r', t3, sR3, hl, nx, hlt =>
          simp only [List.length_cons] at hl hlt
          have g1 : gA d3 (σ 93) r'.length = x := st_top sR3
          rw [show (x :: r').length = r'.length + 1 from rfl, z_m1, z_nn (show r'.length < 2147483648 by omega), g1]
          refine ⟨fun _ => ⟨fun q => absurd rfl q, fun _ => ⟨vpi (by omega) (by decide), vpi (by omega) (by decide), nx _ _ rfl (by show r'.length + 1 ≤ 20; omega) cA (st_rep sR3 (gq _ _))⟩⟩, fun q => absurd (by decide) q⟩
      · match st, t3, sR3, hl, nx, hlt with
        | b :: a :: r', t3, sR3, hl, nx, hlt =>
          simp only [List.length_cons] at hl hlt
          have g1 : gA d3 (σ 93) r'.length = a := st_top (st_tail sR3)
          have g2 : gA d3 (σ 93) (r'.length + 1) = b := st_top sR3
          rw [show (b :: a :: r').length = r'.length + 1 + 1 from rfl, z_am1, z_m1, z_nn (show r'.length < 2147483648 by omega), z_nn (show r'.length + 1 < 2147483648 by omega), g1, g2]
          rcases ho with rfl | rfl
          · refine ⟨fun _ => ⟨fun _ => ⟨vpi (by omega) (by decide), vpi (by omega) (by decide), fun _ => ⟨fun _ => ⟨fun q => absurd rfl q, fun _ => ⟨fun hq => ?_, fun hq => ?_⟩⟩, fun q => absurd q (by decide)⟩, fun q => absurd q (by decide)⟩, fun q => absurd q (by decide)⟩, fun q => absurd (by decide) q⟩
            · simp only [b_X11_holdsLine_238, x_87_15 h, en_93 h, z_m1, z_nn (show r'.length < 2147483648 by omega)]
              refine ⟨fun _ => ⟨fun _ => ?_, fun q => absurd trivial q⟩, fun q => absurd q (by decide)⟩
              have : ev1 (gA d (σ 92)) 14 (agW W s j) (b :: a :: r') = 0 :: r' := by show (if a + b = 2 then (1 : Int32) else 0) :: r' = _; rw [if_neg hq]
              rw [this] at nx
              exact ⟨vpi (by omega) (by decide), nx _ _ rfl (by show r'.length + 1 ≤ 20; omega) cA (st_rep (st_tail sR3) (gq _ _))⟩
            · simp only [b_X11_holdsLine_238, x_87_15 h, en_93 h, z_m1, z_nn (show r'.length < 2147483648 by omega)]
              refine ⟨fun _ => ⟨fun q => absurd q (by decide), fun _ => ?_⟩, fun q => absurd q (by decide)⟩
              have : ev1 (gA d (σ 92)) 14 (agW W s j) (b :: a :: r') = 1 :: r' := by show (if a + b = 2 then (1 : Int32) else 0) :: r' = _; rw [if_pos hq]
              rw [this] at nx
              exact ⟨vpi (by omega) (by decide), nx _ _ rfl (by show r'.length + 1 ≤ 20; omega) cA (st_rep (st_tail sR3) (gq _ _))⟩
          · refine ⟨fun _ => ⟨fun _ => ⟨vpi (by omega) (by decide), vpi (by omega) (by decide), fun _ => ⟨fun _ => ⟨fun _ => ⟨fun hq => ?_, fun hq => ?_⟩, fun q => absurd q (by decide)⟩, fun q => absurd q (by decide)⟩, fun q => absurd q (by decide)⟩, fun q => absurd q (by decide)⟩, fun q => absurd (by decide) q⟩
            · simp only [b_X11_holdsLine_238, x_87_15 h, en_93 h, z_m1, z_nn (show r'.length < 2147483648 by omega)]
              refine ⟨fun _ => ⟨fun _ => ?_, fun q => absurd trivial q⟩, fun q => absurd q (by decide)⟩
              have : ev1 (gA d (σ 92)) 15 (agW W s j) (b :: a :: r') = 0 :: r' := by show (if 0 < a + b then (1 : Int32) else 0) :: r' = _; rw [if_neg (Int32.not_lt.mpr hq)]
              rw [this] at nx
              exact ⟨vpi (by omega) (by decide), nx _ _ rfl (by show r'.length + 1 ≤ 20; omega) cA (st_rep (st_tail sR3) (gq _ _))⟩
            · simp only [b_X11_holdsLine_238, x_87_15 h, en_93 h, z_m1, z_nn (show r'.length < 2147483648 by omega)]
              refine ⟨fun _ => ⟨fun q => absurd q (by decide), fun _ => ?_⟩, fun q => absurd q (by decide)⟩
              have : ev1 (gA d (σ 92)) 15 (agW W s j) (b :: a :: r') = 1 :: r' := by show (if 0 < a + b then (1 : Int32) else 0) :: r' = _; rw [if_pos (Int32.not_le.mp hq)]
              rw [this] at nx
              exact ⟨vpi (by omega) (by decide), nx _ _ rfl (by show r'.length + 1 ≤ 20; omega) cA (st_rep (st_tail sR3) (gq _ _))⟩
theorem r_summed (h : Env σ E) {s n : Nat} (hs : s = 1 ∨ s = 2) (eW : gA d (σ 88) = W) (t : TW W s n) (hF : gA d (σ 92) 8 = 0 ∨ gA d (σ 92) 8 = 1) (k : ∀ d', Ch σ [93] d d' → K (sumS W s (gA d (σ 92)) n) d') : w_X11_summed E (σ 87) (nI s) d K := by
  have hs4 : s < 4 := by omega
  have hn := t.2.1
  refine ⟨eo_87 h, n + 1, loopG (S := Int32 × Int32 × Dy) (l := fun N z => l_X11_summed_4 E (σ 87) (nI s) K N z.1 z.2.1 z.2.2) (b := fun kk z => b_X11_summed_4 E (σ 87) (nI s) K (fun a b c => kk (a, b, c)) z.1 z.2.1 z.2.2) (fun _ _ => rfl)
    (μ := fun z => n - z.2.1.toNatClampNeg) (P := fun z => ∃ i, i ≤ n ∧ nI i = z.2.1 ∧ sumS W s (gA d (σ 92)) i = z.1 ∧ Ch σ [93] d z.2.2) ?_ n (0, 0, d) ⟨0, by omega, rfl, rfl, Ch_rf⟩ (Nat.sub_le _ _)⟩
  rintro kk ⟨a, v, d3⟩ ⟨i, hi, rfl, rfl, c3⟩ hk
  have c3 : Ch σ [93] d d3 := c3
  have e3 : gA d3 (σ 88) = W := (Ch_A c3 (by decide) (by decide)).trans eW
  have f3 : gA d3 (σ 92) = gA d (σ 92) := Ch_A c3 (by decide) (by decide)
  simp only [b_X11_summed_4, w_X11_textAt, x_text, x_87_1 h, en_88 h, z_nn (show 596 + 851 * s < 2147483648 by omega), e3, t.1]
  refine ⟨vpw (by omega), fun hc => ?_, fun hc => ?_⟩
  · rw [z_le (by omega) (by omega)] at hc
    have : i = n := by omega
    subst this; exact k d3 c3
  · rw [z_le (by omega) (by omega)] at hc
    have hin : i < n := by omega
    have nx : ∀ x (d4 : Dy), x = sumS W s (gA d (σ 92)) (i + 1) → Ch σ [93] d d4 → kk (x, nI i + 1, d4) := fun x d4 hx c4 => by
      rw [z_a1]; exact hk (x, nI (i + 1), d4) ⟨i + 1, by omega, rfl, hx.symm, c4⟩ (by simp only [z_nn (show i + 1 < 2147483648 by omega), z_nn (show i < 2147483648 by omega)]; omega)
    have es : sumS W s (gA d (σ 92)) (i + 1) = if hdS W s i (gA d (σ 92)) = true then sumS W s (gA d (σ 92)) i + sum1 W s (gA d (σ 92)) i else sumS W s (gA d (σ 92)) i := rfl
    refine r_holds h hs4 e3 t hin (fun _ => by rw [f3]; exact hF) (fun d4 c4 => ?_)
    rw [f3]
    have e4 : gA d4 (σ 88) = W := (Ch_A c4 (by decide) (by decide)).trans e3
    have f4 : gA d4 (σ 92) = gA d (σ 92) := (Ch_A c4 (by decide) (by decide)).trans f3
    refine ⟨fun h0 => ?_, fun h0 => nx _ _ ?_ (Ch_tr c3 c4)⟩
    · rw [b2i_1] at h0
      rw [if_pos h0] at es
      obtain ⟨-, hl⟩ := t.2.2 i hin
      rw [if_neg (by omega), if_neg (by omega)] at hl
      obtain ⟨l1, l2, l3⟩ := hl
      have a1 : nI (597 + 851 * s + 5 * i) + 1 = nI (598 + 851 * s + 5 * i) := by rw [show (1 : Int32) = nI 1 from rfl, z_add]; congr 1; omega
      have a2 : nI (597 + 851 * s + 5 * i) + 2 = nI (599 + 851 * s + 5 * i) := by rw [show (2 : Int32) = nI 2 from rfl, z_add]; congr 1; omega
      simp only [w_X11_lineAt, w_X11_textAt, x_line, x_87_1 h, x_87_14 h, en_88 h, en_92 h, a1, a2, z_nn (show 598 + 851 * s + 5 * i < 2147483648 by omega), z_nn (show 599 + 851 * s + 5 * i < 2147483648 by omega), e4, f4]
      have last : ∀ z, sum1 W s (gA d (σ 92)) i = (if W (597 + 851 * s + 5 * i) = 4 then W (598 + 851 * s + 5 * i) * z else -(W (598 + 851 * s + 5 * i) * z)) → b_X11_summed_75 E (σ 87) (nI s) K (fun a b c => kk (a, b, c)) (sumS W s (gA d (σ 92)) i) (nI i) (nI (597 + 851 * s + 5 * i)) (W (598 + 851 * s + 5 * i)) z d4 := fun z hz => by
        simp only [b_X11_summed_75, x_87_1 h, en_88 h, z_nn (show 597 + 851 * s + 5 * i < 2147483648 by omega), e4]
        refine ⟨vpw (by omega), fun h1 => nx _ _ ?_ (Ch_tr c3 c4), fun h1 => nx _ _ ?_ (Ch_tr c3 c4)⟩
        · rw [es, hz, if_neg h1]
        · rw [es, hz, if_pos h1]
      refine ⟨vpw (by omega), vpw (by omega), fun h1 => ⟨vpw (by omega), ?_, last _ ?_⟩, fun h1 => last _ ?_⟩
      · rcases l3 with l3 | ⟨m, hm, l3, -⟩
        · rw [l3] at h1; exact absurd h1 (by decide)
        · rw [l3]; exact vpi (by omega) (by decide)
      · unfold sum1; simp only [if_pos h1]
      · unfold sum1; simp only [if_neg h1]
    · rw [b2i_0] at h0; rw [es, if_neg (by rw [h0]; decide)]
end
