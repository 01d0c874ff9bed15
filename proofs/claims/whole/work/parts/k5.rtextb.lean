section
variable {σ : Nat → Nat} {E : En} {d d' : Dy} {B : Nat → Nat} {tl s : Nat} {K : Int32 → Dy → Prop}
/-- the world behind a text that was taken -/
def txW (W W' : Nat → Int32) (s : Nat) (ls : List Ln) (c : Cd) : Prop := W' (10 + s) = 1 ∧ (∀ j, j < 4000 → j ≠ 10 + s → ¬ (596 + 851 * s ≤ j ∧ j < 596 + 851 * s + 851) → W' j = W j) ∧ W' (596 + 851 * s) = nI ls.length ∧ (∀ i l, ls[i]? = some l → W' (597 + 851 * s + 5 * i) = l.1.1 ∧ W' (597 + 851 * s + 5 * i + 1) = l.1.2.1 ∧ W' (597 + 851 * s + 5 * i + 2) = l.1.2.2 ∧ W' (597 + 851 * s + 5 * i + 3) = nI l.2.1 ∧ W' (597 + 851 * s + 5 * i + 4) = nI l.2.2) ∧ (∀ i x, c[i]? = some x → W' (647 + 851 * s + 2 * i) = nI x.1 ∧ W' (648 + 851 * s + 2 * i) = nI x.2)
theorem r_text (h : Env σ E) (t5 : gI d (σ 87) 5 = nI tl) (htl : tl ≤ 400) (hB : ∀ k, B k < 256) (hs : s < 4) (tp : ∀ k, k < tl → gA d (σ 90) k = sx (nI (B k)))
    (kF : ∀ bb d', pTx B tl s = (bb, none) → Ch σ [87, 88] (pI (pI d (σ 87) 5 0) (σ 87) 10 (nI bb)) d' → gI d' (σ 87) 0 = 1 → (∀ k, k < 4000 → gA d' (σ 88) k = gA d (σ 88) k) → K 0 d')
    (kS : ∀ bb ls c d', pTx B tl s = (bb, some (ls, c)) → Ch σ [87, 88] (pI (pI d (σ 87) 5 0) (σ 87) 10 (-1)) d' → gI d' (σ 87) 0 = 0 → txW (gA d (σ 88)) (gA d' (σ 88)) s ls c → K (nI ls.length) d') : w_X11_text E (σ 87) (nI s) d K := by
  refine ⟨eo_87 h, ri1 ⟨z_pos (by omega), fun q => by have := (z_lt (a := 3) (by decide) (by omega)).mp q; omega⟩ ⟨fun _ => ⟨eo_87 h, rt0 h ⟨fun _ => ?_, fun w => absurd rfl w⟩⟩, fun w => absurd w (by decide)⟩⟩
  have e7 : gI (pI d (σ 87) 0 0) (σ 87) 5 = nI tl := by rw [gI_pI_k _ _ _ (by decide)]; exact t5
  rw [e7]
  have c0 : Ch σ [87, 88] (pI d (σ 87) 5 0) (pI (pI (pI (pI (pI (pI d (σ 87) 0 0) (σ 87) 7 (nI tl)) (σ 87) 5 0) (σ 87) 6 0) (σ 87) 12 0) (σ 87) 13 (nI s)) := by
    refine Ch_tr (Ch_both (k := 5) (v := 0) h (Ch_tr (Ch_pI (i := 87) (k := 0) (v := 0) h (by decide) (by decide) (by decide)) (Ch_pI (i := 87) (k := 7) (v := nI tl) h (by decide) (by decide) (by decide))) (by decide) (by decide)) (Ch_tr (Ch_tr (Ch_pI h (by decide) (by decide) (by decide)) (Ch_pI h (by decide) (by decide) (by decide))) (Ch_pI h (by decide) (by decide) (by decide)))
  have rf : rfP σ (pI (pI (pI (pI (pI (pI d (σ 87) 0 0) (σ 87) 7 (nI tl)) (σ 87) 5 0) (σ 87) 6 0) (σ 87) 12 0) (σ 87) 13 (nI s)) B tl s := by
    refine ⟨htl, hB, hs, ?_, gI_pI _ _ _ _, tp⟩
    rw [gI_pI_k _ _ _ (by decide), gI_pI_k _ _ _ (by decide), gI_pI_k _ _ _ (by decide), gI_pI_k _ _ _ (by decide), gI_pI]
  have g0 : gI (pI (pI (pI (pI (pI (pI d (σ 87) 0 0) (σ 87) 7 (nI tl)) (σ 87) 5 0) (σ 87) 6 0) (σ 87) 12 0) (σ 87) 13 (nI s)) (σ 87) 6 = nI 0 := by
    rw [gI_pI_k _ _ _ (by decide), gI_pI_k _ _ _ (by decide), gI_pI]; rfl
  have g12 : gI (pI (pI (pI (pI (pI (pI d (σ 87) 0 0) (σ 87) 7 (nI tl)) (σ 87) 5 0) (σ 87) 6 0) (σ 87) 12 0) (σ 87) 13 (nI s)) (σ 87) 12 = nI 0 := by
    rw [gI_pI_k _ _ _ (by decide), gI_pI]; rfl
  have w0 : gA (pI (pI (pI (pI (pI (pI d (σ 87) 0 0) (σ 87) 7 (nI tl)) (σ 87) 5 0) (σ 87) 6 0) (σ 87) 12 0) (σ 87) 13 (nI s)) (σ 88) = gA d (σ 88) := rfl
  have t0 : gI (pI (pI (pI (pI (pI (pI d (σ 87) 0 0) (σ 87) 7 (nI tl)) (σ 87) 5 0) (σ 87) 6 0) (σ 87) 12 0) (σ 87) 13 (nI s)) (σ 87) 0 = 0 := by
    rw [gI_pI_k _ _ _ (by decide), gI_pI_k _ _ _ (by decide), gI_pI_k _ _ _ (by decide), gI_pI_k _ _ _ (by decide), gI_pI_k _ _ _ (by decide), gI_pI]
  generalize pI (pI (pI (pI (pI (pI d (σ 87) 0 0) (σ 87) 7 (nI tl)) (σ 87) 5 0) (σ 87) 6 0) (σ 87) 12 0) (σ 87) 13 (nI s) = d1 at c0 rf g0 g12 w0 t0
  have sh := fun bb ls c => sh_Tx (B := B) (s := s) htl (b1 := bb) (ls' := ls) (c' := c)
  have ty := fun bb ls c => ty_Tx (tl := tl) (s := s) hB (b1 := bb) (ls' := ls) (c' := c)
  refine r_readAll h rf g0 g12 ?_
  revert kF kS sh ty
  generalize pTx B tl s = w
  obtain ⟨bb, q⟩ := w
  intro kF kS sh ty d2 y2
  cases q with
  | none =>
    refine ⟨fun _ g8 => ⟨fun w => absurd w (by decide), fun _ => ⟨eo_87 h, fun w => absurd w (by decide), fun _ => ⟨eo_87 h, rt1 h ⟨fun w => absurd w (by decide), fun _ => ?_⟩⟩⟩⟩, fun ls' c' hq => (nomatch hq)⟩
    rw [g8]
    refine kF bb _ rfl (Ch_tr (Ch_both h (Ch_tr c0 y2.1) (by decide) (by decide)) (Ch_pI h (by decide) (by decide) (by decide))) (gI_pI _ _ _ _) (fun k hk => ?_)
    rw [gA_pI, gA_pI, y2.2.1 k (by omega), w0]
  | some q =>
    obtain ⟨ls, c⟩ := q
    refine ⟨fun w => (nomatch w), fun ls' c' hq rc rl => ?_⟩
    cases hq
    obtain ⟨-, -, hl, -⟩ := ty bb ls c rfl
    have hc := sh bb ls c rfl
    have nn : (0 : Int32) ≤ nI ls.length := Int32.not_lt.mp (z_pos (by omega))
    refine ⟨fun _ => ⟨eo_87 h, fun _ => ⟨eo_87 h, rt0 h ⟨fun _ => ?_, fun w => absurd rfl w⟩⟩, fun w => absurd nn w⟩, fun w => absurd nn w⟩
    refine (x_87_1 h).mpr ?_
    show vp_in (nI 4000) (eN E (σ 88)) ∧ ∃ N, l_X11_text_109 E (σ 87) (nI s) K N (nI ls.length) 0 (pA (pI d2 (σ 87) 10 (-1)) (σ 88) (nI 4000).toNatClampNeg (nI ls.length))
    rw [en_88 h, z_nn (by decide)]
    have w3 : ∀ j, gA (pA (pI d2 (σ 87) 10 (-1)) (σ 88) 4000 (nI ls.length)) (σ 88) j = if j = 4000 then nI ls.length else gA d2 (σ 88) j := fun j => w_pA
    have c3 : Ch σ [87, 88] (pI (pI d (σ 87) 5 0) (σ 87) 10 (-1)) (pA (pI d2 (σ 87) 10 (-1)) (σ 88) 4000 (nI ls.length)) := Ch_tr (Ch_both h (Ch_tr c0 y2.1) (by decide) (by decide)) (Ch_pA h (by decide) (by decide))
    have z3 : gI (pA (pI d2 (σ 87) 10 (-1)) (σ 88) 4000 (nI ls.length)) (σ 87) 0 = gI d2 (σ 87) 0 := gI_pI_k _ _ _ (by decide)
    generalize pA (pI d2 (σ 87) 10 (-1)) (σ 88) 4000 (nI ls.length) = d3 at w3 c3 z3
    refine ⟨vpi (by decide) (by decide), r_copyT h hs (fun d' c' w' => kS bb ls c d' rfl (Ch_tr c3 (Ch_w c' (by decide))) (by rw [Ch_I c' (by decide) (by decide), z3, y2.2.2, t0]) ⟨?_, fun j h1 h2 h3 => ?_, ?_, fun i l hi => ?_, fun i x hi => ?_⟩)⟩
    · rw [w', if_pos rfl]
    · rw [w', if_neg h2, if_neg h3, w3, if_neg (by omega), y2.2.1 j (by omega), w0]
    · rw [w', if_neg (by omega), if_pos (by omega), w3, if_pos (by omega)]
    · have il : i < ls.length := (List.getElem?_eq_some_iff.mp hi).1
      obtain ⟨u0, u1, u2, u3, u4⟩ := rl i l hi
      have g : ∀ k, k < 5 → gA d' (σ 88) (597 + 851 * s + 5 * i + k) = gA d2 (σ 88) (4001 + 5 * i + k) := fun k hk => by
        rw [w', if_neg (by omega), if_pos (by omega), w3, if_neg (by omega)]; congr 1; omega
      exact ⟨(g 0 (by decide)).trans u0, (g 1 (by decide)).trans u1, (g 2 (by decide)).trans u2, (g 3 (by decide)).trans u3, (g 4 (by decide)).trans u4⟩
    · have il : i < c.length := (List.getElem?_eq_some_iff.mp hi).1
      obtain ⟨u0, u1⟩ := rc.2 i x hi
      have g : ∀ k, k < 2 → gA d' (σ 88) (647 + 851 * s + 2 * i + k) = gA d2 (σ 88) (4051 + 2 * i + k) := fun k hk => by
        rw [w', if_neg (by omega), if_pos (by omega), w3, if_neg (by omega)]; congr 1; omega
      refine ⟨(g 0 (by decide)).trans u0, ?_⟩
      rw [show 648 + 851 * s + 2 * i = 647 + 851 * s + 2 * i + 1 by omega, g 1 (by decide), show 4051 + 2 * i + 1 = 4052 + 2 * i by omega]; exact u1
end
