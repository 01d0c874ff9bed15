/-! texts: the new text -/
theorem tx_made {σ : Nat → Nat} {E : En} {d : Dy} {W : Nat → Int32} {s q tl tb tc : Nat} {ls : List Ln} {c : Cd} (hne : ∀ i, i < 116 → q ≠ σ i ∧ tl ≠ σ i ∧ tb ≠ σ i ∧ tc ≠ σ i) (o : okO E q 7) (r0 : eR E q 0 = some tl) (r1 : eR E q 1 = some tc) (te : TE E tl tb 5 ls.length) (td : TD d tl 5 ls.length ls.length) (oc : okA E tc 13) (nc : eN E tc = c.length) (hc : c.length ≤ 400) (hl : ls.length ≤ 10) (wn : W (596 + 851 * s) = nI ls.length) (lo : ∀ l ∈ ls, lnO s c l) (co : cdok c) (cr : ∀ i l, ls[i]? = some l → lrC s (gA d tb) (i * 5) l) (wr : ∀ i l, ls[i]? = some l → W (597 + 851 * s + 5 * i) = l.1.1 ∧ W (597 + 851 * s + 5 * i + 1) = l.1.2.1 ∧ W (597 + 851 * s + 5 * i + 2) = l.1.2.2 ∧ W (597 + 851 * s + 5 * i + 3) = nI l.2.1 ∧ W (597 + 851 * s + 5 * i + 4) = nI l.2.2) (cc : ∀ i x, c[i]? = some x → gA d tc i = stp (nI x.1) (nI x.2)) (wc : ∀ i x, c[i]? = some x → W (647 + 851 * s + 2 * i) = nI x.1 ∧ W (648 + 851 * s + 2 * i) = nI x.2) : TX σ E d q W s := by
  refine ⟨tl, tb, tc, ls.length, c.length, hne, o, r0, r1, te, td, oc, nc, hc, hl, wn, fun i hi => ?_, fun i hi => ?_, fun i f t hi hf ht bf bt => ?_⟩
  · have e : ls[i]? = some ls[i] := List.getElem?_eq_getElem hi
    obtain ⟨w0, w1, w2, w3, w4⟩ := wr i _ e
    obtain ⟨rh, r3, r4⟩ := cr i _ e
    obtain ⟨ho, l1, l2, -⟩ := lo _ (List.getElem_mem hi)
    unfold LnR
    refine ⟨?_, r3.trans w3.symm, r4.trans w4.symm, _, _, w3, w4, l1, l2⟩
    unfold lrH at rh
    unfold hdO at ho
    rw [w0, w1, w2]
    by_cases s0 : s = 0
    · rw [if_pos s0] at rh ho ⊢; exact ⟨rh, ho⟩
    · rw [if_neg s0] at rh ho ⊢
      by_cases s3 : s = 3
      · rw [if_pos s3] at rh ho ⊢; exact ⟨rh, ho⟩
      · rw [if_neg s3] at rh ho ⊢; exact ⟨rh.1, rh.2.1, ho.1, rh.2.2, ho.2⟩
  · have e : c[i]? = some c[i] := List.getElem?_eq_getElem hi
    obtain ⟨v1, v2⟩ := wc i _ e
    have ok := co _ (List.getElem_mem hi)
    rw [v1, v2]
    refine ⟨cc i _ e, fun z => ?_⟩
    have z := (z_eq (b := 9) (by omega) (by decide)).mp z
    exact bwNm (m := 9999) (ok.2 z) (by decide)
  · have e : ls[i]? = some ls[i] := List.getElem?_eq_getElem hi
    obtain ⟨w0, w1, w2, w3, w4⟩ := wr i _ e
    obtain ⟨ho, l1, l2, l3⟩ := lo _ (List.getElem_mem hi)
    have ef : ls[i].2.1 = f := (z_eq (by omega) bf).mp (w3.symm.trans (by rw [show 597 + 851 * s + 5 * i + 3 = 600 + 851 * s + 5 * i by omega]; exact hf))
    have et : ls[i].2.2 = t := (z_eq (by omega) bt).mp (w4.symm.trans (by rw [show 597 + 851 * s + 5 * i + 4 = 601 + 851 * s + 5 * i by omega]; exact ht))
    rw [ef, et] at l3
    rw [ef, et] at l1
    rw [et] at l2
    rcases l3 with l3 | l3
    · exact Or.inl l3
    · refine Or.inr ?_
      have ln : ((c.drop f).take (t - f)).length = t - f := by rw [List.length_take, List.length_drop]; omega
      rw [← l3, ← chk_L s (fun j => W (647 + 851 * s + 2 * j)) ((c.drop f).take (t - f)) f [] (fun j y hy => ?_), ln]
      rw [List.getElem?_take] at hy
      split at hy
      · rw [List.getElem?_drop] at hy; exact (wc (f + j) y hy).1
      · exact nomatch hy
