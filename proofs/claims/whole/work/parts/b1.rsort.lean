section
variable {σ : Nat → Nat} {E : En} {d d' d2 d3 : Dy} {W : Nat → Int32} {np nh : Nat} {S : RS} {K : Int32 → Dy → Prop} {K0 : Dy → Prop}
/-- the reference's list of events -/
def srR (σ : Nat → Nat) (d : Dy) (l : List Nat) : Prop := gI d (σ 87) 17 = nI l.length ∧ ∀ i, i < l.length → gA d (σ 94) i = nI (l.getD i 0)
def same17 (σ : Nat → Nat) (d d' : Dy) : Prop := ∀ j, j ≠ 17 → gI d' (σ 87) j = gI d (σ 87) j
theorem same17_ch {P : List Nat} (s : same17 σ d d2) (c : Ch σ P d2 d3) (h : 87 ∉ P) : same17 σ d d3 := fun j hj => by rw [Ch_I c (by decide) h]; exact s j hj
theorem srR_ch {P : List Nat} {l : List Nat} (s : srR σ d2 l) (c : Ch σ P d2 d3) (h : 87 ∉ P) (h2 : 94 ∉ P) : srR σ d3 l := by
  unfold srR; rw [Ch_I c (by decide) h, Ch_A c (by decide) h2]; exact s
theorem srR_app (h : Env σ E) {l : List Nat} {e : Nat} (s : srR σ d l) : srR σ (pI (pA d (σ 94) l.length (nI e)) (σ 87) 17 (nI (l.length + 1))) (l ++ [e]) := by
  refine ⟨?_, fun i hi => ?_⟩
  · rw [gI_pI, List.length_append]; rfl
  · rw [gA_pI, gA_pA]
    show (if i = l.length then nI e else gA d (σ 94) i) = _
    rw [List.length_append] at hi
    have hi : i < l.length + 1 := hi
    by_cases q : i = l.length
    · subst q
      rw [if_pos rfl, List.getD_eq_getElem?_getD, List.getElem?_append_right (Nat.le_refl _)]; simp
    · rw [if_neg q, s.2 i (by omega), List.getD_eq_getElem?_getD, List.getD_eq_getElem?_getD, List.getElem?_append_left (by omega)]
theorem evs_le (hW : WI W) {Y : Nat} {kn : Int32} {i : Nat} (hi : i ≤ cnt W 2) (hY : 1900 ≤ Y) : (evs W (Y - 1) kn ++ ((List.range i).filter (fun e => decide (((kyI W 2) e).toNatClampNeg = Y))).filter (fun e => decide (W (125 + 6 * e) ≤ kn))).length ≤ cnt W 2 := by
  obtain ⟨Z, rfl⟩ : ∃ Z, Y = Z + 1 := ⟨Y - 1, by omega⟩
  have hneg : ∀ e, e < cnt W 2 → ¬ kyI W 2 e < 0 := fun e he => by
    obtain ⟨⟨m, _, hm, e2⟩, _⟩ := ev_nums hW he
    show ¬ W (120 + 6 * e) < 0
    rw [e2]; exact z_pos (by omega)
  have h1 : (upto (kyI W 2) (cnt W 2) (Z + 1)).length ≤ cnt W 2 := by
    have := List.length_filter_le (fun e => decide ((kyI W 2 e).toNatClampNeg ≤ Z + 1)) (ordr (kyI W 2) (cnt W 2))
    rw [ordr_len] at this; exact this
  rw [upto_succ hneg, List.length_append] at h1
  rw [List.length_append, show Z + 1 - 1 = Z by omega]
  have h2 := List.length_filter_le (fun e => decide (W (125 + 6 * e) ≤ kn)) (upto (kyI W 2) (cnt W 2) Z)
  have h3 := List.length_filter_le (fun e => decide (W (125 + 6 * e) ≤ kn)) ((List.range i).filter (fun e => decide (((kyI W 2) e).toNatClampNeg = Z + 1)))
  have h4 : ((List.range i).filter (fun e => decide (((kyI W 2) e).toNatClampNeg = Z + 1))).length ≤ (inY (kyI W 2) (cnt W 2) (Z + 1)).length := by
    unfold inY
    exact List.Sublist.length_le (List.Sublist.filter _ (List.range_sublist.mpr hi))
  unfold evs
  omega
theorem r_sorts (h : Env σ E) (g : gW σ d W np nh) {Y : Nat} {kn : Int32} (hY1 : 1900 ≤ Y) (hY2 : Y ≤ 2099) (k : ∀ d', Ch σ [87, 94] d d' → same17 σ d d' → srR σ d' (evs W Y kn) → K0 d') : w_X11_sorts E (σ 87) (nI Y) kn d K0 := by
  obtain ⟨eW, hW, tw, e0, e1, n0, n1, hnp, hnh⟩ := id g
  obtain ⟨wc1, wc2⟩ := hW.1 2 (by decide) (by decide)
  have wc1 : W 2 = nI (cnt W 2) := wc1
  have wc2 : cnt W 2 ≤ 40 := wc2
  generalize hn : cnt W 2 = n at wc1 wc2
  have kyn : ∀ e, e < n → ∃ m, 1900 ≤ m ∧ m ≤ 2099 ∧ kyI W 2 e = nI m := fun e he => (ev_nums hW (by omega)).1
  have c0 : Ch σ [87, 94] d (pI d (σ 87) 17 0) := Ch_pI h (by decide) (by decide) (by decide)
  have s0 : same17 σ d (pI d (σ 87) 17 0) := fun j hj => gI_pI_k _ _ _ hj
  have r0 : srR σ (pI d (σ 87) 17 0) [] := ⟨gI_pI _ _ _ _, fun i hi => absurd hi (Nat.not_lt_zero i)⟩
  unfold w_X11_sorts
  refine ⟨eo_87 h, ?_⟩
  generalize pI d (σ 87) 17 0 = D at c0 s0 r0
  obtain ⟨N, hN⟩ : ∃ N : Nat, N = 200 := ⟨200, rfl⟩
  refine ⟨N + 1, loopG (S := Int32 × Dy) (l := fun N s => l_X11_sorts_9 E (σ 87) (nI Y) kn K0 N s.1 s.2) (b := fun kk s => b_X11_sorts_9 E (σ 87) (nI Y) kn K0 (fun a b => kk (a, b)) s.1 s.2) (fun _ _ => rfl)
    (μ := fun s => 2100 - s.1.toNatClampNeg) (P := fun s => ∃ Z, 1900 ≤ Z ∧ Z ≤ Y + 1 ∧ nI Z = s.1 ∧ Ch σ [87, 94] d s.2 ∧ same17 σ d s.2 ∧ srR σ s.2 (evs W (Z - 1) kn)) ?_ N (1900, D) ⟨1900, by omega, by omega, rfl, c0, s0, ?_⟩ ?_⟩
  · rintro kk ⟨v, d3⟩ ⟨Z, hz1, hz2, rfl, c3, s3, r3⟩ hk
    have c3 : Ch σ [87, 94] d d3 := c3
    have s3 : same17 σ d d3 := s3
    have r3 : srR σ d3 (evs W (Z - 1) kn) := r3
    unfold b_X11_sorts_9
    rw [z_lt (by omega) (by omega)]
    refine ⟨fun hc => ?_, fun hc => ?_⟩
    · have : Z = Y + 1 := by omega
      subst this
      exact k d3 c3 s3 r3
    · refine ⟨n + 1, loopG (S := Int32 × Int32 × Dy) (l := fun N s => l_X11_sorts_17 E (σ 87) (nI Y) kn K0 _ N s.1 s.2.1 s.2.2) (b := fun k2 s => b_X11_sorts_17 E (σ 87) (nI Y) kn K0 _ (fun a b c => k2 (a, b, c)) s.1 s.2.1 s.2.2) (fun _ _ => rfl)
        (μ := fun s => n - s.2.1.toNatClampNeg) (P := fun s => nI Z = s.1 ∧ ∃ i, i ≤ n ∧ nI i = s.2.1 ∧ Ch σ [87, 94] d s.2.2 ∧ same17 σ d s.2.2 ∧ srR σ s.2.2 (evs W (Z - 1) kn ++ ((List.range i).filter (fun e => decide (((kyI W 2) e).toNatClampNeg = Z))).filter (fun e => decide (W (125 + 6 * e) ≤ kn)))) ?_ n (nI Z, 0, d3) ⟨rfl, 0, by omega, rfl, c3, s3, ?_⟩ (Nat.sub_le _ _)⟩
      · rintro k2 ⟨vy, v, d4⟩ ⟨rfl, i, hi, rfl, c4, s4, r4⟩ hk2
        have c4 : Ch σ [87, 94] d d4 := c4
        have s4 : same17 σ d d4 := s4
        have r4 : srR σ d4 (evs W (Z - 1) kn ++ ((List.range i).filter (fun e => decide (((kyI W 2) e).toNatClampNeg = Z))).filter (fun e => decide (W (125 + 6 * e) ≤ kn))) := r4
        have eW4 : gA d4 (σ 88) = W := (Ch_A c4 (by decide) (by decide)).trans eW
        have q2 : (2 : Int32).toNatClampNeg = 2 := rfl
        simp only [b_X11_sorts_17, x_87_1 h, en_88 h, eW4, q2, wc1]
        rw [z_le (by omega) (by omega)]
        refine ⟨vpi (k := 2) (by decide) (by decide), fun hc2 => ?_, fun hc2 => ?_⟩
        · have : i = n := by omega
          subst this
          rw [z_a1]
          refine hk (nI (Z + 1), d4) ⟨Z + 1, by omega, by omega, rfl, c4, s4, ?_⟩ (by simp only [z_nn (show Z + 1 < 2147483648 by omega), z_nn (show Z < 2147483648 by omega)]; omega)
          obtain ⟨X, rfl⟩ : ∃ X, Z = X + 1 := ⟨Z - 1, by omega⟩
          rw [show X + 1 - 1 = X by omega] at r4
          rw [show X + 1 + 1 - 1 = X + 1 by omega]
          unfold evs
          rw [upto_succ (fun e he => by obtain ⟨m, _, hm, e2⟩ := kyn e (by omega); rw [e2]; exact z_pos (by omega)), List.filter_append, hn]
          unfold evs at r4
          rw [hn] at r4
          exact r4
        · have hin : i < n := by omega
          obtain ⟨m, hm1, hm2, em⟩ := kyn i hin
          have nx : ∀ d5, Ch σ [87, 94] d d5 → same17 σ d d5 → srR σ d5 (evs W (Z - 1) kn ++ ((List.range (i + 1)).filter (fun e => decide (((kyI W 2) e).toNatClampNeg = Z))).filter (fun e => decide (W (125 + 6 * e) ≤ kn))) → k2 (nI Z, nI i + 1, d5) := fun d5 c5 s5 r5 => by
            rw [z_a1]
            exact hk2 (nI Z, nI (i + 1), d5) ⟨rfl, i + 1, by omega, rfl, c5, s5, r5⟩ (by simp only [z_nn (show i + 1 < 2147483648 by omega), z_nn (show i < 2147483648 by omega)]; omega)
          refine r_ofEvent (c := 0) h (by omega) (by decide) ?_
          rw [eW4]
          have em : W (120 + 6 * i) = nI m := em
          show (¬ W (120 + 6 * i) = nI Z → _) ∧ (W (120 + 6 * i) = nI Z → _)
          rw [em, z_eq (by omega) (by omega)]
          have hky : ((kyI W 2) i).toNatClampNeg = m := by show (W (120 + 6 * i)).toNatClampNeg = m; rw [em, z_nn (by omega)]
          refine ⟨fun hq => nx d4 c4 s4 ?_, fun hq => r_ofEvent (c := 5) h (by omega) (by decide) ?_⟩
          · rw [flt_range_succ, hky, if_neg (by simpa using hq), List.append_nil]; exact r4
          · rw [eW4, show 120 + 6 * i + 5 = 125 + 6 * i by omega]
            refine ⟨fun hl => ?_, fun hl => nx d4 c4 s4 ?_⟩
            · have hlen := evs_le hW (Y := Z) (kn := kn) (i := i + 1) (by omega) (by omega)
              have et : ((List.range (i + 1)).filter (fun e => decide (((kyI W 2) e).toNatClampNeg = Z))).filter (fun e => decide (W (125 + 6 * e) ≤ kn)) = ((List.range i).filter (fun e => decide (((kyI W 2) e).toNatClampNeg = Z))).filter (fun e => decide (W (125 + 6 * e) ≤ kn)) ++ [i] := by
                rw [flt_range_succ, hky, if_pos (by simpa using hq), List.filter_append]
                congr 1
                simp [hl]
              rw [et, ← List.append_assoc] at hlen
              rw [et, ← List.append_assoc] at nx
              generalize evs W (Z - 1) kn ++ ((List.range i).filter (fun e => decide (((kyI W 2) e).toNatClampNeg = Z))).filter (fun e => decide (W (125 + 6 * e) ≤ kn)) = l at r4 hlen nx
              rw [List.length_append] at hlen
              have hlen : l.length + 1 ≤ cnt W 2 := hlen
              simp only [x_87_16 h, en_94 h, r4.1, gI_pA, z_a1, z_nn (show l.length < 2147483648 by omega)]
              exact ⟨vpi (by omega) (by decide), by
                have := nx _ (Ch_tr c4 (Ch_tr (Ch_pA h (i := 94) (by decide) (by decide)) (Ch_pI h (i := 87) (by decide) (by decide) (by decide)))) (fun j hj => by rw [gI_pI_k _ _ _ hj, gI_pA]; exact s4 j hj) (srR_app h r4 (e := i))
                rw [z_a1] at this; exact this⟩
            · rw [flt_range_succ, hky, if_pos (by simpa using hq), List.filter_append]
              have : List.filter (fun e => decide (W (125 + 6 * e) ≤ kn)) [i] = [] := by simp [hl]
              rw [this, List.append_nil]; exact r4
      · exact (List.append_nil _).symm ▸ r3
  · have : evs W (1900 - 1) kn = [] := by
      unfold evs
      rw [upto_lo (fun e he => by obtain ⟨m, hm1, hm, e2⟩ := kyn e (by omega); rw [e2, z_nn (by omega)]; omega)]; rfl
    rw [this]; exact r0
  · rw [hN]; show 2100 - (1900 : Int32).toNatClampNeg ≤ 200; decide
end
