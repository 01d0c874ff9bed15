theorem take_succ' {l : List Nat} {i : Nat} (h : i < l.length) : l.take (i + 1) = l.take i ++ [l.getD i 0] := by
  rw [List.take_succ, getD_lt h, List.getElem?_eq_getElem h]; rfl
section
variable {σ : Nat → Nat} {E : En} {d d' d2 d3 : Dy} {kc : En → Dy → Prop} {v4 : Int32} {xs : Nat → Int32} {L : Nat}
def pf (W : Nat → Int32) (p : Int32) (s : Int32 × Int32) (e : Nat) : Int32 × Int32 :=
  if W (444 + 3 * e) = p then (s.1 + (if s.2 = -1 ∨ s.2 = W (446 + 3 * e) then 0 else 1), W (446 + 3 * e)) else s
theorem pf_c {W : Nat → Int32} {p : Int32} {n : Nat} (ok : ∀ e, e < n → ¬ W (446 + 3 * e) < 0) : ∀ (l : List Nat) (s : Int32 × Int32), (∀ e ∈ l, e < n) → (s.2 = -1 ∨ ¬ s.2 < 0) → ((l.foldl (pf W p) s).2 = -1 ∨ ¬ (l.foldl (pf W p) s).2 < 0)
  | [], _, _, h => h
  | e :: l, s, hl, h => by
    refine pf_c ok l _ (fun x hx => hl x (List.mem_cons_of_mem _ hx)) ?_
    unfold pf
    split
    · exact Or.inr (ok e (hl e List.mem_cons_self))
    · exact h
theorem upto_lt {y : Nat → Int32} {n Y e : Nat} (h : e ∈ upto y n Y) : e < n := (ordr_mem y n e).mp (List.mem_filter.mp h).1
theorem inY_lt {y : Nat → Int32} {n Y e i : Nat} (h : e ∈ (List.range i).filter (fun e => decide ((y e).toNatClampNeg = Y))) (hi : i ≤ n) : e < n := by
  have := List.mem_range.mp (List.mem_filter.mp h).1; omega
theorem p_painted (I : Inv σ E d) (p : Int32) (k : ∀ E' d', Inv σ E' d' → kc E' d') {K : Int32 → Dy → Prop} (hK : ∀ v d2, w_X11_painted E (σ 87) p d2 (fun r d => cmpO σ E kc v r d) → K v d2) : w_L_painted E (σ 0) p (σ 115) d K := by
  have h := I.1
  have td := td_18 I
  have tdh := td_4 I
  have wc := wc_7 I
  have wch := wc_1 I
  have tr : ∀ j, j < cnt (gA d (σ 88)) 7 → ∀ c, c < 3 → gA d (σ 19) (j * 3 + cmI 8 c) = gA d (σ 88) (444 + 3 * roI (gA d (σ 88)) 8 j + c) := (I.2.2.1.2.1.2 8 (by decide)).2
  have ok : ∀ r, r < cnt (gA d (σ 88)) 7 → bw (gA d (σ 88) (444 + 3 * r + 1)) 1900 2099 ∧ bw (gA d (σ 88) (444 + 3 * r + 2)) 0 7 := fun r hr => (ok_18 I hr).2
  have hro : ∀ j, roI (gA d (σ 88)) 8 j = (ordr (kyI (gA d (σ 88)) 8) (cnt (gA d (σ 88)) 7)).getD j 0 := fun j => rfl
  have hky : ∀ e, kyI (gA d (σ 88)) 8 e = gA d (σ 88) (444 + 3 * e + 1) := fun e => rfl
  generalize hn : cnt (gA d (σ 88)) 7 = n at td wc tr ok hro
  generalize hnh : cnt (gA d (σ 88)) 1 = nh at tdh wch
  generalize hW : gA d (σ 88) = W at *
  generalize hy : kyI W 8 = ky at *
  have hnb := td.2.2.2
  have hnhb := tdh.2.2.2
  have hl : (ordr ky n).length = n := ordr_len ky n
  have kyn : ∀ e, e < n → ∃ m, 1900 ≤ m ∧ m ≤ 2099 ∧ ky e = nI m := fun e he => by
    have := bw_n (a := 1900) (b := 2099) (ok e he).1 (by decide) (by decide)
    rw [hky]; exact this
  have okc : ∀ e, e < n → ¬ W (446 + 3 * e) < 0 := fun e he => by have := (ok e he).2.1; rwa [show 444 + 3 * e + 2 = 446 + 3 * e by omega] at this
  by_cases b : lx p nh
  · obtain ⟨res, hres⟩ : ∃ res, res = ((ordr ky n).foldl (pf W p) (0, -1)).1 := ⟨_, rfl⟩
    have cls : ∀ {K1 : Int32 → Dy → Prop} {X}, K1 res d → w_X10_painted E (σ 0) p d K1 X := by
      intro K1 X k1
      refine ⟨eo_0 h, nh1 h tdh b ?_⟩
      refine ⟨n + 1, loopG (S := Int32 × Int32 × Int32 × Dy) (l := fun N s => l_X10_painted_12 E (σ 0) p K1 X N s.1 s.2.1 s.2.2.1 s.2.2.2) (b := fun kk s => b_X10_painted_12 E (σ 0) p K1 X (fun a b c e => kk (a, b, c, e)) s.1 s.2.1 s.2.2.1 s.2.2.2) (fun _ _ => rfl)
        (μ := fun s => n - s.2.2.1.toNatClampNeg) (P := fun s => d = s.2.2.2 ∧ ∃ i, i ≤ n ∧ nI i = s.2.2.1 ∧ ((ordr ky n).take i).foldl (pf W p) (0, -1) = (s.1, s.2.1)) ?_ n (0, -1, 0, d) ⟨rfl, 0, by omega, rfl, rfl⟩ (Nat.sub_le _ _)⟩
      rintro kk ⟨a, c, v, d3⟩ ⟨rfl, i, h1, rfl, h2⟩ hk
      have h2 : ((ordr ky n).take i).foldl (pf W p) (0, -1) = (a, c) := h2
      simp only [b_X10_painted_12, x_0_0 h, x_1_9 h]
      refine T_size (te_18 h) td ⟨fun hc => ?_, fun hc => ?_⟩
      · rw [z_le (by omega) (by omega)] at hc
        rw [List.take_of_length_le (by omega)] at h2
        rw [h2] at hres
        rw [← show res = a from hres]; exact k1
      · rw [z_le (by omega) (by omega)] at hc
        have h3 : ((ordr ky n).take (i + 1)).foldl (pf W p) (0, -1) = pf W p (a, c) (roI W 8 i) := by
          rw [take_succ' (by omega), List.foldl_append, h2, hro]; rfl
        have nx : ∀ a' c', (a', c') = pf W p (a, c) (roI W 8 i) → kk (a', c', nI i + 1, d) := fun a' c' hq => by
          rw [z_a1]; exact hk (a', c', nI (i + 1), d) ⟨rfl, i + 1, by omega, rfl, h3.trans hq.symm⟩ (by simp only [z_nn (show i + 1 < 2147483648 by omega), z_nn (show i < 2147483648 by omega)]; omega)
        have e1 : gA d (σ 19) (i * 3 + 1) = W (444 + 3 * roI W 8 i) := tr i (by omega) 0 (by decide)
        have e2 : gA d (σ 19) (i * 3 + 2) = W (446 + 3 * roI W 8 i) := by rw [show 446 + 3 * roI W 8 i = 444 + 3 * roI W 8 i + 2 by omega]; exact tr i (by omega) 2 (by decide)
        refine T_get (c := 1) (te_18 h) td (by omega) (by decide) ?_
        rw [e1]
        refine ⟨fun hq => nx _ _ ?_, fun hq => T_get (c := 2) (te_18 h) td (by omega) (by decide) ?_⟩
        · unfold pf; rw [if_neg hq]
        · rw [e2]
          refine ⟨fun hq2 => nx _ _ ?_, fun hq2 => ⟨fun hq3 => nx _ _ ?_, fun hq3 => nx _ _ ?_⟩⟩
          · unfold pf; rw [if_pos hq, if_pos (Or.inl hq2)]
          · unfold pf; rw [if_pos hq, if_pos (Or.inr hq3)]
          · unfold pf; rw [if_pos hq, if_neg (fun q => q.elim hq2 hq3)]
    refine ⟨eo_0 h, eo_115 h, cls ⟨v0_115 h, hK _ _ ⟨eo_87 h, rhn1 h (by rw [gA_pI_x, gA_pJ_x, hW]; exact wch.1) (by omega) b (rt0 h ⟨fun _ => ?_, fun q => absurd rfl q⟩)⟩⟩⟩
    have fin := q_end (rb := res) I k Ch_rf (ch_thr h) (gI_pI _ _ _ _)
    show ∃ N, l_X11_painted_29 E (σ 87) p _ N 0 (-1) 1900 (pI (pJ d (σ 115) 0 res.toInt64) (σ 87) 0 0)
    have gD : gA (pI (pJ d (σ 115) 0 res.toInt64) (σ 87) 0 0) (σ 88) = W := hW
    generalize pI (pJ d (σ 115) 0 res.toInt64) (σ 87) 0 0 = D at fin gD ⊢
    obtain ⟨N, hN⟩ : ∃ N : Nat, N = 200 := ⟨200, rfl⟩
    refine ⟨N + 1, loopG (S := Int32 × Int32 × Int32 × Dy) (l := fun N s => l_X11_painted_29 E (σ 87) p _ N s.1 s.2.1 s.2.2.1 s.2.2.2) (b := fun kk s => b_X11_painted_29 E (σ 87) p _ (fun a b c e => kk (a, b, c, e)) s.1 s.2.1 s.2.2.1 s.2.2.2) (fun _ _ => rfl)
      (μ := fun s => 2100 - s.2.2.1.toNatClampNeg) (P := fun s => D = s.2.2.2 ∧ ∃ Y, 1900 ≤ Y ∧ Y ≤ 2100 ∧ nI Y = s.2.2.1 ∧ (upto ky n (Y - 1)).foldl (pf W p) (0, -1) = (s.1, s.2.1)) ?_ N (0, -1, 1900, D) ⟨rfl, 1900, by omega, by omega, rfl, ?_⟩ ?_⟩
    · rintro kk ⟨a, c, v, d3⟩ ⟨rfl, Y, h1, h1', rfl, h2⟩ hk
      have h2 : (upto ky n (Y - 1)).foldl (pf W p) (0, -1) = (a, c) := h2
      refine ⟨fun hc => ?_, fun hc => ?_⟩
      · rw [show (2099 : Int32) = nI 2099 from rfl, z_lt (by decide) (by omega)] at hc
        have hY : Y = 2100 := by omega
        subst hY
        rw [upto_all (fun e he => by obtain ⟨m, _, hm, e2⟩ := kyn e he; rw [e2, z_nn (by omega)]; exact hm)] at h2
        rw [h2] at hres
        rw [← show res = a from hres]; exact fin
      · rw [show (2099 : Int32) = nI 2099 from rfl, z_lt (by decide) (by omega)] at hc
        refine ⟨n + 1, loopG (S := Int32 × Int32 × Int32 × Int32 × Dy) (l := fun N s => l_X11_painted_40 E (σ 87) p _ _ N s.1 s.2.1 s.2.2.1 s.2.2.2.1 s.2.2.2.2) (b := fun kk2 s => b_X11_painted_40 E (σ 87) p _ _ (fun a b c e f => kk2 (a, b, c, e, f)) s.1 s.2.1 s.2.2.1 s.2.2.2.1 s.2.2.2.2) (fun _ _ => rfl)
          (μ := fun s => n - s.2.2.2.1.toNatClampNeg) (P := fun s => D = s.2.2.2.2 ∧ nI Y = s.2.2.1 ∧ ∃ i, i ≤ n ∧ nI i = s.2.2.2.1 ∧ ((List.range i).filter (fun e => decide ((ky e).toNatClampNeg = Y))).foldl (pf W p) (a, c) = (s.1, s.2.1)) ?_ n (a, c, nI Y, 0, D) ⟨rfl, rfl, 0, by omega, rfl, rfl⟩ (Nat.sub_le _ _)⟩
        rintro kk2 ⟨a2, c2, vy, v, d3⟩ ⟨rfl, rfl, i, hi, rfl, h3⟩ hk2
        have h3 : ((List.range i).filter (fun e => decide ((ky e).toNatClampNeg = Y))).foldl (pf W p) (a, c) = (a2, c2) := h3
        have e1 : (444 : Int32) + 3 * nI i = nI (444 + 3 * i) := by rw [show (3 : Int32) = nI 3 from rfl, z_mul]; exact z_add 444 _
        have e2 : nI (444 + 3 * i) + 1 = nI (444 + 3 * i + 1) := z_add _ 1
        have e3 : nI (444 + 3 * i) + 2 = nI (446 + 3 * i) := by rw [show 446 + 3 * i = 444 + 3 * i + 2 by omega]; exact z_add _ 2
        simp only [b_X11_painted_40, b_X11_painted_112, b_X11_painted_113, x_87_1 h, en_88 h, qn_7, gD, wc.1, e1, e2, e3, z_nn (show 444 + 3 * i < 2147483648 by omega), z_nn (show 444 + 3 * i + 1 < 2147483648 by omega), z_nn (show 446 + 3 * i < 2147483648 by omega)]
        have hcc : c2 = -1 ∨ ¬ c2 < 0 := by
          have q1 := pf_c (p := p) okc (upto ky n (Y - 1)) (0, -1) (fun e he => upto_lt he) (Or.inl rfl)
          rw [h2] at q1
          have q2 := pf_c (p := p) okc ((List.range i).filter (fun e => decide ((ky e).toNatClampNeg = Y))) (a, c) (fun e he => inY_lt he hi) q1
          rw [h3] at q2; exact q2
        have nx : ∀ a' c', i < n → (a', c') = (if (ky i).toNatClampNeg = Y then pf W p (a2, c2) i else (a2, c2)) → kk2 (a', c', nI Y, nI i + 1, D) := fun a' c' hin hq => by
          rw [z_a1]
          refine hk2 (a', c', nI Y, nI (i + 1), D) ⟨rfl, rfl, i + 1, by omega, rfl, ?_⟩ (by simp only [z_nn (show i + 1 < 2147483648 by omega), z_nn (show i < 2147483648 by omega)]; omega)
          rw [flt_range_succ, List.foldl_append, h3, hq]
          by_cases hy2 : (ky i).toNatClampNeg = Y
          · simp [hy2]
          · simp [hy2]
        refine ⟨vpi (k := 7) (by decide) (by decide), fun hc2 => ?_, fun hc2 => ⟨vpw (by omega), fun hq => ?_, fun hq => ⟨vpw (by omega), fun hq2 => ?_, fun hq2 => ?_⟩⟩⟩
        · rw [z_le (by omega) (by omega)] at hc2
          have hin : i = n := by omega
          subst hin
          rw [z_a1]
          refine hk (a2, c2, nI (Y + 1), D) ⟨rfl, Y + 1, by omega, by omega, rfl, ?_⟩ (by simp only [z_nn (show Y + 1 < 2147483648 by omega), z_nn (show Y < 2147483648 by omega)]; omega)
          obtain ⟨Z, rfl⟩ : ∃ Z, Y = Z + 1 := ⟨Y - 1, by omega⟩
          rw [show Z + 1 + 1 - 1 = Z + 1 by omega, upto_succ (fun e he => by obtain ⟨m, _, hm, e2⟩ := kyn e he; rw [e2]; exact z_pos (by omega)), List.foldl_append]
          rw [show Z + 1 - 1 = Z by omega] at h2
          rw [h2]; exact h3
        · rw [z_le (by omega) (by omega)] at hc2
          refine nx _ _ (by omega) ?_
          split
          · unfold pf; rw [if_neg hq]
          · rfl
        · rw [z_le (by omega) (by omega)] at hc2
          have hyy : (ky i).toNatClampNeg = Y := by rw [hky, hq2, z_nn (by omega)]
          have done : ∀ a', a' = a2 + (if c2 = -1 ∨ c2 = W (446 + 3 * i) then 0 else 1) → kk2 (a', W (446 + 3 * i), nI Y, nI i + 1, D) := fun a' ha => nx _ _ (by omega) (by
            rw [if_pos hyy]; unfold pf; rw [if_pos hq, ha])
          refine ⟨fun hq3 => ⟨vpw (by omega), done _ ?_⟩, fun hq3 => ⟨vpw (by omega), fun hq4 => ⟨vpw (by omega), done _ ?_⟩, fun hq4 => ⟨vpw (by omega), done _ ?_⟩⟩⟩
          · rw [if_pos (Or.inl (hcc.elim id (fun q => absurd hq3 q)))]
          · rw [if_pos (Or.inr hq4)]
          · rw [if_neg (fun q => q.elim (fun q => hq3 (by rw [q]; decide)) hq4)]
        · rw [z_le (by omega) (by omega)] at hc2
          refine nx _ _ (by omega) ?_
          rw [if_neg (fun hyy => hq2 ?_)]
          obtain ⟨m, _, hm, e5⟩ := kyn i (by omega)
          rw [e5, z_nn (by omega)] at hyy
          rw [hky] at e5
          rw [e5, hyy]
    · rw [upto_lo (fun e he => by obtain ⟨m, hm1, hm, e2⟩ := kyn e he; rw [e2, z_nn (by omega)]; omega)]; rfl
    · rw [hN]; show 2100 - (1900 : Int32).toNatClampNeg ≤ 200; decide
  · exact ⟨eo_0 h, eo_115 h, eo_0 h, nh0 h tdh b ⟨rfl, hK _ _ ⟨eo_87 h, rhn0 h (by rw [gA_pI_x, hW]; exact wch.1) (by omega) b (rt1 h ⟨fun q => absurd q (by decide), fun _ => fail_O I (by decide) k⟩)⟩⟩⟩
theorem c_painted (I : Inv σ E d) (hv : v5 v4 L) (k : ∀ E' d', Inv σ E' d' → kc E' d') : lw_2849 E (σ 0) (σ 87) (σ 115) v4 xs L kc d :=
  ⟨eo_0 I.1, eo_87 I.1, eo_115 I.1, hv.1, p_painted I _ k (fun v d2 hk => ⟨hv.1, hk⟩)⟩
end
