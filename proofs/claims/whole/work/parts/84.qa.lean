/-! questions that need no replay -/
def refL : List Nat := [87, 91, 92, 93, 94, 95, 96, 97, 98, 99, 100, 101, 102, 103, 104, 105, 106, 107, 108, 109, 110, 111, 112, 113, 114]
theorem i_lt {a b : Int32} : a < b ↔ a.toInt < b.toInt := Int32.lt_iff_toInt_lt
theorem i_le {a b : Int32} : a ≤ b ↔ a.toInt ≤ b.toInt := Int32.le_iff_toInt_le
theorem one_le (x : Int32) : 1 ≤ x ↔ 0 < x := by
  rw [i_lt, i_le, show (1 : Int32).toInt = 1 from rfl, show (0 : Int32).toInt = 0 from rfl]; omega
theorem zero_le' (x : Int32) : 0 ≤ x ↔ ¬ x < 0 := by rw [Int32.not_lt]
section
variable {σ : Nat → Nat} {E : En} {d d' d2 d3 : Dy} {kc : En → Dy → Prop} {v4 : Int32} {xs : Nat → Int32} {L : Nat}
theorem ref_scr : ∀ i ∈ refL, i ∈ scr := by decide
theorem q_end {rb : Int32} (I : Inv σ E d) (k : ∀ E' d', Inv σ E' d' → kc E' d') (c1 : Ch σ scr d d2) (c2 : Ch σ refL (pJ d2 (σ 115) 0 rb.toInt64) d3) (ht : gI d3 (σ 87) 0 = 0) : cmpO σ E kc 0 rb d3 := by
  have h := I.1
  refine tl_out h ht (fun _ => ?_) (k _ _ (Inv_ch I (Ch_tr (Ch_tr c1 (Ch_pJ h (by decide) (by decide))) (Ch_w c2 ref_scr))))
  rw [(c2.1 115 (by decide) (by decide)).2.2, gJ_pJ]; rfl
theorem ch_thr (h : Env σ E) : Ch σ refL d (pI d (σ 87) 0 0) := Ch_pI h (by decide) (by decide) (by decide)
theorem fail_O' (I : Inv σ E d) (c1 : Ch σ scr d d2) {c r : Int32} (hc : c ≠ 0) (k : ∀ E' d', Inv σ E' d' → kc E' d') : cmpO σ E kc c r (pI (pI d2 (σ 87) 0 0) (σ 87) 0 c) :=
  fail_O (Inv_ch I c1) hc k
def hop (q a b : Int32) : Int32 := if q = 0 then (if a < b then b else a) else (if b < a then b else a)
def hlv (q : Int32) (f : Nat → Int32) : Nat → Int32
  | 0 => -1
  | i + 1 => if 0 ≤ hlv q f i then hop q (hlv q f i) (f i) else f i
theorem hlv_pos {q : Int32} {f : Nat → Int32} {n : Nat} (hf : ∀ i, i < n → ¬ f i < 0) : ∀ i, i < n → 0 ≤ hlv q f (i + 1)
  | 0, hi => by
    show 0 ≤ (if 0 ≤ (-1 : Int32) then _ else f 0)
    rw [if_neg (by decide), zero_le']; exact hf 0 hi
  | i + 1, hi => by
    have ih := hlv_pos (q := q) hf i (by omega)
    show 0 ≤ (if 0 ≤ hlv q f (i + 1) then hop q (hlv q f (i + 1)) (f (i + 1)) else f (i + 1))
    rw [if_pos ih]
    have h2 := (zero_le' _).mpr (hf (i + 1) hi)
    unfold hop
    split <;> split <;> assumption
theorem p_howLong (I : Inv σ E d) (x q : Int32) (k : ∀ E' d', Inv σ E' d' → kc E' d') {K : Int32 → Dy → Prop} (hK : ∀ v d2, w_X11_howLong E (σ 87) x q d2 (fun r d => cmpO σ E kc v r d) → K v d2) : w_L_howLong E (σ 0) x q (σ 115) d K := by
  have h := I.1
  have td := td_10 I
  have wc := wc_8 I
  have tv : ∀ r, r < cnt (gA d (σ 88)) 8 → gA d (σ 11) (r * 1 + 0) = gA d (σ 88) (504 + r) := fun r hr => by have := tv_10 I hr (c := 0) (by decide); rwa [Nat.one_mul, Nat.add_zero] at this
  have ok : ∀ r, r < cnt (gA d (σ 88)) 8 → ¬ gA d (σ 88) (504 + r) < 0 := fun r hr => by have := (ok_10 I hr).1; simpa using this
  generalize hn : cnt (gA d (σ 88)) 8 = n at td wc tv ok
  have hnb := td.2.2.2
  have hf := hlv_pos (q := q) ok
  generalize hF : hlv q (fun i => gA d (σ 88) (504 + i)) = F at hf
  have F0 : F 0 = -1 := by rw [← hF]; rfl
  have FS : ∀ i, F (i + 1) = if 0 ≤ F i then hop q (F i) (gA d (σ 88) (504 + i)) else gA d (σ 88) (504 + i) := fun i => by rw [← hF]; rfl
  by_cases b : bw x 1 10
  · obtain ⟨res, hres⟩ : ∃ res, res = if 0 < F n then ((x + F n) - 1) / F n else -1 := ⟨_, rfl⟩
    have cls : ∀ {K1 : Int32 → Dy → Prop} {X}, K1 res d → w_X10_howLong E (σ 0) x q d K1 X := by
      intro K1 X k1
      simp only [w_X10_howLong, x_0_0 h, x_1_5 h]
      refine ⟨eo_0 h, nb1 b ?_⟩
      have lp : ∀ i, 1 ≤ i → (i ≤ n ∨ n = 0 ∧ i = 1) → ∀ a, (n = 0 → a = 0) → (0 < n → a = F i) → ∃ N, l_X10_howLong_23 E (σ 0) x q K1 X N a (nI i) d := by
        intro i hi1 hi2 a ha0 ha1
        refine ⟨n + 1, loopG (S := Int32 × Int32 × Dy) (l := fun N s => l_X10_howLong_23 E (σ 0) x q K1 X N s.1 s.2.1 s.2.2) (b := fun kk s => b_X10_howLong_23 E (σ 0) x q K1 X (fun a b c => kk (a, b, c)) s.1 s.2.1 s.2.2) (fun _ _ => rfl)
          (μ := fun s => n - s.2.1.toNatClampNeg) (P := fun s => d = s.2.2 ∧ ∃ i, 1 ≤ i ∧ (i ≤ n ∨ n = 0 ∧ i = 1) ∧ nI i = s.2.1 ∧ (n = 0 → s.1 = 0) ∧ (0 < n → s.1 = F i)) ?_ n (a, nI i, d) ?_ (Nat.sub_le _ _)⟩
        · rintro kk ⟨a, v, d3⟩ ⟨rfl, i, h1, h2, rfl, h3, h4⟩ hk
          have h3 : n = 0 → a = 0 := h3
          have h4 : 0 < n → a = F i := h4
          simp only [b_X10_howLong_23, x_0_0 h, x_1_5 h]
          refine T_size (te_10 h) td ⟨fun hc => ?_, fun hc => ?_⟩
          · rw [z_le (by omega) (by omega)] at hc
            by_cases hn0 : n = 0
            · have : res = -1 := by rw [hres, hn0, F0]; rfl
              rw [h3 hn0]
              exact ⟨fun q => absurd q (by decide), fun _ => this ▸ k1⟩
            · have hin : i = n := by omega
              rw [h4 (by omega), hin]
              refine ⟨fun hq => ⟨fun h0 => ?_, ?_⟩, fun hq => ?_⟩
              · rw [h0] at hq; exact absurd hq (by decide)
              · rw [one_le] at hq; rw [if_pos hq] at hres; rw [← hres]; exact k1
              · rw [one_le] at hq; rw [if_neg hq] at hres; rw [← hres]; exact k1
          · rw [z_le (by omega) (by omega)] at hc
            have e := FS i
            rw [if_pos (by have := hf (i - 1) (by omega); rwa [show i - 1 + 1 = i by omega] at this)] at e
            have nx : ∀ y, y = F (i + 1) → kk (y, nI i + 1, d) := fun y hy => by
              rw [z_a1]; exact hk (y, nI (i + 1), d) ⟨rfl, i + 1, by omega, by omega, rfl, fun q => by omega, fun _ => hy⟩ (by simp only [z_nn (show i + 1 < 2147483648 by omega), z_nn (show i < 2147483648 by omega)]; omega)
            refine T_get (c := 0) (te_10 h) td (by omega) (by decide) ?_
            rw [tv i (by omega), h4 (by omega)]
            refine ⟨fun hq => nx _ ?_, fun hq => nx _ ?_⟩
            · rw [e, hop, if_pos hq]
            · rw [e, hop, if_neg hq]
        · exact ⟨rfl, i, hi1, by omega, rfl, ha0, ha1⟩
      by_cases hn0 : n = 0
      · refine T_get0 (r := 0) (te_10 h) td (by omega) (by decide) (by decide) (lp 1 (by omega) (Or.inr ⟨hn0, rfl⟩) 0 (fun _ => rfl) (fun q => by omega))
      · refine T_get (r := 0) (c := 0) (te_10 h) td (by omega) (by decide) (lp 1 (by omega) (by omega) _ (fun q => absurd q hn0) (fun _ => ?_))
        rw [tv 0 (by omega), FS 0, F0, if_neg (by decide)]
    refine ⟨eo_0 h, eo_115 h, cls ⟨v0_115 h, hK _ _ ⟨eo_87 h, ri1 b ⟨fun _ => ⟨eo_87 h, rt0 h ⟨fun _ => ?_, fun q => absurd rfl q⟩⟩, fun q => absurd q (by decide)⟩⟩⟩⟩
    have fin := q_end (rb := res) I k Ch_rf (ch_thr h) (gI_pI _ _ _ _)
    generalize hD : pI (pJ d (σ 115) 0 res.toInt64) (σ 87) 0 0 = D at fin
    have gD : gA D (σ 88) = gA d (σ 88) := by rw [← hD]; rfl
    show ∃ N, l_X11_howLong_35 E (σ 87) x q _ N (-1) 0 (pI (pJ d (σ 115) 0 res.toInt64) (σ 87) 0 0)
    rw [hD]
    refine ⟨n + 1, loopG (S := Int32 × Int32 × Dy) (l := fun N s => l_X11_howLong_35 E (σ 87) x q _ N s.1 s.2.1 s.2.2) (b := fun kk s => b_X11_howLong_35 E (σ 87) x q _ (fun a b c => kk (a, b, c)) s.1 s.2.1 s.2.2) (fun _ _ => rfl)
      (μ := fun s => n - s.2.1.toNatClampNeg) (P := fun s => D = s.2.2 ∧ ∃ i, i ≤ n ∧ nI i = s.2.1 ∧ s.1 = F i) ?_ n (-1, 0, D) ⟨rfl, 0, by omega, rfl, F0.symm⟩ (Nat.sub_le _ _)⟩
    rintro kk ⟨a, v, d3⟩ ⟨rfl, i, h1, rfl, rfl⟩ hk
    have e1 : (504 : Int32) + nI i = nI (504 + i) := z_add 504 i
    simp only [b_X11_howLong_35, x_87_1 h, en_88 h, qn_8, gD, wc.1, e1, z_nn (show 504 + i < 2147483648 by omega)]
    have nx : ∀ y, y = F (i + 1) → i < n → kk (y, nI i + 1, D) := fun y hy hin => by
      rw [z_a1]; exact hk (y, nI (i + 1), D) ⟨rfl, i + 1, by omega, rfl, hy⟩ (by simp only [z_nn (show i + 1 < 2147483648 by omega), z_nn (show i < 2147483648 by omega)]; omega)
    refine ⟨vpi (k := 8) (by decide) (by decide), fun hc => ?_, fun hc => ⟨vpw (by omega), fun hq => ?_, fun hq => ?_⟩⟩
    · rw [z_le (by omega) (by omega)] at hc
      have hin : i = n := by omega
      subst hin
      refine ⟨fun hq => ⟨fun h0 => ?_, ?_⟩, fun hq => ?_⟩
      · rw [h0] at hq; exact absurd hq (by decide)
      · rw [if_pos hq] at hres; rw [← hres]; exact fin
      · rw [if_neg hq] at hres; rw [← hres]; exact fin
    · rw [z_le (by omega) (by omega)] at hc
      have e := FS i
      rw [if_pos hq] at e
      refine ⟨fun hq2 => nx _ ?_ (by omega), fun hq2 => nx _ ?_ (by omega)⟩
      · rw [e, hop, if_pos hq2]
      · rw [e, hop, if_neg hq2]
    · rw [z_le (by omega) (by omega)] at hc
      have e := FS i
      rw [if_neg hq] at e
      exact nx _ e.symm (by omega)
  · exact ⟨eo_0 h, eo_115 h, eo_0 h, nb0 b ⟨rfl, hK _ _ ⟨eo_87 h, ri0 b ⟨fun q => absurd rfl q, fun _ => ⟨eo_87 h, rt1 h ⟨fun q => absurd q (by decide), fun _ => fail_O I (by decide) k⟩⟩⟩⟩⟩⟩
theorem c_howLong (I : Inv σ E d) (hv : v5 v4 L) (k : ∀ E' d', Inv σ E' d' → kc E' d') : lw_1563 E (σ 0) (σ 87) (σ 115) v4 xs L kc d := by
  have h := I.1
  obtain ⟨h1, h2, -⟩ := hv
  refine ⟨eo_0 h, eo_87 h, eo_115 h, h1, h2, fun q => ⟨eo_0 h, ?_⟩, fun q => ⟨eo_0 h, ?_⟩⟩
  · exact p_howLong I _ _ k (fun v d2 hk => ⟨h1, h2, fun _ => ⟨eo_87 h, hk⟩, fun n => absurd q n⟩)
  · exact p_howLong I _ _ k (fun v d2 hk => ⟨h1, h2, fun n => absurd n q, fun _ => ⟨eo_87 h, hk⟩⟩)
end
