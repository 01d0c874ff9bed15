/-! feed -/
theorem by8 : ∀ b : BitVec 8, (⟨⟨b.signExtend 32⟩⟩ : Int32) = sx ⟨⟨b.setWidth 32⟩⟩ ∧ ¬ (⟨⟨b.setWidth 32⟩⟩ : Int32) < 0 ∧ ¬ (255 : Int32) < ⟨⟨b.setWidth 32⟩⟩ := by decide +kernel
theorem by_and (x : Int32) : x &&& 255 = (⟨⟨(x.toBitVec.setWidth 8).setWidth 32⟩⟩ : Int32) := by
  apply Int32.toBitVec_inj.mp
  show x.toBitVec &&& 255#32 = (x.toBitVec.setWidth 8).setWidth 32
  apply BitVec.eq_of_getLsbD_eq
  intro i hi
  have h255 : (255#32).getLsbD i = decide (i < 8) := by
    have : ∀ i, i < 32 → (255#32).getLsbD i = decide (i < 8) := by decide
    exact this i hi
  simp only [BitVec.getLsbD_and, BitVec.getLsbD_setWidth, hi, h255]
  by_cases h8 : i < 8 <;> simp [h8]
theorem by_i8 (x : Int32) : x.toInt8.toInt32 = (⟨⟨(x.toBitVec.setWidth 8).signExtend 32⟩⟩ : Int32) := by
  apply Int32.toBitVec_inj.mp
  show (x.toBitVec.signExtend 8).signExtend 32 = (x.toBitVec.setWidth 8).signExtend 32
  exact congrArg (fun b => BitVec.signExtend 32 b) (BitVec.signExtend_eq_setWidth_of_le x.toBitVec (by decide))
theorem by_sx (x : Int32) : x.toInt8.toInt32 = sx (x &&& 255) ∧ bw (x &&& 255) 0 255 := by
  rw [by_and, by_i8]
  exact ⟨(by8 _).1, (by8 _).2⟩
section
variable {σ : Nat → Nat} {E : En} {d d' : Dy} {kc : En → Dy → Prop} {v4 : Int32} {xs : Nat → Int32} {L : Nat}
theorem k_addStep (h : Env σ E) {p v : Int32} {K : Dy → Prop} {N n : Nat} (e : gI d (σ 45) 1 = nI n) (hn : n < 400) (hv : ¬ v < 0) (k : l_X2_addNumber_3 E (σ 45) p K N (v + (-8)) (pI (pA d (σ 46) n ((p >>> (v &&& 31)) &&& 255)) (σ 45) 1 (nI (n + 1)))) : l_X2_addNumber_3 E (σ 45) p K (N + 1) v d := by
  show b_X2_addNumber_3 E (σ 45) p K (l_X2_addNumber_3 E (σ 45) p K N) v d
  simp only [b_X2_addNumber_3, x_45_0 h, en_46 h, e, z_nn (show n < 2147483648 by omega), gI_pA_x, z_a1]
  refine ⟨fun q => absurd q hv, fun _ => ⟨fun q => absurd ((z_le (a := 400) (by decide) (by omega)).mp q) (by omega), fun _ => ⟨vpi hn (by decide), k⟩⟩⟩
/-- four bytes -/
def by4 (d : Dy) (t b n : Nat) (p : Int32) : Dy := pI (pA (pI (pA (pI (pA (pI (pA d b n ((p >>> ((24 : Int32) &&& 31)) &&& 255)) t 1 (nI (n + 1))) b (n + 1) ((p >>> ((16 : Int32) &&& 31)) &&& 255)) t 1 (nI (n + 2))) b (n + 2) ((p >>> ((8 : Int32) &&& 31)) &&& 255)) t 1 (nI (n + 3))) b (n + 3) ((p >>> ((0 : Int32) &&& 31)) &&& 255)) t 1 (nI (n + 4))
theorem k_addNumber (h : Env σ E) {p : Int32} {K : Dy → Prop} {n : Nat} (e : gI d (σ 45) 1 = nI n) (hn : n + 4 ≤ 400) (k : K (by4 d (σ 45) (σ 46) n p)) : w_X2_addNumber E (σ 45) p d K := by
  refine ⟨eo_45 h, 5, k_addStep h e (by omega) (by decide) (k_addStep h (gI_pI _ _ _ _) (by omega) (by decide) (k_addStep h (gI_pI _ _ _ _) (by omega) (by decide) (k_addStep h (gI_pI _ _ _ _) (by omega) (by decide) ?_)))⟩
  exact ⟨fun _ => k, fun q => absurd (by decide) q⟩
theorem by4_len (d : Dy) (t b n : Nat) (p : Int32) : gI (by4 d t b n p) t 1 = nI (n + 4) := gI_pI _ _ _ _
theorem by4_ch (h : Env σ E) {n : Nat} {p : Int32} : Ch σ tpl d (by4 d (σ 45) (σ 46) n p) := by
  have a : ∀ (d : Dy) k v, Ch σ tpl d (pA d (σ 46) k v) := fun d k v => Ch_pA h (by decide) (by decide)
  have b : ∀ (d : Dy) v, Ch σ tpl d (pI d (σ 45) 1 v) := fun d v => Ch_pI h (by decide) (by decide) (by decide)
  exact Ch_tr (Ch_tr (Ch_tr (Ch_tr (Ch_tr (Ch_tr (Ch_tr (a _ _ _) (b _ _)) (a _ _ _)) (b _ _)) (a _ _ _)) (b _ _)) (a _ _ _)) (b _ _)
/-- the byte j of a number -/
def byt (p : Int32) (j : Nat) : Int32 := p >>> (nI (24 - 8 * j) &&& 31)
theorem by4_get (d : Dy) (t b n : Nat) (p : Int32) (j : Nat) : gA (by4 d t b n p) b j = if n ≤ j ∧ j < n + 4 then byt p (j - n) &&& 255 else gA d b j := by
  simp only [by4, gA_pI_x, gA_pA_x, if_true]
  by_cases h3 : j = n + 3
  · subst h3; rw [if_pos rfl, if_pos (by omega), show n + 3 - n = 3 by omega]; rfl
  · rw [if_neg h3]
    by_cases h2 : j = n + 2
    · subst h2; rw [if_pos rfl, if_pos (by omega), show n + 2 - n = 2 by omega]; rfl
    · rw [if_neg h2]
      by_cases h1 : j = n + 1
      · subst h1; rw [if_pos rfl, if_pos (by omega), show n + 1 - n = 1 by omega]; rfl
      · rw [if_neg h1]
        by_cases h0 : j = n
        · subst h0; rw [if_pos rfl, if_pos (by omega), show j - j = 0 by omega]; rfl
        · rw [if_neg h0, if_neg (by omega)]
theorem by4_o (d : Dy) {t b c : Nat} (n : Nat) (p : Int32) (hc : c ≠ b) : gA (by4 d t b n p) c = gA d c := by
  simp only [by4, gA_pI_x, gA_pA_x, if_neg hc]
def pp5 (a b c e f : Int32) (q : Nat) : Int32 := if q = 0 then a else if q = 1 then b else if q = 2 then c else if q = 3 then e else f
def fv5 (d : Dy) (b : Nat) (p1 p2 p3 p4 p5 : Int32) : Dy := pA (pA (pA (pA (pA d b 0 p1) b 1 p2) b 2 p3) b 3 p4) b 4 p5
theorem fv5_get (d : Dy) (b : Nat) (p1 p2 p3 p4 p5 : Int32) {q : Nat} (hq : q < 5) : gA (fv5 d b p1 p2 p3 p4 p5) b q = pp5 p1 p2 p3 p4 p5 q := by
  simp only [fv5, gA_pA_x, if_true]
  rcases (show q = 0 ∨ q = 1 ∨ q = 2 ∨ q = 3 ∨ q = 4 by omega) with rfl | rfl | rfl | rfl | rfl <;> simp [pp5]
theorem fv5_ch (h : Env σ E) {p1 p2 p3 p4 p5 : Int32} : Ch σ tpl d (fv5 d (σ 91) p1 p2 p3 p4 p5) := by
  have a : ∀ (d : Dy) k v, Ch σ tpl d (pA d (σ 91) k v) := fun d k v => Ch_pA h (by decide) (by decide)
  exact Ch_tr (Ch_tr (Ch_tr (Ch_tr (a _ _ _) (a _ _ _)) (a _ _ _)) (a _ _ _)) (a _ _ _)
theorem fv5_o (d : Dy) {b c : Nat} (p1 p2 p3 p4 p5 : Int32) (hc : c ≠ b) : gA (fv5 d b p1 p2 p3 p4 p5) c = gA d c := by
  simp only [fv5, gA_pA_x, if_neg hc]
theorem fv5_I (d : Dy) (b : Nat) (p1 p2 p3 p4 p5 : Int32) : gI (fv5 d b p1 p2 p3 p4 p5) = gI d := rfl
theorem fd_num : ∀ i, i < 20 → nI i / 4 = nI (i / 4) ∧ nI i - nI i / 4 * 4 = nI (i % 4) ∧ 24 - 8 * nI (i % 4) = nI (24 - 8 * (i % 4)) := by decide
theorem c_feed (I : Inv σ E d) (hv : v5 v4 L) (k : ∀ E' d', Inv σ E' d' → kc E' d') : lw_228 E (σ 0) (σ 87) (σ 115) v4 xs L kc d := by
  have h := I.1
  obtain ⟨tl, t1, t2, t3, t4⟩ := I.2.2.2.2.1
  obtain ⟨v1, v2, v3, v4', v5'⟩ := hv
  simp only [lw_228]
  generalize xs (v4 + 1).toNatClampNeg = p1
  generalize xs (v4 + 2).toNatClampNeg = p2
  generalize xs (v4 + 3).toNatClampNeg = p3
  generalize xs (v4 + 4).toNatClampNeg = p4
  generalize xs (v4 + 5).toNatClampNeg = p5
  have e20 : nI tl + 20 = nI (tl + 20) := z_add tl 20
  simp only [w_X10_feed, x_0_3 h, w_X2_hasRoom, t2, e20]
  by_cases hr : tl + 20 ≤ 400
  · refine ⟨eo_0 h, eo_87 h, eo_115 h, v1, v2, v3, v4', v5', eo_0 h, eo_45 h, fun q => absurd ((z_lt (a := 400) (by decide) (by omega)).mp q) (by omega), fun _ => ⟨fun _ => ?_, fun q => absurd q (by decide)⟩⟩
    refine k_addNumber h t2 (by omega) (k_addNumber h (by4_len _ _ _ _ _) (by omega) (k_addNumber h (by4_len _ _ _ _ _) (by omega) (k_addNumber h (by4_len _ _ _ _ _) (by omega) (k_addNumber h (by4_len _ _ _ _ _) (by omega) ?_))))
    generalize hD : by4 (by4 (by4 (by4 (by4 d (σ 45) (σ 46) tl p1) (σ 45) (σ 46) (tl + 4) p2) (σ 45) (σ 46) (tl + 4 + 4) p3) (σ 45) (σ 46) (tl + 4 + 4 + 4) p4) (σ 45) (σ 46) (tl + 4 + 4 + 4 + 4) p5 = D
    have cD : Ch σ tpl d D := hD ▸ Ch_tr (Ch_tr (Ch_tr (Ch_tr (by4_ch h) (by4_ch h)) (by4_ch h)) (by4_ch h)) (by4_ch h)
    have lD : gI D (σ 45) 1 = nI (tl + 20) := by rw [← hD]; exact by4_len _ _ _ _ _
    have gD : ∀ j, gA D (σ 46) j = if tl ≤ j ∧ j < tl + 20 then byt (pp5 p1 p2 p3 p4 p5 ((j - tl) / 4)) ((j - tl) % 4) &&& 255 else gA d (σ 46) j := by
      intro j
      rw [← hD, by4_get, by4_get, by4_get, by4_get, by4_get]
      by_cases q5 : tl + 4 + 4 + 4 + 4 ≤ j ∧ j < tl + 4 + 4 + 4 + 4 + 4
      · rw [if_pos q5, if_pos (by omega), show (j - tl) / 4 = 4 by omega, show (j - tl) % 4 = j - (tl + 4 + 4 + 4 + 4) by omega]; rfl
      · rw [if_neg q5]
        by_cases q4 : tl + 4 + 4 + 4 ≤ j ∧ j < tl + 4 + 4 + 4 + 4
        · rw [if_pos q4, if_pos (by omega), show (j - tl) / 4 = 3 by omega, show (j - tl) % 4 = j - (tl + 4 + 4 + 4) by omega]; rfl
        · rw [if_neg q4]
          by_cases q3 : tl + 4 + 4 ≤ j ∧ j < tl + 4 + 4 + 4
          · rw [if_pos q3, if_pos (by omega), show (j - tl) / 4 = 2 by omega, show (j - tl) % 4 = j - (tl + 4 + 4) by omega]; rfl
          · rw [if_neg q3]
            by_cases q2 : tl + 4 ≤ j ∧ j < tl + 4 + 4
            · rw [if_pos q2, if_pos (by omega), show (j - tl) / 4 = 1 by omega, show (j - tl) % 4 = j - (tl + 4) by omega]; rfl
            · rw [if_neg q2]
              by_cases q1 : tl ≤ j ∧ j < tl + 4
              · rw [if_pos q1, if_pos (by omega), show (j - tl) / 4 = 0 by omega, show (j - tl) % 4 = j - tl by omega]; rfl
              · rw [if_neg q1, if_neg (by omega)]
    refine ⟨eo_45 h, v1, v2, v3, v4', v5', ?_⟩
    rw [lD]
    have l5 : gI (pI D (σ 87) 0 0) (σ 87) 5 = nI tl := (gI_pI_k D _ 0 (by decide)).trans ((cD.2.1 (87, 5) (by decide)).trans t3)
    simp only [w_X11_feed, x_87_11 h, en_91 h, l5, e20, qn_0, qn_1, qn_2, qn_3, qn_4]
    refine ⟨eo_87 h, fun _ => ⟨vpi (k := 0) (by decide) (by decide), vpi (k := 1) (by decide) (by decide), vpi (k := 2) (by decide) (by decide), vpi (k := 3) (by decide) (by decide), vpi (k := 4) (by decide) (by decide), ?_⟩, fun q => absurd ((z_le (b := 400) (by omega) (by decide)).mpr (by omega)) q⟩
    obtain ⟨D2, hD2⟩ : ∃ D2, D2 = fv5 (pI D (σ 87) 0 0) (σ 91) p1 p2 p3 p4 p5 := ⟨_, rfl⟩
    have cD2 : Ch σ tpl D D2 := by rw [hD2]; exact Ch_tr (Ch_pI h (by decide) (by decide) (by decide)) (fv5_ch h)
    have e45 : gI D2 (σ 45) = gI D (σ 45) := by rw [hD2, fv5_I]; exact gI_pI_a _ _ _ (Env_ne h (by decide) (by decide) (by decide))
    have e46 : gA D2 (σ 46) = gA D (σ 46) := by rw [hD2, fv5_o _ _ _ _ _ _ (Env_ne h (by decide) (by decide) (by decide)), gA_pI_x]
    have e90 : gA D2 (σ 90) = gA D (σ 90) := by rw [hD2, fv5_o _ _ _ _ _ _ (Env_ne h (by decide) (by decide) (by decide)), gA_pI_x]
    have e91 : ∀ q, q < 5 → gA D2 (σ 91) q = pp5 p1 p2 p3 p4 p5 q := fun q hq => by rw [hD2]; exact fv5_get _ _ _ _ _ _ _ hq
    have l52 : gI D2 (σ 87) 5 = nI tl := by rw [hD2, fv5_I]; exact l5
    suffices hs : ∃ N, l_X11_feed_60 E (σ 87) p1 p2 p3 p4 p5 (fun r_14 d_13 => ((nI (tl + 20) = r_14 → kc E d_13) ∧ (¬ nI (tl + 20) = r_14 → False))) N 0 D2 by rw [hD2] at hs; exact hs
    obtain ⟨N, hN⟩ : ∃ N : Nat, N = 20 := ⟨20, rfl⟩
    refine ⟨N + 1, loopG (S := Int32 × Dy) (l := fun N s => l_X11_feed_60 E (σ 87) p1 p2 p3 p4 p5 _ N s.1 s.2) (b := fun kk s => b_X11_feed_60 E (σ 87) p1 p2 p3 p4 p5 _ (fun a b => kk (a, b)) s.1 s.2) (fun _ _ => rfl)
      (μ := fun s => 20 - s.1.toNatClampNeg) (P := fun s => ∃ i, i ≤ 20 ∧ nI i = s.1 ∧ Ch σ tpl D2 s.2 ∧ gI s.2 (σ 45) = gI D2 (σ 45) ∧ gA s.2 (σ 46) = gA D2 (σ 46) ∧ gA s.2 (σ 91) = gA D2 (σ 91) ∧ ∀ j, gA s.2 (σ 90) j = if tl ≤ j ∧ j < tl + i then (byt (pp5 p1 p2 p3 p4 p5 ((j - tl) / 4)) ((j - tl) % 4)).toInt8.toInt32 else gA D2 (σ 90) j) ?_ N (0, D2) ⟨0, by omega, rfl, Ch_rf, rfl, rfl, rfl, fun j => by rw [if_neg (by omega)]⟩ (by rw [hN]; exact Nat.sub_le _ _)⟩
    rintro kk ⟨v, d3⟩ ⟨i, hi, rfl, c3, g45, g46, g91, g90⟩ hk
    have g45 : gI d3 (σ 45) = gI D2 (σ 45) := g45
    have g46 : gA d3 (σ 46) = gA D2 (σ 46) := g46
    have g91 : gA d3 (σ 91) = gA D2 (σ 91) := g91
    have l53 : gI d3 (σ 87) 5 = nI tl := (c3.2.1 (87, 5) (by decide)).trans l52
    simp only [b_X11_feed_60, x_87_11 h, x_87_4 h, en_90 h, en_91 h, l53, e20]
    refine ⟨fun hc => ?_, fun hc => ?_⟩
    · have hi20 : i = 20 := by rw [show (20 : Int32) = nI 20 from rfl, z_le (by decide) (by omega)] at hc; omega
      subst hi20
      have el : gI (pI d3 (σ 87) 5 (nI (tl + 20))) (σ 87) 5 = nI (tl + 20) := gI_pI _ _ _ _
      rw [el]
      refine ⟨fun _ => k _ _ (Inv_t I (Ch_tr cD (Ch_tr cD2 c3)) ⟨tl + 20, by omega, ?_, el, fun j hj => ?_⟩), fun q => q rfl⟩
      · rw [gI_pI_a _ _ _ (Env_ne h (by decide) (by decide) (by decide)), g45, e45]; exact lD
      · show bw (gA d3 (σ 46) j) 0 255 ∧ gA d3 (σ 90) j = sx (gA d3 (σ 46) j)
        have g90' : gA d3 (σ 90) j = if tl ≤ j ∧ j < tl + 20 then (byt (pp5 p1 p2 p3 p4 p5 ((j - tl) / 4)) ((j - tl) % 4)).toInt8.toInt32 else gA D2 (σ 90) j := g90 j
        have o90 : gA D (σ 90) = gA d (σ 90) := by
          have hne : σ 90 ≠ σ 46 := Env_ne h (by decide) (by decide) (by decide)
          rw [← hD, by4_o _ _ _ hne, by4_o _ _ _ hne, by4_o _ _ _ hne, by4_o _ _ _ hne, by4_o _ _ _ hne]
        rw [g46, e46, g90', gD, e90, o90]
        by_cases hq : tl ≤ j ∧ j < tl + 20
        · rw [if_pos hq, if_pos hq]
          have := by_sx (byt (pp5 p1 p2 p3 p4 p5 ((j - tl) / 4)) ((j - tl) % 4))
          exact ⟨this.2, this.1⟩
        · rw [if_neg hq, if_neg hq]
          exact t4 j (by omega)
    · have hi20 : i < 20 := by rw [show (20 : Int32) = nI 20 from rfl, z_le (by decide) (by omega)] at hc; omega
      obtain ⟨n1, n2, n3⟩ := fd_num i hi20
      rw [n2, n3, n1, z_add, z_nn (show i / 4 < 2147483648 by omega), z_nn (show tl + i < 2147483648 by omega), g91, e91 _ (by omega), z_a1]
      refine ⟨vpi (by omega) (by decide), vpi (by omega) (by decide), hk (nI (i + 1), _) ⟨i + 1, by omega, rfl, Ch_tr c3 (Ch_pA h (by decide) (by decide)), g45, ?_, ?_, fun j => ?_⟩ (by simp only [z_nn (show i + 1 < 2147483648 by omega), z_nn (show i < 2147483648 by omega)]; omega)⟩
      · rw [← g46]; exact gA_pA_ne _ _ _ (Env_ne h (by decide) (by decide) (by decide))
      · rw [← g91]; exact gA_pA_ne _ _ _ (Env_ne h (by decide) (by decide) (by decide))
      · show gA (pA d3 (σ 90) (tl + i) _) (σ 90) j = _
        rw [gA_pA_x, if_pos rfl]
        by_cases hj : j = tl + i
        · subst hj
          rw [if_pos rfl, if_pos (by omega), pk_vb, show tl + i - tl = i by omega]; rfl
        · rw [if_neg hj]
          have g90' : gA d3 (σ 90) j = if tl ≤ j ∧ j < tl + i then (byt (pp5 p1 p2 p3 p4 p5 ((j - tl) / 4)) ((j - tl) % 4)).toInt8.toInt32 else gA D2 (σ 90) j := g90 j
          rw [g90']
          by_cases hq : tl ≤ j ∧ j < tl + i
          · rw [if_pos hq, if_pos (by omega)]
          · rw [if_neg hq, if_neg (by omega)]
  · refine ⟨eo_0 h, eo_87 h, eo_115 h, v1, v2, v3, v4', v5', eo_0 h, eo_45 h, fun _ => ⟨fun q => absurd trivial q, fun _ => ⟨v1, v2, v3, v4', v5', eo_87 h, fun q => absurd q ?_, fun _ => ⟨fun _ => k _ _ (Inv_ch I (Ch_pI h (by decide) (by decide) (by decide))), fun q => q rfl⟩⟩⟩, fun q => absurd ((z_lt (a := 400) (by decide) (by omega)).mpr (by omega)) q⟩
    have l5 : gI (pI d (σ 87) 0 0) (σ 87) 5 = nI tl := (gI_pI_k d _ 0 (by decide)).trans t3
    rw [l5, e20, show (400 : Int32) = nI 400 from rfl, z_le (by omega) (by decide)]; omega
end
