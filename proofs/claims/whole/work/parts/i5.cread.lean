/-! texts: the class reads them so -/
def tkB (σ : Nat → Nat) (d : Dy) (B : Nat → Nat) (tl b : Nat) : Prop := gI d (σ 45) 3 = nI b ∧ gI d (σ 45) 4 = nI (afB B tl b) ∧ gI d (σ 45) 5 = nI (thB B tl b) ∧ (thB B tl b = 30 → gI d (σ 45) 6 = nI (vB B tl b))
def cdS (σ : Nat → Nat) (d : Dy) (c : Cd) : Prop := gI d (σ 45) 9 = nI c.length ∧ ∀ i x, c[i]? = some x → gA d (σ 49) i = stp (nI x.1) (nI x.2)
def clS (σ : Nat → Nat) (d : Dy) (B : Nat → Nat) (tl s : Nat) (c : Cd) (b : Nat) : Prop := tpC σ d B tl ∧ b ≤ tl ∧ gI d (σ 45) 2 = nI s ∧ s < 4 ∧ cdS σ d c ∧ tkB σ d B tl b
def flS (σ : Nat → Nat) (d : Dy) (b : Nat) : Prop := gI d (σ 45) 3 = nI b ∧ ∃ n : Nat, n ≤ 400 ∧ gI d (σ 45) 9 = nI n
def cKo (σ : Nat → Nat) (d : Dy) (B : Nat → Nat) (tl s : Nat) (r : PR) (K : Int32 → Dy → Prop) : Prop := ∀ d', Ch σ [45, 49] d d' → (r.2 = none → flS σ d' r.1 → K 0 d') ∧ (∀ c', r.2 = some c' → clS σ d' B tl s c' r.1 → K 1 d')
theorem fos_ok : ∀ s, s < 4 → ∀ t, t < 8 → ((((fosV.getD s 0) >>> (nI t &&& 31)) &&& 1) = 0 ↔ fsB s t = false) := by decide
theorem stp_fact : ∀ t, t < 8 → stp (nI t) (nI 0) = (-1) - nI t := by decide
theorem stp_num (v : Nat) : stp (nI 9) (nI v) = nI v := by unfold stp; rw [if_pos (show nI 9 = 9 from rfl)]
section
variable {σ : Nat → Nat} {E : En} {d0 d d' d2 d3 : Dy} {B : Nat → Nat} {tl s b : Nat} {c : Cd} {r : PR} {K0 : Dy → Prop} {K : Int32 → Dy → Prop}
theorem af_le (h : b ≤ tl) : afB B tl b ≤ tl := by
  by_cases z : b < tl
  · exact (af_gt z).2
  · have : afB B tl b = b := by unfold afB; rw [if_pos (by omega)]
    omega
theorem cK_ch (ch : Ch σ [45, 49] d d') (k : cKo σ d B tl s r K) : cKo σ d' B tl s r K := fun d2 h2 => k d2 (Ch_tr ch h2)
theorem cl_fl (cs : clS σ d B tl s c b) (hc : c.length ≤ 400) : flS σ d b := ⟨cs.2.2.2.2.2.1, c.length, hc, cs.2.2.2.2.1.1⟩
theorem cK_bad (k : cKo σ d B tl s r K) (e : r = (b, none)) (f : flS σ d b) : K 0 d := by rw [e] at k; exact (k d Ch_rf).1 rfl f
theorem cK_good (k : cKo σ d B tl s r K) (e : r = (b, some c)) (f : clS σ d B tl s c b) : K 1 d := by rw [e] at k; exact (k d Ch_rf).2 c rfl f
theorem k_nextB (h : Env σ E) (cs : clS σ d B tl s c b) (k : ∀ d', Ch σ [45, 49] d d' → clS σ d' B tl s c (nB B tl b) → K0 d') : w_X2_next E (σ 45) d K0 := by
  obtain ⟨t, hb, g2, hs, ⟨g9, gc⟩, tk⟩ := cs
  refine k_next h t (af_le hb) tk.2.1 (fun d' x y => k d' (Ch_w x.1 (by decide)) ⟨nx_tp t x, nB_le hb, ?_, hs, ⟨?_, fun i z hz => ?_⟩, y⟩)
  · rw [x.2 2 (by decide) (by decide) (by decide) (by decide)]; exact g2
  · rw [x.2 9 (by decide) (by decide) (by decide) (by decide)]; exact g9
  · rw [Ch_A x.1 (by decide) (by decide)]; exact gc i z hz
theorem k_emit (h : Env σ E) (cs : clS σ d B tl s c b) (hc : c.length < 400) {x : Nat × Nat} {p : Int32} (hp : p = stp (nI x.1) (nI x.2)) (k : ∀ d', Ch σ [45, 49] d d' → clS σ d' B tl s (c ++ [x]) b → K0 d') : w_X2_emit E (σ 45) p d K0 := by
  obtain ⟨t, hb, g2, hs, ⟨g9, gc⟩, tk⟩ := cs
  simp only [w_X2_emit, x_45_8 h, en_49 h, g9]
  refine ⟨eo_45 h, fun z => absurd ((z_le (a := 400) (by decide) (by omega)).mp z) (by omega), fun _ => ⟨vpi hc (by decide), ?_⟩⟩
  rw [z_nn (by omega), gI_pA, g9, z_a1]
  have ch : Ch σ [45, 49] d (pI (pA d (σ 49) c.length p) (σ 45) 9 (nI (c.length + 1))) := Ch_tr (Ch_pA h (by decide) (by decide)) (Ch_pI h (by decide) (by decide) (by decide))
  have e46 : gA (pI (pA d (σ 49) c.length p) (σ 45) 9 (nI (c.length + 1))) (σ 46) = gA d (σ 46) := Ch_A ch (by decide) (by decide)
  have ej : ∀ j, j ≠ 9 → gI (pI (pA d (σ 49) c.length p) (σ 45) 9 (nI (c.length + 1))) (σ 45) j = gI d (σ 45) j := fun j hj => gI_pI_k _ _ _ hj
  refine k _ ch ⟨⟨t.1, t.2.1, by rw [ej 1 (by decide)]; exact t.2.2.1, fun k hk => by rw [e46]; exact t.2.2.2 k hk⟩, hb, by rw [ej 2 (by decide)]; exact g2, hs, ⟨by rw [gI_pI, List.length_append]; rfl, fun i y hy => ?_⟩, ?_⟩
  · show gA (pA d (σ 49) c.length p) (σ 49) i = _
    rw [gA_pA]
    dsimp only
    by_cases e : i = c.length
    · subst e
      rw [if_pos rfl, hp]
      rw [List.getElem?_append_right (Nat.le_refl _), Nat.sub_self] at hy
      cases hy; rfl
    · rw [if_neg e]
      by_cases l : i < c.length
      · rw [List.getElem?_append_left l] at hy; exact gc i y hy
      · rw [List.getElem?_append_right (by omega)] at hy
        rw [List.getElem?_eq_none (by show 1 ≤ _; omega)] at hy; exact nomatch hy
  · obtain ⟨t1, t2, t3, t4⟩ := tk
    exact ⟨by rw [ej 3 (by decide)]; exact t1, by rw [ej 4 (by decide)]; exact t2, by rw [ej 5 (by decide)]; exact t3, fun q => by rw [ej 6 (by decide)]; exact t4 q⟩
theorem k_emitX (h : Env σ E) (f : flS σ d b) {p : Int32} (k : ∀ d', Ch σ [45, 49] d d' → flS σ d' b → K0 d') : w_X2_emit E (σ 45) p d K0 := by
  obtain ⟨g3, n, hn, g9⟩ := f
  simp only [w_X2_emit, x_45_8 h, en_49 h, g9]
  refine ⟨eo_45 h, fun z => k d Ch_rf ⟨g3, n, hn, g9⟩, fun z => ?_⟩
  have z : n < 400 := by
    by_cases q : n < 400
    · exact q
    · exact absurd ((z_le (a := 400) (by decide) (by omega)).mpr (by omega)) z
  refine ⟨vpi z (by decide), ?_⟩
  rw [z_nn (by omega), gI_pA, g9, z_a1]
  have ch : Ch σ [45, 49] d (pI (pA d (σ 49) n p) (σ 45) 9 (nI (n + 1))) := Ch_tr (Ch_pA h (by decide) (by decide)) (Ch_pI h (by decide) (by decide) (by decide))
  exact k _ ch ⟨by rw [gI_pI_k _ _ _ (by decide)]; exact g3, n + 1, by omega, gI_pI _ _ _ _⟩
theorem k_isFact (h : Env σ E) (cs : clS σ d B tl s c b) (k1 : isF s (thB B tl b) = true → K 1 d) (k2 : isF s (thB B tl b) = false → K 0 d) : w_X2_isFact E (σ 45) d K := by
  obtain ⟨t, hb, g2, hs, -, tk⟩ := cs
  have ht := th_le t.2.1 (tl := tl) (b := b)
  have g5 := tk.2.2.1
  revert k1 k2 ht g5
  generalize thB B tl b = n
  intro k1 k2 ht g5
  unfold w_X2_isFact b_X2_isFact_38 b_X2_isFact_39
  rw [g5, g2]
  have no : 8 ≤ n → K 0 d := fun q => k2 (by unfold isF; rw [decide_eq_false (by omega)]; rfl)
  refine ⟨eo_45 h, fun z => absurd z (z_pos (by omega)), fun _ => ⟨fun z => ⟨fun _ => no ((z_le (a := 8) (by decide) (by omega)).mp z), fun q => absurd rfl q⟩, fun z => ⟨fun q => absurd q (z_pos (by omega)), fun _ => ⟨fun q => absurd ((z_le (a := 4) (by decide) (by omega)).mp q) (by omega), fun _ => ⟨fun q => absurd q (by decide), fun _ => ⟨vpi (by omega) (by decide), ?_⟩⟩⟩⟩⟩⟩
  have z : n < 8 := by
    by_cases q : n < 8
    · exact q
    · exact absurd ((z_le (a := 8) (by decide) (by omega)).mpr (by omega)) z
  rw [z_nn (by omega)]
  have f := fos_ok s hs n z
  exact ⟨fun q => k2 (by unfold isF; rw [f.mp q, Bool.and_false]), fun q => k1 (by unfold isF; rw [decide_eq_true z]; cases w : fsB s n; (exact absurd (f.mpr w) q); rfl)⟩
/-- sums -/
theorem k_sum (h : Env σ E) : ∀ n o c b d v1, clS σ d B tl s c b → tl + 1 ≤ b + n → v1 < b → (o = true ↔ v1 = 0) → c.length + (if o = true then 0 else 1) + 1 ≤ b → cKo σ d B tl s (pSm B tl s n o c b) K → l_X2_readSum_2 E (σ 45) K n (nI v1) d := by
  intro n
  induction n with
  | zero => intro o c b d v1 cs hn; have := cs.2.1; omega
  | succ n ihn =>
    intro o c b d v1 cs hn hv ho hc k
    obtain ⟨t, hb, g2, hs, cd, tk⟩ := id cs
    have ht := th_le t.2.1 (tl := tl) (b := b)
    have h400 := t.1
    have lc : c.length < 400 := by split at hc <;> omega
    have g5 := tk.2.2.1
    show b_X2_readSum_2 E (σ 45) K (l_X2_readSum_2 E (σ 45) K n) (nI v1) d
    have body : ∀ (x : Nat × Nat) (p : Int32), pPt B tl s b = some x → p = stp (nI x.1) (nI x.2) → b_X2_readSum_50 E (σ 45) K (l_X2_readSum_2 E (σ 45) K n) (nI v1) (σ 45) p d := fun x p hx hp => by
      have hk : pSm B tl s (n + 1) o c b = if thB B tl (nB B tl b) = 43 then pSm B tl s n false (if o = true then c ++ [x] else c ++ [x] ++ [(10, 0)]) (nB B tl (nB B tl b)) else (nB B tl b, some (if o = true then c ++ [x] else c ++ [x] ++ [(10, 0)])) := by
        show (match pPt B tl s b with | none => _ | some x => _) = _
        rw [hx]
      rw [hk] at k
      have g1 := nB_gt2 (pPt_ne hx)
      have tail : ∀ d1, Ch σ [45, 49] d d1 → clS σ d1 B tl s (if o = true then c ++ [x] else c ++ [x] ++ [(10, 0)]) b → b_X2_readSum_63 E (σ 45) K (l_X2_readSum_2 E (σ 45) K n) (nI v1) d1 := fun d1 ch1 cs1 => by
        refine k_nextB h cs1 (fun d2 ch2 cs2 => ?_)
        have k2 := cK_ch (Ch_tr ch1 ch2) k
        have g5' := cs2.2.2.2.2.2.2.2.1
        have ht2 := th_le t.2.1 (tl := tl) (b := nB B tl b)
        refine ⟨fun z => ?_, fun z => ?_⟩
        · have z := (z_eq (b := 43) (by omega) (by decide)).mp (g5'.symm.trans z)
          rw [if_pos z] at k2
          have g3 := nB_gt2 (B := B) (tl := tl) (b := nB B tl b) (by rw [z]; decide)
          refine k_nextB h cs2 (fun d3 ch3 cs3 => ?_)
          rw [z_a1]
          refine ihn false _ _ d3 (v1 + 1) cs3 (by omega) (by omega) ⟨fun q => (nomatch q), fun q => by omega⟩ ?_ (cK_ch ch3 k2)
          cases o
          · rw [if_neg (by decide)] at hc
            show ((c ++ [x]) ++ [(10, 0)]).length + 1 + 1 ≤ _
            rw [List.length_append, List.length_append]; show c.length + 1 + 1 + 1 + 1 ≤ _; omega
          · rw [if_pos rfl] at hc
            show (c ++ [x]).length + 1 + 1 ≤ _
            rw [List.length_append]; show c.length + 1 + 1 + 1 ≤ _; omega
        · have z : ¬ thB B tl (nB B tl b) = 43 := fun q => z (g5'.trans (by rw [q]; rfl))
          rw [if_neg z] at k2
          exact cK_good k2 rfl cs2
      refine ⟨eo_45 h, k_emit h cs lc hp (fun d1 ch1 cs1 => ⟨fun z => ?_, fun z => ?_⟩)⟩
      · have ov : o = true := ho.mpr (by have := (z_le (b := 0) (by omega) (by decide)).mp z; omega)
        refine tail d1 ch1 ?_
        rw [if_pos ov]; exact cs1
      · have ov : o = false := by
          cases q : o
          · rfl
          · rw [ho.mp q] at z; exact absurd (by decide) z
        rw [ov, if_neg (by decide)] at hc
        refine k_emit (x := (10, 0)) h cs1 (by rw [List.length_append]; show c.length + 1 < 400; omega) (by decide) (fun d2 ch2 cs2 => tail d2 (Ch_tr ch1 ch2) ?_)
        rw [ov, if_neg (by decide)]; exact cs2
    unfold b_X2_readSum_2 b_X2_readSum_27
    rw [g5]
    refine ⟨fun z => absurd ((z_le (a := 400) (by decide) (by omega)).mp z) (by omega), fun _ => ⟨fun z => ⟨fun q => absurd z q, fun _ => ?_⟩, fun z => ?_⟩⟩
    · have z := (z_eq (b := 30) (by omega) (by decide)).mp z
      rw [tk.2.2.2 z]
      exact body (9, vB B tl b) _ (by unfold pPt; rw [if_pos z]) (stp_num _).symm
    · have z : ¬ thB B tl b = 30 := fun q => z (by rw [q]; rfl)
      refine k_isFact h cs (fun q => ⟨fun _ => ⟨fun _ => ?_, fun w => ?_⟩, fun w => absurd w (by decide)⟩) (fun q => ⟨fun w => absurd rfl w, fun _ => ?_⟩)
      · have q8 : thB B tl b < 8 := by unfold isF at q; simp only [Bool.and_eq_true, decide_eq_true_eq] at q; exact q.1
        rw [g5]
        exact body (thB B tl b, 0) _ (by unfold pPt; rw [if_neg z, if_pos q]) (stp_fact _ q8).symm
      · rw [g5] at w; exact absurd ((z_eq (b := 30) (by omega) (by decide)).mp w) z
      · refine cK_bad k ?_ (cl_fl cs (by omega))
        show (match pPt B tl s b with | none => _ | some x => _) = _
        rw [show pPt B tl s b = none by unfold pPt; rw [if_neg z, if_neg (by rw [q]; decide)]]
theorem k_readSum (h : Env σ E) (cs : clS σ d B tl s c b) (hc : c.length + 1 ≤ b) (k : cKo σ d B tl s (pSm B tl s 401 true c b) K) : w_X2_readSum E (σ 45) d K :=
  ⟨eo_45 h, 401, k_sum h 401 true c b d 0 cs (by have := cs.1.1; omega) (by omega) ⟨fun _ => rfl, fun _ => rfl⟩ (by rw [if_pos rfl]; omega) k⟩
end
