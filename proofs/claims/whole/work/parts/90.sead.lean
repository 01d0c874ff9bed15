section
variable {σ : Nat → Nat} {E : En} {d d' d2 d3 : Dy} {kc : En → Dy → Prop} {v4 : Int32} {xs : Nat → Int32} {L : Nat}
theorem ite01 (c : Prop) [Decidable c] : (if c then (0 : Int32) else 1) = 0 ∨ (if c then (0 : Int32) else 1) = 1 := by
  by_cases h : c
  · exact Or.inl (if_pos h)
  · exact Or.inr (if_neg h)
def reL : List Nat := [109, 110, 111, 112]
/-- the reference's step, written out -/
theorem r_374 (h : Env σ E) {ns nh s i : Nat} {S : F4} {kn : Int32} {K : Int32 → Dy → Prop} {k80 : Int32 → Int32 → Int32 → Dy → Prop} {k101 : Int32 → Int32 → Int32 → Int32 → Dy → Prop} {k137 : Int32 → Int32 → Int32 → Int32 → Int32 → Dy → Prop} {v2 v4 m' : Int32} {b : Bool}
    (hns : ns ≤ 10) (hnh : nh ≤ 10) (hs : s < ns) (hi : i < nh) (A : A4 σ 109 ns nh d S) (hv : v2 = 0 ∨ v2 = 1)
    (k : ∀ d', Ch σ reL d d' → A4 σ 109 ns nh d' (stp4 b S s i) → k137 (if v2 = 1 ∧ ok4 (stp4 b S s i) s i then 1 else 0) m' v4 (nI s) (nI i + 1) d') :
    b_X11_narrows_374 E (σ 87) kn K k80 k101 k137 v2 v4 (nI s) (nI i) (stp4 b S s i 2 s) (stp4 b S s i 3 s) (stp4 b S s i 0 i) (stp4 b S s i 1 i) m' d := by
  have m1 : σ 111 ≠ σ 112 := Env_ne h (by decide) (by decide) (by decide)
  have m2 : σ 111 ≠ σ 109 := Env_ne h (by decide) (by decide) (by decide)
  have m3 : σ 111 ≠ σ 110 := Env_ne h (by decide) (by decide) (by decide)
  have m4 : σ 112 ≠ σ 109 := Env_ne h (by decide) (by decide) (by decide)
  have m5 : σ 112 ≠ σ 110 := Env_ne h (by decide) (by decide) (by decide)
  have m6 : σ 109 ≠ σ 110 := Env_ne h (by decide) (by decide) (by decide)
  have vs : vp_in (nI s) 10 := vpi (by omega) (by decide)
  have vi : vp_in (nI i) 10 := vpi (by omega) (by decide)
  simp only [b_X11_narrows_374, x_87_36 h, x_87_37 h, x_87_34 h, x_87_35 h, en_109 h, en_110 h, en_111 h, en_112 h, z_nn (show s < 2147483648 by omega), z_nn (show i < 2147483648 by omega)]
  have o : ∀ a q, (a = 2 ∨ a = 3) → q ≠ s → stp4 b S s i a q = S a q := fun a q ha hq => by
    unfold stp4
    rcases ha with rfl | rfl <;> cases b <;> simp [u2, hq]
  have o2 : ∀ a q, (a = 0 ∨ a = 1) → q ≠ i → stp4 b S s i a q = S a q := fun a q ha hq => by
    unfold stp4
    rcases ha with rfl | rfl <;> cases b <;> simp [u2, hq]
  have kk := k (pA (pA (pA (pA d (σ 111) s (stp4 b S s i 2 s)) (σ 112) s (stp4 b S s i 3 s)) (σ 109) i (stp4 b S s i 0 i)) (σ 110) i (stp4 b S s i 1 i))
    (Ch_tr (Ch_tr (Ch_tr (Ch_pA h (by decide) (by decide)) (Ch_pA h (by decide) (by decide))) (Ch_pA h (by decide) (by decide))) (Ch_pA h (by decide) (by decide))) (by
      refine ⟨fun q hq => ⟨?_, ?_⟩, fun q hq => ⟨?_, ?_⟩⟩
      · show gA _ (σ 109) q = _
        simp only [gA_pA_x, if_neg m6, if_true]
        by_cases e : q = i
        · rw [if_pos e, e]
        · rw [if_neg e, if_neg (fun e => m4 e.symm), if_neg (fun e => m2 e.symm), o2 0 q (Or.inl rfl) e]; exact (A.1 q hq).1
      · show gA _ (σ 110) q = _
        simp only [gA_pA_x, if_true]
        by_cases e : q = i
        · rw [if_pos e, e]
        · rw [if_neg e, if_neg (fun e => m6 e.symm), if_neg (fun e => m5 e.symm), if_neg (fun e => m3 e.symm), o2 1 q (Or.inr rfl) e]; exact (A.1 q hq).2
      · show gA _ (σ 111) q = _
        simp only [gA_pA_x, if_neg m3, if_neg m2, if_neg m1, if_true]
        by_cases e : q = s
        · rw [if_pos e, e]
        · rw [if_neg e, o 2 q (Or.inl rfl) e]; exact (A.2 q hq).1
      · show gA _ (σ 112) q = _
        simp only [gA_pA_x, if_neg m5, if_neg m4, if_true]
        by_cases e : q = s
        · rw [if_pos e, e]
        · rw [if_neg e, if_neg (fun e => m1 e.symm), o 3 q (Or.inr rfl) e]; exact (A.2 q hq).2)
  refine ⟨vs, vs, vi, vi, fun h0 => ?_, fun h0 => ⟨fun h1 => ?_, fun h1 => ⟨fun h2 => ?_, fun h2 => ?_⟩⟩⟩
  · rw [if_neg (fun q => by rw [h0] at q; exact absurd q.1 (by decide))] at kk; exact kk
  · rw [if_neg (fun q => q.2.1 h1)] at kk; exact kk
  · rw [if_neg (fun q => q.2.2 h2)] at kk; exact kk
  · rw [if_pos ⟨hv.resolve_left h0, h1, h2⟩] at kk; exact kk
theorem r_315 (h : Env σ E) {ns nh s i : Nat} {S : F4} {kn : Int32} {K : Int32 → Dy → Prop} {k80 : Int32 → Int32 → Int32 → Dy → Prop} {k101 : Int32 → Int32 → Int32 → Int32 → Dy → Prop} {k137 : Int32 → Int32 → Int32 → Int32 → Int32 → Dy → Prop} {v2 v3 v4 : Int32} {b : Bool}
    (hns : ns ≤ 10) (hnh : nh ≤ 10) (hs : s < ns) (hi : i < nh) (A : A4 σ 109 ns nh d S) (hv : v2 = 0 ∨ v2 = 1)
    (k : ∀ d', Ch σ reL d d' → A4 σ 109 ns nh d' (stp4 b S s i) → k137 (if v2 = 1 ∧ ok4 (stp4 b S s i) s i then 1 else 0) (if v3 = 0 ∧ sam S (stp4 b S s i) s i then 0 else 1) v4 (nI s) (nI i + 1) d') :
    b_X11_narrows_315 E (σ 87) kn K k80 k101 k137 v2 v3 v4 (nI s) (nI i) (stp4 b S s i 2 s) (stp4 b S s i 3 s) (stp4 b S s i 0 i) (stp4 b S s i 1 i) d := by
  have vs : vp_in (nI s) 10 := vpi (by omega) (by decide)
  have vi : vp_in (nI i) 10 := vpi (by omega) (by decide)
  simp only [b_X11_narrows_315, b_X11_narrows_369, x_87_36 h, x_87_37 h, x_87_34 h, x_87_35 h, en_109 h, en_110 h, en_111 h, en_112 h, z_nn (show s < 2147483648 by omega), z_nn (show i < 2147483648 by omega)]
  rw [(A.1 i hi).1, (A.1 i hi).2, (A.2 s hs).1, (A.2 s hs).2]
  have yes : ¬ (v3 = 0 ∧ sam S (stp4 b S s i) s i) → b_X11_narrows_374 E (σ 87) kn K k80 k101 k137 v2 v4 (nI s) (nI i) (stp4 b S s i 2 s) (stp4 b S s i 3 s) (stp4 b S s i 0 i) (stp4 b S s i 1 i) 1 d := fun hn => by
    rw [if_neg hn] at k
    exact r_374 h hns hnh hs hi A hv k
  refine ⟨fun h0 => yes (fun q => h0 q.1), fun h0 => ⟨vs, fun h1 => yes (fun q => h1 q.2.1), fun h1 => ⟨vs, fun h2 => yes (fun q => h2 q.2.2.1), fun h2 => ⟨vi, fun h3 => yes (fun q => h3 q.2.2.2.1), fun h3 => ⟨vi, fun h4 => ?_, fun h4 => yes (fun q => h4 q.2.2.2.2)⟩⟩⟩⟩⟩
  have hy : v3 = 0 ∧ sam S (stp4 b S s i) s i := ⟨h0, h1, h2, h3, h4⟩
  rw [if_pos hy] at k
  exact r_374 h hns hnh hs hi A hv k
theorem r_175 (h : Env σ E) {ns nh s i : Nat} {S : F4} {kn : Int32} {K : Int32 → Dy → Prop} {k80 : Int32 → Int32 → Int32 → Dy → Prop} {k101 : Int32 → Int32 → Int32 → Int32 → Dy → Prop} {k137 : Int32 → Int32 → Int32 → Int32 → Int32 → Dy → Prop} {v2 v3 v4 sb : Int32} {b : Bool}
    (hns : ns ≤ 10) (hnh : nh ≤ 10) (hs : s < ns) (hi : i < nh) (A : A4 σ 109 ns nh d S) (hv : v2 = 0 ∨ v2 = 1) (hb : sb = if b = true then 1 else 0)
    (k : ∀ d', Ch σ reL d d' → A4 σ 109 ns nh d' (stp4 b S s i) → k137 (if v2 = 1 ∧ ok4 (stp4 b S s i) s i then 1 else 0) (if v3 = 0 ∧ sam S (stp4 b S s i) s i then 0 else 1) v4 (nI s) (nI i + 1) d') :
    b_X11_narrows_175 E (σ 87) kn K k80 k101 k137 v2 v3 v4 (nI s) (nI i) sb d := by
  have vs : vp_in (nI s) 10 := vpi (by omega) (by decide)
  have vi : vp_in (nI i) 10 := vpi (by omega) (by decide)
  have kk := r_315 (kn := kn) (K := K) (k80 := k80) (k101 := k101) h hns hnh hs hi A hv k
  simp only [b_X11_narrows_175, b_X11_narrows_211, b_X11_narrows_245, b_X11_narrows_279, x_87_36 h, x_87_37 h, x_87_34 h, x_87_35 h, en_109 h, en_110 h, en_111 h, en_112 h, z_nn (show s < 2147483648 by omega), z_nn (show i < 2147483648 by omega)]
  rw [(A.1 i hi).1, (A.1 i hi).2, (A.2 s hs).1, (A.2 s hs).2]
  cases b
  · have hb : sb = 0 := hb
    have e2 : stp4 false S s i 2 s = S 2 s := by simp [stp4, u2]
    have e3 : stp4 false S s i 3 s = if S 1 i < S 3 s then S 1 i else S 3 s := by simp [stp4, u2]
    have e0 : stp4 false S s i 0 i = if S 0 i < S 2 s then S 2 s else S 0 i := by simp [stp4, u2]
    have e1 : stp4 false S s i 1 i = S 1 i := by simp [stp4, u2]
    rw [e0, e1, e2, e3] at kk
    exact ⟨fun _ => ⟨vs, fun _ => ⟨vs, vi, fun _ => ⟨vi, vs, fun _ => ⟨vi, kk⟩, fun q => absurd hb q⟩, fun q => absurd hb q⟩, fun q => absurd hb q⟩, fun q => absurd hb q⟩
  · have hb : sb = 1 := hb
    have hn : ¬ sb = 0 := by rw [hb]; decide
    have e2 : stp4 true S s i 2 s = if S 2 s < S 0 i + 1 then S 0 i + 1 else S 2 s := by simp [stp4, u2]
    have e3 : stp4 true S s i 3 s = S 3 s := by simp [stp4, u2]
    have e0 : stp4 true S s i 0 i = S 0 i := by simp [stp4, u2]
    have e1 : stp4 true S s i 1 i = if S 3 s - 1 < S 1 i then S 3 s - 1 else S 1 i := by simp [stp4, u2]
    rw [e0, e1, e2, e3] at kk
    exact ⟨fun q => absurd q hn, fun _ => ⟨vs, vi, fun q => absurd q hn, fun _ => ⟨vs, fun q => absurd q hn, fun _ => ⟨vi, fun q => absurd q hn, fun _ => ⟨vi, vs, kk⟩⟩⟩⟩⟩
theorem reL_88 (c : Ch σ reL d d') : gA d' (σ 88) = gA d (σ 88) := Ch_A c (by decide) (by decide)
theorem r_narrows (h : Env σ E) {W : Nat → Int32} {ns nh : Nat} {kn : Int32} {K : Int32 → Dy → Prop} (eW : gA d (σ 88) = W) (hn1 : W 1 = nI nh) (hn5 : W 5 = nI ns) (hns : ns ≤ 10) (hnh : nh ≤ 10)
    (k0 : ∀ d', Ch σ reL d d' → it4 (stB W) (pl4 (stK W kn) ns nh 0) 5000 (st0 W) = none → K 0 d')
    (k1 : ∀ d' S', Ch σ reL d d' → it4 (stB W) (pl4 (stK W kn) ns nh 0) 5000 (st0 W) = some S' → A4 σ 109 ns nh d' S' → K 1 d') : w_X11_narrows E (σ 87) kn d K := by
  refine ⟨eo_87 h, nh + 1, loopG (S := Int32 × Dy) (l := fun N s => l_X11_narrows_2 E (σ 87) kn K N s.1 s.2) (b := fun kk s => b_X11_narrows_2 E (σ 87) kn K (fun a b => kk (a, b)) s.1 s.2) (fun _ _ => rfl)
    (μ := fun s => nh - s.1.toNatClampNeg) (P := fun s => ∃ i, i ≤ nh ∧ nI i = s.1 ∧ Ch σ reL d s.2 ∧ ∀ q, q < i → gA s.2 (σ 109) q = st0 W 0 q ∧ gA s.2 (σ 110) q = st0 W 1 q) ?_ nh (0, d) ⟨0, by omega, rfl, Ch_rf, fun q hq => absurd hq (by omega)⟩ (Nat.sub_le _ _)⟩
  rintro kk ⟨v, d3⟩ ⟨i, hi, rfl, c3, g3⟩ hk
  have c3 : Ch σ reL d d3 := c3
  have g3 : ∀ q, q < i → gA d3 (σ 109) q = st0 W 0 q ∧ gA d3 (σ 110) q = st0 W 1 q := g3
  have e3 : gA d3 (σ 88) = W := (reL_88 c3).trans eW
  refine r_huts h ?_
  rw [e3, hn1]
  refine ⟨fun hc => ?_, fun hc => ?_⟩
  · rw [z_le (by omega) (by omega)] at hc
    have : i = nh := by omega
    subst this
    refine ⟨ns + 1, loopG (S := Int32 × Dy) (l := fun N s => l_X11_narrows_42 E (σ 87) kn K N s.1 s.2) (b := fun kk s => b_X11_narrows_42 E (σ 87) kn K (fun a b => kk (a, b)) s.1 s.2) (fun _ _ => rfl)
      (μ := fun s => ns - s.1.toNatClampNeg) (P := fun s => ∃ j, j ≤ ns ∧ nI j = s.1 ∧ Ch σ reL d s.2 ∧ (∀ q, q < i → gA s.2 (σ 109) q = st0 W 0 q ∧ gA s.2 (σ 110) q = st0 W 1 q) ∧ ∀ q, q < j → gA s.2 (σ 111) q = st0 W 2 q ∧ gA s.2 (σ 112) q = st0 W 3 q) ?_ ns (0, d3) ⟨0, by omega, rfl, c3, g3, fun q hq => absurd hq (by omega)⟩ (Nat.sub_le _ _)⟩
    rintro k2 ⟨v, d4⟩ ⟨j, hj, rfl, c4, g4, g5⟩ hk2
    have c4 : Ch σ reL d d4 := c4
    have g4 : ∀ q, q < i → gA d4 (σ 109) q = st0 W 0 q ∧ gA d4 (σ 110) q = st0 W 1 q := g4
    have g5 : ∀ q, q < j → gA d4 (σ 111) q = st0 W 2 q ∧ gA d4 (σ 112) q = st0 W 3 q := g5
    have e4 : gA d4 (σ 88) = W := (reL_88 c4).trans eW
    simp only [b_X11_narrows_42, x_87_1 h, x_87_36 h, x_87_37 h, en_88 h, en_111 h, en_112 h, qn_5, e4, hn5, z_nn (show j < 2147483648 by omega)]
    refine ⟨vpi (k := 5) (by decide) (by decide), fun hc2 => ?_, fun hc2 => ⟨vpi (by rw [z_le (by omega) (by omega)] at hc2; omega) (by decide), vpi (by rw [z_le (by omega) (by omega)] at hc2; omega) (by decide), ?_⟩⟩
    · rw [z_le (by omega) (by omega)] at hc2
      have : j = ns := by omega
      subst this
      obtain ⟨N, hN⟩ : ∃ N : Nat, N = 5000 := ⟨5000, rfl⟩
      rw [← hN] at k0 k1
      refine ⟨N + 1, loopG (S := Int32 × Int32 × Int32 × Dy) (l := fun N s => l_X11_narrows_80 E (σ 87) kn K N s.1 s.2.1 s.2.2.1 s.2.2.2) (b := fun kk s => b_X11_narrows_80 E (σ 87) kn K (fun a b c e => kk (a, b, c, e)) s.1 s.2.1 s.2.2.1 s.2.2.2) (fun _ _ => rfl)
        (μ := fun s => N - s.2.2.1.toNatClampNeg) (P := fun s => ∃ r, r ≤ N ∧ nI r = s.2.2.1 ∧ Ch σ reL d s.2.2.2 ∧ ((s.1 = 1 ∧ ∃ T, A4 σ 109 j i s.2.2.2 T ∧ (s.2.1 = 0 ∨ s.2.1 = 1) ∧ (if s.2.1 = 0 then some T else it4 (stB W) (pl4 (stK W kn) j i 0) (N - r) T) = it4 (stB W) (pl4 (stK W kn) j i 0) N (st0 W)) ∨ (s.1 = 0 ∧ it4 (stB W) (pl4 (stK W kn) j i 0) N (st0 W) = none))) ?_ N (1, 1, 0, d4) ⟨0, by omega, rfl, c4, Or.inl ⟨rfl, st0 W, ⟨g4, g5⟩, Or.inr rfl, by rw [if_neg (show ¬ (1 : Int32) = 0 by decide), Nat.sub_zero]⟩⟩ (Nat.sub_le _ _)⟩
      rintro k3 ⟨vc, vm, v, d6⟩ ⟨r, hr, rfl, c6, hh⟩ hk3
      have c6 : Ch σ reL d d6 := c6
      have hh : (vc = 1 ∧ ∃ T, A4 σ 109 j i d6 T ∧ (vm = 0 ∨ vm = 1) ∧ (if vm = 0 then some T else it4 (stB W) (pl4 (stK W kn) j i 0) (N - r) T) = it4 (stB W) (pl4 (stK W kn) j i 0) N (st0 W)) ∨ (vc = 0 ∧ it4 (stB W) (pl4 (stK W kn) j i 0) N (st0 W) = none) := hh
      have end0 : vc = 0 → (vc = 0 ∨ vc = 1) ∧ K vc d6 := fun hz => by
        rcases hh with ⟨q1, -⟩ | ⟨q1, q2⟩
        · rw [q1] at hz; exact absurd hz (by decide)
        · exact ⟨Or.inl hz, hz ▸ k0 d6 c6 q2⟩
      rcases hh with ⟨q1, T, A6, hm, hr2⟩ | ⟨q1, q2⟩
      · subst q1
        refine ⟨fun h0 => ?_, fun h0 => ⟨fun h1 => absurd h1 (show ¬ (1 : Int32) = 0 by decide), fun _ => ⟨fun h2 => ?_, fun h2 => ?_⟩⟩⟩
        · rw [if_pos h0] at hr2
          exact ⟨Or.inr rfl, k1 d6 T c6 hr2.symm A6⟩
        · rw [show (5000 : Int32) = nI 5000 from rfl, z_le (by decide) (by omega)] at h2
          rw [show N - r = 0 by omega] at hr2
          refine ⟨Or.inr rfl, k1 d6 T c6 ?_ A6⟩
          rw [← hr2]; split <;> rfl
        · rw [show (5000 : Int32) = nI 5000 from rfl, z_le (by decide) (by omega)] at h2
          rw [if_neg h0, show N - r = (N - (r + 1)) + 1 by omega] at hr2
          simp only [it4] at hr2
          /- one round -/
          refine ⟨j + 1, loopG (S := Int32 × Int32 × Int32 × Int32 × Dy) (l := fun N s => l_X11_narrows_101 E (σ 87) kn K _ N s.1 s.2.1 s.2.2.1 s.2.2.2.1 s.2.2.2.2) (b := fun kk s => b_X11_narrows_101 E (σ 87) kn K _ (fun a b c e f => kk (a, b, c, e, f)) s.1 s.2.1 s.2.2.1 s.2.2.2.1 s.2.2.2.2) (fun _ _ => rfl)
            (μ := fun s => j - s.2.2.2.1.toNatClampNeg) (P := fun s => nI r = s.2.2.1 ∧ ∃ q, q ≤ j ∧ nI q = s.2.2.2.1 ∧ Ch σ reL d s.2.2.2.2 ∧ ((s.1 = 1 ∧ ∃ U, A4 σ 109 j i s.2.2.2.2 U ∧ (s.2.1 = 0 ∨ s.2.1 = 1) ∧ run4 (stB W) (pl4 (stK W kn) j i q) U s.2.1 = run4 (stB W) (pl4 (stK W kn) j i 0) T 0) ∨ (s.1 = 0 ∧ run4 (stB W) (pl4 (stK W kn) j i 0) T 0 = none ∧ ∃ U, A4 σ 109 j i s.2.2.2.2 U))) ?_ j (1, 0, nI r, 0, d6) ⟨rfl, 0, by omega, rfl, c6, Or.inl ⟨rfl, T, A6, Or.inl rfl, rfl⟩⟩ (Nat.sub_le _ _)⟩
          rintro k4 ⟨wc, wm, wr, v, d7⟩ ⟨rfl, q, hq, rfl, c7, hh⟩ hk4
          have c7 : Ch σ reL d d7 := c7
          have hh : (wc = 1 ∧ ∃ U, A4 σ 109 j i d7 U ∧ (wm = 0 ∨ wm = 1) ∧ run4 (stB W) (pl4 (stK W kn) j i q) U wm = run4 (stB W) (pl4 (stK W kn) j i 0) T 0) ∨ (wc = 0 ∧ run4 (stB W) (pl4 (stK W kn) j i 0) T 0 = none ∧ ∃ U, A4 σ 109 j i d7 U) := hh
          have e7 : gA d7 (σ 88) = W := (reL_88 c7).trans eW
          have x2 : (390 : Int32) + 3 * nI q + 2 = nI (390 + 3 * q + 2) := r_lin 390 3 q 2
          have x1 : (390 : Int32) + 3 * nI q + 1 = nI (390 + 3 * q + 1) := r_lin 390 3 q 1
          simp only [b_X11_narrows_101, x_87_1 h, en_88 h, qn_5, e7, hn5, x2, z_nn (show 390 + 3 * q + 2 < 2147483648 by omega)]
          refine ⟨vpi (k := 5) (by decide) (by decide), fun hc3 => ?_, fun hc3 => ⟨vpw (by omega), fun hkn => ?_, fun hkn => ?_⟩⟩
          · rw [z_le (by omega) (by omega)] at hc3
            have : q = j := by omega
            subst this
            rw [z_a1]
            refine hk3 (wc, wm, nI (r + 1), d7) ⟨r + 1, by omega, rfl, c7, ?_⟩ (by simp only [z_nn (show r + 1 < 2147483648 by omega), z_nn (show r < 2147483648 by omega)]; omega)
            rcases hh with ⟨q1, U, AU, hwm, hU⟩ | ⟨q1, q2, -⟩
            · rw [pl4_e] at hU
              rw [← show some (U, wm) = _ from hU] at hr2
              exact Or.inl ⟨q1, U, AU, hwm, hr2⟩
            · rw [q2] at hr2
              exact Or.inr ⟨q1, hr2.symm⟩
          · rw [z_le (by omega) (by omega)] at hc3
            /- one storm -/
            have hpl := pl4_c (kn := stK W kn) (nh := i) (show q < j by omega)
            rw [if_pos (by simpa [stK] using hkn)] at hpl
            refine ⟨i + 1, loopG (S := Int32 × Int32 × Int32 × Int32 × Int32 × Dy) (l := fun N s => l_X11_narrows_137 E (σ 87) kn K _ _ N s.1 s.2.1 s.2.2.1 s.2.2.2.1 s.2.2.2.2.1 s.2.2.2.2.2) (b := fun kk s => b_X11_narrows_137 E (σ 87) kn K _ _ (fun a b c e f g => kk (a, b, c, e, f, g)) s.1 s.2.1 s.2.2.1 s.2.2.2.1 s.2.2.2.2.1 s.2.2.2.2.2) (fun _ _ => rfl)
              (μ := fun s => i - s.2.2.2.2.1.toNatClampNeg) (P := fun s => nI r = s.2.2.1 ∧ nI q = s.2.2.2.1 ∧ ∃ p, p ≤ i ∧ nI p = s.2.2.2.2.1 ∧ Ch σ reL d s.2.2.2.2.2 ∧ ((s.1 = 1 ∧ ∃ U, A4 σ 109 j i s.2.2.2.2.2 U ∧ (s.2.1 = 0 ∨ s.2.1 = 1) ∧ run4 (stB W) (rw4 q i p ++ pl4 (stK W kn) j i (q + 1)) U s.2.1 = run4 (stB W) (pl4 (stK W kn) j i 0) T 0) ∨ (s.1 = 0 ∧ run4 (stB W) (pl4 (stK W kn) j i 0) T 0 = none ∧ ∃ U, A4 σ 109 j i s.2.2.2.2.2 U))) ?_ i (wc, wm, nI r, nI q, 0, d7) ⟨rfl, rfl, 0, by omega, rfl, c7, ?_⟩ (Nat.sub_le _ _)⟩
            · rintro k5 ⟨yc, ym, yr, yq, v, d8⟩ ⟨rfl, rfl, p, hp, rfl, c8, hh⟩ hk5
              have c8 : Ch σ reL d d8 := c8
              have hh : (yc = 1 ∧ ∃ U, A4 σ 109 j i d8 U ∧ (ym = 0 ∨ ym = 1) ∧ run4 (stB W) (rw4 q i p ++ pl4 (stK W kn) j i (q + 1)) U ym = run4 (stB W) (pl4 (stK W kn) j i 0) T 0) ∨ (yc = 0 ∧ run4 (stB W) (pl4 (stK W kn) j i 0) T 0 = none ∧ ∃ U, A4 σ 109 j i d8 U) := hh
              have e8 : gA d8 (σ 88) = W := (reL_88 c8).trans eW
              refine r_huts h ?_
              rw [e8, hn1]
              refine ⟨fun hc4 => ?_, fun hc4 => ?_⟩
              · rw [z_le (by omega) (by omega)] at hc4
                have : p = i := by omega
                subst this
                rw [z_a1]
                refine hk4 (yc, ym, nI r, nI (q + 1), d8) ⟨rfl, q + 1, by omega, rfl, c8, ?_⟩ (by simp only [z_nn (show q + 1 < 2147483648 by omega), z_nn (show q < 2147483648 by omega)]; omega)
                rcases hh with ⟨q1, U, AU, hwm, hU⟩ | q1
                · rw [rw4_e, List.nil_append] at hU
                  exact Or.inl ⟨q1, U, AU, hwm, hU⟩
                · exact Or.inr q1
              · rw [z_le (by omega) (by omega)] at hc4
                simp only [x_87_1 h, en_88 h, x1, e8, z_nn (show 390 + 3 * q + 1 < 2147483648 by omega)]
                obtain ⟨U, AU⟩ : ∃ U, A4 σ 109 j i d8 U := by
                  rcases hh with ⟨_, U, AU, _⟩ | ⟨_, _, U, AU⟩ <;> exact ⟨U, AU⟩
                have go : ∀ U, A4 σ 109 j i d8 U → ((yc = 1 ∧ (ym = 0 ∨ ym = 1) ∧ run4 (stB W) (rw4 q i p ++ pl4 (stK W kn) j i (q + 1)) U ym = run4 (stB W) (pl4 (stK W kn) j i 0) T 0) ∨ (yc = 0 ∧ run4 (stB W) (pl4 (stK W kn) j i 0) T 0 = none)) → ∀ k80 k101 sb, (sb = if stB W q p = true then 1 else 0) → b_X11_narrows_175 E (σ 87) kn K k80 k101 (fun a b c e f g => k5 (a, b, c, e, f, g)) yc ym (nI r) (nI q) (nI p) sb d8 := by
                  intro U AU hU k80 k101 sb hsb
                  have hyc : yc = 0 ∨ yc = 1 := by
                    rcases hU with ⟨q1, _⟩ | ⟨q1, _⟩
                    · exact Or.inr q1
                    · exact Or.inl q1
                  refine r_175 h hns hnh (by omega) (by omega) AU hyc hsb (fun d9 c9 A9 => ?_)
                  rw [z_a1]
                  refine hk5 (_, _, nI r, nI q, nI (p + 1), d9) ⟨rfl, rfl, p + 1, by omega, rfl, Ch_tr c8 c9, ?_⟩ (by simp only [z_nn (show p + 1 < 2147483648 by omega), z_nn (show p < 2147483648 by omega)]; omega)
                  rcases hU with ⟨q1, q2, q3⟩ | ⟨q1, q2⟩
                  · rw [rw4_c (by omega), List.cons_append] at q3
                    simp only [run4] at q3
                    by_cases ok : ok4 (stp4 (stB W q p) U q p) q p
                    · rw [if_pos ok] at q3
                      exact Or.inl ⟨if_pos ⟨q1, ok⟩, _, A9, ite01 _, q3⟩
                    · rw [if_neg ok] at q3
                      exact Or.inr ⟨if_neg (fun q => ok q.2), q3.symm, _, A9⟩
                  · exact Or.inr ⟨if_neg (fun q => by rw [q1] at q; exact absurd q.1 (by decide)), q2, _, A9⟩
                have go2 : ∀ k80 k101 sb, (sb = if stB W q p = true then 1 else 0) → b_X11_narrows_175 E (σ 87) kn K k80 k101 (fun a b c e f g => k5 (a, b, c, e, f, g)) yc ym (nI r) (nI q) (nI p) sb d8 := by
                  rcases hh with ⟨q1, U, AU, hwm, hU⟩ | ⟨q1, q2, U, AU⟩
                  · exact go U AU (Or.inl ⟨q1, hwm, hU⟩)
                  · exact go U AU (Or.inr ⟨q1, q2⟩)
                refine ⟨vpw (by omega), fun hb => go2 _ _ 0 ?_, fun hb => go2 _ _ 1 ?_⟩
                · rw [if_neg]; intro q; simp only [stB, bitB, decide_eq_true_eq] at q; exact hb q
                · rw [if_pos]; simp only [stB, bitB, decide_eq_true_eq]; exact hb
            · rcases hh with ⟨q1, U, AU, hwm, hU⟩ | q1
              · rw [hpl] at hU
                exact Or.inl ⟨q1, U, AU, hwm, hU⟩
              · exact Or.inr q1
          · rw [z_le (by omega) (by omega)] at hc3
            have hpl := pl4_c (kn := stK W kn) (nh := i) (show q < j by omega)
            rw [if_neg (by simpa [stK] using hkn), List.nil_append] at hpl
            rw [z_a1]
            refine hk4 (wc, wm, nI r, nI (q + 1), d7) ⟨rfl, q + 1, by omega, rfl, c7, ?_⟩ (by simp only [z_nn (show q + 1 < 2147483648 by omega), z_nn (show q < 2147483648 by omega)]; omega)
            rcases hh with ⟨q1, U, AU, hwm, hU⟩ | q1
            · rw [hpl] at hU
              exact Or.inl ⟨q1, U, AU, hwm, hU⟩
            · exact Or.inr q1
      · exact ⟨fun _ => end0 q1, fun _ => ⟨fun _ => end0 q1, fun q => absurd q1 q⟩⟩
    · rw [z_le (by omega) (by omega)] at hc2
      rw [z_a1]
      refine hk2 (nI (j + 1), _) ⟨j + 1, by omega, rfl, Ch_tr c4 (Ch_tr (Ch_pA h (by decide) (by decide)) (Ch_pA h (by decide) (by decide))), fun q hq => ?_, fun q hq => ⟨?_, ?_⟩⟩ (by simp only [z_nn (show j + 1 < 2147483648 by omega), z_nn (show j < 2147483648 by omega)]; omega)
      · show gA (pA (pA d4 (σ 111) j 0) (σ 112) j 100) (σ 109) q = _ ∧ gA (pA (pA d4 (σ 111) j 0) (σ 112) j 100) (σ 110) q = _
        rw [gA_pA_ne _ _ _ (Env_ne h (by decide) (by decide) (by decide)), gA_pA_ne _ _ _ (Env_ne h (by decide) (by decide) (by decide)), gA_pA_ne _ _ _ (Env_ne h (by decide) (by decide) (by decide)), gA_pA_ne _ _ _ (Env_ne h (by decide) (by decide) (by decide))]
        exact g4 q hq
      · show gA (pA (pA d4 (σ 111) j 0) (σ 112) j 100) (σ 111) q = _
        rw [gA_pA_ne _ _ _ (Env_ne h (by decide) (by decide) (by decide)), gA_pA]
        by_cases e : q = j
        · subst e; simp [st0]
        · simp only [if_neg e]; exact (g5 q (by omega)).1
      · show gA (pA (pA d4 (σ 111) j 0) (σ 112) j 100) (σ 112) q = _
        rw [gA_pA, gA_pA_ne _ _ _ (Env_ne h (by decide) (by decide) (by decide))]
        by_cases e : q = j
        · subst e; simp [st0]
        · simp only [if_neg e]; exact (g5 q (by omega)).2
  · rw [z_le (by omega) (by omega)] at hc
    simp only [x_87_34 h, x_87_35 h, en_109 h, en_110 h, z_nn (show i < 2147483648 by omega)]
    refine r_ofHut h (c := 3) (by omega) (by decide) ⟨vpi (by omega) (by decide), r_ofHut h (c := 4) (by omega) (by decide) ⟨vpi (by omega) (by decide), ?_⟩⟩
    rw [gA_pA_ne _ _ _ (Env_ne h (by decide) (by decide) (by decide)), e3, z_a1]
    refine hk (nI (i + 1), _) ⟨i + 1, by omega, rfl, Ch_tr c3 (Ch_tr (Ch_pA h (by decide) (by decide)) (Ch_pA h (by decide) (by decide))), fun q hq => ⟨?_, ?_⟩⟩ (by simp only [z_nn (show i + 1 < 2147483648 by omega), z_nn (show i < 2147483648 by omega)]; omega)
    · show gA (pA (pA d3 (σ 109) i _) (σ 110) i _) (σ 109) q = _
      rw [gA_pA_ne _ _ _ (Env_ne h (by decide) (by decide) (by decide)), gA_pA]
      by_cases e : q = i
      · subst e; simp [st0]
      · simp only [if_neg e]; exact (g3 q (by omega)).1
    · show gA (pA (pA d3 (σ 109) i _) (σ 110) i _) (σ 110) q = _
      rw [gA_pA, gA_pA_ne _ _ _ (Env_ne h (by decide) (by decide) (by decide))]
      by_cases e : q = i
      · subst e; simp [st0]
      · simp only [if_neg e]; exact (g3 q (by omega)).2
end
