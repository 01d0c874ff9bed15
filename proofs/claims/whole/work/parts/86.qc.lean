section
variable {σ : Nat → Nat} {E : En} {d d' d2 d3 : Dy} {kc : En → Dy → Prop} {v4 : Int32} {xs : Nat → Int32} {L : Nat}
def mxN (g : Nat → Nat) : Nat → Nat
  | 0 => 0
  | i + 1 => if mxN g i < g i then g i else mxN g i
theorem mx_le (g : Nat → Nat) : ∀ n k, k < n → g k ≤ mxN g n
  | n + 1, k, h => by
    unfold mxN
    by_cases e : k = n
    · subst e; split <;> omega
    · have := mx_le g n k (by omega)
      split <;> omega
theorem mx_at (g : Nat → Nat) : ∀ n, 0 < n → ∃ k, k < n ∧ (mxN g n = g k ∨ mxN g n = 0)
  | n + 1, _ => by
    unfold mxN
    split
    · exact ⟨n, by omega, Or.inl rfl⟩
    · by_cases h0 : n = 0
      · subst h0; exact ⟨0, by omega, Or.inr rfl⟩
      · obtain ⟨k, hk, h⟩ := mx_at g n (by omega)
        exact ⟨k, by omega, h⟩
theorem mx_at' (g : Nat → Nat) (n : Nat) (h : 0 < n) : ∃ k, k < n ∧ mxN g n = g k := by
  obtain ⟨k, hk, h1 | h1⟩ := mx_at g n h
  · exact ⟨k, hk, h1⟩
  · have := mx_le g n k hk
    exact ⟨k, hk, by omega⟩
theorem mx_b (g : Nat → Nat) (b : Nat) : ∀ n, (∀ k, k < n → g k ≤ b) → mxN g n ≤ b
  | 0, _ => Nat.zero_le b
  | n + 1, h => by
    unfold mxN
    have := mx_b g b n (fun k hk => h k (by omega))
    have := h n (by omega)
    split <;> omega
def thG (g : Nat → Nat) (n p : Nat) : Prop := ∀ k, k < n → g k % p = g 0 % p
theorem thG_iff {g : Nat → Nat} {n p : Nat} (hn : 0 < n) (hp : 0 < p) : thG g n p ↔ ∀ k, k < n → (mxN g n - g k) % p = 0 := by
  obtain ⟨m, hm, em⟩ := mx_at' g n hn
  have key : ∀ k, k < n → ((mxN g n - g k) % p = 0 ↔ g k % p = mxN g n % p) := fun k hk => by
    have hle := mx_le g n k hk
    constructor
    · intro h0
      obtain ⟨c, hc⟩ := Nat.dvd_of_mod_eq_zero h0
      have : mxN g n = g k + p * c := by omega
      rw [this, Nat.add_mul_mod_self_left]
    · intro h0
      exact Nat.sub_mod_eq_zero_of_mod_eq h0.symm
  constructor
  · intro h k hk
    rw [key k hk, h k hk, em, h m hm]
  · intro h k hk
    rw [(key k hk).mp (h k hk), (key 0 hn).mp (h 0 hn)]
theorem p_thieves (I : Inv σ E d) (q : Int32) {K1 : Int32 → Dy → Prop} (k1 : ∀ r, (∀ {d2 : Dy} {K2 : Int32 → Dy → Prop}, gA d2 (σ 88) = gA d (σ 88) → K2 r (pI d2 (σ 87) 0 0) → w_X11_thieves E (σ 87) q d2 K2) → K1 r d) : w_X10_thieves E (σ 0) q d K1 := by
  have h := I.1
  have td := td_20 I
  have wc := wc_9 I
  have tv : ∀ r, r < cnt (gA d (σ 88)) 9 → gA d (σ 21) (r * 1 + 0) = gA d (σ 88) (524 + r) := fun r hr => by have := tv_20 I hr (c := 0) (by decide); rwa [Nat.one_mul, Nat.add_zero] at this
  have ok : ∀ r, r < cnt (gA d (σ 88)) 9 → ∃ m, m ≤ 365 ∧ gA d (σ 88) (524 + r) = nI m := fun r hr => by
    have q1 : bw (gA d (σ 88) (524 + 1 * r + 0)) 0 365 := ok_20 I hr
    rw [Nat.one_mul, Nat.add_zero] at q1
    obtain ⟨m, _, h2, h3⟩ := bw_n (a := 0) (b := 365) q1 (by decide) (by decide)
    exact ⟨m, h2, h3⟩
  generalize hn : cnt (gA d (σ 88)) 9 = n at td wc tv ok
  have hnb := td.2.2.2
  obtain ⟨g, hg⟩ : ∃ g : Nat → Nat, g = fun r => (gA d (σ 88) (524 + r)).toNatClampNeg := ⟨_, rfl⟩
  have hg1 : ∀ r, r < n → gA d (σ 88) (524 + r) = nI (g r) ∧ g r ≤ 365 := fun r hr => by
    obtain ⟨m, h1, h2⟩ := ok r hr
    rw [hg]
    simp only [h2, z_nn (show m < 2147483648 by omega)]
    exact ⟨trivial, h1⟩
  generalize hW : gA d (σ 88) = W at *
  have hM : mxN g n ≤ 365 := mx_b g 365 n (fun k hk => (hg1 k hk).2)
  simp only [w_X10_thieves, x_0_0 h, x_1_10 h]
  by_cases hn2 : 2 ≤ n
  · refine ⟨eo_0 h, T_size (te_20 h) td ⟨fun _ => ?_, fun hc => absurd ((z_le (a := 2) (by decide) (by omega)).mpr hn2) hc⟩⟩
    /- all fall on -/
    have fall : ∀ p, 2 ≤ p → p ≤ 40 → ∀ {K2 : Int32 → Dy → Prop}, (thG g n p → K2 1 d) → (¬ thG g n p → K2 0 d) → w_X10_allFallOn E (σ 0) (nI p) (nI (mxN g n)) d K2 := by
      intro p hp1 hp2 K2 ky kn
      refine ⟨eo_0 h, n + 1, loopG (S := Int32 × Dy) (l := fun N s => l_X10_allFallOn_2 E (σ 0) (nI p) (nI (mxN g n)) K2 N s.1 s.2) (b := fun kk s => b_X10_allFallOn_2 E (σ 0) (nI p) (nI (mxN g n)) K2 (fun a b => kk (a, b)) s.1 s.2) (fun _ _ => rfl)
        (μ := fun s => n - s.1.toNatClampNeg) (P := fun s => d = s.2 ∧ ∃ i, i ≤ n ∧ nI i = s.1 ∧ ∀ k, k < i → (mxN g n - g k) % p = 0) ?_ n (0, d) ⟨rfl, 0, by omega, rfl, fun k hk => absurd hk (by omega)⟩ (Nat.sub_le _ _)⟩
      rintro kk ⟨v, d3⟩ ⟨rfl, i, hi, rfl, h1⟩ hk
      simp only [b_X10_allFallOn_2, x_0_0 h, x_1_10 h]
      refine T_size (te_20 h) td ⟨fun hc => ?_, fun hc => ⟨fun hq => ?_, fun hq => ?_⟩⟩
      · rw [z_le (by omega) (by omega)] at hc
        exact ky ((thG_iff (by omega) (by omega)).mpr (fun k hk => h1 k (by omega)))
      · rw [show (1 : Int32) = nI 1 from rfl, z_lt (by omega) (by decide)] at hq; omega
      · rw [z_le (by omega) (by omega)] at hc
        refine T_get (c := 0) (te_20 h) td (by omega) (by decide) ?_
        have hle := mx_le g n i (by omega)
        rw [tv i (by omega), (hg1 i (by omega)).1, z_sub hle, z_rem (by omega) (by omega), z_a1]
        refine ⟨fun h0 => ?_, fun h0 => ?_, fun h0 => ?_⟩
        · rw [show (0 : Int32) = nI 0 from rfl, z_eq (by omega) (by decide)] at h0; omega
        · have hlt := Nat.mod_lt (mxN g n - g i) (show 0 < p by omega)
          rw [show (0 : Int32) = nI 0 from rfl, z_eq (by omega) (by decide)] at h0
          refine hk (nI (i + 1), d) ⟨rfl, i + 1, by omega, rfl, fun k hk2 => ?_⟩ (by simp only [z_nn (show i + 1 < 2147483648 by omega), z_nn (show i < 2147483648 by omega)]; omega)
          by_cases e : k = i
          · subst e; exact h0
          · exact h1 k (by omega)
        · refine kn (fun hq2 => h0 ?_)
          rw [(thG_iff (by omega) (by omega)).mp hq2 i (by omega)]; rfl
    /- the reference -/
    have ref : ∀ r, (∀ {d2 : Dy} {K2 : Int32 → Dy → Prop}, gA d2 (σ 88) = W → K2 r d2 → ∃ N, l_X11_thieves_22 E (σ 87) q K2 N (nI n) 2 d2) → ∀ {d2 : Dy} {K2 : Int32 → Dy → Prop}, gA d2 (σ 88) = W → K2 r (pI d2 (σ 87) 0 0) → w_X11_thieves E (σ 87) q d2 K2 := by
      intro r hr d2 K2 e2 hk
      have e9 : gA (pI d2 (σ 87) 0 0) (σ 88) 9 = nI n := by rw [gA_pI_x, e2]; exact wc.1
      simp only [w_X11_thieves, x_87_1 h, en_88 h, qn_9, e9]
      exact ⟨eo_87 h, vpi (k := 9) (by decide) (by decide), fun _ => hr (by rw [gA_pI_x]; exact e2) hk, fun hc => absurd ((z_le (a := 2) (by decide) (by omega)).mpr hn2) hc⟩
    have inner : ∀ p, 2 ≤ p → p ≤ 40 → ∀ {d2 : Dy} {K2 : Int32 → Dy → Prop} {kk : Int32 → Int32 → Dy → Prop}, gA d2 (σ 88) = W → (¬ thG g n p → kk (nI n) (nI p + 1) d2) → (thG g n p → K2 (if q = 0 then nI p else nI (mxN g n + p)) d2) → ∃ N, l_X11_thieves_37 E (σ 87) q K2 kk N (nI n) (nI p) 1 0 0 d2 := by
      intro p hp1 hp2 d2 K2 kk e2 kn ky
      refine ⟨n + 1, loopG (S := Int32 × Int32 × Int32 × Int32 × Int32 × Dy) (l := fun N s => l_X11_thieves_37 E (σ 87) q K2 kk N s.1 s.2.1 s.2.2.1 s.2.2.2.1 s.2.2.2.2.1 s.2.2.2.2.2) (b := fun k2 s => b_X11_thieves_37 E (σ 87) q K2 kk (fun a b c e f g => k2 (a, b, c, e, f, g)) s.1 s.2.1 s.2.2.1 s.2.2.2.1 s.2.2.2.2.1 s.2.2.2.2.2) (fun _ _ => rfl)
        (μ := fun s => n - s.2.2.2.2.1.toNatClampNeg) (P := fun s => d2 = s.2.2.2.2.2 ∧ nI n = s.1 ∧ nI p = s.2.1 ∧ ∃ i, i ≤ n ∧ nI i = s.2.2.2.2.1 ∧ nI (mxN g i) = s.2.2.2.1 ∧ ((s.2.2.1 = 1 ∧ ∀ k, k < i → g k % p = g 0 % p) ∨ (s.2.2.1 = 0 ∧ ¬ ∀ k, k < i → g k % p = g 0 % p))) ?_ n (nI n, nI p, 1, 0, 0, d2) ⟨rfl, rfl, rfl, 0, by omega, rfl, rfl, Or.inl ⟨rfl, fun k hk => absurd hk (by omega)⟩⟩ (Nat.sub_le _ _)⟩
      rintro k2 ⟨a1, a2, fl, mx, v, d3⟩ ⟨rfl, rfl, rfl, i, hi, rfl, rfl, hfl⟩ hk
      have hfl : (fl = 1 ∧ ∀ k, k < i → g k % p = g 0 % p) ∨ (fl = 0 ∧ ¬ ∀ k, k < i → g k % p = g 0 % p) := hfl
      have e1 : (524 : Int32) + nI i = nI (524 + i) := z_add 524 i
      have e5 : (524 : Int32).toNatClampNeg = 524 := rfl
      simp only [b_X11_thieves_37, b_X11_thieves_78, b_X11_thieves_79, x_87_1 h, en_88 h, e2, e1, e5, z_nn (show 524 + i < 2147483648 by omega)]
      have hmb : ∀ j, j ≤ n → mxN g j ≤ 365 := fun j hj => mx_b g 365 j (fun k hk => (hg1 k (by omega)).2)
      have hmi := hmb i hi
      have nx : ∀ fl', i < n → ((fl' = 1 ∧ ∀ k, k < i + 1 → g k % p = g 0 % p) ∨ (fl' = 0 ∧ ¬ ∀ k, k < i + 1 → g k % p = g 0 % p)) → k2 (nI n, nI p, fl', (if nI (mxN g i) < nI (g i) then nI (g i) else nI (mxN g i)), nI i + 1, d2) := fun fl' hin hf => by
        have hgi := (hg1 i hin).2
        have em : (if nI (mxN g i) < nI (g i) then nI (g i) else nI (mxN g i)) = nI (mxN g (i + 1)) := by
          show _ = nI (if mxN g i < g i then g i else mxN g i)
          by_cases hh : mxN g i < g i
          · rw [if_pos ((z_lt (by omega) (by omega)).mpr hh), if_pos hh]
          · rw [if_neg (fun q => hh ((z_lt (by omega) (by omega)).mp q)), if_neg hh]
        rw [em, z_a1]
        exact hk (nI n, nI p, fl', nI (mxN g (i + 1)), nI (i + 1), d2) ⟨rfl, rfl, rfl, i + 1, by omega, rfl, rfl, hf⟩ (by simp only [z_nn (show i + 1 < 2147483648 by omega), z_nn (show i < 2147483648 by omega)]; omega)
      refine ⟨fun hc => ⟨fun h0 => ?_, fun h0 => ?_⟩, fun hc => ⟨fun h0 => ?_, fun h0 => ?_⟩⟩
      · rw [z_le (by omega) (by omega)] at hc
        have hin : i = n := by omega
        subst hin
        rcases hfl with ⟨f1, f2⟩ | ⟨f1, f2⟩
        · exact absurd (f1.symm.trans h0) (by decide)
        · exact kn f2
      · rw [z_le (by omega) (by omega)] at hc
        have hin : i = n := by omega
        subst hin
        rcases hfl with ⟨f1, f2⟩ | ⟨f1, f2⟩
        · have := ky f2
          refine ⟨fun hq => ?_, fun hq => ?_⟩
          · rw [if_pos hq] at this; exact this
          · rw [if_neg hq] at this; rw [z_add]; exact this
        · exact absurd f1 h0
      · rw [z_le (by omega) (by omega)] at hc
        rw [(hg1 i (by omega)).1]
        refine ⟨vpw (by omega), nx 0 (by omega) (Or.inr ⟨rfl, fun hq => ?_⟩)⟩
        rcases hfl with ⟨f1, f2⟩ | ⟨f1, f2⟩
        · exact absurd (f1.symm.trans h0) (by decide)
        · exact f2 (fun k hk => hq k (by omega))
      · rw [z_le (by omega) (by omega)] at hc
        have f2 : ∀ k, k < i → g k % p = g 0 % p := by
          rcases hfl with ⟨f1, f2⟩ | ⟨f1, f2⟩
          · exact f2
          · exact absurd f1 h0
        have hgi := (hg1 i (by omega)).2
        have hg0 := (hg1 0 (by omega)).2
        have e0 : W 524 = nI (g 0) := (hg1 0 (by omega)).1
        have hm1 := Nat.mod_le (g i) p
        have hm2 := Nat.mod_le (g 0) p
        rw [(hg1 i (by omega)).1, e0, z_rem (by omega) (by omega), z_rem (by omega) (by omega), z_eq (by omega) (by omega)]
        have hp0 : ¬ nI p = 0 := fun q => by rw [show (0 : Int32) = nI 0 from rfl, z_eq (by omega) (by decide)] at q; omega
        refine ⟨vpw (by omega), hp0, vpi (k := 524) (by decide) (by decide), hp0, fun hq => ⟨vpw (by omega), nx 0 (by omega) (Or.inr ⟨rfl, fun hq2 => hq (hq2 i (by omega))⟩)⟩, fun hq => ⟨vpw (by omega), nx 1 (by omega) (Or.inl ⟨rfl, fun k hk => ?_⟩)⟩⟩
        by_cases e : k = i
        · subst e; exact hq
        · exact f2 k (by omega)
    have outer : ∀ r, (∀ p, 2 ≤ p → p ≤ 40 → thG g n p → (∀ p', 2 ≤ p' → p' < p → ¬ thG g n p') → r = if q = 0 then nI p else nI (mxN g n + p)) → ((∀ p', 2 ≤ p' → p' ≤ 40 → ¬ thG g n p') → r = -1) → ∀ {d2 : Dy} {K2 : Int32 → Dy → Prop}, gA d2 (σ 88) = W → K2 r d2 → ∃ N, l_X11_thieves_22 E (σ 87) q K2 N (nI n) 2 d2 := by
      intro r hr1 hr2 d2 K2 e2 hkr
      obtain ⟨N, hN⟩ : ∃ N : Nat, N = 40 := ⟨40, rfl⟩
      refine ⟨N + 1, loopG (S := Int32 × Int32 × Dy) (l := fun N s => l_X11_thieves_22 E (σ 87) q K2 N s.1 s.2.1 s.2.2) (b := fun k2 s => b_X11_thieves_22 E (σ 87) q K2 (fun a b c => k2 (a, b, c)) s.1 s.2.1 s.2.2) (fun _ _ => rfl)
        (μ := fun s => 41 - s.2.1.toNatClampNeg) (P := fun s => d2 = s.2.2 ∧ nI n = s.1 ∧ ∃ p, 2 ≤ p ∧ p ≤ 41 ∧ nI p = s.2.1 ∧ ∀ p', 2 ≤ p' → p' < p → ¬ thG g n p') ?_ N (nI n, 2, d2) ⟨rfl, rfl, 2, by omega, by omega, rfl, fun p' h1 h2 => by omega⟩ (by rw [hN]; show 41 - (2 : Int32).toNatClampNeg ≤ 40; decide)⟩
      rintro k2 ⟨a1, v, d3⟩ ⟨rfl, rfl, p, hp1, hp2, rfl, hno⟩ hk
      refine ⟨fun hc => ?_, fun hc => ?_⟩
      · rw [show (40 : Int32) = nI 40 from rfl, z_lt (by decide) (by omega)] at hc
        have := hr2 (fun p' h1 h2 => hno p' h1 (by omega))
        rw [this] at hkr; exact hkr
      · rw [show (40 : Int32) = nI 40 from rfl, z_lt (by decide) (by omega)] at hc
        refine inner p hp1 (by omega) e2 (fun hq => ?_) (fun hq => ?_)
        · rw [z_a1]
          refine hk (nI n, nI (p + 1), d2) ⟨rfl, rfl, p + 1, by omega, by omega, rfl, fun p' h1 h2 => ?_⟩ (by simp only [z_nn (show p + 1 < 2147483648 by omega), z_nn (show p < 2147483648 by omega)]; omega)
          by_cases e : p' = p
          · subst e; exact hq
          · exact hno p' h1 (by omega)
        · have := hr1 p hp1 (by omega) hq hno
          rw [this] at hkr; exact hkr
    /- the class: the greatest, then the periods -/
    refine ⟨n + 1, loopG (S := Int32 × Int32 × Dy) (l := fun N s => l_X10_thieves_20 E (σ 0) q K1 N s.1 s.2.1 s.2.2) (b := fun k2 s => b_X10_thieves_20 E (σ 0) q K1 (fun a b c => k2 (a, b, c)) s.1 s.2.1 s.2.2) (fun _ _ => rfl)
      (μ := fun s => n - s.2.1.toNatClampNeg) (P := fun s => d = s.2.2 ∧ ∃ i, i ≤ n ∧ nI i = s.2.1 ∧ nI (mxN g i) = s.1) ?_ n (0, 0, d) ⟨rfl, 0, by omega, rfl, rfl⟩ (Nat.sub_le _ _)⟩
    rintro kk ⟨a, v, d3⟩ ⟨rfl, i, hi, rfl, rfl⟩ hk
    simp only [b_X10_thieves_20, x_0_0 h, x_1_10 h]
    refine T_size (te_20 h) td ⟨fun hc => ?_, fun hc => ?_⟩
    · rw [z_le (by omega) (by omega)] at hc
      have hin : i = n := by omega
      subst hin
      obtain ⟨N, hN⟩ : ∃ N : Nat, N = 40 := ⟨40, rfl⟩
      refine ⟨N + 1, loopG (S := Int32 × Int32 × Dy) (l := fun N s => l_X10_thieves_59 E (σ 0) q K1 N s.1 s.2.1 s.2.2) (b := fun k2 s => b_X10_thieves_59 E (σ 0) q K1 (fun a b c => k2 (a, b, c)) s.1 s.2.1 s.2.2) (fun _ _ => rfl)
        (μ := fun s => 41 - s.2.1.toNatClampNeg) (P := fun s => d = s.2.2 ∧ nI (mxN g i) = s.1 ∧ ∃ p, 2 ≤ p ∧ p ≤ 41 ∧ nI p = s.2.1 ∧ ∀ p', 2 ≤ p' → p' < p → ¬ thG g i p') ?_ N (nI (mxN g i), 2, d) ⟨rfl, rfl, 2, by omega, by omega, rfl, fun p' h1 h2 => by omega⟩ (by rw [hN]; show 41 - (2 : Int32).toNatClampNeg ≤ 40; decide)⟩
      rintro k2 ⟨a1, v, d3⟩ ⟨rfl, rfl, p, hp1, hp2, rfl, hno⟩ hk
      refine ⟨fun hc => ?_, fun hc => ?_⟩
      · rw [show (40 : Int32) = nI 40 from rfl, z_lt (by decide) (by omega)] at hc
        exact k1 _ (ref _ (outer _ (fun p' h1 h2 h3 _ => absurd h3 (hno p' h1 (by omega))) (fun _ => rfl)))
      · rw [show (40 : Int32) = nI 40 from rfl, z_lt (by decide) (by omega)] at hc
        refine fall p hp1 (by omega) (fun hq => ⟨fun h0 => absurd h0 (by decide), fun _ => ?_⟩) (fun hq => ⟨fun _ => ?_, fun h0 => absurd rfl h0⟩)
        · have fin := k1 (if q = 0 then nI p else nI (mxN g i + p)) (ref _ (outer _ (fun p' h1 h2 h3 h4 => by
            have : p' = p := by
              rcases Nat.lt_trichotomy p' p with h | h | h
              · exact absurd h3 (hno p' h1 h)
              · exact h
              · exact absurd hq (h4 p hp1 h)
            rw [this]) (fun h4 => absurd hq (h4 p hp1 (by omega)))))
          refine ⟨fun h0 => ?_, fun h0 => ?_⟩
          · rw [if_pos h0] at fin; exact fin
          · rw [if_neg h0] at fin; rw [z_add]; exact fin
        · rw [z_a1]
          refine hk (nI (mxN g i), nI (p + 1), d) ⟨rfl, rfl, p + 1, by omega, by omega, rfl, fun p' h1 h2 => ?_⟩ (by simp only [z_nn (show p + 1 < 2147483648 by omega), z_nn (show p < 2147483648 by omega)]; omega)
          by_cases e : p' = p
          · subst e; exact hq
          · exact hno p' h1 (by omega)
    · rw [z_le (by omega) (by omega)] at hc
      refine T_get (c := 0) (te_20 h) td (by omega) (by decide) ?_
      have hgi := (hg1 i (by omega)).2
      have hmi := mx_b g 365 i (fun k hk => (hg1 k (by omega)).2)
      have em : (if nI (mxN g i) < nI (g i) then nI (g i) else nI (mxN g i)) = nI (mxN g (i + 1)) := by
        show _ = nI (if mxN g i < g i then g i else mxN g i)
        by_cases hh : mxN g i < g i
        · rw [if_pos ((z_lt (by omega) (by omega)).mpr hh), if_pos hh]
        · rw [if_neg (fun q => hh ((z_lt (by omega) (by omega)).mp q)), if_neg hh]
      rw [tv i (by omega), (hg1 i (by omega)).1, em, z_a1]
      exact hk (nI (mxN g (i + 1)), nI (i + 1), d) ⟨rfl, i + 1, by omega, rfl, rfl⟩ (by simp only [z_nn (show i + 1 < 2147483648 by omega), z_nn (show i < 2147483648 by omega)]; omega)
  · refine ⟨eo_0 h, T_size (te_20 h) td ⟨fun hc => absurd ((z_le (a := 2) (by decide) (by omega)).mp hc) hn2, fun _ => k1 (-1) (fun {d2 K2} e2 hk => ?_)⟩⟩
    have e9 : gA (pI d2 (σ 87) 0 0) (σ 88) 9 = nI n := by rw [gA_pI_x, e2]; exact wc.1
    simp only [w_X11_thieves, x_87_1 h, en_88 h, qn_9, e9]
    exact ⟨eo_87 h, vpi (k := 9) (by decide) (by decide), fun hc => absurd ((z_le (a := 2) (by decide) (by omega)).mp hc) hn2, fun _ => hk⟩
theorem c_thieves (I : Inv σ E d) (hv : v5 v4 L) (k : ∀ E' d', Inv σ E' d' → kc E' d') : lw_2961 E (σ 0) (σ 87) (σ 115) v4 xs L kc d := by
  have h := I.1
  have noc : kc E (pI d (σ 87) 0 0) := k _ _ (Inv_ch I (Ch_pI h (by decide) (by decide) (by decide)))
  refine ⟨eo_0 h, eo_87 h, eo_115 h, hv.1, fun q => ⟨eo_0 h, p_thieves I 0 (fun r hr => ⟨hv.1, fun _ => hr rfl ⟨fun _ => noc, fun n => n rfl⟩, fun n => absurd q n⟩)⟩, fun q => ⟨eo_0 h, p_thieves I 1 (fun r hr => ⟨hv.1, fun n => absurd n q, fun _ => hr rfl ⟨fun _ => noc, fun n => n rfl⟩⟩)⟩⟩
end
