def lfR (σ : Nat → Nat) (d : Dy) (n : Nat) (hu : Nat → Nat) : Prop := gI d (σ 87) 33 = nI n ∧ ∀ k, k < n → gA d (σ 107) k = nI (hu k)
def ahB (how : Int32) (hu : Nat → Nat) (x k : Nat) : Bool := decide (how = 0) || (decide (how = 2) && decide (hu x < hu k))
def cAn (rk : Nat → Int32) (sz g : Nat → Nat) (k : Nat) : Nat := if anyN (fun x => decide (g x = g k) && decide (rk x < rk k)) k = true then sz k else 0
section
variable {σ : Nat → Nat} {E : En} {d d' d2 d3 : Dy} {W : Nat → Int32} {np nh L n P : Nat} {S : RS} {K : Int32 → Dy → Prop} {K0 : Dy → Prop} {rk : Nat → Int32} {sz hu : Nat → Nat} {how : Int32}
theorem lfR_ch {Q : List Nat} (l : lfR σ d n hu) (c : Ch σ Q d d') (h1 : 87 ∉ Q) (h2 : 107 ∉ Q) : lfR σ d' n hu := by
  unfold lfR; rw [Ch_I c (by decide) h1, Ch_A c (by decide) h2]; exact l
theorem r_ahead (h : Env σ E) (l : lfR σ d n hu) (hn : n ≤ 7) (hu10 : ∀ k, k < n → hu k < 10) {x k : Nat} (hx : x < n) (hk : k < n) (kk : K (b2i (ahB how hu x k)) d) : w_X11_isAheadBack E (σ 87) (nI x) (nI k) how d K := by
  have a1 := hu10 x hx
  have a2 := hu10 k hk
  simp only [w_X11_isAheadBack, x_87_31 h, en_107 h, z_nn (show x < 2147483648 by omega), z_nn (show k < 2147483648 by omega)]
  rw [l.2 x hx, l.2 k hk, z_le (by omega) (by omega)]
  unfold ahB at kk
  refine ⟨eo_87 h, fun l1 => ?_, fun l1 => ⟨fun l2 => ?_, fun l2 => ⟨vpi (by omega) (by decide), vpi (by omega) (by decide), fun l3 => ?_, fun l3 => ?_⟩⟩⟩
  · rw [show decide (how = 0) = true by simpa using l1] at kk; exact kk
  · rw [show decide (how = 0) = false by simpa using l1, show decide (how = 2) = false by simpa using l2] at kk; exact kk
  · rw [show decide (how = 0) = false by simpa using l1, show decide (how = 2) = true by simpa using l2, show decide (hu x < hu k) = false by simp; omega] at kk; exact kk
  · rw [show decide (how = 0) = false by simpa using l1, show decide (how = 2) = true by simpa using l2, show decide (hu x < hu k) = true by simp; omega] at kk; exact kk
theorem r_tw45 (h : Env σ E) (g : gW σ d W np nh) (hn : n ≤ 7) (l : lfR σ d n hu) (hu10 : ∀ k, k < n → hu k < nh) (hsz : ∀ k, k < n → W (50 + 7 * hu k) = nI (sz k) ∧ sz k ≤ 9) (hrk : ∀ x k, x < k → k < n → (ahB how hu x k = true ↔ rk x < rk k)) {gg : Nat → Nat} (hg : ∀ k, k < n → gA d (σ 108) k = nI (gg k) ∧ gg k < 4) {w p2 : Int32}
    (k : K (nI (sumN (cAn rk sz gg) n)) d) : ∃ N, l_X11_twice_45 E (σ 87) w p2 how K N 0 1 d := by
  obtain ⟨eW, hW, tw, e0, e1, n0, n1, hnp, hnh⟩ := id g
  have hb : ∀ j, j ≤ n → sumN (cAn rk sz gg) j ≤ 9 * j := fun j => by
    induction j with
    | zero => intro _; exact Nat.le_refl _
    | succ j ihj =>
      intro hj
      have h1 := ihj (by omega)
      have h2 : cAn rk sz gg j ≤ 9 := by unfold cAn; have := (hsz j (by omega)).2; split <;> omega
      show sumN (cAn rk sz gg) j + cAn rk sz gg j ≤ _
      omega
  refine ⟨n + 1, loopG (S := Int32 × Int32 × Dy) (l := fun M z => l_X11_twice_45 E (σ 87) w p2 how K M z.1 z.2.1 z.2.2) (b := fun kk z => b_X11_twice_45 E (σ 87) w p2 how K (fun a b c => kk (a, b, c)) z.1 z.2.1 z.2.2) (fun _ _ => rfl)
    (μ := fun z => n - z.2.1.toNatClampNeg) (P := fun z => d = z.2.2 ∧ ∃ j, 1 ≤ j ∧ (j ≤ n ∨ n = 0 ∧ j = 1) ∧ nI j = z.2.1 ∧ nI (sumN (cAn rk sz gg) (if n = 0 then 0 else j)) = z.1) ?_ n (0, 1, d) ⟨rfl, 1, by omega, by omega, rfl, ?_⟩ (Nat.sub_le _ _)⟩
  · rintro kk ⟨a1, a2, dz⟩ ⟨e_0, j, hj1, hj, e_1, e_2⟩ hk
    subst e_0 e_1 e_2
    simp only [b_X11_twice_45]
    rw [l.1, z_le (by omega) (by omega)]
    refine ⟨fun hc => ?_, fun hc => ?_⟩
    · have e : (if n = 0 then 0 else j) = n := by split <;> omega
      show K (nI (sumN (cAn rk sz gg) (if n = 0 then 0 else j))) d
      rw [e]; exact k
    · have hjn : j < n := by omega
      rw [if_neg (show ¬ n = 0 by omega)]
      have hbj := hb j (by omega)
      have nx : ∀ x, x = nI (sumN (cAn rk sz gg) (j + 1)) → kk (x, nI j + 1, d) := fun x ex => by
        rw [z_a1]; exact hk (x, nI (j + 1), d) ⟨rfl, j + 1, by omega, by omega, rfl, by rw [if_neg (show ¬ n = 0 by omega)]; exact ex.symm⟩ (by simp only [z_nn (show j + 1 < 2147483648 by omega), z_nn (show j < 2147483648 by omega)]; omega)
      have sS : sumN (cAn rk sz gg) (j + 1) = sumN (cAn rk sz gg) j + cAn rk sz gg j := rfl
      obtain ⟨s1, s2⟩ := hsz j hjn
      have h10 := hu10 j hjn
      refine ⟨j + 1, loopG (S := Int32 × Int32 × Int32 × Int32 × Dy) (l := fun M z => l_X11_twice_60 E (σ 87) w p2 how K (fun a b c => kk (a, b, c)) M z.1 z.2.1 z.2.2.1 z.2.2.2.1 z.2.2.2.2) (b := fun k2 z => b_X11_twice_60 E (σ 87) w p2 how K (fun a b c => kk (a, b, c)) (fun a b c e f => k2 (a, b, c, e, f)) z.1 z.2.1 z.2.2.1 z.2.2.2.1 z.2.2.2.2) (fun _ _ => rfl)
        (μ := fun z => j - z.2.2.2.1.toNatClampNeg) (P := fun z => nI (sumN (cAn rk sz gg) j) = z.1 ∧ nI j = z.2.1 ∧ d = z.2.2.2.2 ∧ ∃ x, x ≤ j ∧ nI x = z.2.2.2.1 ∧ b2i (anyN (fun x => decide (gg x = gg j) && decide (rk x < rk j)) x) = z.2.2.1) ?_ j (nI (sumN (cAn rk sz gg) j), nI j, 0, 0, d) ⟨rfl, rfl, rfl, 0, by omega, rfl, rfl⟩ (Nat.sub_le _ _)⟩
      rintro k2 ⟨b1, b2, b3, b4, dy⟩ ⟨e_3, e_4, e_5, x, hx, e_6, e_7⟩ hk2
      subst e_3 e_4 e_5 e_6 e_7
      simp only [b_X11_twice_60, x_87_31 h, x_87_32 h, en_107 h, en_108 h, z_nn (show j < 2147483648 by omega), z_nn (show x < 2147483648 by omega)]
      rw [z_le (by omega) (by omega)]
      have nx2 : ∀ y, y = b2i (anyN (fun x => decide (gg x = gg j) && decide (rk x < rk j)) (x + 1)) → x < j → k2 (nI (sumN (cAn rk sz gg) j), nI j, y, nI x + 1, d) := fun y ey hxj => by
        rw [z_a1]; exact hk2 (nI (sumN (cAn rk sz gg) j), nI j, y, nI (x + 1), d) ⟨rfl, rfl, rfl, x + 1, by omega, rfl, ey.symm⟩ (by simp only [z_nn (show x + 1 < 2147483648 by omega), z_nn (show x < 2147483648 by omega)]; omega)
      have aS : anyN (fun x => decide (gg x = gg j) && decide (rk x < rk j)) (x + 1) = (anyN (fun x => decide (gg x = gg j) && decide (rk x < rk j)) x || (decide (gg x = gg j) && decide (rk x < rk j))) := rfl
      refine ⟨fun hc2 => ?_, fun hc2 => ?_⟩
      · have ex : x = j := by omega
        subst ex
        refine ⟨fun l1 => nx _ ?_, fun l1 => ⟨vpi (by omega) (by decide), ?_⟩⟩
        · rw [b2i_0] at l1
          rw [sS]; unfold cAn; rw [if_neg (by rw [l1]; decide), Nat.add_zero, Int32.add_zero]
        · rw [b2i_1] at l1
          rw [l.2 x hjn]
          refine r_ofHut (c := 0) h (by omega) (by decide) (nx _ ?_)
          rw [eW, show 50 + 7 * hu x + 0 = 50 + 7 * hu x by omega, s1, z_add, sS]
          have : cAn rk sz gg x = sz x := by unfold cAn; rw [if_pos l1]
          rw [this]
      · have hxj : x < j := by omega
        refine ⟨fun l1 => nx2 1 ?_ hxj, fun l1 => ⟨vpi (by omega) (by decide), vpi (by omega) (by decide), ?_⟩⟩
        · rw [b2i_1] at l1; rw [aS, l1]; rfl
        · rw [b2i_0] at l1
          have gx := hg x (by omega)
          have gj := hg j hjn
          rw [gx.1, gj.1, z_eq (by omega) (by omega)]
          refine ⟨fun l2 => nx2 0 ?_ hxj, fun l2 => r_ahead h l hn (fun k hk => by have := hu10 k hk; omega) (by omega) hjn ⟨fun l3 => nx2 0 ?_ hxj, fun l3 => nx2 1 ?_ hxj⟩⟩
          · rw [aS, l1, show decide (gg x = gg j) = false by simpa using l2]; rfl
          · rw [b2i_0] at l3
            have nr : ¬ rk x < rk j := fun z => by rw [(hrk x j hxj hjn).mpr z] at l3; exact nomatch l3
            rw [aS, l1, show decide (rk x < rk j) = false by simpa using nr, Bool.and_false]; rfl
          · rw [b2i_1] at l3
            have nr := (hrk x j hxj hjn).mp l3
            rw [aS, l1, show decide (rk x < rk j) = true by simpa using nr, show decide (gg x = gg j) = true by simpa using l2]; rfl
  · by_cases e : n = 0
    · rw [if_pos e]; rfl
    · rw [if_neg e]
      show nI (0 + cAn rk sz gg 0) = 0
      rfl
theorem r_twice (h : Env σ E) (g : gW σ d W np nh) (hn : n ≤ 7) (hP1 : 1 ≤ P) (hP4 : P ≤ 4) (l : lfR σ d n hu) (hu10 : ∀ k, k < n → hu k < nh) (hsz : ∀ k, k < n → W (50 + 7 * hu k) = nI (sz k) ∧ sz k ≤ 9) (hrk : ∀ x k, x < k → k < n → (ahB how hu x k = true ↔ rk x < rk k)) {w : Nat} (hw : w < P ^ n)
    (k : ∀ d', Ch σ [108] d d' → (∀ q, q < n → gA d' (σ 108) q = nI (dgN P n q w)) → K (nI (coN P rk sz n 0 (fun _ => 2147483647) w)) d') : w_X11_twice E (σ 87) (nI w) (nI P) how d K := by
  have hPn : P ^ n ≤ 4 ^ 7 := Nat.le_trans (Nat.pow_le_pow_left hP4 n) (Nat.pow_le_pow_right (by decide) hn)
  have h47 : (4 : Nat) ^ 7 = 16384 := by decide
  refine ⟨eo_87 h, ?_⟩
  rw [l.1]
  refine ⟨n + 1, loopG (S := Int32 × Int32 × Dy) (l := fun M z => l_X11_twice_11 E (σ 87) (nI w) (nI P) how K M z.1 z.2.1 z.2.2) (b := fun kk z => b_X11_twice_11 E (σ 87) (nI w) (nI P) how K (fun a b c => kk (a, b, c)) z.1 z.2.1 z.2.2) (fun _ _ => rfl)
    (μ := fun z => (z.2.1 + 1).toNatClampNeg) (P := fun z => ∃ r, r ≤ n ∧ nI r - 1 = z.2.1 ∧ nI (w / P ^ (n - r)) = z.1 ∧ Ch σ [108] d z.2.2 ∧ ∀ q, r ≤ q → q < n → gA z.2.2 (σ 108) q = nI (dgN P n q w)) ?_ n (nI w, nI n - 1, d) ⟨n, Nat.le_refl _, rfl, by rw [Nat.sub_self, Nat.pow_zero, Nat.div_one], Ch_rf, fun q h1 h2 => by omega⟩ ?_⟩
  · rintro kk ⟨a1, a2, dz⟩ ⟨r, hr, e_1, e_2, cz, gz⟩ hk
    subst e_1 e_2
    have cz : Ch σ [108] d dz := cz
    have gz : ∀ q, r ≤ q → q < n → gA dz (σ 108) q = nI (dgN P n q w) := gz
    have Wz := gW_ch g cz (by decide)
    have lz := lfR_ch l cz (by decide) (by decide)
    have wl : w / P ^ (n - r) ≤ w := Nat.div_le_self _ _
    simp only [b_X11_twice_11, x_87_32 h, en_108 h]
    rw [show (0 : Int32) = nI 0 from rfl, z_dec (by omega) (by decide)]
    refine ⟨fun hc => ?_, fun hc => ?_⟩
    · have r0 : r = 0 := by omega
      subst r0
      have hg : ∀ q, q < n → gA dz (σ 108) q = nI (dgN P n q w) ∧ dgN P n q w < 4 := fun q hq => ⟨gz q (Nat.zero_le _) hq, by unfold dgN; have := Nat.mod_lt (w / P ^ (n - 1 - q)) (show 0 < P by omega); omega⟩
      refine r_tw45 (gg := fun q => dgN P n q w) h Wz hn lz hu10 hsz hrk hg ?_
      have e := co_dig (rk := rk) (sz := sz) (g := fun q => dgN P n q w) (fb := fun _ => 2147483647) (show 0 < P by omega) n 0 w hw (fun q _ => by rw [Nat.zero_add])
      have e2 : sumN (cAn rk sz (fun q => dgN P n q w)) n = coN P rk sz n 0 (fun _ => 2147483647) w := by
        have e3 : fbK rk (fun q => dgN P n q w) (fun _ => 2147483647) 0 = (fun _ => 2147483647) := rfl
        rw [e3] at e
        rw [e]
        refine sumN_cgr (fun q _ => ?_)
        rw [Nat.zero_add, cs_any]; rfl
      rw [e2]
      exact k dz cz (fun q hq => gz q (Nat.zero_le _) hq)
    · obtain ⟨r, rfl⟩ : ∃ r', r = r' + 1 := ⟨r - 1, by omega⟩
      rw [z_m1, z_nn (by omega), z_rem (by omega) (by omega), z_div (by omega) (by omega), show nI r + (-1) = nI r - 1 from by rw [Int32.sub_eq_add_neg]]
      refine ⟨by rw [z_eq (by omega) (by decide)]; omega, vpi (by omega) (by decide), by rw [z_eq (by omega) (by decide)]; omega, ?_⟩
      refine hk (_, nI r - 1, _) ⟨r, by omega, rfl, ?_, Ch_tr cz (Ch_pA h (by decide) (by decide)), fun q h1 h2 => ?_⟩ ?_
      · rw [Nat.div_div_eq_div_mul, ← Nat.pow_succ]; congr 2; congr 1; omega
      · rw [gA_pA_x, if_pos rfl]
        by_cases e : q = r
        · rw [if_pos e, e]; unfold dgN; congr 4; omega
        · rw [if_neg e]; exact gz q (by omega) h2
      · simp only []
        rw [Int32.sub_add_cancel, z_m1, z_a1, z_nn (by omega), z_nn (by omega)]; omega
  · simp only []
    rw [Int32.sub_add_cancel, z_nn (by omega)]; exact Nat.le_refl _
end
