/-- reading on: what it may change -/
def nxS (σ : Nat → Nat) (d d' : Dy) : Prop := Ch σ [45] d d' ∧ smF σ d d'
section
variable {σ : Nat → Nat} {E : En} {d0 d d' d2 d3 : Dy} {B : Nat → Nat} {tl p : Nat} {K0 : Dy → Prop} {K : Int32 → Dy → Prop}
theorem nx_rf : nxS σ d d := ⟨Ch_rf, fun _ _ _ _ _ => rfl⟩
theorem nx_tr (a : nxS σ d0 d) (b : nxS σ d d') : nxS σ d0 d' := ⟨Ch_tr a.1 b.1, fun j h1 h2 h3 h4 => (b.2 j h1 h2 h3 h4).trans (a.2 j h1 h2 h3 h4)⟩
theorem nx_pI (h : Env σ E) (n : nxS σ d0 d) {j : Nat} {v : Int32} (h1 : 3 ≤ j) (h2 : j ≤ 6) : nxS σ d0 (pI d (σ 45) j v) := by
  refine nx_tr n ⟨Ch_pI h (by decide) ?_ (by decide), fun i a1 a2 a3 a4 => gI_pI_k _ _ _ (by omega)⟩
  rcases (show j = 3 ∨ j = 4 ∨ j = 5 ∨ j = 6 by omega) with e | e | e | e <;> (rw [e]; decide)
theorem nx_tp (t : tpC σ d0 B tl) (n : nxS σ d0 d) : tpC σ d B tl := tpC_ch t n.1 (n.2 1 (by decide) (by decide) (by decide) (by decide))
theorem k_tn5 (h : Env σ E) (t : tpC σ d0 B tl) {b : Nat} (hb : b ≤ tl) (k : ∀ d', nxS σ d0 d' → gI d' (σ 45) 3 = nI b → gI d' (σ 45) 4 = nI (skG B tl 48 57 b) → gI d' (σ 45) 5 = nI (if skG B tl 48 57 b - b ≤ 4 then 30 else 32) → (skG B tl 48 57 b - b ≤ 4 → gI d' (σ 45) 6 = nI (vlN B b (skG B tl 48 57 b - b))) → K0 d') :
    ∀ m n d, tl - (b + n) = m → b + n ≤ skG B tl 48 57 b → nxS σ d0 d → gI d (σ 45) 3 = nI b → gI d (σ 45) 4 = nI (b + n) → (n ≤ 4 → gI d (σ 45) 6 = nI (vlN B b n)) → ∃ N, l_X2_takeNumber_5 E (σ 45) K0 N d := by
  intro m
  induction m with
  | zero =>
    intro n d hm hn x g3 g4 g6
    have hsl := sk_le (B := B) (lo := 48) (hi := 57) hb
    have e : b + n = skG B tl 48 57 b := by omega
    obtain ⟨u1, u2, u3, u4⟩ := nx_tp t x
    have fin87 : b_X2_takeNumber_87 E (σ 45) K0 d := by
      unfold b_X2_takeNumber_87
      rw [g4, g3, z_sub (by omega)]
      refine ⟨fun z => k _ (nx_pI h x (by decide) (by decide)) (by rw [gI_pI_k _ _ _ (by decide)]; exact g3) (by rw [gI_pI_k _ _ _ (by decide), g4, e]) ?_ ?_, fun z => k _ (nx_pI h x (by decide) (by decide)) (by rw [gI_pI_k _ _ _ (by decide)]; exact g3) (by rw [gI_pI_k _ _ _ (by decide), g4, e]) ?_ ?_⟩
      · have z := (z_lt (a := 4) (by decide) (by omega)).mp z; rw [gI_pI, if_neg (by omega)]; rfl
      · have z := (z_lt (a := 4) (by decide) (by omega)).mp z; intro q; omega
      · have z : ¬ 4 < b + n - b := fun q => z ((z_lt (a := 4) (by decide) (by omega)).mpr q); rw [gI_pI, if_pos (by omega)]; rfl
      · have z : ¬ 4 < b + n - b := fun q => z ((z_lt (a := 4) (by decide) (by omega)).mpr q); intro q; rw [gI_pI_k _ _ _ (by decide), g6 (by omega), ← e, show b + n - b = n by omega]
    refine ⟨1, ?_⟩
    show b_X2_takeNumber_5 E (σ 45) K0 _ d
    refine ⟨fun _ => fin87, fun z => absurd ?_ z⟩
    rw [u3, g4, z_le (by omega) (by omega)]; omega
  | succ m ihm =>
    intro n d hm hn x g3 g4 g6
    obtain ⟨u1, u2, u3, u4⟩ := nx_tp t x
    have hlt : b + n < tl := by omega
    have ub := u2 (b + n)
    have ug : gA d (σ 46) (nI (b + n)).toNatClampNeg = nI (B (b + n)) := by rw [z_nn (by omega)]; exact u4 _ hlt
    have nt : ¬ nI tl ≤ nI (b + n) := by rw [z_le (by omega) (by omega)]; omega
    have hmid := sk_mid (by omega : b ≤ b + n) hn
    cases z : inR B tl 48 57 (b + n)
    · have e : b + n = skG B tl 48 57 b := by rw [← hmid, skG_f z]
      have zz : ¬ (48 ≤ B (b + n) ∧ B (b + n) ≤ 57) := fun q => by rw [inR_iff.mpr ⟨hlt, q⟩] at z; exact nomatch z
      have fin87 : b_X2_takeNumber_87 E (σ 45) K0 d := by
        unfold b_X2_takeNumber_87
        rw [g4, g3, z_sub (by omega)]
        refine ⟨fun z => k _ (nx_pI h x (by decide) (by decide)) (by rw [gI_pI_k _ _ _ (by decide)]; exact g3) (by rw [gI_pI_k _ _ _ (by decide), g4, e]) ?_ ?_, fun z => k _ (nx_pI h x (by decide) (by decide)) (by rw [gI_pI_k _ _ _ (by decide)]; exact g3) (by rw [gI_pI_k _ _ _ (by decide), g4, e]) ?_ ?_⟩
        · have z := (z_lt (a := 4) (by decide) (by omega)).mp z; rw [gI_pI, if_neg (by omega)]; rfl
        · have z := (z_lt (a := 4) (by decide) (by omega)).mp z; intro q; omega
        · have z : ¬ 4 < b + n - b := fun q => z ((z_lt (a := 4) (by decide) (by omega)).mpr q); rw [gI_pI, if_pos (by omega)]; rfl
        · have z : ¬ 4 < b + n - b := fun q => z ((z_lt (a := 4) (by decide) (by omega)).mpr q); intro q; rw [gI_pI_k _ _ _ (by decide), g6 (by omega), ← e, show b + n - b = n by omega]
      refine ⟨1, ?_⟩
      show b_X2_takeNumber_5 E (σ 45) K0 _ d
      simp only [b_X2_takeNumber_5, x_45_0 h, en_46 h, u3, g4, ug]
      refine ⟨fun q => absurd q nt, fun _ => ⟨vpi (by omega) (by decide), fun _ => fin87, fun q1 => ⟨vpi (by omega) (by decide), fun _ => fin87, fun q2 => ?_⟩⟩⟩
      have q1 : ¬ B (b + n) < 48 := fun q => q1 ((z_lt (b := 48) (by omega) (by decide)).mpr q)
      have q2 : ¬ 57 < B (b + n) := fun q => q2 ((z_lt (a := 57) (by decide) (by omega)).mpr q)
      omega
    · have zi := inR_iff.mp z
      have lt : b + n < skG B tl 48 57 b := by rw [← hmid, sk_t z]; have := sk_ge (B := B) (tl := tl) (lo := 48) (hi := 57) (p := b + n + 1); omega
      obtain ⟨N, hN⟩ := ihm (n + 1) (pI (pI d (σ 45) 6 ((((if 9999 < (gI d (σ 45) 6) then 9999 else (gI d (σ 45) 6)) * 10) + nI (B (b + n))) - 48)) (σ 45) 4 (nI (b + n + 1))) (by omega) (by omega) (nx_pI h (nx_pI h x (by decide) (by decide)) (by decide) (by decide)) (by rw [gI_pI_k _ _ _ (by decide), gI_pI_k _ _ _ (by decide)]; exact g3) (gI_pI _ _ _ _) (fun hn4 => by
        have v := vl_lt u2 n (fun k hk => (inR_iff.mp (sk_in (tl - b) b (Nat.le_refl _) (b + k) (by omega) (by omega))).2)
        have v2 : vlN B b n < 1000 := Nat.lt_of_lt_of_le v (Nat.pow_le_pow_right (by decide) (by omega : n ≤ 3))
        rw [gI_pI_k _ _ _ (by decide), gI_pI, g6 (by omega), if_neg (fun q => by have := (z_lt (a := 9999) (by decide) (by omega)).mp q; omega)]
        rw [show (10 : Int32) = nI 10 from rfl, show (48 : Int32) = nI 48 from rfl, z_mul, z_add, z_sub (by omega)]
        show nI (vlN B b n * 10 + B (b + n) - 48) = nI (10 * vlN B b n + (B (b + n) - 48))
        congr 1; omega)
      refine ⟨N + 1, ?_⟩
      show b_X2_takeNumber_5 E (σ 45) K0 (l_X2_takeNumber_5 E (σ 45) K0 N) d
      simp only [b_X2_takeNumber_5, x_45_0 h, en_46 h, u3, g4, ug]
      refine ⟨fun q => absurd q nt, fun _ => ⟨vpi (by omega) (by decide), fun q => absurd ((z_lt (b := 48) (by omega) (by decide)).mp q) (by omega), fun _ => ⟨vpi (by omega) (by decide), fun q => absurd ((z_lt (a := 57) (by decide) (by omega)).mp q) (by omega), fun _ => ⟨vpi (by omega) (by decide), ?_⟩⟩⟩⟩
      rw [gI_pI_k _ _ _ (by decide), g4, z_a1]; exact hN
theorem k_tw0 (h : Env σ E) (t : tpC σ d0 B tl) {b : Nat} (hb : b ≤ tl) (k : ∀ d', nxS σ d0 d' → gI d' (σ 45) 3 = nI b → gI d' (σ 45) 4 = nI (skG B tl 97 122 b) → gI d' (σ 45) 5 = nI (twN B b (skG B tl 97 122 b) wdC 0) → K0 d') :
    ∀ m n d, tl - (b + n) = m → b + n ≤ skG B tl 97 122 b → nxS σ d0 d → gI d (σ 45) 3 = nI b → gI d (σ 45) 4 = nI (b + n) → ∃ N, l_X2_takeWord_0 E (σ 45) K0 N d := by
  have fin52 : ∀ n d, b + n = skG B tl 97 122 b → nxS σ d0 d → gI d (σ 45) 3 = nI b → gI d (σ 45) 4 = nI (b + n) → b_X2_takeWord_52 E (σ 45) K0 d := fun n d e x g3 g4 => by
    have x2 := nx_pI (v := 32) h x (show 3 ≤ 5 by decide) (by decide)
    have c3 : gI (pI d (σ 45) 5 32) (σ 45) 3 = nI b := by rw [gI_pI_k _ _ _ (by decide)]; exact g3
    have c4 : gI (pI d (σ 45) 5 32) (σ 45) 4 = nI (b + n) := by rw [gI_pI_k _ _ _ (by decide)]; exact g4
    have hle := sk_le (B := B) (lo := 97) (hi := 122) hb
    refine k_tw64 h (nx_tp t x2) (show b ≤ b + n by omega) (by omega) c3 c4 (gI_pI _ _ _ _) wdC 0 0 rfl (by decide) wd_ok (by decide) ?_
    refine k _ (nx_pI h x2 (by decide) (by decide)) (by rw [gI_pI_k _ _ _ (by decide)]; exact c3) (by rw [gI_pI_k _ _ _ (by decide), c4, e]) (by rw [gI_pI, e])
  intro m
  induction m with
  | zero =>
    intro n d hm hn x g3 g4
    have hsl := sk_le (B := B) (lo := 97) (hi := 122) hb
    have e : b + n = skG B tl 97 122 b := by omega
    obtain ⟨u1, u2, u3, u4⟩ := nx_tp t x
    refine ⟨1, ?_⟩
    show b_X2_takeWord_0 E (σ 45) K0 _ d
    refine ⟨fun _ => fin52 n d e x g3 g4, fun z => absurd ?_ z⟩
    rw [u3, g4, z_le (by omega) (by omega)]; omega
  | succ m ihm =>
    intro n d hm hn x g3 g4
    obtain ⟨u1, u2, u3, u4⟩ := nx_tp t x
    have hlt : b + n < tl := by omega
    have ub := u2 (b + n)
    have ug : gA d (σ 46) (nI (b + n)).toNatClampNeg = nI (B (b + n)) := by rw [z_nn (by omega)]; exact u4 _ hlt
    have nt : ¬ nI tl ≤ nI (b + n) := by rw [z_le (by omega) (by omega)]; omega
    have hmid := sk_mid (by omega : b ≤ b + n) hn
    cases z : inR B tl 97 122 (b + n)
    · have e : b + n = skG B tl 97 122 b := by rw [← hmid, skG_f z]
      have zz : ¬ (97 ≤ B (b + n) ∧ B (b + n) ≤ 122) := fun q => by rw [inR_iff.mpr ⟨hlt, q⟩] at z; exact nomatch z
      have f52 := fin52 n d e x g3 g4
      refine ⟨1, ?_⟩
      show b_X2_takeWord_0 E (σ 45) K0 _ d
      simp only [b_X2_takeWord_0, x_45_0 h, en_46 h, u3, g4, ug]
      refine ⟨fun q => absurd q nt, fun _ => ⟨vpi (by omega) (by decide), fun _ => f52, fun q1 => ⟨vpi (by omega) (by decide), fun _ => f52, fun q2 => ?_⟩⟩⟩
      have q1 : ¬ B (b + n) < 97 := fun q => q1 ((z_lt (b := 97) (by omega) (by decide)).mpr q)
      have q2 : ¬ 122 < B (b + n) := fun q => q2 ((z_lt (a := 122) (by decide) (by omega)).mpr q)
      omega
    · have zi := inR_iff.mp z
      have lt : b + n < skG B tl 97 122 b := by rw [← hmid, sk_t z]; have := sk_ge (B := B) (tl := tl) (lo := 97) (hi := 122) (p := b + n + 1); omega
      obtain ⟨N, hN⟩ := ihm (n + 1) (pI d (σ 45) 4 (nI (b + n + 1))) (by omega) (by omega) (nx_pI h x (by decide) (by decide)) (by rw [gI_pI_k _ _ _ (by decide)]; exact g3) (gI_pI _ _ _ _)
      refine ⟨N + 1, ?_⟩
      show b_X2_takeWord_0 E (σ 45) K0 (l_X2_takeWord_0 E (σ 45) K0 N) d
      simp only [b_X2_takeWord_0, x_45_0 h, en_46 h, u3, g4, ug]
      refine ⟨fun q => absurd q nt, fun _ => ⟨vpi (by omega) (by decide), fun q => absurd ((z_lt (b := 97) (by omega) (by decide)).mp q) (by omega), fun _ => ⟨vpi (by omega) (by decide), fun q => absurd ((z_lt (a := 122) (by decide) (by omega)).mp q) (by omega), fun _ => ?_⟩⟩⟩
      rw [z_a1]; exact hN
theorem k_next46 (h : Env σ E) (t : tpC σ d0 B tl) (hp : p ≤ tl) (x : nxS σ d0 d) (g3 : gI d (σ 45) 3 = nI (blk B tl p)) (k : ∀ d', nxS σ d0 d' → tkS σ d' B tl p → K0 d') : b_X2_next_46 E (σ 45) K0 d := by
  have hbl : blk B tl p ≤ tl := sk_le hp
  unfold tkS thN vaN afN at k
  generalize blk B tl p = b at *
  have x2 := nx_pI (v := gI d (σ 45) 3) h x (show 3 ≤ 4 by decide) (by decide)
  have e3 : gI (pI d (σ 45) 4 (gI d (σ 45) 3)) (σ 45) 3 = nI b := by rw [gI_pI_k _ _ _ (by decide)]; exact g3
  have e4 : gI (pI d (σ 45) 4 (gI d (σ 45) 3)) (σ 45) 4 = nI b := by rw [gI_pI]; exact g3
  unfold b_X2_next_46
  generalize pI d (σ 45) 4 (gI d (σ 45) 3) = d1 at *
  obtain ⟨u1, u2, u3, u4⟩ := nx_tp t x2
  by_cases hlt : b < tl
  · have ub := u2 b
    have ug : gA d1 (σ 46) (nI b).toNatClampNeg = nI (B b) := by rw [z_nn (by omega)]; exact u4 _ hlt
    simp only [x_45_0 h, en_46 h, u3, e3, ug]
    refine ⟨fun _ => ⟨vpi (by omega) (by decide), ?_⟩, fun z => absurd ((z_lt (by omega) (by omega)).mpr hlt) z⟩
    have c120 : ¬ inR B tl 48 57 b = true → ¬ inR B tl 97 122 b = true → b_X2_next_120 E (σ 45) K0 (nI (B b)) d1 := fun n1 n2 => by
      have x3 := nx_pI (v := nI (b + 1)) h x2 (show 3 ≤ 4 by decide) (by decide)
      have f3 : gI (pI d1 (σ 45) 4 (nI (b + 1))) (σ 45) 3 = nI b := by rw [gI_pI_k _ _ _ (by decide)]; exact e3
      have f4 : gI (pI d1 (σ 45) 4 (nI (b + 1))) (σ 45) 4 = nI (b + 1) := gI_pI _ _ _ _
      have ath : thB B tl b = if sgB (B b) = true then B b else 32 := by unfold thB; rw [if_neg (by omega), if_neg n1, if_neg n2]
      have aaf : afB B tl b = b + 1 := by unfold afB; rw [if_neg (by omega), if_neg n1, if_neg n2]
      unfold b_X2_next_120
      rw [e3, z_a1]
      generalize pI d1 (σ 45) 4 (nI (b + 1)) = d2 at *
      have y : sgB (B b) = true → b_X2_next_160 E (σ 45) K0 (nI (B b)) d2 := fun q => by
        refine ⟨fun z => absurd z (by decide), fun _ => k _ (nx_pI h x3 (by decide) (by decide)) ⟨by rw [gI_pI_k _ _ _ (by decide)]; exact f3, by rw [gI_pI_k _ _ _ (by decide), f4, aaf], by rw [gI_pI, ath, if_pos q], fun q2 => ?_⟩⟩
        rw [ath, if_pos q] at q2; rw [q2] at q; exact nomatch q
      have nn : sgB (B b) = false → b_X2_next_165 E (σ 45) K0 (nI (B b)) 0 d2 := fun q => by
        refine ⟨fun _ => k _ (nx_pI h x3 (by decide) (by decide)) ⟨by rw [gI_pI_k _ _ _ (by decide)]; exact f3, by rw [gI_pI_k _ _ _ (by decide), f4, aaf], by rw [gI_pI, ath, if_neg (by rw [q]; decide)]; rfl, fun q2 => ?_⟩, fun z => absurd rfl z⟩
        rw [ath, if_neg (by rw [q]; decide)] at q2; exact absurd q2 (by decide)
      have c142 : ¬ (40 ≤ B b ∧ B b ≤ 43) → b_X2_next_142 E (σ 45) K0 (nI (B b)) d2 := fun q => by
        refine ⟨fun z => y ?_, fun z1 => ⟨fun z => y ?_, fun z2 => ⟨fun z3 => nn ?_, fun z => y ?_⟩⟩⟩
        · have z := (z_eq (b := 59) (by omega) (by decide)).mp z; rw [z]; rfl
        · have z := (z_eq (b := 60) (by omega) (by decide)).mp z; rw [z]; rfl
        · have z1 : ¬ B b = 59 := fun w => z1 ((z_eq (b := 59) (by omega) (by decide)).mpr w)
          have z2 : ¬ B b = 60 := fun w => z2 ((z_eq (b := 60) (by omega) (by decide)).mpr w)
          have z3 : ¬ B b = 62 := fun w => z3 ((z_eq (b := 62) (by omega) (by decide)).mpr w)
          unfold sgB
          rw [decide_eq_false z1, decide_eq_false z2, decide_eq_false z3, ← Bool.decide_and, decide_eq_false q]; rfl
        · have z := (z_eq (b := 62) (by omega) (by decide)).mp z; rw [z]; rfl
      refine ⟨fun z => c142 (fun w => ?_), fun z1 => ⟨fun z2 => y ?_, fun z2 => c142 (fun w => ?_)⟩⟩
      · have z := (z_lt (b := 40) (by omega) (by decide)).mp z; omega
      · have z1 : ¬ B b < 40 := fun w => z1 ((z_lt (b := 40) (by omega) (by decide)).mpr w)
        have z2 := (z_le (b := 43) (by omega) (by decide)).mp z2
        unfold sgB
        rw [decide_eq_true (show 40 ≤ B b by omega), decide_eq_true z2]; rfl
      · exact z2 ((z_le (b := 43) (by omega) (by decide)).mpr w.2)
    have c101 : ¬ inR B tl 48 57 b = true → b_X2_next_101 E (σ 45) K0 (nI (B b)) d1 := fun n1 => by
      refine ⟨fun z => c120 n1 (fun q => ?_), fun z1 => ⟨fun z => c120 n1 (fun q => ?_), fun z2 => ?_⟩⟩
      · have := (z_lt (b := 97) (by omega) (by decide)).mp z; have := (inR_iff.mp q).2; omega
      · have := (z_lt (a := 122) (by decide) (by omega)).mp z; have := (inR_iff.mp q).2; omega
      · have z1 : ¬ B b < 97 := fun q => z1 ((z_lt (b := 97) (by omega) (by decide)).mpr q)
        have z2 : ¬ 122 < B b := fun q => z2 ((z_lt (a := 122) (by decide) (by omega)).mpr q)
        have ir : inR B tl 97 122 b = true := inR_iff.mpr ⟨hlt, by omega, by omega⟩
        have ath : thB B tl b = twN B b (skG B tl 97 122 b) wdC 0 := by unfold thB; rw [if_neg (by omega), if_neg n1, if_pos ir]
        have aaf : afB B tl b = skG B tl 97 122 b := by unfold afB; rw [if_neg (by omega), if_neg n1, if_pos ir]
        refine ⟨eo_45 h, k_tw0 h t hbl (fun d' y1 y3 y4 y5 => k d' y1 ⟨y3, by rw [y4, aaf], by rw [y5, ath], fun q => ?_⟩) _ 0 d1 rfl sk_ge x2 e3 e4⟩
        rw [ath] at q
        exact absurd q (tw_ne30 wdC 0 (by decide))
    refine ⟨fun z => c101 (fun q => ?_), fun z1 => ⟨fun z => c101 (fun q => ?_), fun z2 => ?_⟩⟩
    · have := (z_lt (b := 48) (by omega) (by decide)).mp z; have := (inR_iff.mp q).2; omega
    · have := (z_lt (a := 57) (by decide) (by omega)).mp z; have := (inR_iff.mp q).2; omega
    · have z1 : ¬ B b < 48 := fun q => z1 ((z_lt (b := 48) (by omega) (by decide)).mpr q)
      have z2 : ¬ 57 < B b := fun q => z2 ((z_lt (a := 57) (by decide) (by omega)).mpr q)
      have ir : inR B tl 48 57 b = true := inR_iff.mpr ⟨hlt, by omega, by omega⟩
      have ath : thB B tl b = if skG B tl 48 57 b - b ≤ 4 then 30 else 32 := by unfold thB; rw [if_neg (by omega), if_pos ir]
      have aaf : afB B tl b = skG B tl 48 57 b := by unfold afB; rw [if_neg (by omega), if_pos ir]
      refine ⟨eo_45 h, k_tn5 h t hbl (fun d' y1 y3 y4 y5 y6 => k d' y1 ⟨y3, by rw [y4, aaf], by rw [y5, ath], fun q => ?_⟩) _ 0 (pI d1 (σ 45) 6 0) rfl sk_ge (nx_pI h x2 (by decide) (by decide)) (by rw [gI_pI_k _ _ _ (by decide)]; exact e3) (by rw [gI_pI_k _ _ _ (by decide)]; exact e4) (fun _ => gI_pI _ _ _ _)⟩
      rw [ath] at q
      by_cases w : skG B tl 48 57 b - b ≤ 4
      · rw [y6 w, aaf]
      · rw [if_neg w] at q; exact absurd q (by decide)
  · refine ⟨fun z => absurd ?_ hlt, fun _ => k _ (nx_pI h x2 (by decide) (by decide)) ⟨by rw [gI_pI_k _ _ _ (by decide)]; exact e3, ?_, ?_, fun q => ?_⟩⟩
    · rw [u3, e3] at z; exact (z_lt (by omega) (by omega)).mp z
    · rw [gI_pI_k _ _ _ (by decide), e4]; unfold afB; rw [if_pos (by omega)]
    · rw [gI_pI]; unfold thB; rw [if_pos (by omega)]; rfl
    · unfold thB at q; rw [if_pos (by omega)] at q; exact absurd q (by decide)
theorem k_next (h : Env σ E) (t : tpC σ d B tl) (hp : p ≤ tl) (g4 : gI d (σ 45) 4 = nI p) (k : ∀ d', nxS σ d d' → tkS σ d' B tl p → K0 d') : w_X2_next E (σ 45) d K0 := by
  have lp : ∀ m n d1, tl - (p + n) = m → p + n ≤ blk B tl p → nxS σ d d1 → gI d1 (σ 45) 3 = nI (p + n) → ∃ N, l_X2_next_8 E (σ 45) K0 N d1 := by
    intro m
    induction m with
    | zero =>
      intro n d1 hm hn x g3
      have hsl : blk B tl p ≤ tl := sk_le (B := B) (lo := 32) (hi := 32) hp
      have e : p + n = blk B tl p := by omega
      obtain ⟨u1, u2, u3, u4⟩ := nx_tp t x
      refine ⟨1, ?_⟩
      show b_X2_next_8 E (σ 45) K0 _ d1
      refine ⟨fun _ => k_next46 h t hp x (by rw [g3, e]) k, fun z => absurd ?_ z⟩
      rw [u3, g3, z_le (by omega) (by omega)]; omega
    | succ m ihm =>
      intro n d1 hm hn x g3
      obtain ⟨u1, u2, u3, u4⟩ := nx_tp t x
      have hlt : p + n < tl := by omega
      have ub := u2 (p + n)
      have ug : gA d1 (σ 46) (nI (p + n)).toNatClampNeg = nI (B (p + n)) := by rw [z_nn (by omega)]; exact u4 _ hlt
      have nt : ¬ nI tl ≤ nI (p + n) := by rw [z_le (by omega) (by omega)]; omega
      have hmid : skG B tl 32 32 (p + n) = blk B tl p := sk_mid (by omega : p ≤ p + n) hn
      cases z : inR B tl 32 32 (p + n)
      · have e : p + n = blk B tl p := by rw [← hmid, skG_f z]
        have zz : ¬ B (p + n) = 32 := fun q => by rw [inR_iff.mpr ⟨hlt, by omega, by omega⟩] at z; exact nomatch z
        have f46 := k_next46 h t hp x (by rw [g3, e]) k
        refine ⟨1, ?_⟩
        show b_X2_next_8 E (σ 45) K0 _ d1
        simp only [b_X2_next_8, x_45_0 h, en_46 h, u3, g3, ug]
        exact ⟨fun q => absurd q nt, fun _ => ⟨vpi (by omega) (by decide), fun _ => f46, fun q => absurd ((z_eq (b := 32) (by omega) (by decide)).mp q) zz⟩⟩
      · have zi := inR_iff.mp z
        have lt : p + n < blk B tl p := by rw [← hmid, sk_t z]; have := sk_ge (B := B) (tl := tl) (lo := 32) (hi := 32) (p := p + n + 1); omega
        obtain ⟨N, hN⟩ := ihm (n + 1) (pI d1 (σ 45) 3 (nI (p + n + 1))) (by omega) (by omega) (nx_pI h x (by decide) (by decide)) (gI_pI _ _ _ _)
        refine ⟨N + 1, ?_⟩
        show b_X2_next_8 E (σ 45) K0 (l_X2_next_8 E (σ 45) K0 N) d1
        simp only [b_X2_next_8, x_45_0 h, en_46 h, u3, g3, ug]
        refine ⟨fun q => absurd q nt, fun _ => ⟨vpi (by omega) (by decide), fun q => absurd (by rw [show B (p + n) = 32 by omega]; rfl) q, fun _ => ?_⟩⟩
        rw [z_a1]; exact hN
  refine ⟨eo_45 h, lp _ 0 _ rfl sk_ge (nx_pI h nx_rf (by decide) (by decide)) ?_⟩
  rw [gI_pI, g4]; rfl
end
