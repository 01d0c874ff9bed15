theorem j_or {a b : Nat} : Int64.ofNat a ||| Int64.ofNat b = Int64.ofNat (a ||| b) := by
  apply Int64.toBitVec_inj.mp
  show BitVec.ofNat 64 a ||| BitVec.ofNat 64 b = BitVec.ofNat 64 (a ||| b)
  apply BitVec.eq_of_getLsbD_eq
  intro i hi
  rw [BitVec.getLsbD_or, BitVec.getLsbD_ofNat, BitVec.getLsbD_ofNat, BitVec.getLsbD_ofNat, Nat.testBit_or]
  simp [hi]
theorem j_shl : ∀ i, i < 10 → (1 : Int64) <<< ((nI i).toInt64 &&& 63) = Int64.ofNat (2 ^ i) := by decide
theorem j_zero {x : Nat} (hx : x < 1024) : lg_cmp (Int64.ofNat x) 0 = 0 ↔ x = 0 := by
  have e : (Int64.ofNat x).toInt = x := Int64.toInt_ofNat_of_lt (by omega)
  unfold lg_cmp
  by_cases h1 : Int64.ofNat x > 0
  · rw [if_pos h1]
    refine ⟨fun q => absurd q (by decide), fun q => ?_⟩
    subst q; exact absurd h1 (by decide)
  · rw [if_neg h1]
    have h1 : ¬ (0 : Int64) < Int64.ofNat x := h1
    rw [Int64.lt_iff_toInt_lt, e, show (0 : Int64).toInt = 0 from rfl] at h1
    have : x = 0 := by omega
    subst this
    exact ⟨fun _ => rfl, fun _ => by decide⟩
theorem j_32 {x : Nat} : (Int64.ofNat x).toInt32 = nI x := by
  apply i_bv
  show (BitVec.ofNat 64 x).signExtend 32 = BitVec.ofNat 32 x
  apply BitVec.eq_of_getLsbD_eq
  intro i hi
  rw [BitVec.getLsbD_signExtend, BitVec.getLsbD_ofNat, BitVec.getLsbD_ofNat]
  simp [hi, show i < 64 by omega]
section
variable {σ : Nat → Nat} {E : En} {d d' d2 d3 : Dy} {W : Nat → Int32} {np nh L n : Nat} {S : RS} {K : Int32 → Dy → Prop} {K0 : Dy → Prop} {KJ : Int64 → Dy → Prop} {X : String → Dy → Prop} {kc : En → Dy → Prop} {v4 : Int32} {xs : Nat → Int32} {p1 p2 : Int32} {ar : Nat → Nat}
theorem k_joinOver (h : Env σ E) {set fit lost i q : Nat} (hn : n ≤ 8) (hs : set < 2 ^ n) (hf : fit < 2 ^ n) (hl : lost ≤ 4) (hi : i < 10) (hq : q < n) (gl : gI d (σ 85) 4 = nI lost) (hr : ∀ s, ar s < 1024) (hw : ∀ s, s ≤ set → gJ d (σ 86) s = Int64.ofNat (ar s)) (k : KJ (Int64.ofNat (jnW ar fit lost i q set)) d) : w_X4_joinOver E (σ 85) (nI set) (nI fit) ((1 : Int32) <<< (nI q &&& 31)) ((1 : Int64) <<< ((nI i).toInt64 &&& 63)) d KJ := by
  obtain ⟨q1, q2⟩ := p256 hn
  have la : set &&& fit ≤ set := Nat.and_le_left
  have q3 : 2 ^ q ≤ 256 := Nat.le_trans (Nat.pow_le_pow_right (by decide) (show q ≤ 8 by omega)) (by decide)
  simp only [w_X4_joinOver, x_85_2 h, en_86 h, z_nn (show set < 2147483648 by omega)]
  rw [b_and (by omega) (by omega), hw set (Nat.le_refl _), b_shl (by omega), j_shl i hi]
  refine ⟨eo_85 h, vpi (by omega) (by decide), ?_⟩
  refine ⟨(set &&& fit) + 1, loopG (S := Int32 × Int64 × Int32 × Dy) (l := fun M z => l_X4_joinOver_17 E (σ 85) (nI set) (nI fit) (nI (2 ^ q)) (Int64.ofNat (2 ^ i)) KJ M z.1 z.2.1 z.2.2.1 z.2.2.2) (b := fun kk z => b_X4_joinOver_17 E (σ 85) (nI set) (nI fit) (nI (2 ^ q)) (Int64.ofNat (2 ^ i)) KJ (fun a b c e => kk (a, b, c, e)) z.1 z.2.1 z.2.2.1 z.2.2.2) (fun _ _ => rfl)
    (μ := fun z => z.2.2.1.toNatClampNeg) (P := fun z => nI (set &&& fit) = z.1 ∧ d = z.2.2.2 ∧ ∃ p A, nI p = z.2.2.1 ∧ p &&& (set &&& fit) = p ∧ z.2.1 = Int64.ofNat A ∧ A < 1024 ∧ ∀ b, b < 10 → (A.testBit b = true ↔ (ar set).testBit b = true ∨ ∃ p2, p < p2 ∧ p2 < set + 1 ∧ jnF ar fit lost i q set b p2 = true)) ?_ (set &&& fit) (nI (set &&& fit), Int64.ofNat (ar set), nI (set &&& fit), d) ⟨rfl, rfl, set &&& fit, ar set, rfl, Nat.and_self _, rfl, hr _, fun b hb => ?_⟩ ?_⟩
  · rintro kk ⟨a1, a2, a3, dz⟩ ⟨e_1, e_2, p, A, e_3, hp, e_4, hA, hB⟩ hk
    have e_4 : a2 = Int64.ofNat A := e_4
    subst e_1 e_2 e_3 e_4
    have ple := sub_le hp
    simp only [b_X4_joinOver_17, b_X4_joinOver_68, b_X4_joinOver_71, x_85_2 h, en_86 h]
    rw [show (0 : Int32) = nI 0 from rfl, z_le (by omega) (by decide)]
    refine ⟨fun hc => ?_, fun hc => ?_⟩
    · have p0 : p = 0 := by omega
      subst p0
      have : A = jnW ar fit lost i q set := by
        refine bt_eq hA (fun b hb => ?_)
        have hB := hB b hb
        cases z : A.testBit b
        · rw [z] at hB
          cases y : ((ar set).testBit b || anyN (jnF ar fit lost i q set b) (set + 1))
          · rfl
          · rw [Bool.or_eq_true, any_iff] at y
            refine (nomatch (hB.mpr ?_))
            rcases y with y | ⟨p2, y1, y2⟩
            · exact Or.inl y
            · refine Or.inr ⟨p2, ?_, y1, y2⟩
              unfold jnF at y2
              simp only [Bool.and_eq_true, decide_eq_true_eq] at y2
              exact y2.1
        · rw [z] at hB
          symm
          rw [Bool.or_eq_true, any_iff]
          rcases hB.mp rfl with y | ⟨p2, y0, y1, y2⟩
          · exact Or.inl y
          · exact Or.inr ⟨p2, y1, y2⟩
      rw [this]; exact k
    · have hps := sub_tr hp
      have lt2 := sb_lt2 (show 0 < p by omega) hps
      have pl := pop_le p 12
      have l2 : (p - 1) &&& (set &&& fit) ≤ p - 1 := Nat.and_le_left
      have bq : nI p &&& nI (2 ^ q) = nI 0 ↔ ¬ p.testBit q = true := by
        rw [b_and (by omega) (by omega), z_eq (by have : p &&& 2 ^ q ≤ p := Nat.and_le_left; omega) (by decide)]
        constructor
        · intro z y
          have := congrArg (fun x => x.testBit q) z
          simp [Nat.testBit_and, y, Nat.testBit_two_pow_self] at this
        · intro z
          apply Nat.eq_of_testBit_eq; intro b
          rw [Nat.testBit_and, Nat.testBit_two_pow, Nat.zero_testBit]
          by_cases e : q = b
          · subst e; simp [z]
          · simp [e]
      have jz : lg_cmp (Int64.ofNat (ar (sbN set p))) 0 = nI 0 ↔ ar (sbN set p) = 0 := j_zero (hr _)
      rw [b_xor (by omega) (by omega), sb_sub hps, z_nn (by omega), hw _ (by omega), jz, bq, show (1 : Int32) = nI 1 from rfl, z_sub (by omega), b_and (by omega) (by omega), j_or, j_or]
      have jf : ∀ b, jnF ar fit lost i q set b p = (decide (ar (sbN set p) ≠ 0) && (decide (popN p 12 ≤ lost) && (if p.testBit q = true then decide (b = i) else (ar (sbN set p)).testBit b))) := fun b => by
        unfold jnF gdB
        rw [show decide (0 < p) = true from by simp; omega, show decide (p &&& (set &&& fit) = p) = true from by simpa using hp]
        simp only [Bool.true_and]
        cases decide (ar (sbN set p) ≠ 0) <;> cases decide (popN p 12 ≤ lost) <;> rfl
      have nx : ∀ B, B < 1024 → (∀ b, b < 10 → (B.testBit b = true ↔ A.testBit b = true ∨ jnF ar fit lost i q set b p = true)) → kk (nI (set &&& fit), Int64.ofNat B, nI ((p - 1) &&& (set &&& fit)), d) := fun B hB1 hB2 =>
        hk (nI (set &&& fit), Int64.ofNat B, nI ((p - 1) &&& (set &&& fit)), d) ⟨rfl, rfl, (p - 1) &&& (set &&& fit), B, rfl, sub_and, rfl, hB1, fun b hb => by
          rw [hB2 b hb, hB b hb]
          constructor
          · rintro ((y | ⟨p2, y0, y1, y2⟩) | y)
            · exact Or.inl y
            · exact Or.inr ⟨p2, by omega, y1, y2⟩
            · exact Or.inr ⟨p, by omega, by omega, y⟩
          · rintro (y | ⟨p2, y0, y1, y2⟩)
            · exact Or.inl (Or.inl y)
            · rcases Nat.lt_trichotomy p p2 with z | z | z
              · exact Or.inl (Or.inr ⟨p2, z, y1, y2⟩)
              · subst z; exact Or.inr y2
              · have y3 := y2
                unfold jnF gdB at y3
                simp only [Bool.and_eq_true, decide_eq_true_eq] at y3
                have := sub_gap p (set &&& fit) p2 (by omega) hp y3.2.1.1 z
                omega⟩ (by simp only [z_nn (show p < 2147483648 by omega), z_nn (show (p - 1) &&& (set &&& fit) < 2147483648 by omega)]; omega)
      have or_lt : ∀ x y, x < 1024 → y < 1024 → x ||| y < 1024 := fun x y hx hy => Nat.or_lt_two_pow (n := 10) hx hy
      have p10 : 2 ^ i < 1024 := Nat.pow_lt_pow_right (a := 2) (by decide) (show i < 10 by omega)
      refine ⟨vpi (by omega) (by decide), fun l1 => nx A hA (fun b hb => ?_), fun l1 => k_bc ?_⟩
      rotate_left
      rw [gl, bc_all _ (by omega), z_lt (by omega) (by omega)]
      refine ⟨fun l3 => nx A hA (fun b hb => ?_), fun l3 => ⟨fun l4 => nx _ (or_lt _ _ hA (hr _)) (fun b hb => ?_), fun l4 => nx _ (or_lt _ _ hA p10) (fun b hb => ?_)⟩⟩
      · rw [jf, show decide (popN p 12 ≤ lost) = false from by simp; omega]; simp
      · rw [jf, if_neg l4, show decide (ar (sbN set p) ≠ 0) = true from by simpa using l1, show decide (popN p 12 ≤ lost) = true from by simp; omega, Nat.testBit_or]; simp
      · rw [Classical.not_not] at l4
        rw [jf, if_pos l4, show decide (ar (sbN set p) ≠ 0) = true from by simpa using l1, show decide (popN p 12 ≤ lost) = true from by simp; omega, Nat.testBit_or, Nat.testBit_two_pow]
        simp only [Bool.true_and, Bool.or_eq_true, decide_eq_true_eq, eq_comm (a := i)]
      · rw [jf, l1]; simp
  · constructor
    · intro y; exact Or.inl y
    · rintro (y | ⟨p2, y0, y1, y2⟩)
      · exact y
      · unfold jnF gdB at y2
        simp only [Bool.and_eq_true, decide_eq_true_eq] at y2
        have := sub_le y2.2.1.1
        omega
  · simp only [z_nn (show set &&& fit < 2147483648 by omega)]; exact Nat.le_refl _
end
