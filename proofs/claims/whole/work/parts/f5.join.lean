/-! planks on the road: whose a plank can be -/
def jnF (ar : Nat → Nat) (fit lost i q s b p : Nat) : Bool := decide (0 < p) && (gdB s fit lost p && (decide (ar (sbN s p) ≠ 0) && (if p.testBit q = true then decide (b = i) else (ar (sbN s p)).testBit b)))
def jnW (ar : Nat → Nat) (fit lost i q s : Nat) : Nat := btN (fun b => (ar s).testBit b || anyN (jnF ar fit lost i q s b) (s + 1)) 10
def jyN (fit lost : Nat → Nat) (q : Nat) : Nat → Nat → Nat
  | 0 => fun s => if s = 0 then 1 else 0
  | i + 1 => jnW (jyN fit lost q i) (fit i) (lost i) i q
theorem jy_lt {fit lost : Nat → Nat} {q : Nat} : ∀ i s, jyN fit lost q i s < 2 ^ 10
  | 0, s => by show (if s = 0 then 1 else 0) < 2 ^ 10; split <;> decide
  | i + 1, s => bt_lt _ _
theorem gd_iff {s may lost p : Nat} : gdB s may lost p = true ↔ ((∀ b, p.testBit b = true → s.testBit b = true ∧ may.testBit b = true) ∧ popN p 12 ≤ lost) := by
  unfold gdB
  rw [Bool.and_eq_true, decide_eq_true_eq, decide_eq_true_eq, sub_iff]
  simp only [Nat.testBit_and, Bool.and_eq_true]
theorem may_bit {W : Nat → Int32} {S : RS} {nh q i0 i b : Nat} (hn : cnt W 6 ≤ 8) (hq : q < cnt W 6) (h0 : i0 < 10) (hi : i < 10) : (mayN W S nh (nI q) (nI i0) i).testBit b = true ↔ (btN (canB W S nh i) (cnt W 6)).testBit b = true ∧ (b = q → i0 = i) := by
  unfold mayN
  rw [bt_bit, bt_bit]
  unfold mayB
  simp only [Bool.and_eq_true, Bool.or_eq_true, decide_eq_true_eq]
  constructor
  · rintro ⟨h1, h2, h3⟩
    refine ⟨⟨h1, h2⟩, fun e => ?_⟩
    subst e
    rcases h3 with h3 | h3 | h3
    · exact absurd rfl h3
    · exact absurd h3 (z_pos (by omega))
    · rwa [z_eq (by omega) (by omega)] at h3
  · rintro ⟨⟨h1, h2⟩, h3⟩
    refine ⟨h1, h2, ?_⟩
    by_cases e : b = q
    · rw [h3 e]; exact Or.inr (Or.inr rfl)
    · left
      rw [ne_eq, z_eq (by omega) (by omega)]; exact e
theorem gd_fit {W : Nat → Int32} {S : RS} {nh i s p : Nat} (h0 : 0 < p) (hp : p < 4096) : gdB s (fitN W S nh i) (losN W i) p = true ↔ gdB s (btN (canB W S nh i) (cnt W 6)) (losN W i) p = true := by
  unfold fitN
  by_cases e : losN W i = 0
  · rw [if_pos e, gd_iff, gd_iff, e]
    refine ⟨fun ⟨_, h⟩ => ?_, fun ⟨_, h⟩ => ?_⟩ <;> (have := pop_z hp (by omega); omega)
  · rw [if_neg e]
theorem gd_may {W : Nat → Int32} {S : RS} {nh q i0 i s p : Nat} (hn : cnt W 6 ≤ 8) (hq : q < cnt W 6) (h0 : i0 < 10) (hi : i < 10) : gdB s (mayN W S nh (nI q) (nI i0) i) (losN W i) p = true ↔ gdB s (btN (canB W S nh i) (cnt W 6)) (losN W i) p = true ∧ (p.testBit q = true → i0 = i) := by
  rw [gd_iff, gd_iff]
  constructor
  · rintro ⟨h1, h2⟩
    exact ⟨⟨fun b hb => ⟨(h1 b hb).1, ((may_bit hn hq h0 hi).mp (h1 b hb).2).1⟩, h2⟩, fun hb => ((may_bit hn hq h0 hi).mp (h1 q hb).2).2 rfl⟩
  · rintro ⟨⟨h1, h2⟩, h3⟩
    exact ⟨fun b hb => ⟨(h1 b hb).1, (may_bit hn hq h0 hi).mpr ⟨(h1 b hb).2, fun e => h3 (e ▸ hb)⟩⟩, h2⟩
/-- class and reference agree on whose the plank can be -/
theorem jy_wy {W : Nat → Int32} {S : RS} {nh q : Nat} (hn : cnt W 6 ≤ 8) (hq : q < cnt W 6) : ∀ i, i ≤ 10 → ∀ s, s < 2 ^ cnt W 6 →
    (s.testBit q = false → ∀ i0, i0 < 10 → jyN (fitN W S nh) (losN W) q i s = if 0 < wyN (mayN W S nh (nI q) (nI i0)) (losN W) i s then 1 else 0)
    ∧ (s.testBit q = true → ∀ i0, i0 < 10 → ((jyN (fitN W S nh) (losN W) q i s).testBit i0 = true ↔ 0 < wyN (mayN W S nh (nI q) (nI i0)) (losN W) i s))
  | 0, _, s, hs => by
    refine ⟨fun h1 i0 h0 => ?_, fun h1 i0 h0 => ?_⟩
    · have e1 : jyN (fitN W S nh) (losN W) q 0 s = if s = 0 then 1 else 0 := rfl
      have e2 : wyN (mayN W S nh (nI q) (nI i0)) (losN W) 0 s = if s = 0 then 1 else 0 := rfl
      rw [e1, e2]
      by_cases e : s = 0
      · simp [e]
      · simp [e]
    · have e : s ≠ 0 := fun e => by rw [e, Nat.zero_testBit] at h1; exact nomatch h1
      show (if s = 0 then 1 else 0).testBit i0 = true ↔ 0 < (if s = 0 then 1 else 0)
      rw [if_neg e, Nat.zero_testBit]
      exact ⟨fun z => (nomatch z), fun z => absurd z (Nat.lt_irrefl _)⟩
  | i + 1, hi, s, hs => by
    have ihj := jy_wy (S := S) (nh := nh) hn hq i (by omega)
    have p2 := p256 hn
    have sbs : ∀ p, sbN s p < 2 ^ cnt W 6 := fun p => Nat.lt_of_le_of_lt sb_le hs
    have eJ : ∀ b, (jyN (fitN W S nh) (losN W) q (i + 1) s).testBit b = (decide (b < 10) && ((jyN (fitN W S nh) (losN W) q i s).testBit b || anyN (jnF (jyN (fitN W S nh) (losN W) q i) (fitN W S nh i) (losN W i) i q s b) (s + 1))) := fun b => bt_bit _ _ _
    have eW : ∀ i0, 0 < wyN (mayN W S nh (nI q) (nI i0)) (losN W) (i + 1) s ↔ ∃ p, p < s + 1 ∧ gdB s (mayN W S nh (nI q) (nI i0) i) (losN W i) p = true ∧ 0 < wyN (mayN W S nh (nI q) (nI i0)) (losN W) i (sbN s p) := fun i0 => by
      show 0 < sumN (stF (wyN (mayN W S nh (nI q) (nI i0)) (losN W) i) (mayN W S nh (nI q) (nI i0) i) (losN W i) s) (s + 1) ↔ _
      rw [sumN_pos]
      constructor
      · rintro ⟨p, h1, h2⟩
        unfold stF at h2
        split at h2
        · next z => exact ⟨p, h1, z, h2⟩
        · omega
      · rintro ⟨p, h1, h2, h3⟩
        refine ⟨p, h1, ?_⟩
        unfold stF; rw [if_pos h2]; exact h3
    have jF : ∀ b p, jnF (jyN (fitN W S nh) (losN W) q i) (fitN W S nh i) (losN W i) i q s b p = true ↔ 0 < p ∧ gdB s (fitN W S nh i) (losN W i) p = true ∧ jyN (fitN W S nh) (losN W) q i (sbN s p) ≠ 0 ∧ (if p.testBit q = true then b = i else (jyN (fitN W S nh) (losN W) q i (sbN s p)).testBit b = true) := fun b p => by
      unfold jnF
      simp only [Bool.and_eq_true, decide_eq_true_eq]
      by_cases z : p.testBit q = true
      · simp only [if_pos z, decide_eq_true_eq]
      · simp only [if_neg z]
    have nz : ∀ p, (sbN s p).testBit q = false → ∀ i0, i0 < 10 → (jyN (fitN W S nh) (losN W) q i (sbN s p) ≠ 0 ↔ 0 < wyN (mayN W S nh (nI q) (nI i0)) (losN W) i (sbN s p)) := fun p hp i0 h0 => by
      rw [(ihj _ (sbs p)).1 hp i0 h0]
      by_cases z : 0 < wyN (mayN W S nh (nI q) (nI i0)) (losN W) i (sbN s p)
      · rw [if_pos z]; exact ⟨fun _ => z, fun _ => by decide⟩
      · rw [if_neg z]; exact ⟨fun y => absurd rfl y, fun y => absurd y z⟩
    refine ⟨fun h1 i0 h0 => ?_, fun h1 i0 h0 => ?_⟩
    · have sq : ∀ p, (sbN s p).testBit q = false := fun p => by rw [sb_bit, h1]; rfl
      have bits : ∀ b, (jyN (fitN W S nh) (losN W) q (i + 1) s).testBit b = true ↔ b = 0 ∧ 0 < wyN (mayN W S nh (nI q) (nI i0)) (losN W) (i + 1) s := fun b => by
        rw [eJ, Bool.and_eq_true, Bool.or_eq_true, decide_eq_true_eq, any_iff, eW]
        have self : (jyN (fitN W S nh) (losN W) q i s).testBit b = true ↔ b = 0 ∧ 0 < wyN (mayN W S nh (nI q) (nI i0)) (losN W) i s := by
          rw [(ihj s hs).1 h1 i0 h0]
          by_cases z : 0 < wyN (mayN W S nh (nI q) (nI i0)) (losN W) i s
          · rw [if_pos z, Nat.testBit_one_eq_true_iff_self_eq_zero]; exact ⟨fun y => ⟨y, z⟩, fun y => y.1⟩
          · rw [if_neg z, Nat.zero_testBit]; exact ⟨fun y => (nomatch y), fun y => absurd y.2 z⟩
        constructor
        · rintro ⟨hb, h2 | ⟨p, hp, h2⟩⟩
          · obtain ⟨e, h3⟩ := self.mp h2
            exact ⟨e, 0, by omega, gd_0, by rw [sb_0]; exact h3⟩
          · obtain ⟨g0, g1, g2, g3⟩ := (jF b p).mp h2
            have gp := (gd_fit g0 (by omega)).mp g1
            have pq : p.testBit q = false := by
              cases z : p.testBit q
              · rfl
              · have := ((gd_iff.mp gp).1 q z).1; rw [h1] at this; exact nomatch this
            rw [if_neg (by rw [pq]; decide)] at g3
            have g4 := (nz p (sq p) i0 h0).mp g2
            rw [(ihj _ (sbs p)).1 (sq p) i0 h0, if_pos g4, Nat.testBit_one_eq_true_iff_self_eq_zero] at g3
            exact ⟨g3, p, hp, (gd_may hn hq h0 (by omega)).mpr ⟨gp, fun z => by rw [pq] at z; exact nomatch z⟩, g4⟩
        · rintro ⟨e, p, hp, h2, h3⟩
          refine ⟨by omega, ?_⟩
          by_cases p0 : p = 0
          · subst p0
            rw [sb_0] at h3
            exact Or.inl (self.mpr ⟨e, h3⟩)
          · obtain ⟨gp, -⟩ := (gd_may hn hq h0 (show i < 10 by omega)).mp h2
            have pq : p.testBit q = false := by
              cases z : p.testBit q
              · rfl
              · have := ((gd_iff.mp gp).1 q z).1; rw [h1] at this; exact nomatch this
            refine Or.inr ⟨p, hp, (jF b p).mpr ⟨by omega, (gd_fit (by omega) (by omega)).mpr gp, (nz p (sq p) i0 h0).mpr h3, ?_⟩⟩
            rw [if_neg (by rw [pq]; decide), (ihj _ (sbs p)).1 (sq p) i0 h0, if_pos h3, e]; rfl
      apply Nat.eq_of_testBit_eq
      intro b
      by_cases z : 0 < wyN (mayN W S nh (nI q) (nI i0)) (losN W) (i + 1) s
      · rw [if_pos z]
        by_cases e : b = 0
        · rw [(bits b).mpr ⟨e, z⟩, e]; rfl
        · have l : (jyN (fitN W S nh) (losN W) q (i + 1) s).testBit b = false := by
            cases y : (jyN (fitN W S nh) (losN W) q (i + 1) s).testBit b
            · rfl
            · exact absurd ((bits b).mp y).1 e
          have r : (1 : Nat).testBit b = false := by
            cases y : (1 : Nat).testBit b
            · rfl
            · exact absurd (Nat.testBit_one_eq_true_iff_self_eq_zero.mp y) e
          rw [l, r]
      · rw [if_neg z, Nat.zero_testBit]
        cases y : (jyN (fitN W S nh) (losN W) q (i + 1) s).testBit b
        · rfl
        · exact absurd ((bits b).mp y).2 z
    · rw [eJ, Bool.and_eq_true, Bool.or_eq_true, decide_eq_true_eq, any_iff, eW]
      constructor
      · rintro ⟨hb, h2 | ⟨p, hp, h2⟩⟩
        · exact ⟨0, by omega, gd_0, by rw [sb_0]; exact ((ihj s hs).2 h1 i0 h0).mp h2⟩
        · obtain ⟨g0, g1, g2, g3⟩ := (jF i0 p).mp h2
          have gp := (gd_fit g0 (by omega)).mp g1
          by_cases pq : p.testBit q = true
          · rw [if_pos pq] at g3
            have sq : (sbN s p).testBit q = false := by rw [sb_bit, pq]; simp
            exact ⟨p, hp, (gd_may hn hq h0 (by omega)).mpr ⟨gp, fun _ => g3⟩, (nz p sq i0 h0).mp g2⟩
          · rw [if_neg pq] at g3
            have sq : (sbN s p).testBit q = true := by rw [sb_bit, h1]; simpa using pq
            exact ⟨p, hp, (gd_may hn hq h0 (by omega)).mpr ⟨gp, fun z => absurd z pq⟩, ((ihj _ (sbs p)).2 sq i0 h0).mp g3⟩
      · rintro ⟨p, hp, h2, h3⟩
        refine ⟨by omega, ?_⟩
        by_cases p0 : p = 0
        · subst p0
          rw [sb_0] at h3
          exact Or.inl (((ihj s hs).2 h1 i0 h0).mpr h3)
        · obtain ⟨gp, ge⟩ := (gd_may hn hq h0 (show i < 10 by omega)).mp h2
          refine Or.inr ⟨p, hp, (jF i0 p).mpr ⟨by omega, (gd_fit (by omega) (by omega)).mpr gp, ?_⟩⟩
          by_cases pq : p.testBit q = true
          · have sq : (sbN s p).testBit q = false := by rw [sb_bit, pq]; simp
            rw [if_pos pq]
            exact ⟨(nz p sq i0 h0).mpr h3, ge pq⟩
          · have sq : (sbN s p).testBit q = true := by rw [sb_bit, h1]; simpa using pq
            have h4 := ((ihj _ (sbs p)).2 sq i0 h0).mpr h3
            rw [if_neg pq]
            exact ⟨fun z => by rw [z, Nat.zero_testBit] at h4; exact (nomatch h4), h4⟩
