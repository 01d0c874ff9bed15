/-! the class reckons a text -/
theorem stp_f : ∀ m, m < 9 → (¬ nI m = 9) ∧ nI m < 9 ∧ ((-1 : Int32) - nI m < 0) ∧ (¬ ((-1 : Int32) - nI m ≤ -10)) ∧ (-1 : Int32) - ((-1) - nI m) = nI m ∧ ¬ nI m < 0 ∧ ¬ 9 ≤ nI m := by decide
theorem ev_len {s : Nat} {op ag : Int32} {ty ty' : List Bool} {st : List Int32} {F : Nat → Int32} (h : ck1 s op ty = some ty') (t : tyR st ty) (hF : s ≠ 3 → F 8 = 0 ∨ F 8 = 1) (hl : st.length ≤ 20) : (ev1 F op ag st).length ≤ 20 := by
  have h1 := ty_len (ev_ty (ag := ag) h t hF)
  have h2 := ty_len t
  rw [h1]
  rcases ck_cases h with (⟨-, q, rfl⟩ | ⟨-, -, q, rfl⟩) | ⟨r, -, rfl, rfl⟩ | ⟨r, -, rfl, rfl⟩ | ⟨r, -, rfl, rfl⟩ | ⟨r, -, rfl, rfl⟩ <;> simp only [List.length_cons] at * <;> omega
theorem ty1 {st : List Int32} {x : Bool} {ty : List Bool} (t : tyR st (x :: ty)) : ∃ b r, st = b :: r ∧ (x = true → b = 0 ∨ b = 1) ∧ tyR r ty := by
  match st, t with
  | b :: r, t => exact ⟨b, r, rfl, t.1, t.2⟩
theorem ty2 {st : List Int32} {x y : Bool} {ty : List Bool} (t : tyR st (x :: y :: ty)) : ∃ b a r, st = b :: a :: r ∧ (x = true → b = 0 ∨ b = 1) ∧ (y = true → a = 0 ∨ a = 1) := by
  obtain ⟨b, r, rfl, t1, t2⟩ := ty1 t
  obtain ⟨a, r, rfl, t3, -⟩ := ty1 t2
  exact ⟨b, a, r, rfl, t1, t3⟩
section
variable {σ : Nat → Nat} {E : En} {d d' d2 d3 : Dy} {W : Nat → Int32} {B np nh : Nat} {S : RS} {K : Int32 → Dy → Prop} {K0 : Dy → Prop}
theorem yne (h : Env σ E) (hB : RB B) {i j : Nat} (hi : i < 10) (hj : j < 10) (n : i ≠ j) : σ (B + i) ≠ σ (B + j) := by
  have hB : B = 50 ∨ B = 60 := hB
  exact Env_ne h (by omega) (by omega) (by omega)
theorem Chy_A (h : Env σ E) (hB : RB B) {j : Nat} (hj : j < 10) {q : Nat} {x : Int32} {P : List Nat} (hP : B + j ∈ P) : Ch σ P d (pA d (σ (B + j)) q x) := by
  have hB : B = 50 ∨ B = 60 := hB
  exact Ch_pA h (by omega) hP
theorem Chy_7 (h : Env σ E) (hB : RB B) {q : Nat} {x : Int32} {P : List Nat} (hP : B + 7 ∈ P) : Ch σ P d (pI d (σ (B + 7)) q x) := by
  refine Ch_pI h (by have hB : B = 50 ∨ B = 60 := hB; omega) ?_ hP
  have no : ∀ x ∈ prot, x.1 ≠ 57 ∧ x.1 ≠ 67 := by decide
  intro hq
  rcases hB with rfl | rfl
  · exact (no _ hq).1 rfl
  · exact (no _ hq).2 rfl
theorem k_push (h : Env σ E) (hB : RB B) {n : Nat} {x : Int32} (dep : gI d (σ (B + 7)) 2 = nI n) (hn : n < 24) (k : K0 (pI (pA d (σ (B + 9)) n x) (σ (B + 7)) 2 (nI (n + 1)))) : w_X0_push E (σ (B + 7)) x d K0 := by
  simp only [w_X0_push, y_81 h hB, (y_n8 h hB).2, gI_pA, dep, z_a1, z_nn (show n < 2147483648 by omega)]
  rw [z_le (by omega) (by omega)]
  exact ⟨y_8o h hB, fun q => absurd q (by omega), fun _ => ⟨vpi (by omega) (by decide), k⟩⟩
set_option maxHeartbeats 1000000 in
theorem k_use (h : Env σ E) (hB : RB B) {s : Nat} {op ag : Int32} {ty ty' : List Bool} {st : List Int32} (hc : ck1 s op ty = some ty') (t : tyR st ty) (sR : stR (gA d (σ (B + 9))) st) (dep : gI d (σ (B + 7)) 2 = nI st.length) (hl : st.length ≤ 20) (h9 : op = 9 → bw ag 0 9999)
    (k : ∀ d', Ch σ [B + 7, B + 9] d d' → stR (gA d' (σ (B + 9))) (ev1 (gA d (σ (B + 8))) op ag st) → gI d' (σ (B + 7)) 2 = nI (ev1 (gA d (σ (B + 8))) op ag st).length → K0 d') : w_X0_use E (σ (B + 7)) (stp op ag) d K0 := by
  have cP : ∀ {q : Nat} {x y : Int32}, Ch σ [B + 7, B + 9] d (pI (pA d (σ (B + 9)) q x) (σ (B + 7)) 2 y) := fun {q x y} => Ch_tr (Chy_A h hB (by decide) (by simp)) (Chy_7 h hB (by simp))
  have cJ : ∀ {q : Nat} {x y : Int32}, Ch σ [B + 7, B + 9] d (pA (pI d (σ (B + 7)) 2 y) (σ (B + 9)) q x) := fun {q x y} => Ch_tr (Chy_7 h hB (by simp)) (Chy_A h hB (by decide) (by simp))
  have gq : ∀ (q : Nat) (x : Int32) (r : Nat), gA (pA d (σ (B + 9)) q x) (σ (B + 9)) r = if r = q then x else gA d (σ (B + 9)) r := fun q x r => by rw [gA_pA_x, if_pos rfl]
  have pu : ∀ x, ev1 (gA d (σ (B + 8))) op ag st = x :: st → st.length < 20 → w_X0_push E (σ (B + 7)) x d K0 := fun x hx hl2 => by
    rw [hx] at k
    exact k_push h hB dep (by omega) (k _ cP (st_push sR (gq _ _)) (gI_pI _ _ _ _))
  have hlt : st.length = ty.length := ty_len t
  have fact : ∀ m, m < 9 → op = nI m → st.length < 20 → w_X0_use E (σ (B + 7)) (stp op ag) d K0 := fun m hm he hl2 => by
    obtain ⟨m1, m2, m3, m4, m5, m6, m7⟩ := stp_f m hm
    have e1 : stp op ag = -1 - nI m := by rw [he]; unfold stp; rw [if_neg m1, if_pos m2]
    have e2 : ev1 (gA d (σ (B + 8))) op ag st = gA d (σ (B + 8)) m :: st := by rw [he]; unfold ev1; rw [if_neg m1, if_pos m2, z_nn (by omega)]
    rw [e1]
    refine ⟨y_8o h hB, fun _ => ⟨fun q => absurd q m4, fun _ => ?_⟩, fun q => absurd m3 q⟩
    rw [m5]
    simp only [w_X0_of, y_80 h hB, (y_n8 h hB).1, z_nn (show m < 2147483648 by omega)]
    exact ⟨y_8o h hB, fun q => absurd q m6, fun _ => ⟨fun q => absurd q m7, fun _ => ⟨vpi (by omega) (by decide), pu _ e2 hl2⟩⟩⟩
  have join : ∀ (p : Int32) (a b : Int32) (r' : List Int32), st = b :: a :: r' → stp op ag = p → p < 0 → p ≤ -10 → ¬ p = -13 → (∀ d1 K1, K1 (ev2 op a b) d1 → w_X0_join E p a b d1 K1) → ev1 (gA d (σ (B + 8))) op ag st = ev2 op a b :: r' → w_X0_use E (σ (B + 7)) (stp op ag) d K0 := fun p a b r' hs hp p1 p2 p3 hj he => by
    rw [hp]
    rw [he] at k
    subst hs
    simp only [List.length_cons] at hl
    have g1 : gA d (σ (B + 9)) r'.length = a := st_top (st_tail sR)
    have g2 : gA d (σ (B + 9)) (r'.length + 1) = b := st_top sR
    have dep : gI d (σ (B + 7)) 2 = nI (r'.length + 1 + 1) := dep
    refine ⟨y_8o h hB, fun _ => ⟨fun _ => ⟨fun _ => ?_, fun q => absurd q p3⟩, fun q => absurd p2 q⟩, fun q => absurd p1 q⟩
    simp only [b_X0_use_72, y_81 h hB, dep, z_m1, gI_pI, gA_pI, (y_n8 h hB).2, z_nn (show r'.length < 2147483648 by omega), z_nn (show r'.length + 1 < 2147483648 by omega), g1, g2]
    refine ⟨fun q => ?_, fun _ => ⟨vpi (by omega) (by decide), vpi (by omega) (by decide), hj _ _ ⟨vpi (by omega) (by decide), k _ cJ ?_ ?_⟩⟩⟩
    · rw [show (1 : Int32) = nI 1 from rfl, z_le (by omega) (by decide)] at q; omega
    · refine st_rep (g := gA d (σ (B + 9))) (st_tail sR) (fun j => ?_)
      rw [gA_pA_x, if_pos rfl, gA_pI]
    · rw [gI_pA, gI_pI]; rfl
  rcases ck_cases hc with (⟨ho, hl2, -⟩ | ⟨he, -, hl2, -⟩) | ⟨r, he, rfl, -⟩ | ⟨r, he, rfl, -⟩ | ⟨r, he, rfl, -⟩ | ⟨r, he, rfl, -⟩
  · rcases ho with he | ⟨o1, o2, -⟩
    · have e1 : stp op ag = ag := by rw [he]; unfold stp; rw [if_pos rfl]
      have e2 : ev1 (gA d (σ (B + 8))) op ag st = ag :: st := by rw [he]; unfold ev1; rw [if_pos rfl]
      obtain ⟨m, -, hm, em⟩ := bw_n (a := 0) (b := 9999) (h9 he) (by decide) (by decide)
      rw [e1]
      refine ⟨y_8o h hB, fun q => absurd q (by rw [em]; exact z_pos (by omega)), fun _ => pu _ e2 (by omega)⟩
    · obtain ⟨m, hm, rfl⟩ := z_ex o1
      rw [show (8 : Int32) = nI 8 from rfl, z_lt hm (by decide)] at o2
      exact fact m (by omega) rfl (by omega)
  · exact fact 8 (by decide) he (by omega)
  · obtain ⟨b, a, r', rfl, -, -⟩ := ty2 t
    · subst he
      exact join (-10) a b r' rfl rfl (by decide) (by decide) (by decide) (fun d1 K1 k1 => ⟨fun q => absurd q (by decide), fun q => absurd q (by decide), fun q => absurd q (by decide), fun q => absurd q (by decide), fun _ => k1, fun _ _ _ _ q => absurd rfl q⟩) rfl
  · obtain ⟨b, a, r', rfl, -, -⟩ := ty2 t
    · rcases he with he | he
      · subst he
        refine join (-11) a b r' rfl rfl (by decide) (by decide) (by decide) (fun d1 K1 k1 => ⟨fun q => absurd q (by decide), fun q => absurd q (by decide), fun q => absurd q (by decide), fun _ => ⟨fun q => ?_, fun q => ?_⟩, fun q => absurd q (by decide), fun _ _ _ q => absurd rfl q⟩) rfl
        · have e : ev2 11 a b = 0 := by show (if a < b then (1 : Int32) else 0) = 0; rw [if_neg (Int32.not_lt.mpr q)]
          rw [e] at k1; exact k1
        · have e : ev2 11 a b = 1 := by show (if a < b then (1 : Int32) else 0) = 1; rw [if_pos (Int32.not_le.mp q)]
          rw [e] at k1; exact k1
      · subst he
        refine join (-12) a b r' rfl rfl (by decide) (by decide) (by decide) (fun d1 K1 k1 => ⟨fun q => absurd q (by decide), fun q => absurd q (by decide), fun _ => ⟨fun q => ?_, fun q => ?_⟩, fun q => absurd q (by decide), fun q => absurd q (by decide), fun _ _ q => absurd rfl q⟩) rfl
        · have e : ev2 12 a b = 0 := by show (if b < a then (1 : Int32) else 0) = 0; rw [if_neg (Int32.not_lt.mpr q)]
          rw [e] at k1; exact k1
        · have e : ev2 12 a b = 1 := by show (if b < a then (1 : Int32) else 0) = 1; rw [if_pos (Int32.not_le.mp q)]
          rw [e] at k1; exact k1
  · obtain ⟨x, r', rfl, -, -⟩ := ty1 t
    · subst he
      simp only [List.length_cons] at hl
      have g1 : gA d (σ (B + 9)) r'.length = x := st_top sR
      have dep : gI d (σ (B + 7)) 2 = nI (r'.length + 1) := dep
      have e1 : stp 13 ag = -13 := rfl
      rw [e1]
      simp only [w_X0_use, y_81 h hB, dep, z_m1, (y_n8 h hB).2, z_nn (show r'.length < 2147483648 by omega), g1]
      refine ⟨y_8o h hB, fun _ => ⟨fun _ => ⟨fun q => absurd trivial q, fun _ => ⟨fun q => ?_, fun _ => ⟨vpi (by omega) (by decide), vpi (by omega) (by decide), k _ (Chy_A h hB (by decide) (by simp)) (st_rep sR (gq _ _)) ?_⟩⟩⟩, fun q => absurd (by decide) q⟩, fun q => absurd (by decide) q⟩
      · rw [show (0 : Int32) = nI 0 from rfl, z_le (by omega) (by decide)] at q; omega
      · rw [gI_pA]; exact dep
  · obtain ⟨b, a, r', rfl, tb, ta⟩ := ty2 t
    · have tb := tb rfl
      have ta := ta rfl
      rcases he with he | he
      · subst he
        refine join (-14) a b r' rfl rfl (by decide) (by decide) (by decide) (fun d1 K1 k1 => ⟨fun _ => ?_, fun q => absurd q (by decide), fun q => absurd q (by decide), fun q => absurd q (by decide), fun q => absurd q (by decide), fun q => absurd rfl q⟩) rfl
        have e : ev2 14 a b = a &&& b := by rcases ta with rfl | rfl <;> rcases tb with rfl | rfl <;> decide
        rw [e] at k1; exact k1
      · subst he
        refine join (-15) a b r' rfl rfl (by decide) (by decide) (by decide) (fun d1 K1 k1 => ⟨fun q => absurd q (by decide), fun q => absurd q (by decide), fun q => absurd q (by decide), fun q => absurd q (by decide), fun q => absurd q (by decide), fun _ _ _ _ _ => ?_⟩) rfl
        have e : ev2 15 a b = a ||| b := by rcases ta with rfl | rfl <;> rcases tb with rfl | rfl <;> decide
        rw [e] at k1; exact k1
end
