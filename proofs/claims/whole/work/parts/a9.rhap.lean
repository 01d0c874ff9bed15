section
variable {σ : Nat → Nat} {E : En} {d d' d2 d3 : Dy} {W : Nat → Int32} {np nh : Nat} {S : RS} {K : Int32 → Dy → Prop} {K0 : Dy → Prop}
theorem r_comesTo (h : Env σ E) {i : Nat} {x y : Int32} (hi : i < 10) (k : K0 (pA (pA d (σ 98) i x) (σ 99) i y)) : w_X11_comesTo E (σ 87) (nI i) x y d K0 := by
  simp only [w_X11_comesTo, x_87_21 h, x_87_22 h, en_98 h, en_99 h, z_nn (show i < 2147483648 by omega)]
  exact ⟨eo_87 h, vpi (by omega) (by decide), vpi (by omega) (by decide), k⟩
theorem r_happens (h : Env σ E) (g : gW σ d W np nh) (R : refR σ np nh d S) (ok : rsOK np nh S) {e : Nat} (he : e < cnt W 2) (k : ∀ d', Ch σ hpL d d' → refR σ np nh d' (hapS W np nh S e) → K0 d') : w_X11_happens E (σ 87) (nI e) d K0 := by
  obtain ⟨eW, hW, tw, e0, e1, n0, n1, hnp, hnh⟩ := id g
  have he40 : e < 40 := Nat.lt_of_lt_of_le he (hW.1 2 (by decide) (by decide)).2
  obtain ⟨-, c, hc, ec, c1, c2, c3, c4⟩ := ev_nums hW he
  rw [← n0] at c1 c3
  rw [← n1] at c2 c4
  have kk : ∀ j : Nat, j ≤ 6 → (W (121 + 6 * e) = nI j ↔ c = j) := fun j hj => by rw [ec, z_eq (by omega) (by omega)]
  have z0 : (0 : Int32) = nI 0 := rfl
  have z1 : (1 : Int32) = nI 1 := rfl
  have z2 : (2 : Int32) = nI 2 := rfl
  have z3 : (3 : Int32) = nI 3 := rfl
  have z4 : (4 : Int32) = nI 4 := rfl
  have z5 : (5 : Int32) = nI 5 := rfl
  have q0 : W (121 + 6 * e) = 0 ↔ c = 0 := kk 0 (by omega)
  have q1 : W (121 + 6 * e) = 1 ↔ c = 1 := kk 1 (by omega)
  have q2 : W (121 + 6 * e) = 2 ↔ c = 2 := kk 2 (by omega)
  have q3 : W (121 + 6 * e) = 3 ↔ c = 3 := kk 3 (by omega)
  have q4 : W (121 + 6 * e) = 4 ↔ c = 4 := kk 4 (by omega)
  have q5 : W (121 + 6 * e) = 5 ↔ c = 5 := kk 5 (by omega)
  unfold hapS at k
  generalize hA : cnt W (122 + 6 * e) = A at c1 c2 k
  generalize hB : cnt W (123 + 6 * e) = B at c3 c4 k
  unfold w_X11_happens
  refine ⟨eo_87 h, r_ofEvent (c := 2) h (by omega) (by decide) (r_ofEvent (c := 3) h (by omega) (by decide) (r_ofEvent (c := 1) h (by omega) (by decide) ?_))⟩
  rw [eW, show 120 + 6 * e + 1 = 121 + 6 * e by omega, show 120 + 6 * e + 2 = 122 + 6 * e by omega, show 120 + 6 * e + 3 = 123 + 6 * e by omega]
  simp only [x_87_18 h, x_87_19 h, x_87_20 h, x_87_21 h, x_87_24 h, x_87_25 h, en_95 h, en_96 h, en_97 h, en_98 h, en_101 h, vpnB.1, vpnB.2]
  have yr : ∀ {K1 : Int32 → Dy → Prop} {d : Dy}, gA d (σ 88) = W → K1 (W (120 + 6 * e)) d → w_X11_ofEvent E (σ 87) (nI e) 0 d K1 := fun {K1 d} e1 k1 => r_ofEvent (c := 0) h (by omega) (by decide) (by rw [e1]; exact k1)
  refine ⟨fun t => ?_, fun t => ?_, fun t => ?_, fun t => ?_, fun t => ?_, fun t => ?_, fun t0 t1 t2 t3 t4 t5 => ?_⟩
  · rw [q0] at t
    obtain ⟨a1, a2⟩ := c1 (by omega)
    rw [a2, z_nn (show A < 2147483648 by omega), (R.1 A a1).1, b2i_0]
    rw [if_pos (q0.2 t)] at k
    refine ⟨vpi (by omega) (by decide), fun v => ?_, fun v => yr eW (r_dies h g R ok a1 (fun d' c' R' => ?_))⟩
    · rw [v] at k; exact k d Ch_rf R
    · rw [Bool.not_eq_false] at v
      rw [if_pos v] at k; exact k d' c' R'
  · rw [q1] at t
    obtain ⟨a1, a2⟩ := c1 (by omega)
    obtain ⟨b1, b2⟩ := c3 (by omega) (by omega)
    rw [a2, b2, z_nn (show A < 2147483648 by omega), z_nn (show B < 2147483648 by omega)]
    rw [if_neg (by rw [q0]; omega), if_pos (q1.2 t)] at k
    exact ⟨vpi (by omega) (by decide), vpi (by omega) (by decide), k _ (Ch_tr (Ch_pA h (by decide) (by decide)) (Ch_pA h (by decide) (by decide))) (rf_P h (rf_P (o := some B) h R rfl) (o := some A) rfl)⟩
  · rw [q2] at t
    obtain ⟨a1, a2⟩ := c1 (by omega)
    obtain ⟨b1, b2⟩ := c3 (by omega) (by omega)
    rw [a2, b2, z_nn (show A < 2147483648 by omega), (R.1 A a1).2, enc_eq (ok.1 A a1) (by omega) b1]
    rw [if_neg (by rw [q0]; omega), if_neg (by rw [q1]; omega), if_pos (q2.2 t)] at k
    have fin : b_X11_happens_125 E (σ 87) (nI e) K0 (nI A) (nI B) (σ 96) (nI A) (encO (if rsP S A = some B then none else rsP S A)) d := by
      have R2 := rf_P (p := A) (o := if rsP S A = some B then none else rsP S A) h R rfl
      have o2 : ∀ q, upO (rsP S) A (if rsP S A = some B then none else rsP S A) B = some q → q < np := fun q hq => by
        unfold upO at hq
        split at hq
        · split at hq
          · cases hq
          · exact ok.1 A a1 q hq
        · exact ok.1 B b1 q hq
      have v2 : gA (pA d (σ 96) A (encO (if rsP S A = some B then none else rsP S A))) (σ 96) B = encO (upO (rsP S) A (if rsP S A = some B then none else rsP S A) B) := (R2.1 B b1).2
      have c5 : Ch σ hpL d (pA d (σ 96) A (encO (if rsP S A = some B then none else rsP S A))) := Ch_pA h (by decide) (by decide)
      simp only [b_X11_happens_125, x_87_19 h, en_96 h, z_nn (show A < 2147483648 by omega), z_nn (show B < 2147483648 by omega), v2]
      generalize pA d (σ 96) A (encO (if rsP S A = some B then none else rsP S A)) = d0 at R2 c5
      rw [enc_eq o2 (by omega) a1]
      have fin2 : ∀ o, (o = if upO (rsP S) A (if rsP S A = some B then none else rsP S A) B = some A then none else upO (rsP S) A (if rsP S A = some B then none else rsP S A) B) → K0 (pA d0 (σ 96) B (encO o)) := fun o ho => by
        refine k _ (Ch_tr c5 (Ch_pA h (by decide) (by decide))) ?_
        have R3 := rf_P (p := B) (o := o) h R2 rfl
        have : (upO (upO (rsP S) A (if rsP S A = some B then none else rsP S A)) B o) = (fun j => if j = A ∧ rsP S j = some B ∨ j = B ∧ rsP S j = some A then none else rsP S j) := by
          funext j
          rw [ho]
          unfold upO
          by_cases u1 : j = B
          · subst u1
            rw [if_pos rfl]
            by_cases u2 : j = A
            · subst u2; simp only [if_true]
              by_cases u3 : rsP S j = some j <;> simp [u3]
            · simp only [if_neg u2]
              by_cases u3 : rsP S j = some A <;> simp [u2, u3]
          · rw [if_neg u1]
            by_cases u2 : j = A
            · subst u2
              rw [if_pos rfl]
              by_cases u3 : rsP S j = some B <;> simp [u1, u3]
            · rw [if_neg u2]; simp [u1, u2]
        have t2 : rsP (stP S (upO (rsP S) A (if rsP S A = some B then none else rsP S A))) = upO (rsP S) A (if rsP S A = some B then none else rsP S A) := rfl
        rw [t2, this] at R3
        exact R3
      refine ⟨eo_96 h, vpi (by omega) (by decide), vpi (by omega) (by decide), fun v => ⟨vpi (by omega) (by decide), vpi (by omega) (by decide), fin2 _ (by rw [if_neg v])⟩, fun v => ⟨vpi (by omega) (by decide), fin2 none (by rw [if_pos v])⟩⟩
    refine ⟨vpi (by omega) (by decide), fun v => ⟨vpi (by omega) (by decide), ?_⟩, fun v => ?_⟩
    · rw [if_neg v] at fin; exact fin
    · rw [if_pos v] at fin; exact fin
  · rw [q3] at t
    obtain ⟨a1, a2⟩ := c1 (by omega)
    obtain ⟨b1, b2⟩ := c3 (by omega) (by omega)
    rw [if_neg (by rw [q0]; omega), if_neg (by rw [q1]; omega), if_neg (by rw [q2]; omega), if_pos (q3.2 t)] at k
    rw [a2, b2]
    have e2 : (12 : Int32) * nI A + nI B = nI (12 * A + B) := by rw [show (12 : Int32) = nI 12 from rfl, z_mul, z_add]
    refine ⟨(r_cell h hnp R a1 b1).1, ?_⟩
    rw [e2, z_nn (by omega)]
    exact k _ (Ch_pA h (by decide) (by decide)) (rf_C h R hnp a1 b1)
  · rw [q4] at t
    obtain ⟨a1, a2⟩ := c2 (by omega)
    obtain ⟨b1, b2⟩ := c3 (by omega) (by omega)
    rw [if_neg (by rw [q0]; omega), if_neg (by rw [q1]; omega), if_neg (by rw [q2]; omega), if_neg (by rw [q3]; omega), if_pos (q4.2 t)] at k
    rw [a2, b2, z_nn (show A < 2147483648 by omega), z_nn (show B < 2147483648 by omega), (R.2.2.1 A a1).1, enc_lt (ok.2.1 A a1) (by omega), enc_eq (ok.2.1 A a1) (by omega) b1, (R.1 B b1).1, b2i_0, z_nn (show e < 2147483648 by omega)]
    refine ⟨vpi (by omega) (by decide), fun v => ?_, fun v => ⟨vpi (by omega) (by decide), fun v2 => ?_, fun v2 => ⟨vpi (by omega) (by decide), fun v3 => ⟨vpi (by omega) (by decide), vpi (by omega) (by decide), ?_⟩, fun v3 => ?_⟩⟩⟩
    · rw [v] at k; exact k d Ch_rf R
    · rw [v2] at k; simp only [true_or, if_true] at k; exact k d Ch_rf R
    · cases hO : rsH S A with
      | none => exact absurd hO v
      | some o =>
        rw [hO] at k v2
        have ho : o < np := ok.2.1 A a1 o hO
        have hne : o ≠ B := fun q => v2 (by rw [q])
        have k := k
        simp only [hne, v3, false_or, if_false] at k
        have R2 := rf_S (e := e) (b := true) h R (x := 1) rfl
        have c5 : Ch σ hpL d (pA d (σ 101) e 1) := Ch_pA h (by decide) (by decide)
        have g5 := gW_ch g c5 (by decide)
        have hH : gA (pA d (σ 101) e 1) (σ 98) A = nI o := by
          rw [(R2.2.2.1 A a1).1]
          show encO (rsH S A) = _
          rw [hO]; rfl
        rw [hH]
        generalize pA d (σ 101) e 1 = d0 at R2 c5 g5
        refine r_isKin h g5.1 e0 hnp R2 ok ho b1 ?_
        have hk : kinS (stD S (upB (rsS S) e true) (rsD S)) np o B = kinS S np o B := rfl
        rw [hk]
        have fin : ∀ x : Int32, x = b2i (!kinS S np o B) → b_X11_happens_230 E (σ 87) (nI e) K0 (nI A) (nI B) (σ 102) (nI e) x d0 := fun x hx => by
          have hx2 : vp_nar .boolean x = b2i (!kinS S np o B) := by rw [hx]; cases kinS S np o B <;> rfl
          unfold b_X11_happens_230
          rw [hx2, z_nn (show e < 2147483648 by omega)]
          have R3 := rf_D (e := e) (b := !kinS S np o B) h R2 rfl
          have c6 : Ch σ hpL d (pA d0 (σ 102) e (b2i (!kinS S np o B))) := Ch_tr c5 (Ch_pA h (by decide) (by decide))
          have g6 := gW_ch g c6 (by decide)
          refine ⟨eo_102 h, by rw [en_102 h]; exact vpi (by omega) (by decide), yr g6.1 (r_comesTo h (by omega) (k _ (Ch_tr c6 (Ch_tr (Ch_pA h (by decide) (by decide)) (Ch_pA h (by decide) (by decide)))) (rf_H (o := some B) h R3 rfl)))⟩
        rw [b2i_0]
        refine ⟨fun v4 => fin 0 ?_, fun v4 => fin 1 ?_⟩
        · rw [Bool.not_eq_false] at v4; rw [v4]; rfl
        · rw [v4]; rfl
    · cases hO : rsH S A with
      | none => exact absurd hO v
      | some o =>
        rw [hO] at k
        simp only [v3, or_true, if_true] at k
        exact k d Ch_rf R
  · rw [q5] at t
    obtain ⟨a1, a2⟩ := c2 (by omega)
    obtain ⟨b1, b2⟩ := c3 (by omega) (by omega)
    rw [if_neg (by rw [q0]; omega), if_neg (by rw [q1]; omega), if_neg (by rw [q2]; omega), if_neg (by rw [q3]; omega), if_neg (by rw [q4]; omega), if_pos (q5.2 t)] at k
    rw [a2, b2, z_nn (show A < 2147483648 by omega), z_nn (show B < 2147483648 by omega), (R.2.2.1 A a1).1, (R.1 B b1).1, b2i_0, ← Int32.not_lt, enc_lt (ok.2.1 A a1) (by omega), Classical.not_not]
    refine ⟨vpi (by omega) (by decide), fun v => ?_, fun v => ⟨vpi (by omega) (by decide), fun v3 => ?_, fun v3 => yr eW (r_comesTo h (by omega) ?_)⟩⟩
    · rw [if_neg (fun q => v q.1)] at k; exact k d Ch_rf R
    · rw [if_neg (fun q => by rw [v3] at q; exact nomatch q.2)] at k; exact k d Ch_rf R
    · rw [Bool.not_eq_false] at v3
      rw [if_pos ⟨v, v3⟩] at k
      exact k _ (Ch_tr (Ch_pA h (by decide) (by decide)) (Ch_pA h (by decide) (by decide))) (rf_H (o := some B) h R rfl)
  · have hc6 : c = 6 := by rw [q0] at t0; rw [q1] at t1; rw [q2] at t2; rw [q3] at t3; rw [q4] at t4; rw [q5] at t5; omega
    obtain ⟨a1, a2⟩ := c2 (by omega)
    obtain ⟨b1, b2⟩ := c4 hc6
    rw [if_neg t0, if_neg t1, if_neg t2, if_neg t3, if_neg t4, if_neg t5] at k
    rw [a2, b2]
    exact r_moves h hnh R ok a1 b1 k
end
